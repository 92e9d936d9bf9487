/-! undoing -/
theorem l_undo {B : Nat} {w : XW} {F : Nat → Nat} {hs : Nat → Nat → Nat} {n nx : Nat} (hR : RC B w F hs (n + 1) nx) : ∃ w', f_L_undo w = some (zI n, w') ∧ RC B w' (hs 0) (fun i => hs (i + 1)) n ((nx + 7) % 8) ∧ Fr (fun a => a = 34 ∨ (2 ≤ a ∧ a ≤ 11)) w w' := by
  obtain ⟨q1, hI, hC, hH, hhs, h132⟩ := hR
  obtain ⟨g1, g2⟩ := hhs 0 (by omega)
  obtain ⟨w', e, f, h1, h2⟩ := h_back hH (by have := g1.1; have := g1.2.1; omega) g1.2.2.1
  have hn := hH.1
  refine ⟨w', ?_, ⟨g2, g1, h2, h1, fun i hi => hhs (i + 1) (by omega), by rw [f.at (by omega)]; exact h132⟩, f⟩
  unfold f_L_undo f_X10_undo
  rw [show w.1 34 2 = zI (n + 1) from hH.2.2.2.1, if_pos (by rw [zl_0, zI_lt (by omega) (by omega)]; omega), e, bV_s, bCI_s, h1.2.2.2.1]
theorem l_undoNo {B : Nat} {w : XW} {F : Nat → Nat} {hs : Nat → Nat → Nat} {nx : Nat} (hR : RC B w F hs 0 nx) : f_L_undo w = some (-79, w) := by
  unfold f_L_undo f_X10_undo
  rw [show w.1 34 2 = zI 0 from hR.2.2.2.1.2.2.2.1, if_neg (by decide), bCI_x]
  rfl
