/-! undoing -/
theorem l_undo {B : Nat} {w : XW} {F : Nat → Nat} {hs : Nat → Nat → Nat} {n nx : Nat} (hR : RC B w F hs (n + 1) nx) : ∃ w', f_L_undo w = some (zI n, w') ∧ RC B w' (hs 0) (fun i => hs (i + 1)) n ((nx + 7) % 8) ∧ Fr (fun a => a = 34 ∨ (2 ≤ a ∧ a ≤ 11)) w w' := by
  obtain ⟨q1, hI, hC, hH, hhs, h132⟩ := hR
  obtain ⟨g1, g2⟩ := hhs 0 (by omega)
  obtain ⟨w', e, f, h1, h2⟩ := h_back hH (by have := g1.1; have := g1.2.1; omega) g1.2.2.1
  have hn := hH.1
  refine ⟨w', ?_, ⟨g2, g1, h2, h1, fun i hi => hhs (i + 1) (by omega), by rw [f.at (by omega)]; exact h132⟩, f⟩
  unfold f_L_undo f_X10_undo
  rw [show w.1 34 2 = zI (n + 1) from hH.2.2.2.1, if_pos (by rw [zl_0, zI_lt (by omega) (by omega)]; omega), e, bV_s, bCI_s, h1.2.2.2.1]
theorem l_undoNo {B : Nat} {w : XW} {F : Nat → Nat} {hs : Nat → Nat → Nat} {nx : Nat} (hR : RC B w F hs 0 nx) : f_L_undo w = some (-79, w) := by
  unfold f_L_undo f_X10_undo
  rw [show w.1 34 2 = zI 0 from hR.2.2.2.1.2.2.2.1, if_neg (by decide), bCI_x]
  rfl
/-! the snapshot -/
theorem l_save {B : Nat} {w : XW} {F : Nat → Nat} {hs : Nat → Nat → Nat} {n nx : Nat} (hR : RC B w F hs n nx) : ∃ w', f_X10_saveSnapshot w = some (zI (F 0), w') ∧ RC B w' F hs n nx ∧ Cls w'.1 23 F ∧ w'.1 0 10 = zI 1 ∧ w'.2 = w.2 := by
  have hI := hR.2.1
  obtain ⟨w1, e, f, h⟩ := z_copy (k := 23) (k1 := 1) hR.2.2.1 (by omega) (by have := hI.1; have := hI.2.1; omega) hI.2.2.1
  have f2 : Fr (fun a => a = 0) w1 (wset w1 0 10 1) := fr1 _ _
  have ff : Fr KF w (wset w1 0 10 1) := (f.wk fun a z => Or.inr (Or.inl (by omega))).tr (f2.wk fun a z => Or.inl z)
  refine ⟨wset w1 0 10 1, ?_, hR.fr ff, h.fr f2 (fun a h1 h2 => by omega), wset_hit _ _ _ _, ff.2⟩
  unfold f_X10_saveSnapshot
  rw [e, bV_s, show (wset w1 0 10 1).1 2 0 = zI (F 0) from (hR.fr ff).2.2.1.1]
theorem l_restore {B : Nat} {w : XW} {F S : Nat → Nat} {hs : Nat → Nat → Nat} {n nx : Nat} (hR : RC B w F hs n nx) (hS : Inv S) (hS3 : S 3 ≤ B) (hC : Cls w.1 23 S) (h0 : w.1 0 10 = zI 1) : ∃ w', f_L_restoreSnapshot w = some (zI (S 0), w') ∧ RC B w' S hs 0 nx ∧ w'.2 = w.2 := by
  obtain ⟨w1, e, f, h⟩ := z_copy (k := 1) (k1 := 23) hC (by omega) (by have := hS.1; have := hS.2.1; omega) hS.2.2.1
  have f2 : Fr (fun a => a = 34) w1 (wset w1 34 2 0) := fr1 _ _
  obtain ⟨z1, z2, z3, z4, z5⟩ := hR.2.2.2.1
  have hC2 : Cls (wset w1 34 2 0).1 1 S := h.fr f2 (fun a h1 h2 => by omega)
  refine ⟨wset w1 34 2 0, ?_, ⟨hS3, hS, hC2, ⟨by omega, z2, ?_, wset_hit _ _ _ _, fun i hi => absurd hi (Nat.not_lt_zero i)⟩, fun i hi => absurd hi (Nat.not_lt_zero i), ?_⟩, f2.2.trans f.2⟩
  · unfold f_L_restoreSnapshot f_X10_restoreSnapshot f_X3_forget
    rw [h0, if_neg (by decide), e, bV_s, bV_s, show (wset w1 34 2 0).1 2 0 = zI (S 0) from hC2.1, bCI_s]
  · rw [wset_at, if_neg (by omega), f.at (by omega)]; exact z3
  · rw [f2.at (by omega), f.at (by omega)]; exact hR.2.2.2.2.2
