/-! a folding that can be done, is done -/
theorem cf_1 {F : Nat → Nat} {l : Nat} (h : cfN F l = 1) : F 1 ≠ F 0 ∧ crA (ixL (plF F)) (F 1) l = none := by
  unfold cfN at h
  by_cases z : F 1 = F 0
  · rw [if_pos z] at h; omega
  · rw [if_neg z] at h
    by_cases z2 : crA (ixL (plF F)) (F 1) l = none
    · exact ⟨z, z2⟩
    · rw [if_neg z2] at h; omega
theorem l_foldOk {B : Nat} {w : XW} {F : Nat → Nat} {hs : Nat → Nat → Nat} {n nx l : Nat} (hR : RC B w F hs n nx) (hl : l ≤ F 1) (hc : cfN F l = 1) : ∃ w1, f_L_fold (zI l) w = some (zI (F 1 + 1), w1) ∧ RC (B + 99) w1 (putF F l) (hcons F hs) (n8 n) ((nx + 1) % 8) ∧ Fr KG w w1 := by
  have h7 := hR.2.1.1
  have h71 := hR.2.1.2.1
  obtain ⟨c1, c2⟩ := cf_1 hc
  rcases lo_fold (zI l) B w F hs n nx hR with ⟨r, _, h4, _, _⟩ | ⟨n', d, hkd, _⟩ | ⟨ans, G, w1, _, hko, e, hR1, hf⟩
  · exact absurd (h4 rfl l hl rfl) id
  · rcases (hkd.2.1 rfl).2 l hl rfl with z | z
    · exact absurd z c1
    · exact absurd c2 z
  · obtain ⟨l', e1, g1, g2, g3, g4, g5⟩ := hko.2.2.1 rfl
    rw [zI_inj (by omega) (by omega)] at e1
    subst e1
    subst g3
    subst g4
    exact ⟨w1, e, hR1, hf⟩
