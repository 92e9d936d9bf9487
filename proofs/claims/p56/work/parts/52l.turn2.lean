/-! one turn of the law's loop: mending, breaking, opening, folding, pouring -/
section
variable {sc : Nat × (Nat → Int32)} {K : Int32 → Int32 → Int32 → XW → Option (Int32 × XW)} {w : XW} {F G : Nat → Nat} {k a l p v : Nat} {z6 : Int64} {z3 z4 z5 z8 z10 z12 z13 z15 z16 z17 z18 z19 z20 z21 z22 z23 z24 z25 : Int32}
theorem t_534 (hC : Cls w.1 1 G) (hI : Inv G) (hk : k < 1000) (h : z25 ≠ 0 → 33 ≤ k → k ≤ 34 → z20 = zI 1 ∧ p < G 2 ∧ z15 = zI p ∧ ∃ fl, fl < 1000 ∧ z18 = zI fl ∧ mcF G 99 (G 0) = fl + (mcF G 99 (G 0) - mcF G p (G 0))) (nx : ∀ w1, Fr KQ w w1 → OK (f_L_law_585 sc K z3 z4 z5 z6 z8 (zI k) z10 z12 z18 z21 z22 z23 z24 z25 1 w1)) : OK (f_L_law_534 sc K z3 z4 z5 z6 z8 (zI k) z10 z12 z15 z18 z20 z21 z22 z23 z24 z25 1 w) := by
  unfold f_L_law_534 f_L_law_539
  rw [i11]
  by_cases h1 : z25 = 0
  · rw [if_pos h1]; exact nx w Fr.rf
  · rw [if_neg h1]
    by_cases h2 : k < 33
    · rw [if_pos (by rw [zl_33, zI_lt (by omega) (by omega)]; exact h2)]; exact nx w Fr.rf
    · rw [if_neg (by rw [zl_33, zI_lt (by omega) (by omega)]; exact h2)]
      by_cases h3 : 34 < k
      · rw [if_pos (by rw [zl_34, zI_lt (by omega) (by omega)]; exact h3)]; exact nx w Fr.rf
      · rw [if_neg (by rw [zl_34, zI_lt (by omega) (by omega)]; exact h3)]
        obtain ⟨q1, q2, q3, fl, q4, q5, q6⟩ := h h1 (by omega) (by omega)
        have h8 := hI.2.2.2.2.2.2.2 p q2
        obtain ⟨w1, e1, f1⟩ := a_flow hC hI (by omega)
        obtain ⟨w2, e2, f2⟩ := a_loss (KQ.c hC f1) hI q2
        have nx2 := nx w2 (f1.tr f2)
        rw [if_pos (by rw [q1]; rfl), e1, bI_s, q3, e2, bI_s, q5, zI_add, if_pos (by rw [← q6])]
        rw [q5] at nx2
        exact nx2
theorem t_482 (hC : Cls w.1 1 G) (hI : Inv G) (hk : k < 1000) (h : z25 ≠ 0 → 31 ≤ k → k ≤ 32 → p < G 2 ∧ z15 = zI p ∧ ∃ fl ls, fl < 1000 ∧ z18 = zI fl ∧ z19 = zI ls ∧ ls ≤ fl ∧ mcF G 99 (G 0) = fl - ls ∧ ls ≤ G (28 + 4 * p)) (nx : ∀ w1, Fr KQ w w1 → OK (f_L_law_534 sc K z3 z4 z5 z6 z8 (zI k) z10 z12 z15 z18 z20 z21 z22 z23 z24 z25 1 w1)) : OK (f_L_law_482 sc K z3 z4 z5 z6 z8 (zI k) z10 z12 z15 z18 z19 z20 z21 z22 z23 z24 z25 1 w) := by
  unfold f_L_law_482 f_L_law_487
  rw [i11]
  by_cases h1 : z25 = 0
  · rw [if_pos h1]; exact nx w Fr.rf
  · rw [if_neg h1]
    by_cases h2 : k < 31
    · rw [if_pos (by rw [zl_31, zI_lt (by omega) (by omega)]; exact h2)]; exact nx w Fr.rf
    · rw [if_neg (by rw [zl_31, zI_lt (by omega) (by omega)]; exact h2)]
      by_cases h3 : 32 < k
      · rw [if_pos (by rw [zl_32, zI_lt (by omega) (by omega)]; exact h3)]; exact nx w Fr.rf
      · rw [if_neg (by rw [zl_32, zI_lt (by omega) (by omega)]; exact h3)]
        obtain ⟨q1, q2, fl, ls, q3, q4, q5, q6, q7, q8⟩ := h h1 (by omega) (by omega)
        have h8 := hI.2.2.2.2.2.2.2 p q1
        obtain ⟨w1, e1, f1⟩ := a_flow hC hI (by omega)
        have nx2 := nx w1 f1
        rw [q2, q4] at nx2
        rw [e1, bI_s, q4, q5, zI_sub q6, if_pos (by rw [q7]), q2, a_cap (KQ.c hC f1) hI q1, bI_s, if_neg (by rw [zI_lt (by omega) (by omega)]; omega)]
        exact nx2
theorem t_419 (hC : Cls w.1 1 G) (hI : Inv G) (hk : k < 1000) (h12 : z12 = zI (F 1)) (h : z25 ≠ 0 → 21 ≤ k → k ≤ 22 → 1 ≤ F 1 ∧ F 1 ≤ 7 ∧ G 1 = F 1 - 1 ∧ G 1 < G 0 ∧ z24 = zI v ∧ v ≤ G 1 ∧ cfN G v = 1) (nx : OK (f_L_law_482 sc K z3 z4 z5 z6 z8 (zI k) z10 z12 z15 z18 z19 z20 z21 z22 z23 z24 z25 1 w)) : OK (f_L_law_419 sc K z3 z4 z5 z6 z8 (zI k) z10 z12 z15 z18 z19 z20 z21 z22 z23 z24 z25 1 w) := by
  unfold f_L_law_419 f_L_law_424
  rw [i11]
  by_cases h1 : z25 = 0
  · rw [if_pos h1]; exact nx
  · rw [if_neg h1]
    by_cases h2 : k < 21
    · rw [if_pos (by rw [zl_21, zI_lt (by omega) (by omega)]; exact h2)]; exact nx
    · rw [if_neg (by rw [zl_21, zI_lt (by omega) (by omega)]; exact h2)]
      by_cases h3 : 22 < k
      · rw [if_pos (by rw [zl_22, zI_lt (by omega) (by omega)]; exact h3)]; exact nx
      · rw [if_neg (by rw [zl_22, zI_lt (by omega) (by omega)]; exact h3)]
        obtain ⟨q1, q2, q3, q4, q5, q6, q7⟩ := h h1 (by omega) (by omega)
        rw [h12, q5] at nx ⊢
        rw [a_folded hC, bI_s, if_pos (by rw [zl_1, zI_sub q1, q3]), zl_1, zI_sub q1, ← q3, a_layerNo hC hI (Nat.le_refl _) q4, bI_s, if_pos (by rfl), a_canFold hC hI q6, bI_s, if_pos (by rw [q7])]
        rw [zl_1] at nx
        exact nx
theorem t_333 (hC : Cls w.1 1 G) (hI : Inv G) (hk : k < 1000) (hF : F 0 ≤ 7 ∧ F 1 ≤ 7) (h : 14 ≤ k → k ≤ 20 → (z25 = 0 ∧ z16 = zI 0 ∧ w.1 0 12 = zI (if F 1 = F 0 then 2 else 4)) ∨ (z25 = 1 ∧ z16 = zI 1 ∧ z24 = zI (F 1 + 1) ∧ l < G 1 ∧ gtL (plF G) l = F 1)) (nx : OK (f_L_law_419 sc K z3 z4 z5 z6 z8 (zI k) (zI (F 0)) (zI (F 1)) z15 z18 z19 z20 z21 z22 z23 z24 z25 1 w)) : OK (f_L_law_333 sc K z3 z4 z5 z6 z8 (zI k) (zI (F 0)) (zI (F 1)) (zI l) z15 z16 z18 z19 z20 z21 z22 z23 z24 z25 w) := by
  unfold f_L_law_333 f_L_law_338
  by_cases h2 : k < 14
  · rw [if_pos (by rw [zl_14, zI_lt (by omega) (by omega)]; exact h2)]; exact nx
  · rw [if_neg (by rw [zl_14, zI_lt (by omega) (by omega)]; exact h2)]
    by_cases h3 : 20 < k
    · rw [if_pos (by rw [zl_20, zI_lt (by omega) (by omega)]; exact h3)]; exact nx
    · rw [if_neg (by rw [zl_20, zI_lt (by omega) (by omega)]; exact h3)]
      rcases h (by omega) (by omega) with ⟨q1, q2, q3⟩ | ⟨q1, q2, q3, q4, q5⟩
      · rw [if_neg (by rw [q2]; decide)]
        unfold f_L_law_369
        by_cases e : F 1 = F 0
        · rw [if_pos e] at q3
          rw [if_pos q1, if_pos q1, a_denial (by omega) q3, bI_s, if_pos (by rw [e])]
          unfold f_L_law_416
          rw [if_pos (by rfl)]
          exact nx
        · rw [if_neg e] at q3
          rw [if_pos q1, if_pos q1, a_denial (by omega) q3, bI_s, if_neg (by rw [zI_inj (by omega) (by omega)]; exact e)]
          unfold f_L_law_416
          rw [if_pos (by rfl)]
          exact nx
      · rw [if_pos (by rw [q2]; rfl)]
        unfold f_L_law_369
        rw [if_pos q1, if_neg (by rw [q1]; decide), if_pos (by rw [q3, zl_1, zI_add]), a_sectionIn hC hI q4, bI_s, if_pos (by rw [q5])]
        exact nx
theorem t_295 (hC : Cls w.1 1 G) (hI : Inv G) (hk : k < 1000) (h : z25 ≠ 0 → 3 ≤ k → k ≤ 7 → a < G 0 ∧ z24 = zI (G (5 + a)) ∧ ∃ x, x < G (5 + a) ∧ z17 = zI x) (nx : OK (f_L_law_333 sc K z3 z4 z5 z6 z8 (zI k) z10 z12 z13 z15 z16 z18 z19 z20 z21 z22 z23 z24 z25 w)) : OK (f_L_law_295 sc K z3 z4 z5 z6 z8 (zI k) z10 (zI a) z12 z13 z15 z16 z17 z18 z19 z20 z21 z22 z23 z24 z25 w) := by
  unfold f_L_law_295
  by_cases h1 : z25 = 0
  · rw [if_pos h1]; exact nx
  · rw [if_neg h1]
    by_cases h2 : k < 3
    · rw [if_pos (by rw [zl_3, zI_lt (by omega) (by omega)]; exact h2)]; exact nx
    · rw [if_neg (by rw [zl_3, zI_lt (by omega) (by omega)]; exact h2)]
      by_cases h3 : 7 < k
      · rw [if_pos (by rw [zl_7, zI_lt (by omega) (by omega)]; exact h3)]; exact nx
      · rw [if_neg (by rw [zl_7, zI_lt (by omega) (by omega)]; exact h3)]
        obtain ⟨q1, q2, x, q3, q4⟩ := h h1 (by omega) (by omega)
        have h7 := hI.1
        have h99 := (hI.2.2.2.2.1 a (by omega)).1
        rw [a_water hC hI q1, bI_s, if_pos q2, if_neg (by rw [q2, q4, zI_le (by omega) (by omega)]; omega)]
        exact nx
end
