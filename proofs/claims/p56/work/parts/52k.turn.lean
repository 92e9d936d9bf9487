/-! one turn of the law's loop, from its end to its beginning -/
def OK (o : Option (Int32 × XW)) : Prop := ∃ w', o = some (1, w')
theorem i11 : (1 : Int32) &&& 1 = 1 := by decide
theorem cmp_self (a : Int64) : lg_cmp a a = 0 := by
  unfold lg_cmp
  simp
theorem KQ.c {w w' : XW} {F : Nat → Nat} (hC : Cls w.1 1 F) (hf : Fr KQ w w') : Cls w'.1 1 F := hC.fr hf (fun a h1 h2 => by unfold KQ; omega)
theorem lset_1 (w : XW) (k : Nat) (v : Int64) : (lset w k v).1 = w.1 := rfl
section
variable {sc : Nat × (Nat → Int32)} {K : Int32 → Int32 → Int32 → XW → Option (Int32 × XW)} {B : Nat} {w : XW} {F G : Nat → Nat} {hs : Nat → Nat → Nat} {n nx made c t k a l p v : Nat} {z6 : Int64} {z3 z4 z5 z8 z10 z12 z15 z16 z17 z18 z19 z20 z22 z23 z24 z25 : Int32}
theorem t_whole {u0 : Int32} (hsc : sc.1 < 2147483648) (hc : c + 1 < 2147483648) (hR : RC B w G hs n nx) (hB : B < 16777216) : ∃ w', f_L_isWhole sc (zI c) u0 w = some (1, w') ∧ Fr KF w w' :=
  l_isWhole hR.2.1 (Nat.lt_of_le_of_lt hR.1 hB) (fun _ w1 h1 h2 => l_isSearch hsc hc hR.2.1 h1 h2) hR.2.2.1 hR.2.2.2.2.2
theorem t_822r {u0 : Int32} (hsc : sc.1 < 2147483648) (hc : c + 1 < 2147483648) (hR : RC B w G hs n nx) (hB : B < 16777216) (hm : made + 1 < 70) (ht : t < 1000) (hK : ∀ w', Fr KF w w' → OK (K (zI (made + 1)) (zI c) (zI (t + 1)) (lset w' (made + 1) (sumV G)))) : OK (f_L_law_822 sc K (zI made) (zI c) (zI t) z6 z8 1 u0 (zI c) w) := by
  obtain ⟨w1, e1, f1⟩ := t_whole (u0 := u0) hsc hc hR hB
  have R1 := hR.fr f1
  obtain ⟨w', e⟩ := hK w1 f1
  refine ⟨w', ?_⟩
  unfold f_L_law_822
  rw [e1, bI_s, if_neg (by decide), if_neg (by decide), l_theSum R1.2.2.1 R1.2.1, bL_s, zl_1, zI_add, if_pos (by rw [inB_z (by omega)]; exact hm), zI_nat (by omega)]
  unfold f_L_law_866
  rw [zl_1, zI_add]
  exact e
theorem t_822n {u0 : Int32} (hsc : sc.1 < 2147483648) (hc : c + 1 < 2147483648) (hR : RC B w F hs n nx) (hB : B < 16777216) (ht : t < 1000) (h6 : z6 = sumV F) (h8 : z8 = zI n) (hK : ∀ w', Fr KF w w' → OK (K (zI made) (zI c) (zI (t + 1)) w')) : OK (f_L_law_822 sc K (zI made) (zI c) (zI t) z6 z8 0 u0 (zI c) w) := by
  obtain ⟨w1, e1, f1⟩ := t_whole (u0 := u0) hsc hc hR hB
  have R1 := hR.fr f1
  obtain ⟨w', e⟩ := hK w1 f1
  refine ⟨w', ?_⟩
  unfold f_L_law_822
  rw [e1, bI_s, if_neg (by decide), if_pos rfl, l_theSum R1.2.2.1 R1.2.1, bL_s, h6, cmp_self, if_pos rfl, a_undoCount R1.2.2.2.1, bI_s, h8, if_pos rfl]
  unfold f_L_law_866
  rw [zl_1, zI_add]
  exact e
theorem t_794 (h : ∀ u0, OK (f_L_law_822 sc K z3 (z4 + 5) z5 z6 z8 z25 u0 (z4 + 5) w)) : OK (f_L_law_794 sc K z3 z4 z5 z6 z8 z25 1 1 w) := by
  unfold f_L_law_794
  rw [if_neg (by decide)]
  split
  · exact h 1
  · exact h 0
/-- leaks stay, but for draining, seeping and texts -/
theorem t_758 (hC : Cls w.1 1 G) (hk : k < 1000) (h : z25 = 0 ∨ 34 < k ∨ G 4 = F 4) (nx : OK (f_L_law_794 sc K z3 z4 z5 z6 z8 z25 1 1 w)) : OK (f_L_law_758 sc K z3 z4 z5 z6 z8 (zI k) (zI (F 4)) z25 1 w) := by
  unfold f_L_law_758 f_L_law_763 f_L_law_789
  rw [i11]
  by_cases h1 : z25 = 0
  · rw [if_pos h1]; exact nx
  · rw [if_neg h1]
    by_cases h2 : 34 < k
    · rw [if_pos (by rw [zl_34, zI_lt (by omega) (by omega)]; exact h2)]; exact nx
    · rw [if_neg (by rw [zl_34, zI_lt (by omega) (by omega)]; exact h2), a_leaked hC, bI_s, if_pos (by rw [(h.resolve_left h1).resolve_left h2])]; exact nx
theorem t_687 (hC : Cls w.1 1 G) (hI : Inv G) (hk : k < 1000) (hv : v < 2147483648) (ho : ovS F (F 1) < 2147483648) (hF1 : F 1 < 2147483648) (h24 : z25 = 1 → z24 = zI v) (h : 40 ≤ k → k ≤ 43 → (z25 = 0 ∧ F 1 = 0 ∧ w.1 0 12 = zI 3) ∨ (z25 = 1 ∧ zI v = zI (G 4) - zI (F 4) ∧ v ≤ ovS F (F 1) ∧ ovS G (G 1) = 0)) (nx : OK (f_L_law_758 sc K z3 z4 z5 z6 z8 (zI k) (zI (F 4)) z25 1 w)) : OK (f_L_law_687 sc K z3 z4 z5 z6 z8 (zI k) (zI (F 1)) (zI (F 4)) (zI (ovS F (F 1))) z24 z25 1 w) := by
  unfold f_L_law_687 f_L_law_692
  rw [i11]
  by_cases h1 : k < 40
  · rw [if_pos (by rw [zl_40, zI_lt (by omega) (by omega)]; exact h1)]; exact nx
  · rw [if_neg (by rw [zl_40, zI_lt (by omega) (by omega)]; exact h1)]
    by_cases h2 : 43 < k
    · rw [if_pos (by rw [zl_43, zI_lt (by omega) (by omega)]; exact h2)]; exact nx
    · rw [if_neg (by rw [zl_43, zI_lt (by omega) (by omega)]; exact h2)]
      rcases h (by omega) (by omega) with ⟨q1, q2, q3⟩ | ⟨q1, q2, q3, q4⟩
      · rw [if_pos q1, if_pos (by rw [q2]; rfl), a_denial (by omega) q3, bI_s, if_pos (by rfl)]; exact nx
      · rw [if_neg (by rw [q1]; decide), a_leaked hC, bI_s, if_pos (by rw [h24 q1, q2]), if_neg (by rw [h24 q1, zI_lt ho hv]; omega), l_over hC hI, bI_s, if_pos (by rw [q4]; rfl)]; exact nx
theorem t_585 (hC : Cls w.1 1 G) (hI : Inv G) (hk : k < 1000) (hv : v < 1000) (hF0 : F 0 ≤ 7) (hF4 : F 4 < 1000000000) (hG4 : G 4 < 1000000000) (h24 : z25 = 1 → z24 = zI v) (h : 35 ≤ k → k ≤ 39 → (z25 = 0 ∧ F 0 < 2 ∧ w.1 0 12 = zI 7 ∧ w.1 0 13 = zI (F 0)) ∨ (z25 = 1 ∧ ∃ fl, fl < 1000 ∧ z18 = zI fl ∧ F 5 < 1000 ∧ z22 = zI (F 5) ∧ v = minF (F 5) fl ∧ 1 ≤ G 0 ∧ G 5 = F 5 - v ∧ F 4 ≤ G 4 ∧ G 4 ≤ F 4 + v)) (nx : OK (f_L_law_687 sc K z3 z4 z5 z6 z8 (zI k) z12 (zI (F 4)) z23 z24 z25 1 w)) : OK (f_L_law_585 sc K z3 z4 z5 z6 z8 (zI k) (zI (F 0)) z12 z18 (zI (F 4)) z22 z23 z24 z25 1 w) := by
  unfold f_L_law_585 f_L_law_590
  rw [i11]
  by_cases h1 : k < 35
  · rw [if_pos (by rw [zl_35, zI_lt (by omega) (by omega)]; exact h1)]; exact nx
  · rw [if_neg (by rw [zl_35, zI_lt (by omega) (by omega)]; exact h1)]
    by_cases h2 : 39 < k
    · rw [if_pos (by rw [zl_39, zI_lt (by omega) (by omega)]; exact h2)]; exact nx
    · rw [if_neg (by rw [zl_39, zI_lt (by omega) (by omega)]; exact h2)]
      rcases h (by omega) (by omega) with ⟨q1, q2, q3, q4⟩ | ⟨q1, fl, b1, b2, b3, b4, b5, b6, b7, b8, b9⟩
      · rw [if_pos q1, if_neg (by rw [zl_2, zI_le (by omega) (by omega)]; omega), a_denial (by omega) q3, bI_s, if_pos (by rfl), a_detail (by omega) q3 q4, bI_s, if_pos rfl]; exact nx
      · have hvm : v ≤ F 5 := by rw [b5]; unfold minF; split <;> omega
        have hw : f_L_water 0 w = some (zI (F 5 - v), w) := by
          have e := a_water hC hI (i := 0) (by omega)
          rw [← zl_0] at e
          rw [e, Nat.add_zero, b7]
        rw [if_neg (by rw [q1]; decide), h24 q1, b2, b4, zI_min (by omega) (by omega), if_pos (by rw [b5]; rfl), hw, bI_s, if_pos (by rw [zI_sub hvm]), a_leaked hC, bI_s, if_neg (by rw [zI_lt (by omega) (by omega)]; omega), a_leaked hC, bI_s, if_neg (by rw [zI_add, zI_lt (by omega) (by omega)]; omega)]
        rw [h24 q1] at nx
        exact nx
end
