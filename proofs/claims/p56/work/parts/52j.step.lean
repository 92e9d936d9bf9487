/-! the law's step, by its kind -/
theorem TXa {a b : List Int32} (ha : TXok a) (hb : TXok b) : TXok (a ++ b) := fun c h => (List.mem_append.mp h).elim (ha c) (hb c)
theorem dg1 {a : Nat} (h : a < 10) : (dgL (zI a)).length = 1 := by
  rw [show dgL (zI a) = _ from dgL_I a (by omega), if_pos h]
  rfl
theorem le99 {a : Nat} (h : a < 100) : 0 ≤ zI a ∧ zI a ≤ 99 := (by decide +kernel : ∀ a, a < 100 → 0 ≤ zI a ∧ zI a ≤ 99) a h
theorem slen : (strB 0).length = 5 ∧ (strB 1).length = 1 ∧ (strB 2).length = 6 ∧ (strB 4).length = 5 ∧ (strB 5).length = 5 ∧ (strB 6).length = 1 := by decide +kernel
theorem zmod {x m : Nat} (hx : x < 2147483648) (hm : m < 2147483648) : zI x - zI x / zI m * zI m = zI (x - x / m * m) := by
  rw [zI_div hx hm, zI_mul, zI_sub (Nat.div_mul_le_self _ _)]
theorem kd0 {k : Nat} (h1 : 0 ≤ k) (h2 : k < 3) : zI 0 = zI (kdN k) := by
  unfold kdN
  (repeat' split) <;> first | rfl | omega
theorem ag0 {k a l p : Nat} (h1 : 0 ≤ k) (h2 : k < 3) : zI 0 = zI (agN k a l p) := by
  unfold agN
  (repeat' split) <;> first | rfl | omega
theorem kd1 {k : Nat} (h1 : 3 ≤ k) (h2 : k < 8) : zI 1 = zI (kdN k) := by
  unfold kdN
  (repeat' split) <;> first | rfl | omega
theorem ag1 {k a l p : Nat} (h1 : 3 ≤ k) (h2 : k < 8) : zI a = zI (agN k a l p) := by
  unfold agN
  (repeat' split) <;> first | rfl | omega
theorem kd2 {k : Nat} (h1 : 8 ≤ k) (h2 : k < 11) : zI 2 = zI (kdN k) := by
  unfold kdN
  (repeat' split) <;> first | rfl | omega
theorem ag2 {k a l p : Nat} (h1 : 8 ≤ k) (h2 : k < 11) : zI a = zI (agN k a l p) := by
  unfold agN
  (repeat' split) <;> first | rfl | omega
theorem kd3 {k : Nat} (h1 : 11 ≤ k) (h2 : k < 14) : zI 3 = zI (kdN k) := by
  unfold kdN
  (repeat' split) <;> first | rfl | omega
theorem ag3 {k a l p : Nat} (h1 : 11 ≤ k) (h2 : k < 14) : zI a = zI (agN k a l p) := by
  unfold agN
  (repeat' split) <;> first | rfl | omega
theorem kd4 {k : Nat} (h1 : 14 ≤ k) (h2 : k < 21) : zI 4 = zI (kdN k) := by
  unfold kdN
  (repeat' split) <;> first | rfl | omega
theorem ag4 {k a l p : Nat} (h1 : 14 ≤ k) (h2 : k < 21) : zI l = zI (agN k a l p) := by
  unfold agN
  (repeat' split) <;> first | rfl | omega
theorem kd5 {k : Nat} (h1 : 21 ≤ k) (h2 : k < 23) : zI 5 = zI (kdN k) := by
  unfold kdN
  (repeat' split) <;> first | rfl | omega
theorem ag5 {k a l p : Nat} (h1 : 21 ≤ k) (h2 : k < 23) : zI 0 = zI (agN k a l p) := by
  unfold agN
  (repeat' split) <;> first | rfl | omega
theorem kd6 {k : Nat} (h1 : 23 ≤ k) (h2 : k < 30) : zI 6 = zI (kdN k) := by
  unfold kdN
  (repeat' split) <;> first | rfl | omega
theorem ag6 {k a l p : Nat} (h1 : 23 ≤ k) (h2 : k < 30) : zI a = zI (agN k a l p) := by
  unfold agN
  (repeat' split) <;> first | rfl | omega
theorem kd7 {k : Nat} (h1 : 30 ≤ k) (h2 : k < 31) : zI 7 = zI (kdN k) := by
  unfold kdN
  (repeat' split) <;> first | rfl | omega
theorem ag7 {k a l p : Nat} (h1 : 30 ≤ k) (h2 : k < 31) : zI p = zI (agN k a l p) := by
  unfold agN
  (repeat' split) <;> first | rfl | omega
theorem kd8 {k : Nat} (h1 : 31 ≤ k) (h2 : k < 33) : zI 8 = zI (kdN k) := by
  unfold kdN
  (repeat' split) <;> first | rfl | omega
theorem ag8 {k a l p : Nat} (h1 : 31 ≤ k) (h2 : k < 33) : zI p = zI (agN k a l p) := by
  unfold agN
  (repeat' split) <;> first | rfl | omega
theorem kd9 {k : Nat} (h1 : 33 ≤ k) (h2 : k < 35) : zI 9 = zI (kdN k) := by
  unfold kdN
  (repeat' split) <;> first | rfl | omega
theorem ag9 {k a l p : Nat} (h1 : 33 ≤ k) (h2 : k < 35) : zI p = zI (agN k a l p) := by
  unfold agN
  (repeat' split) <;> first | rfl | omega
theorem kd10 {k : Nat} (h1 : 35 ≤ k) (h2 : k < 40) : zI 10 = zI (kdN k) := by
  unfold kdN
  (repeat' split) <;> first | rfl | omega
theorem ag10 {k a l p : Nat} (h1 : 35 ≤ k) (h2 : k < 40) : zI 0 = zI (agN k a l p) := by
  unfold agN
  (repeat' split) <;> first | rfl | omega
theorem kd11 {k : Nat} (h1 : 40 ≤ k) (h2 : k < 44) : zI 11 = zI (kdN k) := by
  unfold kdN
  (repeat' split) <;> first | rfl | omega
theorem ag11 {k a l p : Nat} (h1 : 40 ≤ k) (h2 : k < 44) : zI 0 = zI (agN k a l p) := by
  unfold agN
  (repeat' split) <;> first | rfl | omega
section
variable {sc : Nat × (Nat → Int32)} {B : Nat} {w : XW} {F : Nat → Nat} {hs : Nat → Nat → Nat} {n nx k a l p v x : Nat}
theorem d_103 (hR : RC B w F hs n nx) (h1 : 3 ≤ k) (h2 : k < 8) (y : Int32) : DO B w F hs n nx k a l p (f_L_does_103 sc y (zI a) w) := by
  unfold f_L_does_103
  rw [bI_id]
  exact DO_lo (lo_pour (zI a) y) (kd1 (by omega) (by omega)) (ag1 (by omega) (by omega)) (by omega) hR
theorem d_204 (hR : RC B w F hs n nx) (h1 : 23 ≤ k) (h2 : k < 30) (y z : Int32) : DO B w F hs n nx k a l p (f_L_does_204 sc y z (zI a) w) := by
  unfold f_L_does_204
  rw [bI_id]
  exact DO_lo (lo_layPipe (zI a) z y) (kd6 (by omega) (by omega)) (ag6 (by omega) (by omega)) (by omega) hR
theorem d_184 (hR : RC B w F hs n nx) (h1 : 23 ≤ k) (h2 : k < 30) (y z : Int32) : DO B w F hs n nx k a l p (f_L_does_184 sc y z (zI a) w) := by
  unfold f_L_does_184
  split
  · exact d_204 hR h1 h2 _ _
  · exact d_204 hR h1 h2 _ _
theorem d_text (hR : RC B w F hs n nx) (h44 : 44 ≤ k) (ha : a < 10) (hl : l < 10) (hx : x < 1000) (hv : v < 1000) (o : Option (Int32 × XW)) (ho : o = (if 0 ≤ zI a ∧ zI a ≤ 99 then (if 0 ≤ (1 + (zI x - zI x / 60 * 60)) ∧ (1 + (zI x - zI x / 60 * 60)) ≤ 99 then (if (zI v - zI v / 4 * 4) = 0 then (if 0 ≤ zI l ∧ zI l ≤ 99 then (if ((((([] ++ (strB 0)) ++ (dgL (zI a))) ++ (strB 1)) ++ (dgL (1 + (zI x - zI x / 60 * 60)))) ++ (([] ++ (strB 2)) ++ (dgL (zI l)))).length ≤ 16 then (bI (f_L_runs ((((([] ++ (strB 0)) ++ (dgL (zI a))) ++ (strB 1)) ++ (dgL (1 + (zI x - zI x / 60 * 60)))) ++ (([] ++ (strB 2)) ++ (dgL (zI l)))) w) (fun r18 w18 => (some (r18, w18)))) else none) else none) else (if (zI v - zI v / 4 * 4) = 1 then (if 0 ≤ zI a ∧ zI a ≤ 99 then (if 0 ≤ (((Int32.toUInt32 (97 + (zI x - zI x / 8 * 8))) % 65536).toInt32) ∧ (((Int32.toUInt32 (97 + (zI x - zI x / 8 * 8))) % 65536).toInt32) ≤ 127 then (if ((((([] ++ (strB 0)) ++ (dgL (zI a))) ++ (strB 1)) ++ (dgL (1 + (zI x - zI x / 60 * 60)))) ++ ((([] ++ (strB 4)) ++ (dgL (zI a))) ++ [(((Int32.toUInt32 (97 + (zI x - zI x / 8 * 8))) % 65536).toInt32)])).length ≤ 16 then (bI (f_L_runs ((((([] ++ (strB 0)) ++ (dgL (zI a))) ++ (strB 1)) ++ (dgL (1 + (zI x - zI x / 60 * 60)))) ++ ((([] ++ (strB 4)) ++ (dgL (zI a))) ++ [(((Int32.toUInt32 (97 + (zI x - zI x / 8 * 8))) % 65536).toInt32)])) w) (fun r14 w14 => (some (r14, w14)))) else none) else none) else none) else (if (zI v - zI v / 4 * 4) = 2 then (bI (f_L_runs ((((([] ++ (strB 0)) ++ (dgL (zI a))) ++ (strB 1)) ++ (dgL (1 + (zI x - zI x / 60 * 60)))) ++ (strB 5)) w) (fun r9 w9 => (some (r9, w9)))) else (bI (f_L_runs ((((([] ++ (strB 0)) ++ (dgL (zI a))) ++ (strB 1)) ++ (dgL (1 + (zI x - zI x / 60 * 60)))) ++ (strB 6)) w) (fun r8 w8 => (some (r8, w8))))))) else none) else none)) : DO B w F hs n nx k a l p o := by
  subst ho
  have en : (1 + (zI x - zI x / 60 * 60)) = zI (1 + (x - x / 60 * 60)) := by rw [zl_60, zmod (by omega) (by omega), zl_1, zI_add]
  have ec : (((Int32.toUInt32 (97 + (zI x - zI x / 8 * 8))) % 65536).toInt32) = zI (97 + (x - x / 8 * 8)) := by rw [zl_8, zmod (by omega) (by omega), zl_97, zI_add, ch_i2c, chN_zI (by omega)]
  rw [en, ec]
  have ga := le99 (a := a) (by omega)
  have gl := le99 (a := l) (by omega)
  have gn := le99 (a := 1 + (x - x / 60 * 60)) (by omega)
  have gc := lt127 (i := x - x / 8 * 8) (by omega)
  obtain ⟨ka, _⟩ := dgL_ok ga
  obtain ⟨kl, _⟩ := dgL_ok gl
  obtain ⟨kn, kn2⟩ := dgL_ok gn
  have la := dg1 ha
  have ll := dg1 hl
  obtain ⟨s0, s1, s2, s4, s5, s6⟩ := slen
  have okb : TXok ((((([] ++ (strB 0)) ++ (dgL (zI a))) ++ (strB 1)) ++ (dgL (zI (1 + (x - x / 60 * 60)))))) := TXa (TXa (TXa (TXa TXn (strB_ok 0 (by decide))) ka) (strB_ok 1 (by decide))) kn
  have lb : ((((([] ++ (strB 0)) ++ (dgL (zI a))) ++ (strB 1)) ++ (dgL (zI (1 + (x - x / 60 * 60)))))).length ≤ 9 := by
    rw [List.length_append, List.length_append, List.length_append, List.nil_append, s0, s1, la]; omega
  rw [if_pos ga, if_pos gn]
  split
  · have l2 : (([] ++ (strB 2)) ++ (dgL (zI l))).length = 7 := by rw [List.length_append, List.nil_append, s2, ll]
    rw [if_pos (by rw [List.length_append, l2]; omega), bI_id]
    exact DO_lt h44 (l_runs hR (TXa okb (TXa (TXa TXn (strB_ok 2 (by decide))) kl)) (by rw [List.length_append, l2]; omega))
  · split
    · have l2 : ((([] ++ (strB 4)) ++ (dgL (zI a))) ++ [zI (97 + (x - x / 8 * 8))]).length = 7 := by rw [List.length_append, List.length_append, List.nil_append, s4, la]; rfl
      rw [if_pos (by rw [List.length_append, l2]; omega), bI_id]
      exact DO_lt h44 (l_runs hR (TXa okb (TXa (TXa (TXa TXn (strB_ok 4 (by decide))) ka) (TXc gc TXn))) (by rw [List.length_append, l2]; omega))
    · split
      · rw [bI_id]
        exact DO_lt h44 (l_runs hR (TXa okb (strB_ok 5 (by decide))) (by rw [List.length_append, s5]; omega))
      · rw [bI_id]
        exact DO_lt h44 (l_runs hR (TXa okb (strB_ok 6 (by decide))) (by rw [List.length_append, s6]; omega))
theorem d_57 (hR : RC B w F hs n nx) (hk : k < 46) (ha : a < 10) (hl : l < 10) (hx : x < 1000) (hv : v < 1000) {u : Int32} (hu : ¬ u < 0) : DO B w F hs n nx k a l p (f_L_does_57 sc (zI k) (zI a) (zI l) (zI p) (zI v) (zI x) u w) := by
  have hC := hR.2.2.1
  unfold f_L_does_57
  rw [a_count hC, bI_s]
  have ge : ∀ m : Nat, m < 100 → (zI m ≤ zI k) = (m ≤ k) := fun m hm => zI_le (by omega) (by omega)
  by_cases h3 : 3 ≤ k
  · rw [if_pos (by rw [zl_3, ge 3 (by omega)]; exact h3)]
    by_cases h8 : 8 ≤ k
    · rw [if_pos (by rw [zl_8, ge 8 (by omega)]; exact h8)]
      by_cases h11 : 11 ≤ k
      · rw [if_pos (by rw [zl_11, ge 11 (by omega)]; exact h11)]
        by_cases h14 : 14 ≤ k
        · rw [if_pos (by rw [zl_14, ge 14 (by omega)]; exact h14)]
          by_cases h21 : 21 ≤ k
          · rw [if_pos (by rw [zl_21, ge 21 (by omega)]; exact h21)]
            by_cases h23 : 23 ≤ k
            · rw [if_pos (by rw [zl_23, ge 23 (by omega)]; exact h23)]
              by_cases h30 : 30 ≤ k
              · rw [if_pos (by rw [zl_30, ge 30 (by omega)]; exact h30)]
                by_cases e30 : k = 30
                · rw [if_pos (by rw [e30]; rfl), bI_id]
                  exact DO_lo (lo_removePipe (zI p)) (kd7 (by omega) (by omega)) (ag7 (by omega) (by omega)) (by omega) hR
                · rw [if_neg (by rw [zl_30, zI_inj (by omega) (by omega)]; exact e30)]
                  by_cases h33 : 33 ≤ k
                  · rw [if_pos (by rw [zl_33, ge 33 (by omega)]; exact h33)]
                    by_cases h35 : 35 ≤ k
                    · rw [if_pos (by rw [zl_35, ge 35 (by omega)]; exact h35)]
                      by_cases h40 : 40 ≤ k
                      · rw [if_pos (by rw [zl_40, ge 40 (by omega)]; exact h40)]
                        by_cases h44 : 44 ≤ k
                        · rw [if_pos (by rw [zl_44, ge 44 (by omega)]; exact h44)]
                          exact d_text hR h44 ha hl hx hv _ rfl
                        · rw [if_neg (by rw [zl_44, ge 44 (by omega)]; exact h44), bI_id]
                          exact DO_lo lo_seep (kd11 (by omega) (by omega)) (ag11 (by omega) (by omega)) (by omega) hR
                      · rw [if_neg (by rw [zl_40, ge 40 (by omega)]; exact h40), bI_id]
                        exact DO_lo lo_drain (kd10 (by omega) (by omega)) (ag10 (by omega) (by omega)) (by omega) hR
                    · rw [if_neg (by rw [zl_35, ge 35 (by omega)]; exact h35), bI_id]
                      exact DO_lo (lo_mendPipe (zI p)) (kd9 (by omega) (by omega)) (ag9 (by omega) (by omega)) (by omega) hR
                  · rw [if_neg (by rw [zl_33, ge 33 (by omega)]; exact h33), bI_id]
                    exact DO_lo (lo_breakPipe (zI p)) (kd8 (by omega) (by omega)) (ag8 (by omega) (by omega)) (by omega) hR
              · rw [if_neg (by rw [zl_30, ge 30 (by omega)]; exact h30)]
                split
                · exact d_184 hR h23 (by omega) _ _
                · exact d_184 hR h23 (by omega) _ _
            · rw [if_neg (by rw [zl_23, ge 23 (by omega)]; exact h23), bI_id]
              exact DO_lo lo_unfold (kd5 (by omega) (by omega)) (ag5 (by omega) (by omega)) (by omega) hR
          · rw [if_neg (by rw [zl_21, ge 21 (by omega)]; exact h21), bI_id]
            exact DO_lo (lo_fold (zI l)) (kd4 (by omega) (by omega)) (ag4 (by omega) (by omega)) (by omega) hR
        · rw [if_neg (by rw [zl_14, ge 14 (by omega)]; exact h14), bI_id]
          exact DO_lo (lo_untag (zI a) u hu) (kd3 (by omega) (by omega)) (ag3 (by omega) (by omega)) (by omega) hR
      · rw [if_neg (by rw [zl_11, ge 11 (by omega)]; exact h11), bI_id]
        exact DO_lo (lo_tag (zI a) u hu) (kd2 (by omega) (by omega)) (ag2 (by omega) (by omega)) (by omega) hR
    · rw [if_neg (by rw [zl_8, ge 8 (by omega)]; exact h8)]
      split
      · exact d_103 hR h3 (by omega) _
      · exact d_103 hR h3 (by omega) _
  · rw [if_neg (by rw [zl_3, ge 3 (by omega)]; exact h3), bI_id]
    exact DO_lo lo_addSection (kd0 (by omega) (by omega)) (ag0 (by omega) (by omega)) (by omega) hR
theorem l_does (hsc : sc.1 < 2147483648) {c : Nat} (hc : c + 4 < 2147483648) (hR : RC B w F hs n nx) (hk : k < 46) (ha : a < 10) (hl : l < 10) : DO B w F hs n nx k a l p (f_L_does sc (zI c) (zI k) (zI a) (zI l) (zI p) w) := by
  obtain ⟨v, hv, e1⟩ := l_pick hsc (k := c + 3) (m := 1000) (by omega) (by omega) (by omega) w
  obtain ⟨x, hx, e2⟩ := l_pick hsc (k := c + 4) (m := 1000) (by omega) (by omega) (by omega) w
  have z1000 : (1000 : Int32) = zI 1000 := rfl
  unfold f_L_does
  rw [z1000, show zI c + 3 = zI (c + 3) by rw [zl_3, zI_add], e1, bI_s, show zI c + 4 = zI (c + 4) by rw [zl_4, zI_add], e2, bI_s]
  split
  · exact d_57 hR hk ha hl hx hv (by decide)
  · split
    · unfold f_L_does_54
      rw [if_pos (by decide)]
      exact d_57 hR hk ha hl hx hv (chN_pos _)
    · unfold f_L_does_54
      rw [if_pos (by decide)]
      exact d_57 hR hk ha hl hx hv (chN_pos _)
end
