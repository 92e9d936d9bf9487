/-! the law's searches -/
theorem sb19 : strB 19 = [] := by decide +kernel
theorem sb20 : strB 20 = [43] := by decide +kernel
theorem sb21 : strB 21 = [45] := by decide +kernel
theorem sb22 : strB 22 = [45, 40] := by decide +kernel
theorem sb23 : strB 23 = [41] := by decide +kernel
theorem sb24 : strB 24 = [40] := by decide +kernel
theorem sb25 : strB 25 = [43, 45] := by decide +kernel
theorem TXn : TXok [] := fun _ h => by cases h
theorem TXc {c : Int32} {l : List Int32} (hc : 0 ≤ c ∧ c ≤ 127) (hl : TXok l) : TXok (c :: l) := fun x hx => by
  rcases List.mem_cons.mp hx with rfl | h
  · exact hc
  · exact hl x h
theorem sm_01 {A B C D : Nat → Nat} {n : Nat} (h : ∀ k, k < n → A k + B k = C k + D k) : sm A n + sm B n = sm C n + sm D n := by
  rw [← sm_add, ← sm_add]
  exact sm_congr h
theorem b_or : ∀ a b : Bool, (a || b).toNat + (a && b).toNat = a.toNat + b.toNat := by decide
theorem b_an : ∀ a b : Bool, (a && !b).toNat + (a && b).toNat = a.toNat + 0 := by decide
theorem b_no : ∀ a : Bool, (!a).toNat + a.toNat = 1 + 0 := by decide
theorem cnt_or (F : Nat → Nat) (A B : Nat → Bool) : cnt F (fun k => A k || B k) + cnt F (fun k => A k && B k) = cnt F A + cnt F B := sm_01 fun k _ => b_or (A k) (B k)
theorem cnt_an (F : Nat → Nat) (A B : Nat → Bool) : cnt F (fun k => A k && !B k) + cnt F (fun k => A k && B k) = cnt F A := by
  have h : cnt F (fun k => A k && !B k) + cnt F (fun k => A k && B k) = cnt F A + sm (fun _ => 0) (F 0) := sm_01 fun k _ => b_an (A k) (B k)
  rw [sm_const] at h
  omega
theorem cnt_not (F : Nat → Nat) (A : Nat → Bool) : cnt F (fun k => !A k) + cnt F A = F 0 := by
  have h : cnt F (fun k => !A k) + cnt F A = sm (fun _ => 1) (F 0) + sm (fun _ => 0) (F 0) := sm_01 fun k _ => b_no (A k)
  rw [sm_const, sm_const] at h
  omega
theorem cnt_le (F : Nat → Nat) (A : Nat → Bool) : cnt F A ≤ F 0 := by have := cnt_not F A; omega
theorem cnt_st (F : Nat → Nat) (i : Nat) : sm (btT F i) (F 0) = cnt F (stF F i) := sm_congr fun k _ => by
  show bt (F (12 + k)) i = (decide (bt (F (12 + k)) i = 1)).toNat
  rcases bt_01 (F (12 + k)) i with e | e <;> rw [e] <;> rfl
theorem i4_B : ∀ n, n < 8 → ∀ a, a < 8 → ∀ b, b < 8 → ∀ c, c < 8 → a + b ≤ n + c → ((zI n - zI a) - zI b) + zI c = zI (n + c - a - b) := by decide +kernel
section
variable {w : XW} {F : Nat → Nat} {sc : Nat × (Nat → Int32)} {i j : Nat}
theorem lt127 (hi : i < 8) : 0 ≤ zI (97 + i) ∧ zI (97 + i) ≤ 127 := ofN127 (by omega)
theorem chL (hi : i < 8) : (zI (97 + i)).toNatClampNeg = 97 + i := zI_nat (by omega)
theorem s_loop (hI : Inv F) (hi : i < 8) (hj : j < 8) {ch : Nat → Nat} (hPG : PG ch (stF F) 400 4 0 nV 0 = (false, fun k => stF F i k || !stF F j k, 6)) : ∀ (d fuel s : Nat) (w : XW), s + d = F 0 → d < fuel → Cls w.1 1 F → CT w 6 ch → ∃ w', f_L_isSearch_352 sc (zI (97 + i)) (zI (97 + j)) (zI (F 0)) fuel 1 (zI s) w = some (1, wset w' 132 1 (zI 0)) ∧ Fr (fun a => a = 136 ∨ a = 137) w w' := by
  have h7 := hI.1
  intro d
  induction d with
  | zero =>
    intro fuel s w hs hf hC T
    cases fuel with
    | zero => omega
    | succ fuel =>
      refine ⟨w, ?_, Fr.rf⟩
      unfold f_L_isSearch_352
      rw [if_pos (by rw [zI_le (by omega) (by omega)]; omega), if_neg (by decide), l_clear T.2.1, bI_s, if_pos (by rfl)]
      unfold f_L_isSearch_439
      rw [if_pos nar1]
  | succ d ih =>
    intro fuel s w hs hf hC T
    cases fuel with
    | zero => omega
    | succ fuel =>
      obtain ⟨w1, e1, f1⟩ := l_matches hC hI (show s < F 0 by omega) T hPG
      have hC1 : Cls w1.1 1 F := hC.fr f1 (fun a h1 h2 => by omega)
      have T1 : CT w1 6 ch := ⟨T.1, by rw [f1.at (by omega)]; exact T.2.1, fun k hk => by rw [f1.at (by omega)]; exact T.2.2.1 k hk, T.2.2.2⟩
      obtain ⟨w2, e2, f2⟩ := ih fuel (s + 1) w1 (by omega) (by omega) hC1 T1
      refine ⟨w2, ?_, f1.tr f2⟩
      have t411 : f_L_isSearch_411 sc (fun a0 a1 w9 => f_L_isSearch_352 sc (zI (97 + i)) (zI (97 + j)) (zI (F 0)) fuel a0 a1 w9) (zI (97 + i)) (zI (97 + j)) (zI (F 0)) (zI s) 1 1 w1 = some (1, wset w2 132 1 (zI 0)) := by
        unfold f_L_isSearch_411
        rw [show (1 : Int32) &&& 1 = 1 from by decide, show zI s + 1 = zI (s + 1) by rw [zl_1, zI_add]]
        exact e2
      have t376 : ∀ u : Int32, u = zI (stF F i s || !stF F j s).toNat → f_L_isSearch_376 sc (fun a0 a1 w9 => f_L_isSearch_352 sc (zI (97 + i)) (zI (97 + j)) (zI (F 0)) fuel a0 a1 w9) (zI (97 + i)) (zI (97 + j)) (zI (F 0)) (zI s) u 1 w1 = some (1, wset w2 132 1 (zI 0)) := fun u hu => by
        unfold f_L_isSearch_376
        rw [a_hasTerm hC1 hI (by omega) hi, bI_s]
        by_cases z1 : bt (F (12 + s)) i = 1
        · have hs1 : stF F i s = true := decide_eq_true z1
          rw [if_pos (by rw [z1]; rfl)]
          unfold f_L_isSearch_398 f_L_isSearch_403
          rw [if_pos (by rw [hu, hs1]; rfl)]
          exact t411
        · have hs1 : stF F i s = false := decide_eq_false z1
          have z0 : bt (F (12 + s)) i = 0 := by rcases bt_01 (F (12 + s)) i with e | e; exact e; exact absurd e z1
          rw [if_neg (by rw [z0]; decide), a_hasTerm hC1 hI (by omega) hj, bI_s]
          rcases bt_01 (F (12 + s)) j with e | e
          · have hs2 : stF F j s = false := decide_eq_false (by omega)
            rw [if_pos (by rw [e]; rfl)]
            unfold f_L_isSearch_398 f_L_isSearch_403
            rw [if_pos (by rw [hu, hs1, hs2]; rfl)]
            exact t411
          · have hs2 : stF F j s = true := decide_eq_true e
            rw [if_neg (by rw [e]; decide)]
            unfold f_L_isSearch_403
            rw [if_pos (by rw [hu, hs1, hs2]; rfl)]
            exact t411
      unfold f_L_isSearch_352
      rw [if_neg (by rw [zI_le (by omega) (by omega)]; omega), e1, bI_s]
      cases hV : (stF F i s || !stF F j s)
      · rw [if_neg (by decide)]
        exact t376 0 (by rw [hV]; rfl)
      · rw [if_pos (by rfl)]
        exact t376 1 (by rw [hV]; rfl)
theorem l_isSearch (hsc : sc.1 < 2147483648) {k : Nat} (hk : k + 1 < 2147483648) (hI : Inv F) (hC : Cls w.1 1 F) (h0 : w.1 132 1 = zI 0) : ∃ w', f_L_isSearch sc (zI k) w = some (1, w') ∧ Fr KF w w' := by
  have h7 := hI.1
  obtain ⟨i, hi3, p1⟩ := l_pick hsc (k := k) (m := 3) (by omega) (by omega) (by omega) w
  obtain ⟨j, hj, p2⟩ := l_pick hsc (k := k + 1) (m := 8) (by omega) (by omega) (by omega) w
  have hi : i < 8 := by omega
  have st : ∀ w1, Fr KF w w1 → Cls w1.1 1 F ∧ w1.1 132 1 = zI 0 := fun w1 f => ⟨hC.fr f (fun a h1 h2 => by unfold KF; omega), by rw [f.at (by unfold KF; omega)]; exact h0⟩
  have fnd : ∀ (tx : List Int32) (V : Nat → Bool), TXok tx → tx.length ≤ 30 → PG (chT tx) (stF F) 400 4 0 nV 0 = (false, V, tx.length) → ∀ w1, Fr KF w w1 → ∃ w2, f_L_finds tx w1 = some (zI (cnt F V), w2) ∧ Fr KF w w2 := fun tx V h1 h2 h3 w1 f => by
    obtain ⟨c1, c2⟩ := st w1 f
    obtain ⟨w2, e, f2⟩ := l_finds c1 hI c2 h1 h2 h3
    exact ⟨w2, e, f.tr f2⟩
  have la := lt127 hi
  have lb := lt127 hj
  obtain ⟨w1, e1, f1⟩ := fnd [zI (97 + i)] _ (TXc la TXn) (Nat.le_of_ble_eq_true rfl) (rd_a hi (chL hi) rfl) w Fr.rf
  obtain ⟨w2, e2, f2⟩ := fnd [zI (97 + j)] _ (TXc lb TXn) (Nat.le_of_ble_eq_true rfl) (rd_a hj (chL hj) rfl) w1 f1
  obtain ⟨w3, e3, f3⟩ := fnd [zI (97 + i), zI (97 + j)] _ (TXc la (TXc lb TXn)) (Nat.le_of_ble_eq_true rfl) (rd_ab hi hj (chL hi) (chL hj) rfl) w2 f2
  obtain ⟨w4, e4, f4⟩ := fnd [zI (97 + i), 43, zI (97 + j)] _ (TXc la (TXc (by decide) (TXc lb TXn))) (Nat.le_of_ble_eq_true rfl) (rd_aob hi hj (chL hi) rfl (chL hj) rfl) w3 f3
  obtain ⟨w5, e5, f5⟩ := fnd [45, zI (97 + i)] _ (TXc (by decide) (TXc la TXn)) (Nat.le_of_ble_eq_true rfl) (rd_na hi rfl (chL hi) rfl) w4 f4
  obtain ⟨w6, e6, f6⟩ := fnd [45, 40, zI (97 + i), 43, zI (97 + j), 41] _ (TXc (by decide) (TXc (by decide) (TXc la (TXc (by decide) (TXc lb (TXc (by decide) TXn)))))) (Nat.le_of_ble_eq_true rfl) (rd_nab hi hj rfl rfl (chL hi) rfl (chL hj) rfl rfl) w5 f5
  obtain ⟨w7, e7, f7⟩ := fnd [zI (97 + i), 45, zI (97 + j)] _ (TXc la (TXc (by decide) (TXc lb TXn))) (Nat.le_of_ble_eq_true rfl) (rd_anb hi hj (chL hi) rfl (chL hj) rfl) w6 f6
  obtain ⟨c7, d7⟩ := st w7 f7
  obtain ⟨w8, e8, f8, T8⟩ := l_feeds (tx := [40, zI (97 + i), 43, 45, zI (97 + j), 41]) (TXc (by decide) (TXc la (TXc (by decide) (TXc (by decide) (TXc lb (TXc (by decide) TXn)))))) (Nat.le_of_ble_eq_true rfl) d7
  have hC8 : Cls w8.1 1 F := c7.fr f8.1 (fun a h1 h2 => by omega)
  obtain ⟨w9, e9, f9⟩ := s_loop (sc := sc) hI hi hj (rd_aonb hi hj rfl (chL hi) rfl rfl (chL hj) rfl rfl) (F 0) 12 0 w8 (by omega) (by omega) hC8 T8
  have cs := fun w1 (f : Fr KF w w1) => (st w1 f).1
  have q1 := cnt_or F (stF F i) (stF F j)
  have q2 := cnt_an F (stF F i) (stF F j)
  have q3 := cnt_not F (stF F i)
  have q4 := cnt_not F (fun k => stF F i k || stF F j k)
  have l1 := cnt_le F (stF F i)
  have l2 := cnt_le F (stF F j)
  have l3 := cnt_le F (fun k => stF F i k && stF F j k)
  have l4 := cnt_le F (fun k => stF F i k || stF F j k)
  refine ⟨wset w9 132 1 (zI 0), ?_, f7.tr (f8.back d7 f9)⟩
  have tl : (97 : Int32) + zI i = zI (97 + i) := by rw [zl_97, zI_add]
  have tl2 : (97 : Int32) + zI j = zI (97 + j) := by rw [zl_97, zI_add]
  unfold f_L_isSearch
  rw [zl_3, p1, bI_s, zl_8, show zI k + 1 = zI (k + 1) by rw [zl_1, zI_add], p2, bI_s]
  simp only [tl, tl2, ch_i2c, chN_zI (show 97 + i < 65536 by omega), chN_zI (show 97 + j < 65536 by omega), if_pos la, if_pos lb, sb19, sb20, sb21, sb22, sb23, List.nil_append, List.append_nil, List.cons_append, List.append_assoc]
  rw [e1, bI_s, e2, bI_s, e3, bI_s, a_count (cs w3 f3), bI_s, a_with (cs w3 f3) hI hi, bI_s, if_pos (by rw [cnt_st]), a_with (cs w3 f3) hI hj, bI_s, if_pos (by rw [cnt_st]), e4, bI_s, if_pos (by rw [zI_add, zI_sub (by omega)]; congr 1; omega), e5, bI_s, if_pos (by rw [zI_sub (by omega)]; congr 1; omega), e6, bI_s, if_pos (by rw [i4_B _ (by omega) _ (by omega) _ (by omega) _ (by omega) (by omega)]; congr 1; omega), e7, bI_s, if_pos (by rw [zI_sub (by omega)]; congr 1; omega)]
  unfold f_L_isSearch_306
  rw [if_pos la, if_pos lb]
  simp only [sb23, sb24, sb25, List.nil_append, List.append_nil, List.cons_append, List.append_assoc]
  rw [e8, bV_s]
  exact e9
end
