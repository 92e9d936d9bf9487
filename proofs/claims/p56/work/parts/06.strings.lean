/-! String.length and charAt over the constants: a constant is its place in strTab -/
def strB (i : Nat) : List Int32 := (strTab.getD i ("", 0, "", [])).2.2.2
theorem strT_c {g : GC} {i : Nat} (h : i < 26) : strT g i = some (strB i) := by
  have hl : i < strTab.length := h
  unfold strT strB
  rw [if_neg (by omega), List.getD_eq_getElem?_getD, List.getElem?_eq_getElem hl]
  rfl
theorem strT_t {g : GC} (h : g.2.2.2.2.2.2.2.2.2.length ≤ 100) : strT g 26 = some g.2.2.2.2.2.2.2.2.2 := by
  unfold strT
  rw [if_pos rfl, if_pos h]
theorem strB_len : ∀ i, i < 26 → (strB i).length < 2 ^ 31 := by decide +kernel
theorem strT_len {g : GC} {i : Nat} {L : List Int32} (h : strT g i = some L) : L.length < 2 ^ 31 := by
  by_cases hi : i < 26
  · rw [strT_c hi] at h
    cases h
    exact strB_len i hi
  · by_cases h2 : i = 26
    · unfold strT at h
      rw [if_pos h2] at h
      split at h
      · cases h; omega
      · cases h
    · have hl : ¬ i < strTab.length := by show ¬ i < 26; exact hi
      unfold strT at h
      rw [if_neg h2, List.getElem?_eq_none (by omega)] at h
      cases h
section STRS
variable {ρ : Type} {g : GC} {cc : ByteArray} {nL : Nat} {own : String} {rt : Option FieldType} {hh : List (Nat × Nat × Nat × Nat)} {R : Room} {mc ms : Nat} {out : ρ → Out} {kc ks pc : Nat} {lv : List (Nat × Value)} {rest : List Value} {w : XW} {E E1 E2 : Option ρ}
theorem v_strV {i index : Nat} {L : List Int32} (hi : strT g i = some L) (hlink : Cond.fieldLink own index "java/lang/String" "value" "[B" ∈ GW) (hd : decode cc pc = .ok (.getfield index, 3)) (k : VE g cc nL own rt hh R mc ms out kc ks (pc + 3) lv (.ref (g.2.2.2.2.2.1 i) :: rest) w E) : VE g cc nL own rt hh R mc ms out kc ks pc lv (.ref (g.2.2.2.2.1 i) :: rest) w E := by
  intro r hr p e s m args below meth c F H locs ls hW hS hl
  obtain ⟨cf, kk, fi, f, cell, h1, h2, h3, h4, h5, h6⟩ := (F.2.2.2.2.2.2.2.1.2.2.2.2.1 i L hi).2.2.1.kept hS.2.1
  exact W.getf F.1 F.2.1 F.2.2.2.1 (F.2.2.2.2.1 _ hlink) h1 h2 h3 h4 h5 rfl rfl hd (k r hr p e s m args below meth c F H locs ls hW hS hl)
theorem v_strC {i index : Nat} {L : List Int32} (hi : strT g i = some L) (hlink : Cond.fieldLink own index "java/lang/String" "coder" "B" ∈ GW) (hd : decode cc pc = .ok (.getfield index, 3)) (k : VE g cc nL own rt hh R mc ms out kc ks (pc + 3) lv (.int 0 :: rest) w E) : VE g cc nL own rt hh R mc ms out kc ks pc lv (.ref (g.2.2.2.2.1 i) :: rest) w E := by
  intro r hr p e s m args below meth c F H locs ls hW hS hl
  obtain ⟨cf, kk, fi, f, cell, h1, h2, h3, h4, h5, h6⟩ := (F.2.2.2.2.2.2.2.1.2.2.2.2.1 i L hi).2.1.kept hS.2.1
  exact W.getf F.1 F.2.1 F.2.2.2.1 (F.2.2.2.2.1 _ hlink) h1 h2 h3 h4 h5 rfl rfl hd (k r hr p e s m args below meth c F H locs ls hW hS hl)
theorem v_strL {i : Nat} {L : List Int32} (hi : strT g i = some L) (hd : decode cc pc = .ok (.arraylength, 1)) (k : VE g cc nL own rt hh R mc ms out kc ks (pc + 1) lv (.int (Int32.ofNat (L).length) :: rest) w E) : VE g cc nL own rt hh R mc ms out kc ks pc lv (.ref (g.2.2.2.2.2.1 i) :: rest) w E := by
  intro r hr p e s m args below meth c F H locs ls hW hS hl
  obtain ⟨cell, h1, h2, h3, h4, h5, h6, h7⟩ := (F.2.2.2.2.2.2.2.1.2.2.2.2.1 i L hi).2.2.2.kept hS.2.1
  exact W.alen (n := Int32.ofNat L.length) F.1 F.2.1 h1 h2 h5 rfl rfl hd (k r hr p e s m args below meth c F H locs ls hW hS hl)
theorem v_strA {i : Nat} {j : Int32} {L : List Int32} (hi : strT g i = some L) (hin : vp_in j (L).length) (hd : decode cc pc = .ok (.baload, 1)) (k : VE g cc nL own rt hh R mc ms out kc ks (pc + 1) lv (.int ((L).getD j.toNatClampNeg 0) :: rest) w E) : VE g cc nL own rt hh R mc ms out kc ks pc lv (.int j :: .ref (g.2.2.2.2.2.1 i) :: rest) w E := by
  intro r hr p e s m args below meth c F H locs ls hW hS hl
  have hT := (F.2.2.2.2.2.2.2.1.2.2.2.2.1 i L hi).2.2.2.kept hS.2.1
  have k2 := k r hr p e s m args below meth c F H locs ls hW hS hl
  obtain ⟨cell, h1, h2, h3, h4, h5, h6, h7⟩ := hT
  have hlt : j.toNatClampNeg < L.length := Nat.not_le.mp fun q => hin (Or.inr q)
  have hin' : ¬ (j < 0 ∨ cell.slots.size ≤ j.toNatClampNeg) := by
    intro q
    rcases q with q | q
    · exact hin (Or.inl q)
    · omega
  exact W.bald F.1 F.2.1 h1 h2 h3 hin' (h6 _ hlt) rfl rfl hd k2
theorem v_compact {index : Nat} (hlink : Cond.fieldLink own index "java/lang/String" "COMPACT_STRINGS" "Z" ∈ GW) (hd : decode cc pc = .ok (.getstatic index, 3)) (k : VE g cc nL own rt hh R mc ms out kc ks (pc + 3) lv (.int 1 :: rest) w E) : VE g cc nL own rt hh R mc ms out kc ks pc lv rest w E := by
  intro r hr p e s m args below meth c F H locs ls hW hS hl
  exact va_gets F.1 F.2.1 F.2.2.2.2.2.2.2.1.2.2.1.1 hS.S F.2.2.2.1 (F.2.2.2.2.1 _ hlink) (fun _ h => h) hd (k r hr p e s m args below meth c F H locs ls hW hS hl)
theorem v_sioobe {index : Nat} (hlink : Cond.fieldLink own index "jdk/internal/util/Preconditions" "SIOOBE_FORMATTER" "Ljava/util/function/BiFunction;" ∈ GW) (hd : decode cc pc = .ok (.getstatic index, 3)) (k0 : VE g cc nL own rt hh R mc ms out kc ks (pc + 3) lv (.null :: rest) w E) (k1 : ∀ t : Nat, VE g cc nL own rt hh R mc ms out kc ks (pc + 3) lv (.ref t :: rest) w E) : VE g cc nL own rt hh R mc ms out kc ks pc lv rest w E := by
  intro r hr p e s m args below meth c F H locs ls hW hS hl
  rcases F.2.2.2.2.2.2.2.1.2.2.1.2 with h | ⟨t, h⟩
  · exact va_gets F.1 F.2.1 h hS.S F.2.2.2.1 (F.2.2.2.2.1 _ hlink) (fun _ h => h) hd (k0 r hr p e s m args below meth c F H locs ls hW hS hl)
  · exact va_gets F.1 F.2.1 h hS.S F.2.2.2.1 (F.2.2.2.2.1 _ hlink) (fun _ h => h) hd (k1 t r hr p e s m args below meth c F H locs ls hW hS hl)
theorem v_callStr {Fy : Option (Int32 × XW)} {K : Int32 → XW → Option ρ} {index nLy n mcy msy i : Nat} {y : MethodName} {cy : ByteArray} {ry : Option FieldType} {rm : Room} {As st : List Value} {L : List Int32} (hi : strT g i = some L) (hcls : y.cls = "java/lang/String")
    (hc : CV own index y cy nLy ry n) (hM : ∀ q, Fy = some q → MM g (.code y cy nLy ry) y rm mcy msy (.ref (g.2.2.2.2.1 i) :: As) w (oI q)) (hn : As.length = n) (hs : st = As.reverse ++ .ref (g.2.2.2.2.1 i) :: rest) (hst : (rest.map fun v => v.category).sum ≤ 8)
    (hd : decode cc pc = .ok (.invokevirtual index, 3)) (hR : CR R nLy mcy msy rm kc ks)
    (kk : ∀ x w', VE g cc nL own rt hh R mc ms out (kc + mcy) (ks + msy) (pc + 3) lv (.int x :: rest) w' (K x w')) : VE g cc nL own rt hh R mc ms out kc ks pc lv st w (bI Fy K) := by
  intro r hr p e s m args below meth c F H locs ls hW hS hl
  cases hF : Fy with
  | none => rw [hF] at hr; cases hr
  | some q =>
    rw [hF] at hr
    have hr' : K q.1 q.2 = some r := hr
    subst hs
    obtain ⟨cell, e1, e2, e3, -⟩ := ((F.2.2.2.2.2.2.2.1.kept hS.2.1).2.2.2.2.1 i L hi).1
    have hts := F.2.2.2.2.1
    obtain ⟨c1, c2, c3, c4, c5, c6, c7⟩ := hc
    refine v_run_aux (o := oI q) (vx_runV (Ts := GW) (nL := nL) (C := y.cls) (n := n) (bytes := cy) (maxL := nLy) (ret := ry) ⟨F.1, F.2.1, F.2.2.1, F.2.2.2.1, hts⟩ (hM q hF)
      ⟨⟨hR.1.1, hR.1.2.1, hR.1.2.2.1, hR.1.2.2.2, GW_pay c5 hts, List.mem_cons_self, hts _ c5, hts _ c4, c6, v_len c7, hts _ c1⟩, hts _ c2, hts _ c3⟩
      ⟨PO_blind, ⟨cell, e1, e2, by rw [hcls]; exact e3⟩, fun U hU hX => v_pre F hW hS hU hX⟩ rfl hn hl.1 rfl (by show 2 * 0 + _ ≤ 8; omega) hd hR.2) hS ?_ ?_
    · intro v w' ho H1 locs1 hW1 hS1
      cases ho
      exact kk q.1 q.2 r hr' p e s m args below meth c F H1 locs1 ls hW1 hS1 hl
    · intro E0 w' ho
      cases ho
end STRS
theorem dJ0_coder_7d493_0 : decode cJ0_coder_7d493 0 = .ok (.getstatic 38, 3) := by decide +kernel
theorem dJ0_coder_7d493_3 : decode cJ0_coder_7d493 3 = .ok (.ifCond .eq 10, 3) := by decide +kernel
theorem dJ0_coder_7d493_6 : decode cJ0_coder_7d493 6 = .ok (.aload_n 0, 1) := by decide +kernel
theorem dJ0_coder_7d493_7 : decode cJ0_coder_7d493 7 = .ok (.getfield 15, 3) := by decide +kernel
theorem dJ0_coder_7d493_10 : decode cJ0_coder_7d493 10 = .ok (.goto 4, 3) := by decide +kernel
theorem dJ0_coder_7d493_13 : decode cJ0_coder_7d493 13 = .ok (.iconst 1, 1) := by decide +kernel
theorem dJ0_coder_7d493_14 : decode cJ0_coder_7d493 14 = .ok (.ireturn, 1) := by decide +kernel
theorem dJ0_length_8abf5_0 : decode cJ0_length_8abf5 0 = .ok (.aload_n 0, 1) := by decide +kernel
theorem dJ0_length_8abf5_1 : decode cJ0_length_8abf5 1 = .ok (.getfield 9, 3) := by decide +kernel
theorem dJ0_length_8abf5_4 : decode cJ0_length_8abf5 4 = .ok (.arraylength, 1) := by decide +kernel
theorem dJ0_length_8abf5_5 : decode cJ0_length_8abf5 5 = .ok (.aload_n 0, 1) := by decide +kernel
theorem dJ0_length_8abf5_6 : decode cJ0_length_8abf5 6 = .ok (.invokevirtual 335, 3) := by decide +kernel
theorem dJ0_length_8abf5_9 : decode cJ0_length_8abf5 9 = .ok (.ishr, 1) := by decide +kernel
theorem dJ0_length_8abf5_10 : decode cJ0_length_8abf5 10 = .ok (.ireturn, 1) := by decide +kernel
theorem dJ0_isLatin1_aae02_0 : decode cJ0_isLatin1_aae02 0 = .ok (.getstatic 38, 3) := by decide +kernel
theorem dJ0_isLatin1_aae02_3 : decode cJ0_isLatin1_aae02 3 = .ok (.ifCond .eq 14, 3) := by decide +kernel
theorem dJ0_isLatin1_aae02_6 : decode cJ0_isLatin1_aae02 6 = .ok (.aload_n 0, 1) := by decide +kernel
theorem dJ0_isLatin1_aae02_7 : decode cJ0_isLatin1_aae02 7 = .ok (.getfield 15, 3) := by decide +kernel
theorem dJ0_isLatin1_aae02_10 : decode cJ0_isLatin1_aae02 10 = .ok (.ifCond .ne 7, 3) := by decide +kernel
theorem dJ0_isLatin1_aae02_13 : decode cJ0_isLatin1_aae02 13 = .ok (.iconst 1, 1) := by decide +kernel
theorem dJ0_isLatin1_aae02_14 : decode cJ0_isLatin1_aae02 14 = .ok (.goto 4, 3) := by decide +kernel
theorem dJ0_isLatin1_aae02_17 : decode cJ0_isLatin1_aae02 17 = .ok (.iconst 0, 1) := by decide +kernel
theorem dJ0_isLatin1_aae02_18 : decode cJ0_isLatin1_aae02 18 = .ok (.ireturn, 1) := by decide +kernel
theorem dJ0_checkIndex_df160_0 : decode cJ0_checkIndex_df160 0 = .ok (.iload_n 0, 1) := by decide +kernel
theorem dJ0_checkIndex_df160_1 : decode cJ0_checkIndex_df160 1 = .ok (.iload_n 1, 1) := by decide +kernel
theorem dJ0_checkIndex_df160_2 : decode cJ0_checkIndex_df160 2 = .ok (.getstatic 1053, 3) := by decide +kernel
theorem dJ0_checkIndex_df160_5 : decode cJ0_checkIndex_df160 5 = .ok (.invokestatic 1059, 3) := by decide +kernel
theorem dJ0_checkIndex_df160_8 : decode cJ0_checkIndex_df160 8 = .ok (.pop, 1) := by decide +kernel
theorem dJ0_checkIndex_df160_9 : decode cJ0_checkIndex_df160 9 = .ok (.return_, 1) := by decide +kernel
theorem dJ3_checkIndex_8e157_0 : decode cJ3_checkIndex_8e157 0 = .ok (.iload_n 0, 1) := by decide +kernel
theorem dJ3_checkIndex_8e157_1 : decode cJ3_checkIndex_8e157 1 = .ok (.ifCond .lt 8, 3) := by decide +kernel
theorem dJ3_checkIndex_8e157_4 : decode cJ3_checkIndex_8e157 4 = .ok (.iload_n 0, 1) := by decide +kernel
theorem dJ3_checkIndex_8e157_5 : decode cJ3_checkIndex_8e157 5 = .ok (.iload_n 1, 1) := by decide +kernel
theorem dJ3_checkIndex_8e157_6 : decode cJ3_checkIndex_8e157 6 = .ok (.if_icmp .lt 10, 3) := by decide +kernel
theorem dJ3_checkIndex_8e157_9 : decode cJ3_checkIndex_8e157 9 = .ok (.aload_n 2, 1) := by decide +kernel
theorem dJ3_checkIndex_8e157_10 : decode cJ3_checkIndex_8e157 10 = .ok (.iload_n 0, 1) := by decide +kernel
theorem dJ3_checkIndex_8e157_11 : decode cJ3_checkIndex_8e157 11 = .ok (.iload_n 1, 1) := by decide +kernel
theorem dJ3_checkIndex_8e157_12 : decode cJ3_checkIndex_8e157 12 = .ok (.invokestatic 95, 3) := by decide +kernel
theorem dJ3_checkIndex_8e157_15 : decode cJ3_checkIndex_8e157 15 = .ok (.athrow, 1) := by decide +kernel
theorem dJ3_checkIndex_8e157_16 : decode cJ3_checkIndex_8e157 16 = .ok (.iload_n 0, 1) := by decide +kernel
theorem dJ3_checkIndex_8e157_17 : decode cJ3_checkIndex_8e157 17 = .ok (.ireturn, 1) := by decide +kernel
theorem dJ1_charAt_3b067_0 : decode cJ1_charAt_3b067 0 = .ok (.iload_n 1, 1) := by decide +kernel
theorem dJ1_charAt_3b067_1 : decode cJ1_charAt_3b067 1 = .ok (.aload_n 0, 1) := by decide +kernel
theorem dJ1_charAt_3b067_2 : decode cJ1_charAt_3b067 2 = .ok (.arraylength, 1) := by decide +kernel
theorem dJ1_charAt_3b067_3 : decode cJ1_charAt_3b067 3 = .ok (.invokestatic 9, 3) := by decide +kernel
theorem dJ1_charAt_3b067_6 : decode cJ1_charAt_3b067 6 = .ok (.aload_n 0, 1) := by decide +kernel
theorem dJ1_charAt_3b067_7 : decode cJ1_charAt_3b067 7 = .ok (.iload_n 1, 1) := by decide +kernel
theorem dJ1_charAt_3b067_8 : decode cJ1_charAt_3b067 8 = .ok (.baload, 1) := by decide +kernel
theorem dJ1_charAt_3b067_9 : decode cJ1_charAt_3b067 9 = .ok (.sipush 255, 3) := by decide +kernel
theorem dJ1_charAt_3b067_12 : decode cJ1_charAt_3b067 12 = .ok (.iand, 1) := by decide +kernel
theorem dJ1_charAt_3b067_13 : decode cJ1_charAt_3b067 13 = .ok (.i2c, 1) := by decide +kernel
theorem dJ1_charAt_3b067_14 : decode cJ1_charAt_3b067 14 = .ok (.ireturn, 1) := by decide +kernel
theorem dJ0_charAt_5068e_0 : decode cJ0_charAt_5068e 0 = .ok (.aload_n 0, 1) := by decide +kernel
theorem dJ0_charAt_5068e_1 : decode cJ0_charAt_5068e 1 = .ok (.invokevirtual 492, 3) := by decide +kernel
theorem dJ0_charAt_5068e_4 : decode cJ0_charAt_5068e 4 = .ok (.ifCond .eq 12, 3) := by decide +kernel
theorem dJ0_charAt_5068e_7 : decode cJ0_charAt_5068e 7 = .ok (.aload_n 0, 1) := by decide +kernel
theorem dJ0_charAt_5068e_8 : decode cJ0_charAt_5068e 8 = .ok (.getfield 9, 3) := by decide +kernel
theorem dJ0_charAt_5068e_11 : decode cJ0_charAt_5068e 11 = .ok (.iload_n 1, 1) := by decide +kernel
theorem dJ0_charAt_5068e_12 : decode cJ0_charAt_5068e 12 = .ok (.invokestatic 495, 3) := by decide +kernel
theorem dJ0_charAt_5068e_15 : decode cJ0_charAt_5068e 15 = .ok (.ireturn, 1) := by decide +kernel
theorem dJ0_charAt_5068e_16 : decode cJ0_charAt_5068e 16 = .ok (.aload_n 0, 1) := by decide +kernel
theorem dJ0_charAt_5068e_17 : decode cJ0_charAt_5068e 17 = .ok (.getfield 9, 3) := by decide +kernel
theorem dJ0_charAt_5068e_20 : decode cJ0_charAt_5068e 20 = .ok (.iload_n 1, 1) := by decide +kernel
theorem dJ0_charAt_5068e_21 : decode cJ0_charAt_5068e 21 = .ok (.invokestatic 498, 3) := by decide +kernel
theorem dJ0_charAt_5068e_24 : decode cJ0_charAt_5068e 24 = .ok (.ireturn, 1) := by decide +kernel
theorem S_coder {g : GC} (hl : g.1.stackTraces = false) {i : Nat} {L : List Int32} (hi : strT g i = some L) {w : XW} : ∀ q, (some ((0 : Int32), w)) = some q → MM g (.code yJ0_coder_7d493 cJ0_coder_7d493 1 (some .byte)) yJ0_coder_7d493 (rmL 1 0 0) 0 0 [.ref (g.2.2.2.2.1 i)] w (oI q) := by
  intro q hq
  refine MM_of (own := RJ0) hl (by decide) gw_1058 rfl (Nat.le_of_ble_eq_true rfl) ((?_ : VE g cJ0_coder_7d493 1 RJ0 (some .byte) [] (rmL 1 0 0) 0 0 oI 0 0 0 [(0, .ref (g.2.2.2.2.1 i))] [] w (some ((0 : Int32), w))) q hq) ⟨rfl, rfl⟩
  refine v_compact gw_1059 dJ0_coder_7d493_0 ?_
  refine v_if_eqF (tgt := 13) dJ0_coder_7d493_3 (by decide) (by decide) ?_
  refine v_aload_n dJ0_coder_7d493_6 rfl 0 rfl ?_
  refine v_strC hi gw_1181 dJ0_coder_7d493_7 ?_
  refine v_goto (tgt := 14) dJ0_coder_7d493_10 (by decide) ?_
  exact v_zret dJ0_coder_7d493_14 rfl rfl rfl (by decide) (by decide)
theorem S_isLatin1 {g : GC} (hl : g.1.stackTraces = false) {i : Nat} {L : List Int32} (hi : strT g i = some L) {w : XW} : ∀ q, (some ((1 : Int32), w)) = some q → MM g (.code yJ0_isLatin1_aae02 cJ0_isLatin1_aae02 1 (some .boolean)) yJ0_isLatin1_aae02 (rmL 1 0 0) 0 0 [.ref (g.2.2.2.2.1 i)] w (oI q) := by
  intro q hq
  refine MM_of (own := RJ0) hl (by decide) gw_1226 rfl (Nat.le_of_ble_eq_true rfl) ((?_ : VE g cJ0_isLatin1_aae02 1 RJ0 (some .boolean) [] (rmL 1 0 0) 0 0 oI 0 0 0 [(0, .ref (g.2.2.2.2.1 i))] [] w (some ((1 : Int32), w))) q hq) ⟨rfl, rfl⟩
  refine v_compact gw_1059 dJ0_isLatin1_aae02_0 ?_
  refine v_if_eqF (tgt := 17) dJ0_isLatin1_aae02_3 (by decide) (by decide) ?_
  refine v_aload_n dJ0_isLatin1_aae02_6 rfl 0 rfl ?_
  refine v_strC hi gw_1181 dJ0_isLatin1_aae02_7 ?_
  refine v_if_neF (tgt := 17) dJ0_isLatin1_aae02_10 (by decide) rfl ?_
  refine v_iconst (v := 1) dJ0_isLatin1_aae02_13 (by decide) ?_
  refine v_goto (tgt := 18) dJ0_isLatin1_aae02_14 (by decide) ?_
  exact v_zret dJ0_isLatin1_aae02_18 rfl rfl rfl (by decide) (by decide)
def f_strlen (i : Nat) (w : XW) : Option (Int32 × XW) := if i < 26 then some ((Int32.ofNat (strB i).length >>> (0 &&& 31)), w) else none
def f_tlen (L : List Int32) (w : XW) : Option (Int32 × XW) := if L.length ≤ 100 then some ((Int32.ofNat L.length >>> (0 &&& 31)), w) else none
theorem S_strlen {g : GC} (hl : g.1.stackTraces = false) {i : Nat} {L : List Int32} (hi : strT g i = some L) {w : XW} : ∀ q, (some ((Int32.ofNat L.length >>> (0 &&& 31)), w)) = some q → MM g (.code yJ0_length_8abf5 cJ0_length_8abf5 1 (some .int)) yJ0_length_8abf5 (rmL 2 0 0) 0 0 [.ref (g.2.2.2.2.1 i)] w (oI q) := by
  intro q hq
  refine MM_of (own := RJ0) hl (by decide) gw_1054 rfl (Nat.le_of_ble_eq_true rfl) ((?_ : VE g cJ0_length_8abf5 1 RJ0 (some .int) [] (rmL 2 0 0) 0 0 oI 0 0 0 [(0, .ref (g.2.2.2.2.1 i))] [] w (bI (some ((0 : Int32), w)) (fun x w1 => some ((Int32.ofNat (L).length >>> (x &&& 31)), w1)))) q hq) ⟨rfl, rfl⟩
  refine v_aload_n dJ0_length_8abf5_0 rfl 0 rfl ?_
  refine v_strV hi gw_1180 dJ0_length_8abf5_1 ?_
  refine v_strL hi dJ0_length_8abf5_4 ?_
  refine v_aload_n dJ0_length_8abf5_5 rfl 0 rfl ?_
  refine v_callStr (As := []) hi rfl cv_J0_335 (S_coder hl hi) rfl rfl (Nat.le_of_ble_eq_true rfl) dJ0_length_8abf5_6 (CR_rm (by decide) (by decide) (by decide) (by decide)) (fun x w1 => ?_)
  refine v_ishr dJ0_length_8abf5_9 ?_
  exact v_iret dJ0_length_8abf5_10 rfl rfl (by decide) (by decide)
theorem S_check3 {g : GC} (hl : g.1.stackTraces = false) {x y : Int32} {v : Value} (hv : v = .null ∨ ∃ t, v = .ref t) (h0 : ¬ x < 0) (h1 : x < y) {w : XW} : ∀ q, (some (x, w)) = some q → MM g (.code yJ3_checkIndex_8e157 cJ3_checkIndex_8e157 3 (some .int)) yJ3_checkIndex_8e157 (rmL 1 0 0) 0 0 [.int x, .int y, v] w (oI q) := by
  intro q hq
  have body : VE g cJ3_checkIndex_8e157 3 RJ3 (some .int) [] (rmL 1 0 0) 0 0 oI 0 0 0 [(0, .int x), (1, .int y), (2, v)] [] w (some (x, w)) := by
    refine v_iload_n dJ3_checkIndex_8e157_0 rfl 0 rfl ?_
    refine v_if_ltF (tgt := 9) dJ3_checkIndex_8e157_1 (by decide) h0 ?_
    refine v_iload_n dJ3_checkIndex_8e157_4 rfl 0 rfl ?_
    refine v_iload_n dJ3_checkIndex_8e157_5 rfl 1 rfl ?_
    refine v_icmp_ltT (tgt := 16) dJ3_checkIndex_8e157_6 (by decide) h1 ?_
    refine v_iload_n dJ3_checkIndex_8e157_16 rfl 0 rfl ?_
    exact v_iret dJ3_checkIndex_8e157_17 rfl rfl (by decide) (by decide)
  rcases hv with rfl | ⟨t, rfl⟩
  · exact MM_of (own := RJ3) hl (by decide) gw_1209 rfl (Nat.le_of_ble_eq_true rfl) (body q hq) ⟨rfl, rfl⟩
  · exact MM_of (own := RJ3) hl (by decide) gw_1209 rfl (Nat.le_of_ble_eq_true rfl) (body q hq) ⟨rfl, rfl⟩
theorem S_check0 {g : GC} (hl : g.1.stackTraces = false) {x y : Int32} (h0 : ¬ x < 0) (h1 : x < y) {w : XW} : ∀ q, (some w) = some q → MM g (.code yJ0_checkIndex_df160 cJ0_checkIndex_df160 2 none) yJ0_checkIndex_df160 (rmL 2 0 0) 0 0 [.int x, .int y] w (oV q) := by
  intro q hq
  refine MM_of (own := RJ0) hl (by decide) gw_1206 rfl (Nat.le_of_ble_eq_true rfl) ((?_ : VE g cJ0_checkIndex_df160 2 RJ0 none [] (rmL 2 0 0) 0 0 oV 0 0 0 [(0, .int x), (1, .int y)] [] w (bI (some (x, w)) (fun _ w1 => some w1))) q hq) ⟨rfl, rfl⟩
  refine v_iload_n dJ0_checkIndex_df160_0 rfl 0 rfl ?_
  refine v_iload_n dJ0_checkIndex_df160_1 rfl 1 rfl ?_
  refine v_sioobe gw_1037 dJ0_checkIndex_df160_2 ?_ (fun t => ?_)
  · refine v_callSi (As := [.int x, .int y, .null]) cs_J0_1059 (S_check3 hl (Or.inl rfl) h0 h1) rfl rfl (Nat.le_of_ble_eq_true rfl) dJ0_checkIndex_df160_5 (CR_rm (by decide) (by decide) (by decide) (by decide)) (fun z w1 => ?_)
    refine v_pop dJ0_checkIndex_df160_8 rfl ?_
    exact v_vret dJ0_checkIndex_df160_9 rfl rfl (by decide) (by decide)
  · refine v_callSi (As := [.int x, .int y, .ref t]) cs_J0_1059 (S_check3 hl (Or.inr ⟨t, rfl⟩) h0 h1) rfl rfl (Nat.le_of_ble_eq_true rfl) dJ0_checkIndex_df160_5 (CR_rm (by decide) (by decide) (by decide) (by decide)) (fun z w1 => ?_)
    refine v_pop dJ0_checkIndex_df160_8 rfl ?_
    exact v_vret dJ0_checkIndex_df160_9 rfl rfl (by decide) (by decide)
def f_charAt (i : Nat) (x : Int32) (w : XW) : Option (Int32 × XW) := if i < 26 ∧ (¬ x < 0 ∧ x < Int32.ofNat (strB i).length) then some (((((strB i).getD x.toNatClampNeg 0) &&& 255).toUInt32 % 65536).toInt32, w) else none
def f_tchar (L : List Int32) (x : Int32) (w : XW) : Option (Int32 × XW) := if L.length ≤ 100 ∧ (¬ x < 0 ∧ x < Int32.ofNat L.length) then some ((((L.getD x.toNatClampNeg 0) &&& 255).toUInt32 % 65536).toInt32, w) else none
theorem strB_in {L : List Int32} {x : Int32} (hlen : L.length < 2 ^ 31) (h0 : ¬ x < 0) (h1 : x < Int32.ofNat L.length) : vp_in x L.length := by
  rcases pk_ix x hlen with h | h | ⟨j, hj, rfl⟩
  · exact absurd h h0
  · exact absurd h1 (Int32.not_lt.mpr h)
  · exact vp_in_nI hj hlen
theorem S_charAt1 {g : GC} (hl : g.1.stackTraces = false) {i : Nat} {x : Int32} {L : List Int32} (hi : strT g i = some L) (h0 : ¬ x < 0) (h1 : x < Int32.ofNat L.length) {w : XW} : ∀ q, (some ((((L.getD x.toNatClampNeg 0) &&& 255).toUInt32 % 65536).toInt32, w)) = some q → MM g (.code yJ1_charAt_3b067 cJ1_charAt_3b067 2 (some .char)) yJ1_charAt_3b067 (rmL 3 0 0) 0 0 [.ref (g.2.2.2.2.2.1 i), .int x] w (oI q) := by
  intro q hq
  refine MM_of (own := RJ1) hl (by decide) gw_1229 rfl (Nat.le_of_ble_eq_true rfl) ((?_ : VE g cJ1_charAt_3b067 2 RJ1 (some .char) [] (rmL 3 0 0) 0 0 oI 0 0 0 [(0, .ref (g.2.2.2.2.2.1 i)), (1, .int x)] [] w (bV (some w) (fun w1 => some ((((L.getD x.toNatClampNeg 0) &&& 255).toUInt32 % 65536).toInt32, w1)))) q hq) ⟨rfl, rfl⟩
  refine v_iload_n dJ1_charAt_3b067_0 rfl 1 rfl ?_
  refine v_aload_n dJ1_charAt_3b067_1 rfl 0 rfl ?_
  refine v_strL hi dJ1_charAt_3b067_2 ?_
  refine v_callSv (As := [.int x, .int (Int32.ofNat L.length)]) cs_J1_9 (S_check0 hl h0 h1) rfl rfl (Nat.le_of_ble_eq_true rfl) dJ1_charAt_3b067_3 (CR_rm (by decide) (by decide) (by decide) (by decide)) (fun w1 => ?_)
  refine v_aload_n dJ1_charAt_3b067_6 rfl 0 rfl ?_
  refine v_iload_n dJ1_charAt_3b067_7 rfl 1 rfl ?_
  refine v_strA hi (strB_in (strT_len hi) h0 h1) dJ1_charAt_3b067_8 ?_
  refine v_sipush (v := 255) dJ1_charAt_3b067_9 (by decide) ?_
  refine v_iand dJ1_charAt_3b067_12 ?_
  refine v_i2c dJ1_charAt_3b067_13 ?_
  exact v_zret dJ1_charAt_3b067_14 rfl (narC_ok (pk_vc _)) rfl (by decide) (by decide)
theorem S_charAt {g : GC} (hl : g.1.stackTraces = false) {i : Nat} {x : Int32} {L : List Int32} (hi : strT g i = some L) (h0 : ¬ x < 0) (h1 : x < Int32.ofNat L.length) {w : XW} : ∀ q, (some ((((L.getD x.toNatClampNeg 0) &&& 255).toUInt32 % 65536).toInt32, w)) = some q → MM g (.code yJ0_charAt_5068e cJ0_charAt_5068e 2 (some .char)) yJ0_charAt_5068e (rmL 4 0 0) 0 0 [.ref (g.2.2.2.2.1 i), .int x] w (oI q) := by
  intro q hq
  refine MM_of (own := RJ0) hl (by decide) gw_1222 rfl (Nat.le_of_ble_eq_true rfl) ((?_ : VE g cJ0_charAt_5068e 2 RJ0 (some .char) [] (rmL 4 0 0) 0 0 oI 0 0 0 [(0, .ref (g.2.2.2.2.1 i)), (1, .int x)] [] w (bI (some ((1 : Int32), w)) (fun x1 w1 => if x1 = 0 then none else bI (some ((((L.getD x.toNatClampNeg 0) &&& 255).toUInt32 % 65536).toInt32, w1)) (fun x2 w2 => if vp_nar .char x2 = x2 then some (x2, w2) else none)))) q ?_) ⟨rfl, rfl⟩
  · refine v_aload_n dJ0_charAt_5068e_0 rfl 0 rfl ?_
    refine v_callStr (As := []) hi rfl cv_J0_492 (S_isLatin1 hl hi) rfl rfl (Nat.le_of_ble_eq_true rfl) dJ0_charAt_5068e_1 (CR_rm (by decide) (by decide) (by decide) (by decide)) (fun x1 w1 => ?_)
    refine v_if_eq (tgt := 16) dJ0_charAt_5068e_4 (by decide) v_none ?_
    refine v_aload_n dJ0_charAt_5068e_7 rfl 0 rfl ?_
    refine v_strV hi gw_1180 dJ0_charAt_5068e_8 ?_
    refine v_iload_n dJ0_charAt_5068e_11 rfl 1 rfl ?_
    refine v_callSi (As := [.ref (g.2.2.2.2.2.1 i), .int x]) cs_J0_495 (S_charAt1 hl hi h0 h1) rfl rfl (Nat.le_of_ble_eq_true rfl) dJ0_charAt_5068e_12 (CR_rm (by decide) (by decide) (by decide) (by decide)) (fun x2 w2 => ?_)
    refine v_guard (fun h => ?_)
    exact v_zret dJ0_charAt_5068e_15 rfl (narC_ok h) rfl (by decide) (by decide)
  · show (if (1 : Int32) = 0 then none else if vp_nar .char ((((L.getD x.toNatClampNeg 0) &&& 255).toUInt32 % 65536).toInt32) = ((((L.getD x.toNatClampNeg 0) &&& 255).toUInt32 % 65536).toInt32) then some (((((L.getD x.toNatClampNeg 0) &&& 255).toUInt32 % 65536).toInt32), w) else none) = some q
    rw [if_neg (by decide), if_pos (pk_vc _)]
    exact hq
section STRC
variable {ρ : Type} {g : GC} {cc : ByteArray} {nL : Nat} {own : String} {rt : Option FieldType} {hh : List (Nat × Nat × Nat × Nat)} {R : Room} {mc ms : Nat} {out : ρ → Out} {kc ks pc : Nat} {lv : List (Nat × Value)} {rest st : List Value} {w : XW}
theorem v_call_length {K : Int32 → XW → Option ρ} {i index : Nat} (hl : g.1.stackTraces = false) (hc : CV own index yJ0_length_8abf5 cJ0_length_8abf5 1 (some .int) 0) (hs : st = .ref (g.2.2.2.2.1 i) :: rest) (hst : (rest.map fun v => v.category).sum ≤ 8) (hd : decode cc pc = .ok (.invokevirtual index, 3)) (hR : CR R 1 0 0 (rmL 2 0 0) kc ks)
    (kk : ∀ x w', VE g cc nL own rt hh R mc ms out (kc + 0) (ks + 0) (pc + 3) lv (.int x :: rest) w' (K x w')) : VE g cc nL own rt hh R mc ms out kc ks pc lv st w (bI (f_strlen i w) K) := by
  by_cases hi : i < 26
  · have e : f_strlen i w = some ((Int32.ofNat (strB i).length >>> (0 &&& 31)), w) := if_pos hi
    rw [e]
    exact v_callStr (As := []) (strT_c hi) rfl hc (S_strlen hl (strT_c hi)) rfl hs hst hd hR kk
  · intro r hr
    unfold f_strlen at hr
    rw [if_neg hi] at hr
    cases hr
theorem v_call_charAt {K : Int32 → XW → Option ρ} {i index : Nat} {x : Int32} (hl : g.1.stackTraces = false) (hc : CV own index yJ0_charAt_5068e cJ0_charAt_5068e 2 (some .char) 1) (hs : st = .int x :: .ref (g.2.2.2.2.1 i) :: rest) (hst : (rest.map fun v => v.category).sum ≤ 8) (hd : decode cc pc = .ok (.invokevirtual index, 3)) (hR : CR R 2 0 0 (rmL 4 0 0) kc ks)
    (kk : ∀ x w', VE g cc nL own rt hh R mc ms out (kc + 0) (ks + 0) (pc + 3) lv (.int x :: rest) w' (K x w')) : VE g cc nL own rt hh R mc ms out kc ks pc lv st w (bI (f_charAt i x w) K) := by
  by_cases hi : i < 26 ∧ (¬ x < 0 ∧ x < Int32.ofNat (strB i).length)
  · have e : f_charAt i x w = some (((((strB i).getD x.toNatClampNeg 0) &&& 255).toUInt32 % 65536).toInt32, w) := if_pos hi
    rw [e]
    exact v_callStr (As := [.int x]) (strT_c hi.1) rfl hc (S_charAt hl (strT_c hi.1) hi.2.1 hi.2.2) rfl hs hst hd hR kk
  · intro r hr
    unfold f_charAt at hr
    rw [if_neg hi] at hr
    cases hr
theorem v_call_lengthT {K : Int32 → XW → Option ρ} {index : Nat} (hl : g.1.stackTraces = false) (hc : CV own index yJ0_length_8abf5 cJ0_length_8abf5 1 (some .int) 0) (hs : st = .ref (g.2.2.2.2.1 26) :: rest) (hst : (rest.map fun v => v.category).sum ≤ 8) (hd : decode cc pc = .ok (.invokevirtual index, 3)) (hR : CR R 1 0 0 (rmL 2 0 0) kc ks)
    (kk : ∀ x w', VE g cc nL own rt hh R mc ms out (kc + 0) (ks + 0) (pc + 3) lv (.int x :: rest) w' (K x w')) : VE g cc nL own rt hh R mc ms out kc ks pc lv st w (bI (f_tlen g.2.2.2.2.2.2.2.2.2 w) K) := by
  by_cases hi : g.2.2.2.2.2.2.2.2.2.length ≤ 100
  · have e : f_tlen g.2.2.2.2.2.2.2.2.2 w = some ((Int32.ofNat g.2.2.2.2.2.2.2.2.2.length >>> (0 &&& 31)), w) := if_pos hi
    rw [e]
    exact v_callStr (As := []) (strT_t hi) rfl hc (S_strlen hl (strT_t hi)) rfl hs hst hd hR kk
  · intro r hr
    unfold f_tlen at hr
    rw [if_neg hi] at hr
    cases hr
theorem v_call_charAtT {K : Int32 → XW → Option ρ} {index : Nat} {x : Int32} (hl : g.1.stackTraces = false) (hc : CV own index yJ0_charAt_5068e cJ0_charAt_5068e 2 (some .char) 1) (hs : st = .int x :: .ref (g.2.2.2.2.1 26) :: rest) (hst : (rest.map fun v => v.category).sum ≤ 8) (hd : decode cc pc = .ok (.invokevirtual index, 3)) (hR : CR R 2 0 0 (rmL 4 0 0) kc ks)
    (kk : ∀ x w', VE g cc nL own rt hh R mc ms out (kc + 0) (ks + 0) (pc + 3) lv (.int x :: rest) w' (K x w')) : VE g cc nL own rt hh R mc ms out kc ks pc lv st w (bI (f_tchar g.2.2.2.2.2.2.2.2.2 x w) K) := by
  by_cases hi : g.2.2.2.2.2.2.2.2.2.length ≤ 100 ∧ (¬ x < 0 ∧ x < Int32.ofNat g.2.2.2.2.2.2.2.2.2.length)
  · have e : f_tchar g.2.2.2.2.2.2.2.2.2 x w = some ((((g.2.2.2.2.2.2.2.2.2.getD x.toNatClampNeg 0) &&& 255).toUInt32 % 65536).toInt32, w) := if_pos hi
    rw [e]
    exact v_callStr (As := [.int x]) (strT_t hi.1) rfl hc (S_charAt hl (strT_t hi.1) hi.2.1 hi.2.2) rfl hs hst hd hR kk
  · intro r hr
    unfold f_tchar at hr
    rw [if_neg hi] at hr
    cases hr
end STRC
