/-! terms -/
theorem secZ (F : Nat → Nat) (x : Int32) (h7 : F 0 ≤ 7) : (∃ i, i < F 0 ∧ x = zI i) ∨ ((∀ w : XW, Cls w.1 1 F → f_X9_has 2 x w = some (zI 0, w)) ∧ ∀ w : XW, Mo w.1 142 0 F → f_X11_isSection x w = some (zI 0, w)) := by
  rcases zI_cases x with ha | ⟨i, hi, rfl⟩
  · exact Or.inr ⟨fun w _ => s_hasN ha, fun w _ => m_isSecN ha⟩
  · by_cases hs : F 0 ≤ i
    · exact Or.inr ⟨fun w hC => s_hasF hC.1 h7 hi hs, fun w hM => m_isSecF hM h7 hi hs⟩
    · exact Or.inl ⟨i, by omega, rfl⟩
theorem pipZ (F : Nat → Nat) (x : Int32) (h7 : F 2 ≤ 10) : (∃ i, i < F 2 ∧ x = zI i) ∨ ((∀ w : XW, Cls w.1 1 F → f_X5_has 7 x w = some (zI 0, w)) ∧ ∀ w : XW, Mo w.1 142 0 F → f_X11_isPipe x w = some (zI 0, w)) := by
  rcases zI_cases x with ha | ⟨i, hi, rfl⟩
  · exact Or.inr ⟨fun w _ => i_hasN ha, fun w _ => m_isPipeN ha⟩
  · by_cases hs : F 2 ≤ i
    · exact Or.inr ⟨fun w hC => i_hasF hC.2.2.2.2.2.2.2.1 h7 hi hs, fun w hM => m_isPipeF hM h7 hi hs⟩
    · exact Or.inl ⟨i, by omega, rfl⟩
/-- a sign: a term, or none for both -/
theorem trmZ {x : Nat} (h31 : x < 2147483648) : (∃ t, t < 8 ∧ x = 97 + t) ∨ ((∀ w : XW, f_X9_isTerm (zI x) w = some (zI 0, w)) ∧ ∀ w : XW, f_X11_isTerm (zI x) w = some (zI 0, w)) := by
  by_cases h : 97 ≤ x ∧ x ≤ 104
  · exact Or.inl ⟨x - 97, by omega, by omega⟩
  · exact Or.inr ⟨fun w => s_isTermF h31 (by omega), fun w => m_isTermF h31 (by omega)⟩
theorem inv_terms {F : Nat → Nat} (hI : Inv F) {i v : Nat} (hi : i < F 0) (hv : v < 256) : Inv (uF F (12 + i) v) := by
  obtain ⟨a1, a2, a3, a4, a5, a6, a7, a8⟩ := hI
  refine ⟨?_, ?_, ?_, ?_, fun k hk => ?_, ?_, fun j hj hj2 => ?_, fun p hp => ?_⟩
  · simp (disch := omega) only [uF_ne]; exact a1
  · simp (disch := omega) only [uF_ne]; exact a2
  · simp (disch := omega) only [uF_ne]; exact a3
  · rw [uF_ne _ (by omega), uF_ne _ (by omega), sm_uF0 (by omega)]; exact a4
  · rw [uF_ne _ (show 5 + k ≠ 12 + i by omega), uF_ne _ (show 0 ≠ 12 + i by omega)]
    by_cases z : k = i
    · rw [z, uF_hit]; exact ⟨(a5 i (by omega)).1, hv, fun q => by omega⟩
    · rw [uF_ne _ (by omega)]; exact a5 k hk
  · rw [uF_ne _ (by omega), plF_uF (by omega) (by omega) (by omega)]; exact a6
  · rw [uF_ne _ (by omega)] at hj2 ⊢; exact a7 j hj hj2
  · rw [uF_ne _ (by omega)] at hp
    simp (disch := omega) only [uF_ne]
    exact a8 p hp
theorem jt_no {F : Nat → Nat} {a b d : Int32} (hI : Inv F) (h : (∀ w : XW, Cls w.1 1 F → f_X9_has 2 a w = some (zI 0, w)) ∧ ∀ w : XW, Mo w.1 142 0 F → f_X11_isSection a w = some (zI 0, w)) :
    (∀ w : XW, Cls w.1 1 F → f_X8_judgeTerm 1 a b d w = some (-(zI 1), w)) ∧ ∀ (e : Int32) (w : XW), Mo w.1 142 0 F → f_X11_tags a b e w = some (zI 1, w) := by
  refine ⟨fun w hC => ?_, fun e w hM => ?_⟩
  · unfold f_X8_judgeTerm
    rw [show (1 : Nat) + 1 = 2 from rfl, h.1 w hC, bI_s, if_pos (by rfl), zl_1]
  · unfold f_X11_tags
    rw [h.2 w hM, bI_s, if_pos (by rfl), zl_1]
theorem jt_bad {F : Nat → Nat} {i x : Nat} {d : Int32} (hI : Inv F) (hi : i < F 0) (h : (∀ w : XW, f_X9_isTerm (zI x) w = some (zI 0, w)) ∧ ∀ w : XW, f_X11_isTerm (zI x) w = some (zI 0, w)) :
    (∀ w : XW, Cls w.1 1 F → f_X8_judgeTerm 1 (zI i) (zI x) d w = some (-(zI 2), w)) ∧ ∀ (e : Int32) (w : XW), Mo w.1 142 0 F → f_X11_tags (zI i) (zI x) e w = some (zI 2, w) := by
  have a1 := hI.1
  refine ⟨fun w hC => ?_, fun e w hM => ?_⟩
  · unfold f_X8_judgeTerm
    rw [show (1 : Nat) + 1 = 2 from rfl, s_hasT hC.1 a1 hi, bI_s, if_neg (by decide), h.1, bI_s, if_pos (by rfl), zl_2]
  · unfold f_X11_tags
    rw [m_isSecT hM a1 hi, bI_s, if_neg (by decide), h.2, bI_s, if_pos (by rfl), zl_2]
theorem pcB_mul (v : Nat) (hv : v < 256) : pcB v < 100 := by have := pcB_le v; omega
theorem jt_same {F : Nat → Nat} {i t v : Nat} (hI : Inv F) (hi : i < F 0) (ht : t < 8) (hv : bt (F (12 + i)) t = v) :
    (∀ w : XW, Cls w.1 1 F → f_X8_judgeTerm 1 (zI i) (zI (97 + t)) (zI v) w = some (zI 0, w)) ∧ ∀ w : XW, Mo w.1 142 0 F → f_X11_tags (zI i) (zI (97 + t)) (zI v) w = some (-(zI 5), wset (wset (wset w 141 15 (zI 5)) 141 16 (zI (pcB (F (12 + i))))) 141 17 (zI 0)) := by
  have a1 := hI.1
  have a5 := (hI.2.2.2.2.1 i (by omega)).2.1
  refine ⟨fun w hC => ?_, fun w hM => ?_⟩
  · unfold f_X8_judgeTerm
    rw [show (1 : Nat) + 1 = 2 from rfl, s_hasT hC.1 a1 hi, bI_s, if_neg (by decide), s_isTermT ht, bI_s, if_neg (by decide), s_bears hC.1 a1 hi a5 (hC.2.2.2.2.1 i (by omega)) ht, bI_s, hv, if_pos rfl, zl_0]
  · unfold f_X11_tags
    rw [m_isSecT hM a1 hi, bI_s, if_neg (by decide), m_isTermT ht, bI_s, if_neg (by decide), m_has hM (by omega) a5 ht, bI_s, hv, if_pos rfl, m_terms hM (by omega) a5, bI_s, zl_5, den_m, bI_s]
theorem jt_other {F : Nat → Nat} {i t v : Nat} (hI : Inv F) (hi : i < F 0) (ht : t < 8) (hv : bt (F (12 + i)) t ≠ v) (hv1 : v ≤ 1) {y : Nat} (hx : (zI (F (12 + i)) ^^^ zI (2 ^ t)) = zI y) (hy : y < 256) :
    (∀ w : XW, Cls w.1 1 F → f_X8_judgeTerm 1 (zI i) (zI (97 + t)) (zI v) w = some (zI (5 * 100 + pcB (F (12 + i))), w)) ∧ ∀ w : XW, Mo w.1 142 0 F → f_X11_tags (zI i) (zI (97 + t)) (zI v) w = some (zI 0, wset (wset w 142 (12 + i) (zI y)) 141 14 (zI (pcB y))) := by
  have a1 := hI.1
  have a5 := (hI.2.2.2.2.1 i (by omega)).2.1
  have hb : bt (F (12 + i)) t ≤ 1 := by rcases bt_01 (F (12 + i)) t with e | e <;> omega
  refine ⟨fun w hC => ?_, fun w hM => ?_⟩
  · unfold f_X8_judgeTerm
    rw [show (1 : Nat) + 1 = 2 from rfl, s_hasT hC.1 a1 hi, bI_s, if_neg (by decide), s_isTermT ht, bI_s, if_neg (by decide), s_bears hC.1 a1 hi a5 (hC.2.2.2.2.1 i (by omega)) ht, bI_s, if_neg (by rw [zI_inj (by omega) (by omega)]; exact hv), s_termCountOf hC.1 a1 hi a5 (hC.2.2.2.2.1 i (by omega)), bI_s, zl_5, den_c, bI_s]
  · have h12 := hM.at (j := 12 + i) (by omega)
    have hk := m_terms (x := i) (hM.set (12 + i) y) (by omega) (by rw [uF_hit]; exact hy)
    rw [uF_hit] at hk
    have hs := (br_shlB t ht).1
    unfold f_X11_tags
    rw [m_isSecT hM a1 hi, bI_s, if_neg (by decide), m_isTermT ht, bI_s, if_neg (by decide), m_has hM (by omega) a5 ht, bI_s, if_neg (by rw [zI_inj (by omega) (by omega)]; exact hv)]
    simp (disch := omega) only [h12, show 12 + i < 66 by omega, Nat.add_sub_cancel_left, hs, hx, hk, don_m, zl_0, zl_1, zl_2, zl_3, zl_4, zl_5, zl_6, zl_7, zl_8, zl_9, zl_10, zl_11, zl_12, zl_13, zl_14, zl_15, zl_16, zl_17, zl_18, zl_19, zl_20, zl_21, zl_22, zl_23, zl_24, zl_25, zl_26, zl_27, zl_28, zl_29, zl_30, zl_31, zl_32, zl_33, zl_34, zl_35, zl_36, zl_37, zl_38, zl_39, zl_40, zl_41, zl_42, zl_43, zl_44, zl_45, zl_46, zl_47, zl_48, zl_49, zl_50, zl_51, zl_52, zl_53, zl_54, zl_55, zl_56, zl_57, zl_58, zl_59, zl_60, zl_61, zl_62, zl_63, zl_64, zl_65, zl_66, zl_67, zl_68, zl_69, zl_70, zl_71, zl_72, zl_73, zl_74, zl_75, zl_76, zl_77, zl_78, zl_79, zl_80, zl_81, zl_82, zl_83, zl_84, zl_85, zl_86, zl_87, zl_88, zl_89, zl_90, zl_91, zl_92, zl_93, zl_94, zl_95, zl_96, zl_97, zl_98, zl_99, zl_100, zl_101, zl_102, zl_103, zl_104, zl_105, zl_106, zl_107, zl_108, zl_109, zl_110, zl_111, zl_112, zl_113, zl_114, zl_115, zl_116, zl_117, zl_118, zl_119, zl_120, zl_121, zl_122, zl_123, zl_124, zl_125, zl_126, zl_127, zl_128, zl_180, zl_200, zl_240, zl_462, zl_528, zm1, zI_add, zI_mul, zI_sub, zI_addneg, zI_lt, zI_le, zI_inj, zI_nat, zI_zM, zM_zI, zM_lt, lt_zM, zM_le, le_zM, zM_leM, zM_ltM, inB_z, bI_s, bV_s, bIX_s, bVX_s, bIX_x, bVX_x, if_true, if_false, ↓reduceIte, nar0z, nar1z, Nat.not_lt_zero, Nat.zero_le, Nat.le_zero_eq, not_true_eq_false, not_false_eq_true, false_and, and_false, true_and, and_true, and_self, wset_at, Nat.le_refl, Nat.reduceAdd, Nat.reduceSub, Nat.reduceMul, Nat.reduceDiv, Nat.reduceMod, Nat.reduceEqDiff, Nat.reduceLT, Nat.add_sub_cancel, Nat.reducePow, Nat.reduceLeDiff]
theorem op_tag (a b c : Int32) (hb : ¬ b < 0) : OpR 2 a b c (f_X11_tags a b 1) := by
  intro F hI
  rcases secZ F a hI.1 with ⟨i, hi, rfl⟩ | h
  · rcases zI_cases b with hb2 | ⟨x, hx, rfl⟩
    · exact absurd hb2 hb
    · rcases trmZ hx with ⟨t, ht, rfl⟩ | h
      · have a5 := (hI.2.2.2.2.1 i (by have := hI.1; omega)).2.1
        have a1 := hI.1
        rcases bt_01 (F (12 + i)) t with e | e
        · obtain ⟨o1, o2, o3⟩ := br_orB _ a5 t ht e
          obtain ⟨k1, _⟩ := jt_same hI hi ht e
          obtain ⟨_, k2⟩ := jt_other (v := 1) hI hi ht (by omega) (by omega) o2 o3
          refine Or.inr (Or.inr ⟨pcB (F (12 + i) + 2 ^ t), uF F (12 + i) (F (12 + i) + 2 ^ t), inv_terms hI hi o3, by rw [uF_ne _ (by omega)]; omega, by have := pcB_le (F (12 + i) + 2 ^ t); omega, KO.pl (by decide) (by rw [uF_ne _ (by omega)]), fun w hC => ?_, fun w hC => ?_, fun w hM => ⟨_, ?_, hM.set _ _, (fr1 _ _).wk (fun a z => Or.inl z)⟩⟩)
          · rw [jd_2, zl_0]; exact k1 w hC
          · refine ⟨wset w 4 i (zI (F (12 + i) + 2 ^ t)), ?_, hC.terms (by have := hI.2.1; omega) (by omega) _, Fr.rf.set (Or.inl ⟨by omega, by omega⟩) _ _⟩
            have hti : w.1 4 i = zI (F (12 + i)) := hC.2.2.2.2.1 i (by omega)
            have htc := s_termCountOf (w := wset w 4 i (zI (F (12 + i) + 2 ^ t))) (c := F 0) (x := i) (y := F (12 + i) + 2 ^ t) hC.1 a1 hi o3 (wset_hit _ _ _ _)
            rw [ap_2]
            unfold f_X9_giveTerm
            simp (disch := omega) only [s_hasT hC.1 a1 hi, s_bitOf ht, hti, o1, show i < 7 by omega, htc, zl_0, zl_1, zl_2, zl_3, zl_4, zl_5, zl_6, zl_7, zl_8, zl_9, zl_10, zl_11, zl_12, zl_13, zl_14, zl_15, zl_16, zl_17, zl_18, zl_19, zl_20, zl_21, zl_22, zl_23, zl_24, zl_25, zl_26, zl_27, zl_28, zl_29, zl_30, zl_31, zl_32, zl_33, zl_34, zl_35, zl_36, zl_37, zl_38, zl_39, zl_40, zl_41, zl_42, zl_43, zl_44, zl_45, zl_46, zl_47, zl_48, zl_49, zl_50, zl_51, zl_52, zl_53, zl_54, zl_55, zl_56, zl_57, zl_58, zl_59, zl_60, zl_61, zl_62, zl_63, zl_64, zl_65, zl_66, zl_67, zl_68, zl_69, zl_70, zl_71, zl_72, zl_73, zl_74, zl_75, zl_76, zl_77, zl_78, zl_79, zl_80, zl_81, zl_82, zl_83, zl_84, zl_85, zl_86, zl_87, zl_88, zl_89, zl_90, zl_91, zl_92, zl_93, zl_94, zl_95, zl_96, zl_97, zl_98, zl_99, zl_100, zl_101, zl_102, zl_103, zl_104, zl_105, zl_106, zl_107, zl_108, zl_109, zl_110, zl_111, zl_112, zl_113, zl_114, zl_115, zl_116, zl_117, zl_118, zl_119, zl_120, zl_121, zl_122, zl_123, zl_124, zl_125, zl_126, zl_127, zl_128, zl_180, zl_200, zl_240, zl_462, zl_528, zm1, zI_add, zI_mul, zI_sub, zI_addneg, zI_lt, zI_le, zI_inj, zI_nat, zI_zM, zM_zI, zM_lt, lt_zM, zM_le, le_zM, zM_leM, zM_ltM, inB_z, bI_s, bV_s, bIX_s, bVX_s, bIX_x, bVX_x, if_true, if_false, ↓reduceIte, nar0z, nar1z, Nat.not_lt_zero, Nat.zero_le, Nat.le_zero_eq, not_true_eq_false, not_false_eq_true, false_and, and_false, true_and, and_true, and_self, wset_at, Nat.le_refl, Nat.reduceAdd, Nat.reduceSub, Nat.reduceMul, Nat.reduceDiv, Nat.reduceMod, Nat.reduceEqDiff, Nat.reduceLT, Nat.add_sub_cancel, Nat.reducePow, Nat.reduceLeDiff]
          · rw [zl_1]; exact k2 w hM
        · obtain ⟨o1, o2, o3⟩ := br_anB _ a5 t ht e
          obtain ⟨_, k2⟩ := jt_same hI hi ht e
          obtain ⟨k1, _⟩ := jt_other (v := 0) hI hi ht (by omega) (by omega) o2 o3
          refine Or.inr (Or.inl ⟨5, pcB (F (12 + i)), by omega, by omega, pcB_mul _ a5, KD.pl (by decide), fun w hC => ?_, fun w hM => ⟨w, ?_, Fr.rf⟩⟩)
          · rw [jd_2, zl_0]; exact k1 w hC
          · rw [zl_1]; exact k2 w hM
      · obtain ⟨k1, k2⟩ := jt_bad (d := 0) hI hi h
        exact Or.inl ⟨2, Or.inr rfl, KE.pl (by decide), fun w hC => by rw [jd_2]; exact k1 w hC, k2 1⟩
  · obtain ⟨k1, k2⟩ := jt_no (b := b) (d := 0) hI h
    exact Or.inl ⟨1, Or.inl rfl, KE.pl (by decide), fun w hC => by rw [jd_2]; exact k1 w hC, k2 1⟩
theorem op_untag (a b c : Int32) (hb : ¬ b < 0) : OpR 3 a b c (f_X11_tags a b 0) := by
  intro F hI
  rcases secZ F a hI.1 with ⟨i, hi, rfl⟩ | h
  · rcases zI_cases b with hb2 | ⟨x, hx, rfl⟩
    · exact absurd hb2 hb
    · rcases trmZ hx with ⟨t, ht, rfl⟩ | h
      · have a5 := (hI.2.2.2.2.1 i (by have := hI.1; omega)).2.1
        have a1 := hI.1
        rcases bt_01 (F (12 + i)) t with e | e
        · obtain ⟨o1, o2, o3⟩ := br_orB _ a5 t ht e
          obtain ⟨_, k2⟩ := jt_same hI hi ht e
          obtain ⟨k1, _⟩ := jt_other (v := 1) hI hi ht (by omega) (by omega) o2 o3
          refine Or.inr (Or.inl ⟨5, pcB (F (12 + i)), by omega, by omega, pcB_mul _ a5, KD.pl (by decide), fun w hC => ?_, fun w hM => ⟨w, ?_, Fr.rf⟩⟩)
          · rw [jd_3, zl_1]; exact k1 w hC
          · rw [zl_0]; exact k2 w hM
        · obtain ⟨o1, o2, o3⟩ := br_anB _ a5 t ht e
          obtain ⟨k1, _⟩ := jt_same hI hi ht e
          obtain ⟨_, k2⟩ := jt_other (v := 0) hI hi ht (by omega) (by omega) o2 o3
          refine Or.inr (Or.inr ⟨pcB (F (12 + i) - 2 ^ t), uF F (12 + i) (F (12 + i) - 2 ^ t), inv_terms hI hi o3, by rw [uF_ne _ (by omega)]; omega, by have := pcB_le (F (12 + i) - 2 ^ t); omega, KO.pl (by decide) (by rw [uF_ne _ (by omega)]), fun w hC => ?_, fun w hC => ?_, fun w hM => ⟨_, ?_, hM.set _ _, (fr1 _ _).wk (fun a z => Or.inl z)⟩⟩)
          · rw [jd_3, zl_1]; exact k1 w hC
          · refine ⟨wset w 4 i (zI (F (12 + i) - 2 ^ t)), ?_, hC.terms (by have := hI.2.1; omega) (by omega) _, Fr.rf.set (Or.inl ⟨by omega, by omega⟩) _ _⟩
            have hti : w.1 4 i = zI (F (12 + i)) := hC.2.2.2.2.1 i (by omega)
            have htc := s_termCountOf (w := wset w 4 i (zI (F (12 + i) - 2 ^ t))) (c := F 0) (x := i) (y := F (12 + i) - 2 ^ t) hC.1 a1 hi o3 (wset_hit _ _ _ _)
            rw [ap_3]
            unfold f_X9_takeTerm
            simp (disch := omega) only [s_hasT hC.1 a1 hi, s_bitOf ht, hti, o1, show i < 7 by omega, htc, zl_0, zl_1, zl_2, zl_3, zl_4, zl_5, zl_6, zl_7, zl_8, zl_9, zl_10, zl_11, zl_12, zl_13, zl_14, zl_15, zl_16, zl_17, zl_18, zl_19, zl_20, zl_21, zl_22, zl_23, zl_24, zl_25, zl_26, zl_27, zl_28, zl_29, zl_30, zl_31, zl_32, zl_33, zl_34, zl_35, zl_36, zl_37, zl_38, zl_39, zl_40, zl_41, zl_42, zl_43, zl_44, zl_45, zl_46, zl_47, zl_48, zl_49, zl_50, zl_51, zl_52, zl_53, zl_54, zl_55, zl_56, zl_57, zl_58, zl_59, zl_60, zl_61, zl_62, zl_63, zl_64, zl_65, zl_66, zl_67, zl_68, zl_69, zl_70, zl_71, zl_72, zl_73, zl_74, zl_75, zl_76, zl_77, zl_78, zl_79, zl_80, zl_81, zl_82, zl_83, zl_84, zl_85, zl_86, zl_87, zl_88, zl_89, zl_90, zl_91, zl_92, zl_93, zl_94, zl_95, zl_96, zl_97, zl_98, zl_99, zl_100, zl_101, zl_102, zl_103, zl_104, zl_105, zl_106, zl_107, zl_108, zl_109, zl_110, zl_111, zl_112, zl_113, zl_114, zl_115, zl_116, zl_117, zl_118, zl_119, zl_120, zl_121, zl_122, zl_123, zl_124, zl_125, zl_126, zl_127, zl_128, zl_180, zl_200, zl_240, zl_462, zl_528, zm1, zI_add, zI_mul, zI_sub, zI_addneg, zI_lt, zI_le, zI_inj, zI_nat, zI_zM, zM_zI, zM_lt, lt_zM, zM_le, le_zM, zM_leM, zM_ltM, inB_z, bI_s, bV_s, bIX_s, bVX_s, bIX_x, bVX_x, if_true, if_false, ↓reduceIte, nar0z, nar1z, Nat.not_lt_zero, Nat.zero_le, Nat.le_zero_eq, not_true_eq_false, not_false_eq_true, false_and, and_false, true_and, and_true, and_self, wset_at, Nat.le_refl, Nat.reduceAdd, Nat.reduceSub, Nat.reduceMul, Nat.reduceDiv, Nat.reduceMod, Nat.reduceEqDiff, Nat.reduceLT, Nat.add_sub_cancel, Nat.reducePow, Nat.reduceLeDiff]
          · rw [zl_0]; exact k2 w hM
      · obtain ⟨k1, k2⟩ := jt_bad (d := 1) hI hi h
        exact Or.inl ⟨2, Or.inr rfl, KE.pl (by decide), fun w hC => by rw [jd_3]; exact k1 w hC, k2 0⟩
  · obtain ⟨k1, k2⟩ := jt_no (b := b) (d := 1) hI h
    exact Or.inl ⟨1, Or.inl rfl, KE.pl (by decide), fun w hC => by rw [jd_3]; exact k1 w hC, k2 0⟩
