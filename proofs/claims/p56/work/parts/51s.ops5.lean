/-! draining and seeping -/
theorem zs20_B : ∀ v, v < 100 → (decide (zI v - zI 20 ≤ zI 0) = decide (v ≤ 20)) ∧ (decide (zI 0 < zI v - zI 20) = decide (20 < v)) := by decide +kernel
theorem zs20_le {v : Nat} (h : v < 100) : (zI v - zI 20 ≤ zI 0) = (v ≤ 20) := by
  have := (zs20_B v h).1
  simpa using this
theorem zs20_lt {v : Nat} (h : v < 100) : (zI 0 < zI v - zI 20) = (20 < v) := by
  have := (zs20_B v h).2
  simpa using this
theorem m_comes {F : Nat → Nat} {w : XW} {s u : Nat} (hM : Mo w.1 142 0 F) (hs : s < 7) (hv : F (5 + s) ≤ 99) (hu : u < 100000) : ∃ w', f_X11_comes (zI s) (zI u) w = some w' ∧ Fr (fun a => a = 142) w w' ∧ Mo w'.1 142 0 (comF F s u) := by
  refine ⟨wset (wset w 142 4 (zI (F 4 + ovF (F (5 + s)) u))) 142 (5 + s) (zI (F (5 + s) + tkF (F (5 + s)) u)), ?_, (fr1 _ _).tr (fr1 _ _), (hM.set _ _).set _ _⟩
  have h5 := hM.at (j := 5 + s) (by omega)
  have h4 := hM.at (j := 4) (by omega)
  unfold f_X11_comes ovF tkF
  by_cases e : 99 - F (5 + s) < u
  · simp (disch := omega) only [h5, h4, e, show 5 + s < 66 by omega, show ¬ u ≤ 99 - F (5 + s) by omega, show ¬ 5 + s = 4 by omega, zl_0, zl_1, zl_2, zl_3, zl_4, zl_5, zl_6, zl_7, zl_8, zl_9, zl_10, zl_11, zl_12, zl_13, zl_14, zl_15, zl_16, zl_17, zl_18, zl_19, zl_20, zl_21, zl_22, zl_23, zl_24, zl_25, zl_26, zl_27, zl_28, zl_29, zl_30, zl_31, zl_32, zl_33, zl_34, zl_35, zl_36, zl_37, zl_38, zl_39, zl_40, zl_41, zl_42, zl_43, zl_44, zl_45, zl_46, zl_47, zl_48, zl_49, zl_50, zl_51, zl_52, zl_53, zl_54, zl_55, zl_56, zl_57, zl_58, zl_59, zl_60, zl_61, zl_62, zl_63, zl_64, zl_65, zl_66, zl_67, zl_68, zl_69, zl_70, zl_71, zl_72, zl_73, zl_74, zl_75, zl_76, zl_77, zl_78, zl_79, zl_80, zl_81, zl_82, zl_83, zl_84, zl_85, zl_86, zl_87, zl_88, zl_89, zl_90, zl_91, zl_92, zl_93, zl_94, zl_95, zl_96, zl_97, zl_98, zl_99, zl_100, zl_101, zl_102, zl_103, zl_104, zl_105, zl_106, zl_107, zl_108, zl_109, zl_110, zl_111, zl_112, zl_113, zl_114, zl_115, zl_116, zl_117, zl_118, zl_119, zl_120, zl_121, zl_122, zl_123, zl_124, zl_125, zl_126, zl_127, zl_128, zl_180, zl_200, zl_240, zl_462, zl_528, zm1, zI_add, zI_mul, zI_sub, zI_addneg, zI_lt, zI_le, zI_inj, zI_nat, zI_zM, zM_zI, zM_lt, lt_zM, zM_le, le_zM, zM_leM, zM_ltM, inB_z, bI_s, bV_s, bIX_s, bVX_s, bIX_x, bVX_x, if_true, if_false, ↓reduceIte, nar0z, nar1z, Nat.not_lt_zero, Nat.zero_le, Nat.le_zero_eq, not_true_eq_false, not_false_eq_true, false_and, and_false, true_and, and_true, and_self, wset_at, Nat.le_refl, Nat.reduceAdd, Nat.reduceSub, Nat.reduceMul, Nat.reduceDiv, Nat.reduceMod, Nat.reduceEqDiff, Nat.reduceLT, Nat.add_sub_cancel, Nat.reducePow, Nat.reduceLeDiff]
  · simp (disch := omega) only [h5, h4, e, show 5 + s < 66 by omega, show u ≤ 99 - F (5 + s) by omega, show ¬ 5 + s = 4 by omega, Nat.add_zero, zl_0, zl_1, zl_2, zl_3, zl_4, zl_5, zl_6, zl_7, zl_8, zl_9, zl_10, zl_11, zl_12, zl_13, zl_14, zl_15, zl_16, zl_17, zl_18, zl_19, zl_20, zl_21, zl_22, zl_23, zl_24, zl_25, zl_26, zl_27, zl_28, zl_29, zl_30, zl_31, zl_32, zl_33, zl_34, zl_35, zl_36, zl_37, zl_38, zl_39, zl_40, zl_41, zl_42, zl_43, zl_44, zl_45, zl_46, zl_47, zl_48, zl_49, zl_50, zl_51, zl_52, zl_53, zl_54, zl_55, zl_56, zl_57, zl_58, zl_59, zl_60, zl_61, zl_62, zl_63, zl_64, zl_65, zl_66, zl_67, zl_68, zl_69, zl_70, zl_71, zl_72, zl_73, zl_74, zl_75, zl_76, zl_77, zl_78, zl_79, zl_80, zl_81, zl_82, zl_83, zl_84, zl_85, zl_86, zl_87, zl_88, zl_89, zl_90, zl_91, zl_92, zl_93, zl_94, zl_95, zl_96, zl_97, zl_98, zl_99, zl_100, zl_101, zl_102, zl_103, zl_104, zl_105, zl_106, zl_107, zl_108, zl_109, zl_110, zl_111, zl_112, zl_113, zl_114, zl_115, zl_116, zl_117, zl_118, zl_119, zl_120, zl_121, zl_122, zl_123, zl_124, zl_125, zl_126, zl_127, zl_128, zl_180, zl_200, zl_240, zl_462, zl_528, zm1, zI_add, zI_mul, zI_sub, zI_addneg, zI_lt, zI_le, zI_inj, zI_nat, zI_zM, zM_zI, zM_lt, lt_zM, zM_le, le_zM, zM_leM, zM_ltM, inB_z, bI_s, bV_s, bIX_s, bVX_s, bIX_x, bVX_x, if_true, if_false, ↓reduceIte, nar0z, nar1z, Nat.not_lt_zero, Nat.zero_le, Nat.le_zero_eq, not_true_eq_false, not_false_eq_true, false_and, and_false, true_and, and_true, and_self, wset_at, Nat.le_refl, Nat.reduceAdd, Nat.reduceSub, Nat.reduceMul, Nat.reduceDiv, Nat.reduceMod, Nat.reduceEqDiff, Nat.reduceLT, Nat.add_sub_cancel, Nat.reducePow, Nat.reduceLeDiff]
section
variable {w : XW} {F : Nat → Nat}
theorem s_give {i e : Nat} (hC : Cls w.1 1 F) (hI : F 0 ≤ 7) (h1 : F 1 ≤ 7) (hi : i < F 0) (he : e ≤ F (5 + i)) : f_X9_give 2 (zI i) (zI e) w = some (wset w 3 i (zI (F (5 + i) - e))) ∧ Cls (wset w 3 i (zI (F (5 + i) - e))).1 1 (uF F (5 + i) (F (5 + i) - e)) := by
  refine ⟨?_, hC.water h1 (by omega) _⟩
  have hwi : w.1 3 i = zI (F (5 + i)) := hC.2.2.2.1 i (by omega)
  unfold f_X9_give f_X9_add
  simp (disch := omega) only [s_hasT hC.1 hI hi, hwi, show i < 7 by omega, zl_0, zl_1, zl_2, zl_3, zl_4, zl_5, zl_6, zl_7, zl_8, zl_9, zl_10, zl_11, zl_12, zl_13, zl_14, zl_15, zl_16, zl_17, zl_18, zl_19, zl_20, zl_21, zl_22, zl_23, zl_24, zl_25, zl_26, zl_27, zl_28, zl_29, zl_30, zl_31, zl_32, zl_33, zl_34, zl_35, zl_36, zl_37, zl_38, zl_39, zl_40, zl_41, zl_42, zl_43, zl_44, zl_45, zl_46, zl_47, zl_48, zl_49, zl_50, zl_51, zl_52, zl_53, zl_54, zl_55, zl_56, zl_57, zl_58, zl_59, zl_60, zl_61, zl_62, zl_63, zl_64, zl_65, zl_66, zl_67, zl_68, zl_69, zl_70, zl_71, zl_72, zl_73, zl_74, zl_75, zl_76, zl_77, zl_78, zl_79, zl_80, zl_81, zl_82, zl_83, zl_84, zl_85, zl_86, zl_87, zl_88, zl_89, zl_90, zl_91, zl_92, zl_93, zl_94, zl_95, zl_96, zl_97, zl_98, zl_99, zl_100, zl_101, zl_102, zl_103, zl_104, zl_105, zl_106, zl_107, zl_108, zl_109, zl_110, zl_111, zl_112, zl_113, zl_114, zl_115, zl_116, zl_117, zl_118, zl_119, zl_120, zl_121, zl_122, zl_123, zl_124, zl_125, zl_126, zl_127, zl_128, zl_180, zl_200, zl_240, zl_462, zl_528, zm1, zI_add, zI_mul, zI_sub, zI_addneg, zI_lt, zI_le, zI_inj, zI_nat, zI_zM, zM_zI, zM_lt, lt_zM, zM_le, le_zM, zM_leM, zM_ltM, inB_z, bI_s, bV_s, bIX_s, bVX_s, bIX_x, bVX_x, if_true, if_false, ↓reduceIte, nar0z, nar1z, Nat.not_lt_zero, Nat.zero_le, Nat.le_zero_eq, not_true_eq_false, not_false_eq_true, false_and, and_false, true_and, and_true, and_self, wset_at, Nat.le_refl, Nat.reduceAdd, Nat.reduceSub, Nat.reduceMul, Nat.reduceDiv, Nat.reduceMod, Nat.reduceEqDiff, Nat.reduceLT, Nat.add_sub_cancel, Nat.reducePow, Nat.reduceLeDiff]
theorem s_receive {i u : Nat} (hC : Cls w.1 1 F) (hI : F 0 ≤ 7) (h1 : F 1 ≤ 7) (hi : i < F 0) (hv : F (5 + i) ≤ 99) (hu : u < 100000) : f_X9_receive 2 (zI i) (zI u) w = some (zI (ovF (F (5 + i)) u), wset w 3 i (zI (F (5 + i) + tkF (F (5 + i)) u))) ∧ Cls (wset w 3 i (zI (F (5 + i) + tkF (F (5 + i)) u))).1 1 (uF F (5 + i) (F (5 + i) + tkF (F (5 + i)) u)) := by
  refine ⟨?_, hC.water h1 (by omega) _⟩
  have hwi : w.1 3 i = zI (F (5 + i)) := hC.2.2.2.1 i (by omega)
  have hwo := s_waterOf hC.1 hI hi hwi
  unfold f_X9_receive f_X9_add ovF tkF
  by_cases e : 99 - F (5 + i) < u
  · simp (disch := omega) only [s_hasT hC.1 hI hi, hwo, hwi, show i < 7 by omega, e, zl_0, zl_1, zl_2, zl_3, zl_4, zl_5, zl_6, zl_7, zl_8, zl_9, zl_10, zl_11, zl_12, zl_13, zl_14, zl_15, zl_16, zl_17, zl_18, zl_19, zl_20, zl_21, zl_22, zl_23, zl_24, zl_25, zl_26, zl_27, zl_28, zl_29, zl_30, zl_31, zl_32, zl_33, zl_34, zl_35, zl_36, zl_37, zl_38, zl_39, zl_40, zl_41, zl_42, zl_43, zl_44, zl_45, zl_46, zl_47, zl_48, zl_49, zl_50, zl_51, zl_52, zl_53, zl_54, zl_55, zl_56, zl_57, zl_58, zl_59, zl_60, zl_61, zl_62, zl_63, zl_64, zl_65, zl_66, zl_67, zl_68, zl_69, zl_70, zl_71, zl_72, zl_73, zl_74, zl_75, zl_76, zl_77, zl_78, zl_79, zl_80, zl_81, zl_82, zl_83, zl_84, zl_85, zl_86, zl_87, zl_88, zl_89, zl_90, zl_91, zl_92, zl_93, zl_94, zl_95, zl_96, zl_97, zl_98, zl_99, zl_100, zl_101, zl_102, zl_103, zl_104, zl_105, zl_106, zl_107, zl_108, zl_109, zl_110, zl_111, zl_112, zl_113, zl_114, zl_115, zl_116, zl_117, zl_118, zl_119, zl_120, zl_121, zl_122, zl_123, zl_124, zl_125, zl_126, zl_127, zl_128, zl_180, zl_200, zl_240, zl_462, zl_528, zm1, zI_add, zI_mul, zI_sub, zI_addneg, zI_lt, zI_le, zI_inj, zI_nat, zI_zM, zM_zI, zM_lt, lt_zM, zM_le, le_zM, zM_leM, zM_ltM, inB_z, bI_s, bV_s, bIX_s, bVX_s, bIX_x, bVX_x, if_true, if_false, ↓reduceIte, nar0z, nar1z, Nat.not_lt_zero, Nat.zero_le, Nat.le_zero_eq, not_true_eq_false, not_false_eq_true, false_and, and_false, true_and, and_true, and_self, wset_at, Nat.le_refl, Nat.reduceAdd, Nat.reduceSub, Nat.reduceMul, Nat.reduceDiv, Nat.reduceMod, Nat.reduceEqDiff, Nat.reduceLT, Nat.add_sub_cancel, Nat.reducePow, Nat.reduceLeDiff]
  · simp (disch := omega) only [s_hasT hC.1 hI hi, hwo, hwi, show i < 7 by omega, e, Nat.sub_self, zl_0, zl_1, zl_2, zl_3, zl_4, zl_5, zl_6, zl_7, zl_8, zl_9, zl_10, zl_11, zl_12, zl_13, zl_14, zl_15, zl_16, zl_17, zl_18, zl_19, zl_20, zl_21, zl_22, zl_23, zl_24, zl_25, zl_26, zl_27, zl_28, zl_29, zl_30, zl_31, zl_32, zl_33, zl_34, zl_35, zl_36, zl_37, zl_38, zl_39, zl_40, zl_41, zl_42, zl_43, zl_44, zl_45, zl_46, zl_47, zl_48, zl_49, zl_50, zl_51, zl_52, zl_53, zl_54, zl_55, zl_56, zl_57, zl_58, zl_59, zl_60, zl_61, zl_62, zl_63, zl_64, zl_65, zl_66, zl_67, zl_68, zl_69, zl_70, zl_71, zl_72, zl_73, zl_74, zl_75, zl_76, zl_77, zl_78, zl_79, zl_80, zl_81, zl_82, zl_83, zl_84, zl_85, zl_86, zl_87, zl_88, zl_89, zl_90, zl_91, zl_92, zl_93, zl_94, zl_95, zl_96, zl_97, zl_98, zl_99, zl_100, zl_101, zl_102, zl_103, zl_104, zl_105, zl_106, zl_107, zl_108, zl_109, zl_110, zl_111, zl_112, zl_113, zl_114, zl_115, zl_116, zl_117, zl_118, zl_119, zl_120, zl_121, zl_122, zl_123, zl_124, zl_125, zl_126, zl_127, zl_128, zl_180, zl_200, zl_240, zl_462, zl_528, zm1, zI_add, zI_mul, zI_sub, zI_addneg, zI_lt, zI_le, zI_inj, zI_nat, zI_zM, zM_zI, zM_lt, lt_zM, zM_le, le_zM, zM_leM, zM_ltM, inB_z, bI_s, bV_s, bIX_s, bVX_s, bIX_x, bVX_x, if_true, if_false, ↓reduceIte, nar0z, nar1z, Nat.not_lt_zero, Nat.zero_le, Nat.le_zero_eq, not_true_eq_false, not_false_eq_true, false_and, and_false, true_and, and_true, and_self, wset_at, Nat.le_refl, Nat.reduceAdd, Nat.reduceSub, Nat.reduceMul, Nat.reduceDiv, Nat.reduceMod, Nat.reduceEqDiff, Nat.reduceLT, Nat.add_sub_cancel, Nat.reducePow, Nat.reduceLeDiff]
theorem s_leak {u : Nat} (hC : Cls w.1 1 F) (h1 : F 1 ≤ 7) : f_X9_leak 2 (zI u) w = some (wset w 2 2 (zI (F 4 + u))) ∧ Cls (wset w 2 2 (zI (F 4 + u))).1 1 (uF F 4 (F 4 + u)) := by
  refine ⟨?_, hC.acc h1 (Or.inr rfl) _⟩
  have hl : w.1 2 2 = zI (F 4) := hC.2.2.1
  unfold f_X9_leak
  rw [hl, zI_add]
end
theorem ov_tk (v u : Nat) : ovF v u + tkF v u = u ∧ tkF v u ≤ 99 - v := by unfold ovF tkF; split <;> omega
theorem inv_com {F : Nat → Nat} {s u : Nat} (hI : F 4 + u + sm (fun i => F (5 + i)) 7 = F 3) (h2 : ∀ i, i < 7 → F (5 + i) ≤ 99) (hs : s < 7) : comF F s u 3 = comF F s u 4 + sm (fun i => comF F s u (5 + i)) 7 ∧ ∀ i, i < 7 → comF F s u (5 + i) ≤ 99 := by
  have ht := ov_tk (F (5 + s)) u
  have hv := h2 s hs
  unfold comF
  refine ⟨?_, fun i hi => ?_⟩
  · have h := sm_uF (F := uF F 4 (F 4 + ovF (F (5 + s)) u)) (v := F (5 + s) + tkF (F (5 + s)) u) hs
    rw [sm_uF0 (F := F) (j := 4) (v := F 4 + ovF (F (5 + s)) u) (by omega), uF_ne (F := F) (j := 4) (a := 5 + s) _ (by omega)] at h
    rw [uF_ne _ (by omega), uF_ne _ (by omega), uF_ne _ (by omega), uF_hit]
    omega
  · by_cases z : i = s
    · rw [z, uF_hit]; omega
    · rw [uF_ne _ (by omega), uF_ne _ (by omega)]; exact h2 i hi
/-! seeping -/
def zd (l : Nat) : Int32 := if l = 0 then zM else zI (l - 1)
theorem zd_s (l : Nat) : zI l + zM = zd l := by
  unfold zd
  by_cases h : l = 0
  · rw [if_pos h, h, z0_addM]
  · rw [if_neg h, zI_addM (by omega)]
/-- what a row of numbers keeps while it seeps -/
def Sp (F H : Nat → Nat) : Prop := Inv H ∧ (∀ j, j < 66 → j ≠ 4 → ¬ (5 ≤ j ∧ j < 12) → H j = F j) ∧ F 4 ≤ H 4
theorem sp_step {F H : Nat → Nat} (h : Sp F H) {l : Nat} (hl : l < F 1) : Sp F (stepF H l) ∧ H 4 ≤ stepF H l 4 := by
  obtain ⟨hI, he, h4⟩ := h
  have hI0 := hI
  obtain ⟨a1, a2, a3, a4, a5, a6, a7, a8⟩ := hI
  have e1 := he 1 (by omega) (by omega) (by omega)
  have hs := ((piles_ok (by omega) a6).2.2 l (by omega)).1
  rw [plF_get (by omega)] at hs
  have hv := (a5 (H (19 + l)) (by omega)).1
  unfold stepF
  by_cases c1 : H (5 + H (19 + l)) ≤ 20
  · rw [if_pos c1]; exact ⟨⟨hI0, he, h4⟩, Nat.le_refl _⟩
  · rw [if_neg c1]
    have hsum := sm_uF (F := H) (i := H (19 + l)) (v := 20) (by omega)
    by_cases c2 : l = 0
    · rw [if_pos c2]
      refine ⟨⟨hI0.wat (fun j _ h3 h5 h6 => ?_) ?_ (fun i hi => ?_), fun j h1 h2 h3 => ?_, ?_⟩, ?_⟩
      · rw [uF_ne _ (by omega), uF_ne _ (by omega)]
      · rw [uF_ne _ (by omega), uF_ne _ (by omega), uF_hit, sm_uF0 (by omega)]; omega
      · rw [uF_ne _ (by omega)]
        by_cases z : i = H (19 + l)
        · rw [z, uF_hit]; exact ⟨by omega, fun q => by omega⟩
        · rw [uF_ne _ (by omega)]; exact ⟨(a5 i hi).1, fun q => ((a5 i hi).2.2 q).1⟩
      · rw [uF_ne _ (by omega), uF_ne _ (by omega)]; exact he j h1 h2 h3
      · rw [uF_hit]; omega
      · rw [uF_hit]; omega
    · rw [if_neg c2]
      have hs2 := ((piles_ok (by omega) a6).2.2 (l - 1) (by omega)).1
      rw [plF_get (by omega)] at hs2
      have hc := inv_com (F := uF H (5 + H (19 + l)) 20) (s := H (19 + (l - 1))) (u := H (5 + H (19 + l)) - 20) (by rw [uF_ne _ (by omega), uF_ne _ (by omega)]; omega) (fun i hi => by
        by_cases z : i = H (19 + l)
        · rw [z, uF_hit]; omega
        · rw [uF_ne _ (by omega)]; exact (a5 i hi).1) (by omega)
      have hfar : ∀ j, j ≠ 4 → ¬ (5 ≤ j ∧ j < 12) → comF (uF H (5 + H (19 + l)) 20) (H (19 + (l - 1))) (H (5 + H (19 + l)) - 20) j = H j := fun j h2 h3 => by
        unfold comF
        rw [uF_ne _ (by omega), uF_ne _ (by omega), uF_ne _ (by omega)]
      refine ⟨⟨hI0.wat (fun j _ h3 h5 h6 => hfar j h5 h6) hc.1 (fun i hi => ⟨hc.2 i hi, fun q => ?_⟩), fun j h1 h2 h3 => by rw [hfar j h2 h3]; exact he j h1 h2 h3, ?_⟩, ?_⟩
      · unfold comF
        rw [uF_ne _ (by omega), uF_ne _ (by omega), uF_ne _ (by omega)]
        exact ((a5 i hi).2.2 q).1
      · unfold comF
        rw [uF_ne _ (by omega), uF_hit, uF_ne _ (by omega)]; omega
      · unfold comF
        rw [uF_ne _ (by omega), uF_hit, uF_ne _ (by omega)]; omega
theorem sp_all {F : Nat → Nat} : ∀ (l : Nat) (H : Nat → Nat), Sp F H → l ≤ F 1 → Sp F (seF l H) := by
  intro l
  induction l with
  | zero => intro H h _; exact h
  | succ l ih => intro H h hl; exact ih _ (sp_step h (by omega)).1 (by omega)
theorem m_seep_loop {F : Nat → Nat} (hF7 : F 1 ≤ 7) (y : Int32) (hy : y = zI (F 4)) : ∀ (l fuel : Nat) (H : Nat → Nat) (w : XW), Sp F H → l ≤ F 1 → l < fuel → Mo w.1 142 0 H → ∃ w', f_X11_seeps_37 y fuel (zd l) w = some (zI 0, wset w' 141 14 (zI (seF l H 4 - F 4))) ∧ Fr (fun a => a = 142) w w' ∧ Mo w'.1 142 0 (seF l H) := by
  intro l
  induction l with
  | zero =>
    intro fuel H w hS hl hf hM
    obtain ⟨f, rfl⟩ : ∃ f, fuel = f + 1 := ⟨fuel - 1, by omega⟩
    refine ⟨w, ?_, Fr.rf, hM⟩
    have h4 := hM.at (j := 4) (by omega)
    rw [f_X11_seeps_37, if_pos (by decide), show Int32.toNatClampNeg 4 = 4 from rfl, h4, hy, zI_sub hS.2.2, don_m, bI_s]
    rfl
  | succ l ih =>
    intro fuel H w hS hl hf hM
    obtain ⟨f, rfl⟩ : ∃ f, fuel = f + 1 := ⟨fuel - 1, by omega⟩
    have hS2 := (sp_step hS (l := l) (by omega)).1
    obtain ⟨hI, he, h4⟩ := hS
    obtain ⟨a1, a2, a3, a4, a5, a6, a7, a8⟩ := hI
    have e1 := he 1 (by omega) (by omega) (by omega)
    have hs := ((piles_ok (by omega) a6).2.2 l (by omega)).1
    rw [plF_get (by omega)] at hs
    have hv := (a5 (H (19 + l)) (by omega)).1
    have k19 := hM.at (j := 19 + l) (by omega)
    have k5 := hM.at (j := 5 + H (19 + l)) (by omega)
    have k4 := hM.at (j := 4) (by omega)
    have hzd : zd (l + 1) = zI l := by unfold zd; rw [if_neg (by omega), Nat.add_sub_cancel]
    have go : ∀ w1, Fr (fun a => a = 142) w w1 → Mo w1.1 142 0 (stepF H l) → ∃ w', f_X11_seeps_37 y f (zI l + zM) w1 = some (zI 0, wset w' 141 14 (zI (seF (l + 1) H 4 - F 4))) ∧ Fr (fun a => a = 142) w w' ∧ Mo w'.1 142 0 (seF (l + 1) H) := fun w1 g1 g2 => by
      obtain ⟨w', x1, x2, x3⟩ := ih f (stepF H l) w1 hS2 (by omega) (by omega) g2
      rw [zd_s]
      exact ⟨w', x1, g1.tr x2, x3⟩
    rw [hzd, f_X11_seeps_37]
    simp (disch := omega) only [k19, k5, k4, zs20_lt, show 19 + l < 66 by omega, show 5 + H (19 + l) < 66 by omega, zl_20, zl_0, zl_19, zl_5, zl_1, zm1, zI_lt, Nat.not_lt_zero, if_false, zI_add, inB_z, zI_nat, if_true]
    by_cases c1 : H (5 + H (19 + l)) ≤ 20
    · rw [if_neg (by omega)]
      exact go w Fr.rf (by unfold stepF; rw [if_pos c1]; exact hM)
    · rw [if_pos (by omega)]
      by_cases c2 : l = 0
      · rw [if_pos (by rw [zI_le (by omega) (by omega)]; omega)]
        refine go _ ((fr1 _ _).tr (fr1 _ _)) ?_
        unfold stepF
        rw [if_neg c1, if_pos c2, show Int32.toNatClampNeg 4 = 4 from rfl, wset_at, if_neg (by omega), k4, zI_sub (by omega), zI_add]
        exact (hM.set _ _).set _ _
      · have hs2 := ((piles_ok (by omega) a6).2.2 (l - 1) (by omega)).1
        rw [plF_get (by omega)] at hs2
        have hM1 := hM.set (5 + H (19 + l)) 20
        have k18 := hM1.at (j := 19 + (l - 1)) (by omega)
        rw [uF_ne _ (by omega)] at k18
        obtain ⟨w1, x1, x2, x3⟩ := m_comes (s := H (19 + (l - 1))) (u := H (5 + H (19 + l)) - 20) hM1 (by omega) (by
          by_cases z : H (19 + (l - 1)) = H (19 + l)
          · rw [z, uF_hit]; omega
          · rw [uF_ne _ (by omega)]; exact (a5 _ (by omega)).1) (by omega)
        rw [if_neg (by rw [zI_le (by omega) (by omega)]; omega), zI_sub (show 1 ≤ 19 + l by omega), if_pos (by rw [inB_z (by omega)]; omega), zI_nat (by omega), show 19 + l - 1 = 19 + (l - 1) by omega, k18, zI_sub (by omega), x1, bV_s]
        refine go w1 ((fr1 _ _).tr x2) ?_
        unfold stepF
        rw [if_neg c1, if_neg c2]
        exact x3
theorem zd_lt : zd 0 < 0 := by decide
/-- the class lags with what has leaked: it adds it up first -/
theorem c_seep_loop {F : Nat → Nat} (hF7 : F 1 ≤ 7) : ∀ (l fuel : Nat) (H : Nat → Nat) (w : XW), Sp F H → l ≤ F 1 → l < fuel → Cls w.1 1 (uF H 4 (F 4)) → ∃ w', f_X8_moveDownPile_12 1 fuel (zI (H 4 - F 4)) (zd l) w = some (zI (seF l H 4 - F 4), w') ∧ Fr (fun a => 2 ≤ a ∧ a ≤ 3) w w' ∧ Cls w'.1 1 (seF l H) := by
  intro l
  induction l with
  | zero =>
    intro fuel H w hS hl hf hC
    obtain ⟨f, rfl⟩ : ∃ f, fuel = f + 1 := ⟨fuel - 1, by omega⟩
    have hI := hS.1
    have e1 := hS.2.1 1 (by omega) (by omega) (by omega)
    have hk := s_leak (u := H 4 - F 4) hC (by rw [uF_ne _ (by omega)]; omega)
    rw [uF_hit] at hk
    refine ⟨_, ?_, Fr.rf.set ⟨by omega, by omega⟩ _ _, hk.2.ext (fun j hj => ?_) ?_ ?_⟩
    · rw [f_X8_moveDownPile_12, if_pos (by decide), show (1 : Nat) + 1 = 2 from rfl, hk.1, bV_s]
      rfl
    · have h4 := hS.2.2
      show _ = H j
      by_cases z : j = 4
      · rw [z, uF_hit]; omega
      · rw [uF_ne _ z, uF_ne _ z]
    · rw [uF_ne _ (by omega), uF_ne _ (by omega)]; omega
    · rw [uF_ne _ (by omega), uF_ne _ (by omega)]; exact hI.2.2.1
  | succ l ih =>
    intro fuel H w hS hl hf hC
    obtain ⟨f, rfl⟩ : ∃ f, fuel = f + 1 := ⟨fuel - 1, by omega⟩
    have hS2 := sp_step hS (l := l) (by omega)
    obtain ⟨hI, he, h4⟩ := hS
    have h8 := inv_ix hI
    obtain ⟨a1, a2, a3, a4, a5, a6, a7, a8⟩ := hI
    have e1 := he 1 (by omega) (by omega) (by omega)
    obtain ⟨_, t1, t2⟩ := piles_ok (show H 1 ≤ 7 by omega) a6
    have hs := t2 l (by omega)
    rw [plF_get (by omega)] at hs
    have hv := (a5 (H (19 + l)) (by omega)).1
    have hzd : zd (l + 1) = zI l := by unfold zd; rw [if_neg (by omega), Nat.add_sub_cancel]
    -- what the class's cells say
    have u1 : uF H 4 (F 4) 1 = H 1 := uF_ne _ (by omega)
    have u0 : uF H 4 (F 4) 0 = H 0 := uF_ne _ (by omega)
    have hpl : plF (uF H 4 (F 4)) = plF H := plF_uF (by omega) (by omega) (by omega)
    have at5 : ∀ (w : XW) (G : Nat → Nat), Cls w.1 1 G → G 1 = H 1 → plF G = plF H → ∀ l, l < H 1 → f_X4_sectionAt 5 (zI l) w = some (zI (H (19 + l)), w) := fun w G hC g1 g2 l hl => by
      have hs := t2 l hl
      rw [plF_get hl] at hs
      refine p_sectionAt (k := 5) (n := H 1) (L := ixL (plF H)) (by rw [← g1]; exact hC.2.2.2.2.2.1) (by omega) (fun s hs => by rw [← g2]; exact hC.2.2.2.2.2.2.1 s (by omega)) h8 hs.1 hs.2 (fun s hs2 hq => ?_)
      have := (t1 s hs2).2
      rw [hq, plF_get hl] at this
      exact this.symm
    have k5 : w.1 3 (H (19 + l)) = zI (H (5 + H (19 + l))) := by
      have := hC.2.2.2.1 (H (19 + l)) (by omega)
      rwa [uF_ne _ (by omega)] at this
    have hw0 := s_waterOf (c := H 0) (x := H (19 + l)) (u0 ▸ hC.1) a1 (by omega) k5
    rw [hzd, f_X8_moveDownPile_12, if_neg (by rw [zl_0, zI_lt (by omega) (by omega)]; omega), show (1 : Nat) + 4 = 5 from rfl, show (1 : Nat) + 1 = 2 from rfl, at5 w _ hC u1 hpl l (by omega), bI_s, hw0, bI_s, zl_20, zl_1, zm1, zd_s]
    by_cases c1 : H (5 + H (19 + l)) ≤ 20
    · rw [if_pos (by rw [zl_0, zs20_le (by omega)]; exact c1)]
      have hst : stepF H l = H := by unfold stepF; rw [if_pos c1]
      obtain ⟨w', x1, x2, x3⟩ := ih f H w ⟨⟨a1, a2, a3, a4, a5, a6, a7, a8⟩, he, h4⟩ (by omega) (by omega) hC
      refine ⟨w', ?_, x2, ?_⟩
      · rw [x1, seF, hst]
      · rw [seF, hst]; exact x3
    · rw [if_neg (by rw [zl_0, zs20_le (by omega)]; exact c1), zI_sub (by omega)]
      have hg := s_give (i := H (19 + l)) (e := H (5 + H (19 + l)) - 20) hC (by rw [u0]; exact a1) (by rw [u1]; omega) (by rw [u0]; omega) (by rw [uF_ne _ (by omega)]; omega)
      have hve : uF H 4 (F 4) (5 + H (19 + l)) - (H (5 + H (19 + l)) - 20) = 20 := by rw [uF_ne _ (by omega)]; omega
      rw [hve] at hg
      rw [hg.1, bV_s]
      by_cases c2 : l = 0
      · rw [if_pos (by rw [zl_0, zI_le (by omega) (by omega)]; omega), zI_add]
        have hst : stepF H l = uF (uF H (5 + H (19 + l)) 20) 4 (H 4 + (H (5 + H (19 + l)) - 20)) := by unfold stepF; rw [if_neg c1, if_pos c2]
        obtain ⟨w', x1, x2, x3⟩ := ih f (stepF H l) (wset w 3 (H (19 + l)) (zI 20)) hS2.1 (by omega) (by omega) (hg.2.ext (fun j hj => by
          rw [hst]
          by_cases z : j = 4
          · rw [z, uF_hit, uF_ne _ (by omega), uF_hit]
          · rw [uF_ne _ z, uF_ne _ z]
            by_cases z2 : j = 5 + H (19 + l)
            · rw [z2, uF_hit, uF_hit]
            · rw [uF_ne _ z2, uF_ne _ z2, uF_ne _ z]) (by rw [uF_ne _ (by omega), u1]; omega) (by rw [uF_ne _ (by omega), uF_ne _ (by omega)]; exact a3))
        refine ⟨w', ?_, (Fr.rf.set ⟨by omega, by omega⟩ _ _).tr x2, x3⟩
        rw [show H 4 - F 4 + (H (5 + H (19 + l)) - 20) = stepF H l 4 - F 4 by rw [hst, uF_hit]; omega]
        exact x1
      · have hs2 := t2 (l - 1) (by omega)
        rw [plF_get (by omega)] at hs2
        have v1 : uF (uF H 4 (F 4)) (5 + H (19 + l)) 20 1 = H 1 := by rw [uF_ne _ (by omega), u1]
        have v0 : uF (uF H 4 (F 4)) (5 + H (19 + l)) 20 0 = H 0 := by rw [uF_ne _ (by omega), u0]
        have vp : plF (uF (uF H 4 (F 4)) (5 + H (19 + l)) 20) = plF H := by rw [plF_uF (by omega) (by omega) (by rw [u1]; omega), hpl]
        have hb : uF (uF H 4 (F 4)) (5 + H (19 + l)) 20 (5 + H (19 + (l - 1))) = uF H (5 + H (19 + l)) 20 (5 + H (19 + (l - 1))) := by
          by_cases z : H (19 + (l - 1)) = H (19 + l)
          · rw [z, uF_hit, uF_hit]
          · rw [uF_ne _ (by omega), uF_ne _ (by omega), uF_ne _ (by omega)]
        have hb9 : uF H (5 + H (19 + l)) 20 (5 + H (19 + (l - 1))) ≤ 99 := by
          by_cases z : H (19 + (l - 1)) = H (19 + l)
          · rw [z, uF_hit]; omega
          · rw [uF_ne _ (by omega)]; exact (a5 _ (by omega)).1
        have hr := s_receive (i := H (19 + (l - 1))) (u := H (5 + H (19 + l)) - 20) hg.2 (by rw [v0]; exact a1) (by rw [v1]; omega) (by rw [v0]; omega) (by rw [hb]; exact hb9) (by omega)
        rw [hb] at hr
        have hst : stepF H l = comF (uF H (5 + H (19 + l)) 20) (H (19 + (l - 1))) (H (5 + H (19 + l)) - 20) := by unfold stepF; rw [if_neg c1, if_neg c2]
        rw [if_neg (by rw [zl_0, zI_le (by omega) (by omega)]; omega), zI_sub (show 1 ≤ l by omega), at5 _ _ hg.2 v1 vp (l - 1) (by omega), bI_s, hr.1, bI_s, zI_add]
        obtain ⟨w', x1, x2, x3⟩ := ih f (stepF H l) _ hS2.1 (by omega) (by omega) (hr.2.ext (fun j hj => by
          rw [hst]
          unfold comF
          by_cases z : j = 4
          · rw [z, uF_hit, uF_ne _ (by omega), uF_ne _ (by omega), uF_hit]
          · rw [uF_ne _ z]
            by_cases z2 : j = 5 + H (19 + (l - 1))
            · rw [z2, uF_hit, uF_hit]
            · rw [uF_ne _ z2, uF_ne _ z2, uF_ne _ z]
              by_cases z3 : j = 5 + H (19 + l)
              · rw [z3, uF_hit, uF_hit]
              · rw [uF_ne _ z3, uF_ne _ z3, uF_ne _ z]) (by rw [uF_ne _ (by omega), v1]; omega) (by rw [uF_ne _ (by omega), uF_ne _ (by omega), uF_ne _ (by omega)]; exact a3))
        refine ⟨w', ?_, ((Fr.rf.set ⟨by omega, by omega⟩ _ _).set ⟨by omega, by omega⟩ _ _).tr x2, x3⟩
        rw [show H 4 - F 4 + ovF (uF H (5 + H (19 + l)) 20 (5 + H (19 + (l - 1)))) (H (5 + H (19 + l)) - 20) = stepF H l 4 - F 4 by
          rw [hst]
          unfold comF
          rw [uF_ne _ (show 4 ≠ 5 + H (19 + (l - 1)) by omega), uF_hit, uF_ne _ (show 4 ≠ 5 + H (19 + l) by omega)]
          omega]
        exact x1
theorem Cls.self4 {h : Nat → Nat → Int32} {k : Nat} {F : Nat → Nat} (c : Cls h k F) (h1 : F 1 ≤ 7) (h2 : F 2 ≤ 10) : Cls h k (uF F 4 (F 4)) := c.ext (fun j _ => by
  by_cases z : j = 4
  · rw [z, uF_hit]
  · rw [uF_ne _ z]) h1 h2
theorem seF_le {F : Nat → Nat} (hI : Inv F) : seF (F 1) F 4 - F 4 < 1000 := by
  have h := sp_all (F 1) F ⟨hI, fun _ _ _ _ => rfl, Nat.le_refl _⟩ (Nat.le_refl _)
  have b1 := sm_bound (G := fun i => F (5 + i)) (c := 99) 7 (fun i hi => (hI.2.2.2.2.1 i hi).1)
  have e1 := h.1.2.2.2.1
  have e2 := hI.2.2.2.1
  have e3 := h.2.1 3 (by omega) (by omega) (by omega)
  omega
theorem op_seep (a b c : Int32) : OpR 11 a b c f_X11_seeps := by
  intro F hI
  have hI0 := hI
  obtain ⟨a1, a2, a3, a4, a5, a6, a7, a8⟩ := hI
  by_cases h0 : F 1 = 0
  · refine Or.inr (Or.inl ⟨3, F 0, by omega, by omega, by omega, ⟨by decide, fun e => absurd e (by decide), fun e => absurd e (by decide), fun _ => ⟨by omega, rfl⟩⟩, fun w hC => ?_, fun w hM => ⟨w, ?_, Fr.rf⟩⟩)
    · have q1 : w.1 2 0 = zI (F 0) := hC.1
      have q6 : w.1 5 0 = zI (F 1) := hC.2.2.2.2.2.1
      rw [jd_11, q6, q1, if_pos (by rw [zl_0, zI_le (by omega) (by omega)]; omega), zl_3, den_c, bI_s]
    · unfold f_X11_seeps
      rw [show Int32.toNatClampNeg 1 = 1 from rfl, show Int32.toNatClampNeg 0 = 0 from rfl, hM.at (by omega), hM.at (by omega), if_pos (by rw [h0]; rfl), zl_3, den_m, bI_s]
  · have hS : Sp F F := ⟨hI0, fun _ _ _ _ => rfl, Nat.le_refl _⟩
    have hz : zd (F 1) = zI (F 1 - 1) := by unfold zd; rw [if_neg h0]
    have hG := sp_all (F 1) F hS (Nat.le_refl _)
    refine Or.inr (Or.inr ⟨seF (F 1) F 4 - F 4, seF (F 1) F, hG.1, by rw [hG.2.1 3 (by omega) (by omega) (by omega)]; omega, seF_le hI0, ⟨fun _ h => absurd rfl h, fun e => absurd e (by decide), fun e => absurd e (by decide), fun e => absurd e (by decide), fun e => absurd e (by decide), fun e => absurd e (by decide), fun e => absurd e (by decide), fun _ => ⟨by omega, rfl, rfl⟩⟩, fun w hC => ?_, fun w hC => ?_, fun w hM => ?_⟩)
    · have q6 : w.1 5 0 = zI (F 1) := hC.2.2.2.2.2.1
      rw [jd_11, q6, if_neg (by rw [zl_0, zI_le (by omega) (by omega)]; omega), zl_0]
    · obtain ⟨w', e1, e2, e3⟩ := c_seep_loop (by omega) (F 1) 1000 F w hS (Nat.le_refl _) (by omega) (hC.self4 (by omega) a3)
      refine ⟨w', ?_, e3, e2.wk (fun a z => Or.inl (by omega))⟩
      rw [Nat.sub_self, hz] at e1
      have q6 : w.1 (1 + 4) 0 = zI (F 1) := hC.2.2.2.2.2.1
      rw [ap_11]
      unfold f_X8_moveDownPile
      rw [q6, zl_1, zI_sub (by omega), zl_0]
      exact e1
    · obtain ⟨w', e1, e2, e3⟩ := m_seep_loop (by omega) (zI (F 4)) rfl (F 1) 1000 F w hS (Nat.le_refl _) (by omega) hM
      refine ⟨w', ?_, e3, e2.wk (fun a z => Or.inl z)⟩
      rw [hz] at e1
      unfold f_X11_seeps
      rw [show Int32.toNatClampNeg 1 = 1 from rfl, show Int32.toNatClampNeg 4 = 4 from rfl, hM.at (j := 1) (by omega), hM.at (j := 4) (by omega), if_neg (by rw [zl_0, zI_inj (by omega) (by omega)]; exact h0), zl_1, zI_sub (by omega)]
      exact e1
/-! draining -/
theorem nowo : ∀ p, p < 10 → (zI p = zM) = (p = 99) := fun p hp => by
  rw [zI_zM (by omega)]
  exact propext ⟨fun z => z.elim, fun z => by omega⟩
theorem op_drain (a b c : Int32) : OpR 10 a b c f_X11_drains := by
  intro F hI
  have hI0 := hI
  obtain ⟨a1, a2, a3, a4, a5, a6, a7, a8⟩ := hI
  by_cases h0 : F 0 < 2
  · refine Or.inr (Or.inl ⟨7, F 0, by omega, by omega, by omega, ⟨by decide, fun e => absurd e (by decide), fun _ => ⟨h0, rfl, rfl⟩, fun e => absurd e (by decide)⟩, fun w hC => ?_, fun w hM => ⟨w, ?_, Fr.rf⟩⟩)
    · have q1 : w.1 (1 + 1) 0 = zI (F 0) := hC.1
      rw [jd_10]
      unfold f_X8_judgeEnds
      rw [q1, if_pos (by rw [zl_2, zI_lt (by omega) (by omega)]; exact h0), zl_7, den_c, bI_s]
    · unfold f_X11_drains
      rw [show Int32.toNatClampNeg 0 = 0 from rfl, hM.at (by omega), if_neg (by rw [zl_2, zI_le (by omega) (by omega)]; omega), zl_7, den_m, bI_s]
  · have hb : ∀ p, p < F 2 → F (26 + 4 * p) < F 0 ∧ F (27 + 4 * p) < F 0 := fun p hp => ⟨(a8 p hp).1, (a8 p hp).2.1⟩
    have hW : ∀ p, p < F 2 → F (28 + 4 * p) ≤ 20 := fun p hp => (a8 p hp).2.2.2.2.1
    have hB : ∀ p, p < F 2 → F (29 + 4 * p) ≤ 1 := fun p hp => (a8 p hp).2.2.2.2.2
    have hfl : mcF F 99 (F 0) ≤ 200 := by
      obtain ⟨⟨s, _, _, e⟩, _⟩ := mcF_spec F 99 (show 2 ≤ F 0 by omega)
      rw [e]; exact ctV_le a3 hW
    have hbk := sm_bound (G := fun p => F (29 + 4 * p)) (c := 1) (F 2) hB
    have hw5 := (a5 0 (by omega)).1
    rw [Nat.add_zero] at hw5
    obtain ⟨U, hU⟩ : ∃ U, U = minF (F 5) (mcF F 99 (F 0)) := ⟨_, rfl⟩
    obtain ⟨L, hL⟩ : ∃ L, L = minF U (sm (fun p => F (29 + 4 * p)) (F 2)) := ⟨_, rfl⟩
    have hU5 : U ≤ F 5 := by rw [hU]; unfold minF; split <;> omega
    have hLU : L ≤ U := by rw [hL]; unfold minF; split <;> omega
    have hsum := sm_uF (F := F) (i := 0) (v := F 5 - U) (by omega)
    rw [Nat.add_zero] at hsum
    have hc := inv_com (F := uF (uF F 5 (F 5 - U)) 4 (F 4 + L)) (s := F 0 - 1) (u := U - L) (by rw [uF_hit, uF_ne _ (by omega), uF_ne _ (by omega), sm_uF0 (by omega)]; omega) (fun i hi => by
      rw [uF_ne _ (by omega)]
      by_cases z : i = 0
      · subst z; rw [Nat.add_zero, uF_hit]; omega
      · rw [uF_ne _ (by omega)]; exact (a5 i hi).1) (by omega)
    have hfar : ∀ j, j ≠ 4 → ¬ (5 ≤ j ∧ j < 12) → drF F U L j = F j := fun j h2 h3 => by
      unfold drF comF
      rw [uF_ne _ (by omega), uF_ne _ (by omega), uF_ne _ (by omega), uF_ne _ (by omega)]
    have hG : Inv (drF F U L) := hI0.wat (fun j _ h3 h5 h6 => hfar j h5 h6) hc.1 (fun i hi => ⟨hc.2 i hi, fun q => by
      unfold drF comF
      rw [uF_ne _ (by omega), uF_ne _ (by omega), uF_ne _ (by omega), uF_ne _ (by omega)]
      exact ((a5 i hi).2.2 q).1⟩)
    refine Or.inr (Or.inr ⟨U, drF F U L, hG, by rw [hfar 3 (by omega) (by omega)]; omega, by omega, ⟨fun h => absurd rfl h, fun e => absurd e (by decide), fun e => absurd e (by decide), fun e => absurd e (by decide), fun e => absurd e (by decide), fun e => absurd e (by decide), fun _ => ⟨by omega, hU, L, hLU, rfl⟩, fun e => absurd e (by decide)⟩, fun w hC => ?_, fun w hC => ?_, fun w hM => ?_⟩)
    · have q1 : w.1 (1 + 1) 0 = zI (F 0) := hC.1
      rw [jd_10]
      unfold f_X8_judgeEnds
      rw [q1, if_neg (by rw [zl_2, zI_lt (by omega) (by omega)]; exact h0), zl_0]
    · obtain ⟨w1, e1, e2, e3⟩ := g_greatest (y := zM) (wo := 99) a1 (by omega) (hC.pp hI0) nowo hb hW
      have hC1 : Cls w1.1 1 F := hC.fr e2 (fun a h1 h2 => by omega)
      have q1 : w.1 2 0 = zI (F 0) := hC.1
      have hw0 := s_waterOf (w := w1) (x := 0) hC1.1 a1 (by omega) (hC1.2.2.2.1 0 (by omega))
      rw [Nat.add_zero] at hw0
      have hcnt := i_count hC1.2.2.2.2.2.2.2.1 a3 (B := fun p => F (29 + 4 * p)) (fun p hp => ⟨(hC1.2.2.2.2.2.2.2.2.1 p hp).2.2.2, hB p hp⟩)
      have hmin1 : (if zI (mcF F 99 (F 0)) < zI (F 5) then zI (mcF F 99 (F 0)) else zI (F 5)) = zI U := by
        rw [zI_min (by omega) (by omega), hU]; rfl
      have hmin2 : (if zI U < zI (sm (fun p => F (29 + 4 * p)) (F 2)) then zI U else zI (sm (fun p => F (29 + 4 * p)) (F 2))) = zI L := by
        rw [zI_min (by omega) (by omega), hL]; unfold minF
        congr 1
        split <;> split <;> omega
      have hg := s_give (i := 0) (e := U) hC1 a1 (by omega) (by omega) hU5
      rw [Nat.add_zero] at hg
      have k0 : uF F 5 (F 5 - U) 0 = F 0 := uF_ne _ (by omega)
      have kl : uF F 5 (F 5 - U) (5 + (F 0 - 1)) = F (5 + (F 0 - 1)) := uF_ne _ (by omega)
      have hr := s_receive (i := F 0 - 1) (u := U - L) hg.2 (by rw [k0]; exact a1) (by rw [uF_ne _ (by omega)]; omega) (by rw [k0]; omega) (by rw [kl]; exact (a5 _ (by omega)).1) (by omega)
      have hk := s_leak (u := L + ovF (uF F 5 (F 5 - U) (5 + (F 0 - 1))) (U - L)) hr.2 (by rw [uF_ne _ (by omega), uF_ne _ (by omega)]; omega)
      rw [uF_ne _ (show 4 ≠ 5 + (F 0 - 1) by omega), uF_ne _ (show 4 ≠ 5 by omega)] at hk
      refine ⟨_, ?_, hk.2.ext (fun j hj => ?_) ?_ ?_, (e2.wk (fun a z => Or.inr z)).tr (((Fr.rf.set (Or.inl ⟨by omega, by omega⟩) _ _).set (Or.inl ⟨by omega, by omega⟩) _ _).set (Or.inl ⟨by omega, by omega⟩) _ _)⟩
      · rw [ap_10, q1, zl_1, zm1, e1, bI_s]
        unfold f_X8_moveAlongPipes
        have q1' : (wset w1 3 0 (zI (F 5 - U))).1 2 0 = zI (F 0) := by
          rw [wset_at, if_neg (by omega)]; exact hC1.1
        rw [show (1 : Nat) + 1 = 2 from rfl, show (1 : Nat) + 6 = 7 from rfl, zl_0, hw0, bI_s, hcnt, bI_s, hmin1, hg.1, bV_s, hmin2, q1', zl_1, zI_sub (by omega), zI_sub hLU, hr.1, bI_s, zI_add, hk.1, bV_s, bI_s]
      · unfold drF comF
        have hvv : uF (uF F 5 (F 5 - U)) 4 (F 4 + L) (5 + (F 0 - 1)) = uF F 5 (F 5 - U) (5 + (F 0 - 1)) := uF_ne _ (by omega)
        rw [hvv, uF_hit]
        by_cases z : j = 4
        · rw [z]; simp (disch := omega) only [uF_hit, uF_ne]; omega
        · rw [uF_ne _ z]
          by_cases z2 : j = 5 + (F 0 - 1)
          · rw [z2, uF_hit, uF_hit]
          · rw [uF_ne _ z2, uF_ne _ z2, uF_ne _ z, uF_ne _ z]
      · rw [uF_ne _ (by omega), uF_ne _ (by omega), uF_ne _ (by omega)]; omega
      · rw [uF_ne _ (by omega), uF_ne _ (by omega), uF_ne _ (by omega)]; exact a3
    · have hM5 := hM.at (j := 5) (by omega)
      have hM4 := hM.at (j := 4) (by omega)
      have hM0 := hM.at (j := 0) (by omega)
      have hct := m_cut (wo := 99) (y := zM) a1 (by omega) hM a3 nowo (fun p hp => ⟨by have := hb p hp; omega, by have := hb p hp; omega, hW p hp, hB p hp⟩)
      have hbr := m_brk hM a3
      have hM2 := (hM.set 5 (F 5 - U)).set 4 (F 4 + L)
      obtain ⟨w1, x1, x2, x3⟩ := m_comes (s := F 0 - 1) (u := U - L) hM2 (by omega) (by rw [uF_ne _ (by omega), uF_ne _ (by omega)]; exact (a5 _ (by omega)).1) (by omega)
      refine ⟨w1, ?_, x3, ((fr1 _ _).tr ((fr1 _ _).tr x2)).wk (fun a z => Or.inl z)⟩
      have e4 : (wset w 142 5 (zI (F 5 - U))).1 142 4 = zI (F 4) := by rw [wset_at, if_neg (by omega)]; exact hM4
      unfold f_X11_drains
      rw [show Int32.toNatClampNeg 0 = 0 from rfl, show Int32.toNatClampNeg 5 = 5 from rfl, show Int32.toNatClampNeg 4 = 4 from rfl, hM0, if_pos (by rw [zl_2, zI_le (by omega) (by omega)]; omega), zl_1, zm1, hct, bI_s, hM5, zI_sub (show 1 ≤ F 0 by omega), hbr, bI_s, bI_s]
      by_cases c1 : mcF F 99 (F 0) ≤ F 5
      · have hUe : U = mcF F 99 (F 0) := by rw [hU]; unfold minF; split <;> omega
        rw [← hUe] at c1 ⊢
        rw [if_pos (by rw [zI_le (by omega) (by omega)]; exact c1)]
        by_cases c2 : U ≤ sm (fun p => F (29 + 4 * p)) (F 2)
        · have hLe : L = U := by rw [hL]; unfold minF; split <;> omega
          rw [if_pos (by rw [zI_le (by omega) (by omega)]; exact c2), hM5, zI_sub hU5, e4, zI_add, zI_sub (Nat.le_refl U)]
          rw [hLe] at x1
          rw [x1, bV_s, don_m, bI_s]
        · have hLe : L = sm (fun p => F (29 + 4 * p)) (F 2) := by rw [hL]; unfold minF; split <;> omega
          rw [if_neg (by rw [zI_le (by omega) (by omega)]; exact c2), hbr, bI_s, hM5, zI_sub hU5, e4, zI_add, ← hLe, zI_sub hLU, x1, bV_s, don_m, bI_s]
      · have hUe : U = F 5 := by rw [hU]; unfold minF; split <;> omega
        rw [if_neg (by rw [zI_le (by omega) (by omega)]; exact c1)]
        have e5 : (wset w 142 5 (zI (F 5 - F 5))).1 142 4 = zI (F 4) := by rw [wset_at, if_neg (by omega)]; exact hM4
        rw [hUe] at x1 hL hLU
        by_cases c2 : F 5 ≤ sm (fun p => F (29 + 4 * p)) (F 2)
        · have hLe : L = F 5 := by rw [hL]; unfold minF; split <;> omega
          rw [if_pos (by rw [zI_le (by omega) (by omega)]; exact c2), zI_sub (Nat.le_refl _), hM5, zI_sub (Nat.le_refl _), e5, zI_add]
          rw [hLe] at x1
          rw [x1, bV_s, don_m, bI_s, hUe]
        · have hLe : L = sm (fun p => F (29 + 4 * p)) (F 2) := by rw [hL]; unfold minF; split <;> omega
          rw [if_neg (by rw [zI_le (by omega) (by omega)]; exact c2), hbr, bI_s, hM5, zI_sub (Nat.le_refl _), e5, zI_add, ← hLe, zI_sub hLU, x1, bV_s, don_m, bI_s, hUe]
