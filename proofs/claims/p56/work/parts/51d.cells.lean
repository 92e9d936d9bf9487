/-! What a State of the class and a frame of the reference say of one and the same row of 66 numbers F: 0 sections, 1 folded, 2 pipes, 3 poured, 4 leaked, 5.. water, 12.. terms, 19.. pile, 26.. pipes -/
def plL (F : Nat → Nat) : Nat → Nat → List Nat
  | 0, _ => []
  | k + 1, l => F (19 + l) :: plL F k (l + 1)
def plF (F : Nat → Nat) : List Nat := plL F (F 1) 0
theorem plL_get (F : Nat → Nat) : ∀ (k l j : Nat), j < k → gtL (plL F k l) j = F (19 + (l + j)) := by
  intro k
  induction k with
  | zero => intro l j h; omega
  | succ k ih =>
    intro l j h
    cases j with
    | zero => rfl
    | succ j => rw [plL, gtL, ih _ _ (by omega)]; congr 1; omega
theorem plF_get {F : Nat → Nat} {j : Nat} (h : j < F 1) : gtL (plF F) j = F (19 + j) := by
  unfold plF
  rw [plL_get F _ _ _ h, Nat.zero_add]
theorem plL_ext {F : Nat → Nat} : ∀ (k l : Nat) (P : List Nat), P.length = k → (∀ j, j < k → gtL P j = F (19 + (l + j))) → plL F k l = P := by
  intro k
  induction k with
  | zero => intro l P h _; rw [List.eq_nil_of_length_eq_zero h]; rfl
  | succ k ih =>
    intro l P h hj
    cases P with
    | nil => cases h
    | cons p P =>
      rw [plL]
      have h0 := hj 0 (by omega)
      have h1 := ih (l + 1) P (by simpa using h) (fun j hk => by
        have := hj (j + 1) (by omega)
        rw [show l + 1 + j = l + (j + 1) by omega]
        exact this)
      rw [h1]
      exact congrArg (· :: P) h0.symm
theorem plF_ext {F : Nat → Nat} {P : List Nat} (h : P.length = F 1) (hj : ∀ j, j < F 1 → F (19 + j) = gtL P j) : plF F = P :=
  plL_ext _ _ P h (fun j hk => by rw [Nat.zero_add]; exact (hj j hk).symm)
def Cls (h : Nat → Nat → Int32) (k : Nat) (F : Nat → Nat) : Prop := h (k + 1) 0 = zI (F 0) ∧ h (k + 1) 1 = zI (F 3) ∧ h (k + 1) 2 = zI (F 4) ∧ (∀ i, i < 7 → h (k + 2) i = zI (F (5 + i))) ∧ (∀ i, i < 7 → h (k + 3) i = zI (F (12 + i))) ∧ h (k + 4) 0 = zI (F 1) ∧ (∀ s, s < F 1 → h (k + 5) s = zI (ixL (plF F) s)) ∧ h (k + 6) 0 = zI (F 2) ∧ (∀ p, p < F 2 → h (k + 7) p = zI (F (26 + 4 * p)) ∧ h (k + 8) p = zI (F (27 + 4 * p)) ∧ h (k + 9) p = zI (F (28 + 4 * p)) ∧ h (k + 10) p = zI (F (29 + 4 * p))) ∧ (∀ p, p < 10 → h (k + 10) p = zI 0 ∨ h (k + 10) p = zI 1)
def Mo (h : Nat → Nat → Int32) (a o : Nat) (F : Nat → Nat) : Prop := ∀ j, j < 66 → h a (o + j) = zI (F j)
def Inv (F : Nat → Nat) : Prop := F 0 ≤ 7 ∧ F 1 ≤ F 0 ∧ F 2 ≤ 10 ∧ F 3 = F 4 + sm (fun i => F (5 + i)) 7 ∧ (∀ i, i < 7 → F (5 + i) ≤ 99 ∧ F (12 + i) < 256 ∧ (F 0 ≤ i → F (5 + i) = 0 ∧ F (12 + i) = 0)) ∧ plF F ∈ piles (F 1) ∧ (∀ j, j < 7 → F 1 ≤ j → F (19 + j) = 0) ∧ (∀ p, p < F 2 → F (26 + 4 * p) < F 0 ∧ F (27 + 4 * p) < F 0 ∧ F (26 + 4 * p) ≠ F (27 + 4 * p) ∧ 1 ≤ F (28 + 4 * p) ∧ F (28 + 4 * p) ≤ 20 ∧ F (29 + 4 * p) ≤ 1)
theorem Mo.at {h : Nat → Nat → Int32} {a : Nat} {F : Nat → Nat} (q : Mo h a 0 F) {j : Nat} (hj : j < 66) : h a j = zI (F j) := by
  have := q j hj
  rwa [Nat.zero_add] at this
theorem Mo.fr {w w' : XW} {P : Nat → Prop} {a o : Nat} {F : Nat → Nat} (q : Mo w.1 a o F) (h : Fr P w w') (ha : ¬ P a) : Mo w'.1 a o F := fun j hj => (h.at ha _).trans (q j hj)
theorem Cls.fr {w w' : XW} {P : Nat → Prop} {k : Nat} {F : Nat → Nat} (q : Cls w.1 k F) (h : Fr P w w') (ha : ∀ a, k ≤ a → a ≤ k + 10 → ¬ P a) : Cls w'.1 k F := by
  obtain ⟨q1, q2, q3, q4, q5, q6, q7, q8, q9, q10⟩ := q
  have e : ∀ j, j ≤ 10 → ∀ c, w'.1 (k + j) c = w.1 (k + j) c := fun j hj c => h.at (ha _ (by omega) (by omega)) c
  refine ⟨?_, ?_, ?_, fun i hi => ?_, fun i hi => ?_, ?_, fun s hs => ?_, ?_, fun p hp => ?_, fun p hp => ?_⟩
  · rw [e 1 (by omega)]; exact q1
  · rw [e 1 (by omega)]; exact q2
  · rw [e 1 (by omega)]; exact q3
  · rw [e 2 (by omega)]; exact q4 i hi
  · rw [e 3 (by omega)]; exact q5 i hi
  · rw [e 4 (by omega)]; exact q6
  · rw [e 5 (by omega)]; exact q7 s hs
  · rw [e 6 (by omega)]; exact q8
  · rw [e 7 (by omega), e 8 (by omega), e 9 (by omega), e 10 (by omega)]; exact q9 p hp
  · rw [e 10 (by omega)]; exact q10 p hp
/-! bits of small numbers -/
def pcB (v : Nat) : Nat := sm (bt v) 8
theorem pcB_le (v : Nat) : pcB v ≤ 8 := by
  have h : sm (bt v) 8 ≤ sm (fun _ => 1) 8 := sm_le fun k _ => by show v / 2 ^ k % 2 ≤ 1; omega
  exact h
theorem bt_01 (v t : Nat) : bt v t = 0 ∨ bt v t = 1 := by unfold bt; omega
theorem br_andB : ∀ v, v < 256 → ∀ t, t < 8 → (zI v &&& zI (2 ^ t)) = zI (2 ^ t * bt v t) := by decide +kernel
theorem br_orB : ∀ v, v < 256 → ∀ t, t < 8 → bt v t = 0 → (zI v ||| zI (2 ^ t)) = zI (v + 2 ^ t) ∧ (zI v ^^^ zI (2 ^ t)) = zI (v + 2 ^ t) ∧ v + 2 ^ t < 256 := by decide +kernel
theorem br_anB : ∀ v, v < 256 → ∀ t, t < 8 → bt v t = 1 → (zI v &&& (zI (2 ^ t) ^^^ zM)) = zI (v - 2 ^ t) ∧ (zI v ^^^ zI (2 ^ t)) = zI (v - 2 ^ t) ∧ v - 2 ^ t < 256 := by decide +kernel
theorem br_shrB : ∀ v, v < 256 → ∀ t, t < 8 → ((zI v >>> (zI t &&& zI 31)) &&& zI 1) = zI (bt v t) := by decide +kernel
theorem br_shlB : ∀ t, t < 8 → (zI 1 <<< (zI t &&& zI 31)) = zI (2 ^ t) ∧ 2 ^ t < 256 := by decide +kernel
def bcE (x : Int32) : Int32 := ((f_J6_bitCount_0f7a4 x (fun _ _ => 0, fun _ => 0)).map Prod.fst).getD 0
theorem bcE_B : ∀ v, v < 256 → bcE (zI v) = zI (pcB v) := by decide +kernel
theorem z_bitCount {v : Nat} (hv : v < 256) (w : XW) : f_J6_bitCount_0f7a4 (zI v) w = some (zI (pcB v), w) := by
  rw [← bcE_B v hv]
  rfl
/-! the strip: cell 2, its water 3, its terms 4 -/
section
variable {w : XW} {c x y : Nat}
theorem s_hasT (hc : w.1 2 0 = zI c) (h7 : c ≤ 7) (hx : x < c) : f_X9_has 2 (zI x) w = some (zI 1, w) := by
  unfold f_X9_has
  simp (disch := omega) only [hc, zl_0, zl_1, zl_2, zl_3, zl_4, zl_5, zl_6, zl_7, zl_8, zl_9, zl_10, zl_11, zl_12, zl_13, zl_14, zl_15, zl_16, zl_17, zl_18, zl_19, zl_20, zl_21, zl_22, zl_23, zl_24, zl_25, zl_26, zl_27, zl_28, zl_29, zl_30, zl_31, zl_32, zl_33, zl_34, zl_35, zl_36, zl_37, zl_38, zl_39, zl_40, zl_41, zl_42, zl_43, zl_44, zl_45, zl_46, zl_47, zl_48, zl_49, zl_50, zl_51, zl_52, zl_53, zl_54, zl_55, zl_56, zl_57, zl_58, zl_59, zl_60, zl_61, zl_62, zl_63, zl_64, zl_65, zl_66, zl_67, zl_68, zl_69, zl_70, zl_71, zl_72, zl_73, zl_74, zl_75, zl_76, zl_77, zl_78, zl_79, zl_80, zl_81, zl_82, zl_83, zl_84, zl_85, zl_86, zl_87, zl_88, zl_89, zl_90, zl_91, zl_92, zl_93, zl_94, zl_95, zl_96, zl_97, zl_98, zl_99, zl_100, zl_101, zl_102, zl_103, zl_104, zl_105, zl_106, zl_107, zl_108, zl_109, zl_110, zl_111, zl_112, zl_113, zl_114, zl_115, zl_116, zl_117, zl_118, zl_119, zl_120, zl_121, zl_122, zl_123, zl_124, zl_125, zl_126, zl_127, zl_128, zl_180, zl_200, zl_240, zl_462, zl_528, zm1, zI_add, zI_mul, zI_sub, zI_addneg, zI_lt, zI_le, zI_inj, zI_nat, zI_zM, zM_zI, zM_lt, lt_zM, zM_le, le_zM, zM_leM, zM_ltM, inB_z, bI_s, bV_s, bIX_s, bVX_s, bIX_x, bVX_x, if_true, if_false, ↓reduceIte, nar0z, nar1z, Nat.not_lt_zero, Nat.zero_le, Nat.le_zero_eq, not_true_eq_false, not_false_eq_true, false_and, and_false, true_and, and_true, and_self, wset_at, Nat.le_refl, Nat.reduceAdd, Nat.reduceSub, Nat.reduceMul, Nat.reduceDiv, Nat.reduceMod, Nat.reduceEqDiff, Nat.reduceLT, Nat.add_sub_cancel, Nat.reducePow, Nat.reduceLeDiff]
  simp only [Nat.not_le.mpr hx, if_false]
theorem s_hasF (hc : w.1 2 0 = zI c) (h7 : c ≤ 7) (h31 : x < 2147483648) (hx : c ≤ x) : f_X9_has 2 (zI x) w = some (zI 0, w) := by
  unfold f_X9_has
  simp (disch := omega) only [hc, zl_0, zl_1, zl_2, zl_3, zl_4, zl_5, zl_6, zl_7, zl_8, zl_9, zl_10, zl_11, zl_12, zl_13, zl_14, zl_15, zl_16, zl_17, zl_18, zl_19, zl_20, zl_21, zl_22, zl_23, zl_24, zl_25, zl_26, zl_27, zl_28, zl_29, zl_30, zl_31, zl_32, zl_33, zl_34, zl_35, zl_36, zl_37, zl_38, zl_39, zl_40, zl_41, zl_42, zl_43, zl_44, zl_45, zl_46, zl_47, zl_48, zl_49, zl_50, zl_51, zl_52, zl_53, zl_54, zl_55, zl_56, zl_57, zl_58, zl_59, zl_60, zl_61, zl_62, zl_63, zl_64, zl_65, zl_66, zl_67, zl_68, zl_69, zl_70, zl_71, zl_72, zl_73, zl_74, zl_75, zl_76, zl_77, zl_78, zl_79, zl_80, zl_81, zl_82, zl_83, zl_84, zl_85, zl_86, zl_87, zl_88, zl_89, zl_90, zl_91, zl_92, zl_93, zl_94, zl_95, zl_96, zl_97, zl_98, zl_99, zl_100, zl_101, zl_102, zl_103, zl_104, zl_105, zl_106, zl_107, zl_108, zl_109, zl_110, zl_111, zl_112, zl_113, zl_114, zl_115, zl_116, zl_117, zl_118, zl_119, zl_120, zl_121, zl_122, zl_123, zl_124, zl_125, zl_126, zl_127, zl_128, zl_180, zl_200, zl_240, zl_462, zl_528, zm1, zI_add, zI_mul, zI_sub, zI_addneg, zI_lt, zI_le, zI_inj, zI_nat, zI_zM, zM_zI, zM_lt, lt_zM, zM_le, le_zM, zM_leM, zM_ltM, inB_z, bI_s, bV_s, bIX_s, bVX_s, bIX_x, bVX_x, if_true, if_false, ↓reduceIte, nar0z, nar1z, Nat.not_lt_zero, Nat.zero_le, Nat.le_zero_eq, not_true_eq_false, not_false_eq_true, false_and, and_false, true_and, and_true, and_self, wset_at, Nat.le_refl, Nat.reduceAdd, Nat.reduceSub, Nat.reduceMul, Nat.reduceDiv, Nat.reduceMod, Nat.reduceEqDiff, Nat.reduceLT, Nat.add_sub_cancel, Nat.reducePow, Nat.reduceLeDiff]
  simp only [hx, if_true]
theorem s_hasN {x : Int32} (hx : x < 0) : f_X9_has 2 x w = some (zI 0, w) := by
  unfold f_X9_has
  rw [if_pos hx]
  rfl
theorem s_waterOf (hc : w.1 2 0 = zI c) (h7 : c ≤ 7) (hx : x < c) (hu : w.1 3 x = zI y) : f_X9_waterOf 2 (zI x) w = some (zI y, w) := by
  unfold f_X9_waterOf
  simp (disch := omega) only [s_hasT hc h7 hx, zl_0, zl_1, zl_2, zl_3, zl_4, zl_5, zl_6, zl_7, zl_8, zl_9, zl_10, zl_11, zl_12, zl_13, zl_14, zl_15, zl_16, zl_17, zl_18, zl_19, zl_20, zl_21, zl_22, zl_23, zl_24, zl_25, zl_26, zl_27, zl_28, zl_29, zl_30, zl_31, zl_32, zl_33, zl_34, zl_35, zl_36, zl_37, zl_38, zl_39, zl_40, zl_41, zl_42, zl_43, zl_44, zl_45, zl_46, zl_47, zl_48, zl_49, zl_50, zl_51, zl_52, zl_53, zl_54, zl_55, zl_56, zl_57, zl_58, zl_59, zl_60, zl_61, zl_62, zl_63, zl_64, zl_65, zl_66, zl_67, zl_68, zl_69, zl_70, zl_71, zl_72, zl_73, zl_74, zl_75, zl_76, zl_77, zl_78, zl_79, zl_80, zl_81, zl_82, zl_83, zl_84, zl_85, zl_86, zl_87, zl_88, zl_89, zl_90, zl_91, zl_92, zl_93, zl_94, zl_95, zl_96, zl_97, zl_98, zl_99, zl_100, zl_101, zl_102, zl_103, zl_104, zl_105, zl_106, zl_107, zl_108, zl_109, zl_110, zl_111, zl_112, zl_113, zl_114, zl_115, zl_116, zl_117, zl_118, zl_119, zl_120, zl_121, zl_122, zl_123, zl_124, zl_125, zl_126, zl_127, zl_128, zl_180, zl_200, zl_240, zl_462, zl_528, zm1, zI_add, zI_mul, zI_sub, zI_addneg, zI_lt, zI_le, zI_inj, zI_nat, zI_zM, zM_zI, zM_lt, lt_zM, zM_le, le_zM, zM_leM, zM_ltM, inB_z, bI_s, bV_s, bIX_s, bVX_s, bIX_x, bVX_x, if_true, if_false, ↓reduceIte, nar0z, nar1z, Nat.not_lt_zero, Nat.zero_le, Nat.le_zero_eq, not_true_eq_false, not_false_eq_true, false_and, and_false, true_and, and_true, and_self, wset_at, Nat.le_refl, Nat.reduceAdd, Nat.reduceSub, Nat.reduceMul, Nat.reduceDiv, Nat.reduceMod, Nat.reduceEqDiff, Nat.reduceLT, Nat.add_sub_cancel, Nat.reducePow, Nat.reduceLeDiff]
  simp (disch := omega) [hu, show x < 7 by omega]
theorem s_isTermT {t : Nat} (ht : t < 8) : f_X9_isTerm (zI (97 + t)) w = some (zI 1, w) := by
  unfold f_X9_isTerm
  simp (disch := omega) only [zl_0, zl_1, zl_2, zl_3, zl_4, zl_5, zl_6, zl_7, zl_8, zl_9, zl_10, zl_11, zl_12, zl_13, zl_14, zl_15, zl_16, zl_17, zl_18, zl_19, zl_20, zl_21, zl_22, zl_23, zl_24, zl_25, zl_26, zl_27, zl_28, zl_29, zl_30, zl_31, zl_32, zl_33, zl_34, zl_35, zl_36, zl_37, zl_38, zl_39, zl_40, zl_41, zl_42, zl_43, zl_44, zl_45, zl_46, zl_47, zl_48, zl_49, zl_50, zl_51, zl_52, zl_53, zl_54, zl_55, zl_56, zl_57, zl_58, zl_59, zl_60, zl_61, zl_62, zl_63, zl_64, zl_65, zl_66, zl_67, zl_68, zl_69, zl_70, zl_71, zl_72, zl_73, zl_74, zl_75, zl_76, zl_77, zl_78, zl_79, zl_80, zl_81, zl_82, zl_83, zl_84, zl_85, zl_86, zl_87, zl_88, zl_89, zl_90, zl_91, zl_92, zl_93, zl_94, zl_95, zl_96, zl_97, zl_98, zl_99, zl_100, zl_101, zl_102, zl_103, zl_104, zl_105, zl_106, zl_107, zl_108, zl_109, zl_110, zl_111, zl_112, zl_113, zl_114, zl_115, zl_116, zl_117, zl_118, zl_119, zl_120, zl_121, zl_122, zl_123, zl_124, zl_125, zl_126, zl_127, zl_128, zl_180, zl_200, zl_240, zl_462, zl_528, zm1, zI_add, zI_mul, zI_sub, zI_addneg, zI_lt, zI_le, zI_inj, zI_nat, zI_zM, zM_zI, zM_lt, lt_zM, zM_le, le_zM, zM_leM, zM_ltM, inB_z, bI_s, bV_s, bIX_s, bVX_s, bIX_x, bVX_x, if_true, if_false, ↓reduceIte, nar0z, nar1z, Nat.not_lt_zero, Nat.zero_le, Nat.le_zero_eq, not_true_eq_false, not_false_eq_true, false_and, and_false, true_and, and_true, and_self, wset_at, Nat.le_refl, Nat.reduceAdd, Nat.reduceSub, Nat.reduceMul, Nat.reduceDiv, Nat.reduceMod, Nat.reduceEqDiff, Nat.reduceLT, Nat.add_sub_cancel, Nat.reducePow, Nat.reduceLeDiff]
  simp [show ¬ 97 + t < 97 by omega, show ¬ 104 < 97 + t by omega]
theorem s_isTermF {x : Nat} (h31 : x < 2147483648) (hx : x < 97 ∨ 104 < x) : f_X9_isTerm (zI x) w = some (zI 0, w) := by
  unfold f_X9_isTerm
  simp (disch := omega) only [zl_0, zl_1, zl_2, zl_3, zl_4, zl_5, zl_6, zl_7, zl_8, zl_9, zl_10, zl_11, zl_12, zl_13, zl_14, zl_15, zl_16, zl_17, zl_18, zl_19, zl_20, zl_21, zl_22, zl_23, zl_24, zl_25, zl_26, zl_27, zl_28, zl_29, zl_30, zl_31, zl_32, zl_33, zl_34, zl_35, zl_36, zl_37, zl_38, zl_39, zl_40, zl_41, zl_42, zl_43, zl_44, zl_45, zl_46, zl_47, zl_48, zl_49, zl_50, zl_51, zl_52, zl_53, zl_54, zl_55, zl_56, zl_57, zl_58, zl_59, zl_60, zl_61, zl_62, zl_63, zl_64, zl_65, zl_66, zl_67, zl_68, zl_69, zl_70, zl_71, zl_72, zl_73, zl_74, zl_75, zl_76, zl_77, zl_78, zl_79, zl_80, zl_81, zl_82, zl_83, zl_84, zl_85, zl_86, zl_87, zl_88, zl_89, zl_90, zl_91, zl_92, zl_93, zl_94, zl_95, zl_96, zl_97, zl_98, zl_99, zl_100, zl_101, zl_102, zl_103, zl_104, zl_105, zl_106, zl_107, zl_108, zl_109, zl_110, zl_111, zl_112, zl_113, zl_114, zl_115, zl_116, zl_117, zl_118, zl_119, zl_120, zl_121, zl_122, zl_123, zl_124, zl_125, zl_126, zl_127, zl_128, zl_180, zl_200, zl_240, zl_462, zl_528, zm1, zI_add, zI_mul, zI_sub, zI_addneg, zI_lt, zI_le, zI_inj, zI_nat, zI_zM, zM_zI, zM_lt, lt_zM, zM_le, le_zM, zM_leM, zM_ltM, inB_z, bI_s, bV_s, bIX_s, bVX_s, bIX_x, bVX_x, if_true, if_false, ↓reduceIte, nar0z, nar1z, Nat.not_lt_zero, Nat.zero_le, Nat.le_zero_eq, not_true_eq_false, not_false_eq_true, false_and, and_false, true_and, and_true, and_self, wset_at, Nat.le_refl, Nat.reduceAdd, Nat.reduceSub, Nat.reduceMul, Nat.reduceDiv, Nat.reduceMod, Nat.reduceEqDiff, Nat.reduceLT, Nat.add_sub_cancel, Nat.reducePow, Nat.reduceLeDiff]
  by_cases h : x < 97
  · simp [h]
  · simp [h, show 104 < x by omega]
theorem s_bitOf {t : Nat} (ht : t < 8) : f_X9_bitOf (zI (97 + t)) w = some (zI (2 ^ t), w) := by
  unfold f_X9_bitOf
  simp (disch := omega) only [s_isTermT ht, zl_0, zl_1, zl_2, zl_3, zl_4, zl_5, zl_6, zl_7, zl_8, zl_9, zl_10, zl_11, zl_12, zl_13, zl_14, zl_15, zl_16, zl_17, zl_18, zl_19, zl_20, zl_21, zl_22, zl_23, zl_24, zl_25, zl_26, zl_27, zl_28, zl_29, zl_30, zl_31, zl_32, zl_33, zl_34, zl_35, zl_36, zl_37, zl_38, zl_39, zl_40, zl_41, zl_42, zl_43, zl_44, zl_45, zl_46, zl_47, zl_48, zl_49, zl_50, zl_51, zl_52, zl_53, zl_54, zl_55, zl_56, zl_57, zl_58, zl_59, zl_60, zl_61, zl_62, zl_63, zl_64, zl_65, zl_66, zl_67, zl_68, zl_69, zl_70, zl_71, zl_72, zl_73, zl_74, zl_75, zl_76, zl_77, zl_78, zl_79, zl_80, zl_81, zl_82, zl_83, zl_84, zl_85, zl_86, zl_87, zl_88, zl_89, zl_90, zl_91, zl_92, zl_93, zl_94, zl_95, zl_96, zl_97, zl_98, zl_99, zl_100, zl_101, zl_102, zl_103, zl_104, zl_105, zl_106, zl_107, zl_108, zl_109, zl_110, zl_111, zl_112, zl_113, zl_114, zl_115, zl_116, zl_117, zl_118, zl_119, zl_120, zl_121, zl_122, zl_123, zl_124, zl_125, zl_126, zl_127, zl_128, zl_180, zl_200, zl_240, zl_462, zl_528, zm1, zI_add, zI_mul, zI_sub, zI_addneg, zI_lt, zI_le, zI_inj, zI_nat, zI_zM, zM_zI, zM_lt, lt_zM, zM_le, le_zM, zM_leM, zM_ltM, inB_z, bI_s, bV_s, bIX_s, bVX_s, bIX_x, bVX_x, if_true, if_false, ↓reduceIte, nar0z, nar1z, Nat.not_lt_zero, Nat.zero_le, Nat.le_zero_eq, not_true_eq_false, not_false_eq_true, false_and, and_false, true_and, and_true, and_self, wset_at, Nat.le_refl, Nat.reduceAdd, Nat.reduceSub, Nat.reduceMul, Nat.reduceDiv, Nat.reduceMod, Nat.reduceEqDiff, Nat.reduceLT, Nat.add_sub_cancel, Nat.reducePow, Nat.reduceLeDiff]
  simp [(br_shlB t ht).1]
theorem s_bears {t : Nat} (hc : w.1 2 0 = zI c) (h7 : c ≤ 7) (hx : x < c) (hy : y < 256) (hu : w.1 4 x = zI y) (ht : t < 8) : f_X9_bears 2 (zI x) (zI (97 + t)) w = some (zI (bt y t), w) := by
  unfold f_X9_bears
  simp (disch := omega) only [s_hasT hc h7 hx, s_bitOf ht, hu, br_andB y hy t ht, zl_0, zl_1, zl_2, zl_3, zl_4, zl_5, zl_6, zl_7, zl_8, zl_9, zl_10, zl_11, zl_12, zl_13, zl_14, zl_15, zl_16, zl_17, zl_18, zl_19, zl_20, zl_21, zl_22, zl_23, zl_24, zl_25, zl_26, zl_27, zl_28, zl_29, zl_30, zl_31, zl_32, zl_33, zl_34, zl_35, zl_36, zl_37, zl_38, zl_39, zl_40, zl_41, zl_42, zl_43, zl_44, zl_45, zl_46, zl_47, zl_48, zl_49, zl_50, zl_51, zl_52, zl_53, zl_54, zl_55, zl_56, zl_57, zl_58, zl_59, zl_60, zl_61, zl_62, zl_63, zl_64, zl_65, zl_66, zl_67, zl_68, zl_69, zl_70, zl_71, zl_72, zl_73, zl_74, zl_75, zl_76, zl_77, zl_78, zl_79, zl_80, zl_81, zl_82, zl_83, zl_84, zl_85, zl_86, zl_87, zl_88, zl_89, zl_90, zl_91, zl_92, zl_93, zl_94, zl_95, zl_96, zl_97, zl_98, zl_99, zl_100, zl_101, zl_102, zl_103, zl_104, zl_105, zl_106, zl_107, zl_108, zl_109, zl_110, zl_111, zl_112, zl_113, zl_114, zl_115, zl_116, zl_117, zl_118, zl_119, zl_120, zl_121, zl_122, zl_123, zl_124, zl_125, zl_126, zl_127, zl_128, zl_180, zl_200, zl_240, zl_462, zl_528, zm1, zI_add, zI_mul, zI_sub, zI_addneg, zI_lt, zI_le, zI_inj, zI_nat, zI_zM, zM_zI, zM_lt, lt_zM, zM_le, le_zM, zM_leM, zM_ltM, inB_z, bI_s, bV_s, bIX_s, bVX_s, bIX_x, bVX_x, if_true, if_false, ↓reduceIte, nar0z, nar1z, Nat.not_lt_zero, Nat.zero_le, Nat.le_zero_eq, not_true_eq_false, not_false_eq_true, false_and, and_false, true_and, and_true, and_self, wset_at, Nat.le_refl, Nat.reduceAdd, Nat.reduceSub, Nat.reduceMul, Nat.reduceDiv, Nat.reduceMod, Nat.reduceEqDiff, Nat.reduceLT, Nat.add_sub_cancel, Nat.reducePow, Nat.reduceLeDiff]
  have h2 : 0 < 2 ^ t := Nat.pow_pos (by omega)
  have h3 := (br_shlB t ht).2
  simp only [show x < 7 by omega, if_true]
  rcases bt_01 y t with e | e
  · simp [e]
  · rw [e, Nat.mul_one]
    simp (disch := omega) only [zl_0, zl_1, zl_2, zl_3, zl_4, zl_5, zl_6, zl_7, zl_8, zl_9, zl_10, zl_11, zl_12, zl_13, zl_14, zl_15, zl_16, zl_17, zl_18, zl_19, zl_20, zl_21, zl_22, zl_23, zl_24, zl_25, zl_26, zl_27, zl_28, zl_29, zl_30, zl_31, zl_32, zl_33, zl_34, zl_35, zl_36, zl_37, zl_38, zl_39, zl_40, zl_41, zl_42, zl_43, zl_44, zl_45, zl_46, zl_47, zl_48, zl_49, zl_50, zl_51, zl_52, zl_53, zl_54, zl_55, zl_56, zl_57, zl_58, zl_59, zl_60, zl_61, zl_62, zl_63, zl_64, zl_65, zl_66, zl_67, zl_68, zl_69, zl_70, zl_71, zl_72, zl_73, zl_74, zl_75, zl_76, zl_77, zl_78, zl_79, zl_80, zl_81, zl_82, zl_83, zl_84, zl_85, zl_86, zl_87, zl_88, zl_89, zl_90, zl_91, zl_92, zl_93, zl_94, zl_95, zl_96, zl_97, zl_98, zl_99, zl_100, zl_101, zl_102, zl_103, zl_104, zl_105, zl_106, zl_107, zl_108, zl_109, zl_110, zl_111, zl_112, zl_113, zl_114, zl_115, zl_116, zl_117, zl_118, zl_119, zl_120, zl_121, zl_122, zl_123, zl_124, zl_125, zl_126, zl_127, zl_128, zl_180, zl_200, zl_240, zl_462, zl_528, zm1, zI_add, zI_mul, zI_sub, zI_addneg, zI_lt, zI_le, zI_inj, zI_nat, zI_zM, zM_zI, zM_lt, lt_zM, zM_le, le_zM, zM_leM, zM_ltM, inB_z, bI_s, bV_s, bIX_s, bVX_s, bIX_x, bVX_x, if_true, if_false, ↓reduceIte, nar0z, nar1z, Nat.not_lt_zero, Nat.zero_le, Nat.le_zero_eq, not_true_eq_false, not_false_eq_true, false_and, and_false, true_and, and_true, and_self, wset_at, Nat.le_refl, Nat.reduceAdd, Nat.reduceSub, Nat.reduceMul, Nat.reduceDiv, Nat.reduceMod, Nat.reduceEqDiff, Nat.reduceLT, Nat.add_sub_cancel, Nat.reducePow, Nat.reduceLeDiff]
    simp [show ¬ (2 ^ t = 0) by omega]
theorem s_termCountOf (hc : w.1 2 0 = zI c) (h7 : c ≤ 7) (hx : x < c) (hy : y < 256) (hu : w.1 4 x = zI y) : f_X9_termCountOf 2 (zI x) w = some (zI (pcB y), w) := by
  unfold f_X9_termCountOf
  simp (disch := omega) only [s_hasT hc h7 hx, hu, z_bitCount hy, zl_0, zl_1, zl_2, zl_3, zl_4, zl_5, zl_6, zl_7, zl_8, zl_9, zl_10, zl_11, zl_12, zl_13, zl_14, zl_15, zl_16, zl_17, zl_18, zl_19, zl_20, zl_21, zl_22, zl_23, zl_24, zl_25, zl_26, zl_27, zl_28, zl_29, zl_30, zl_31, zl_32, zl_33, zl_34, zl_35, zl_36, zl_37, zl_38, zl_39, zl_40, zl_41, zl_42, zl_43, zl_44, zl_45, zl_46, zl_47, zl_48, zl_49, zl_50, zl_51, zl_52, zl_53, zl_54, zl_55, zl_56, zl_57, zl_58, zl_59, zl_60, zl_61, zl_62, zl_63, zl_64, zl_65, zl_66, zl_67, zl_68, zl_69, zl_70, zl_71, zl_72, zl_73, zl_74, zl_75, zl_76, zl_77, zl_78, zl_79, zl_80, zl_81, zl_82, zl_83, zl_84, zl_85, zl_86, zl_87, zl_88, zl_89, zl_90, zl_91, zl_92, zl_93, zl_94, zl_95, zl_96, zl_97, zl_98, zl_99, zl_100, zl_101, zl_102, zl_103, zl_104, zl_105, zl_106, zl_107, zl_108, zl_109, zl_110, zl_111, zl_112, zl_113, zl_114, zl_115, zl_116, zl_117, zl_118, zl_119, zl_120, zl_121, zl_122, zl_123, zl_124, zl_125, zl_126, zl_127, zl_128, zl_180, zl_200, zl_240, zl_462, zl_528, zm1, zI_add, zI_mul, zI_sub, zI_addneg, zI_lt, zI_le, zI_inj, zI_nat, zI_zM, zM_zI, zM_lt, lt_zM, zM_le, le_zM, zM_leM, zM_ltM, inB_z, bI_s, bV_s, bIX_s, bVX_s, bIX_x, bVX_x, if_true, if_false, ↓reduceIte, nar0z, nar1z, Nat.not_lt_zero, Nat.zero_le, Nat.le_zero_eq, not_true_eq_false, not_false_eq_true, false_and, and_false, true_and, and_true, and_self, wset_at, Nat.le_refl, Nat.reduceAdd, Nat.reduceSub, Nat.reduceMul, Nat.reduceDiv, Nat.reduceMod, Nat.reduceEqDiff, Nat.reduceLT, Nat.add_sub_cancel, Nat.reducePow, Nat.reduceLeDiff]
  simp [show x < 7 by omega]
end
