/-! the reference's pile: rows 19.. of its frame (cell 142), the layers it says (cell 149) -/
theorem br_oddB : ∀ v, v < 64 → (zI v &&& zI 1) = zI (v % 2) := by decide +kernel
section
variable {w : XW} {F : Nat → Nat}
theorem m_inT {a b x : Nat} (hx : a ≤ x) (hb : x ≤ b) (h31 : b < 2147483648) : f_X11_in (zI x) (zI a) (zI b) w = some (zI 1, w) := by
  unfold f_X11_in
  simp (disch := omega) only [zl_0, zl_1, zl_2, zl_3, zl_4, zl_5, zl_6, zl_7, zl_8, zl_9, zl_10, zl_11, zl_12, zl_13, zl_14, zl_15, zl_16, zl_17, zl_18, zl_19, zl_20, zl_21, zl_22, zl_23, zl_24, zl_25, zl_26, zl_27, zl_28, zl_29, zl_30, zl_31, zl_32, zl_33, zl_34, zl_35, zl_36, zl_37, zl_38, zl_39, zl_40, zl_41, zl_42, zl_43, zl_44, zl_45, zl_46, zl_47, zl_48, zl_49, zl_50, zl_51, zl_52, zl_53, zl_54, zl_55, zl_56, zl_57, zl_58, zl_59, zl_60, zl_61, zl_62, zl_63, zl_64, zl_65, zl_66, zl_67, zl_68, zl_69, zl_70, zl_71, zl_72, zl_73, zl_74, zl_75, zl_76, zl_77, zl_78, zl_79, zl_80, zl_81, zl_82, zl_83, zl_84, zl_85, zl_86, zl_87, zl_88, zl_89, zl_90, zl_91, zl_92, zl_93, zl_94, zl_95, zl_96, zl_97, zl_98, zl_99, zl_100, zl_101, zl_102, zl_103, zl_104, zl_105, zl_106, zl_107, zl_108, zl_109, zl_110, zl_111, zl_112, zl_113, zl_114, zl_115, zl_116, zl_117, zl_118, zl_119, zl_120, zl_121, zl_122, zl_123, zl_124, zl_125, zl_126, zl_127, zl_128, zl_180, zl_200, zl_240, zl_462, zl_528, zm1, zI_add, zI_mul, zI_sub, zI_addneg, zI_lt, zI_le, zI_inj, zI_nat, zI_zM, zM_zI, zM_lt, lt_zM, zM_le, le_zM, zM_leM, zM_ltM, inB_z, bI_s, bV_s, bIX_s, bVX_s, bIX_x, bVX_x, if_true, if_false, ↓reduceIte, nar0z, nar1z, Nat.not_lt_zero, Nat.zero_le, Nat.le_zero_eq, not_true_eq_false, not_false_eq_true, false_and, and_false, true_and, and_true, and_self, wset_at, Nat.le_refl, Nat.reduceAdd, Nat.reduceSub, Nat.reduceMul, Nat.reduceDiv, Nat.reduceMod, Nat.reduceEqDiff, Nat.reduceLT, Nat.add_sub_cancel, Nat.reducePow, Nat.reduceLeDiff, show ¬ x < a by omega, show ¬ b < x by omega]
theorem m_inF {a b x : Nat} (hx : x < a ∨ b < x) (h1 : x < 2147483648) (h2 : a < 2147483648) (h3 : b < 2147483648) : f_X11_in (zI x) (zI a) (zI b) w = some (zI 0, w) := by
  unfold f_X11_in
  by_cases e : x < a
  · simp (disch := omega) only [zl_0, zl_1, zl_2, zl_3, zl_4, zl_5, zl_6, zl_7, zl_8, zl_9, zl_10, zl_11, zl_12, zl_13, zl_14, zl_15, zl_16, zl_17, zl_18, zl_19, zl_20, zl_21, zl_22, zl_23, zl_24, zl_25, zl_26, zl_27, zl_28, zl_29, zl_30, zl_31, zl_32, zl_33, zl_34, zl_35, zl_36, zl_37, zl_38, zl_39, zl_40, zl_41, zl_42, zl_43, zl_44, zl_45, zl_46, zl_47, zl_48, zl_49, zl_50, zl_51, zl_52, zl_53, zl_54, zl_55, zl_56, zl_57, zl_58, zl_59, zl_60, zl_61, zl_62, zl_63, zl_64, zl_65, zl_66, zl_67, zl_68, zl_69, zl_70, zl_71, zl_72, zl_73, zl_74, zl_75, zl_76, zl_77, zl_78, zl_79, zl_80, zl_81, zl_82, zl_83, zl_84, zl_85, zl_86, zl_87, zl_88, zl_89, zl_90, zl_91, zl_92, zl_93, zl_94, zl_95, zl_96, zl_97, zl_98, zl_99, zl_100, zl_101, zl_102, zl_103, zl_104, zl_105, zl_106, zl_107, zl_108, zl_109, zl_110, zl_111, zl_112, zl_113, zl_114, zl_115, zl_116, zl_117, zl_118, zl_119, zl_120, zl_121, zl_122, zl_123, zl_124, zl_125, zl_126, zl_127, zl_128, zl_180, zl_200, zl_240, zl_462, zl_528, zm1, zI_add, zI_mul, zI_sub, zI_addneg, zI_lt, zI_le, zI_inj, zI_nat, zI_zM, zM_zI, zM_lt, lt_zM, zM_le, le_zM, zM_leM, zM_ltM, inB_z, bI_s, bV_s, bIX_s, bVX_s, bIX_x, bVX_x, if_true, if_false, ↓reduceIte, nar0z, nar1z, Nat.not_lt_zero, Nat.zero_le, Nat.le_zero_eq, not_true_eq_false, not_false_eq_true, false_and, and_false, true_and, and_true, and_self, wset_at, Nat.le_refl, Nat.reduceAdd, Nat.reduceSub, Nat.reduceMul, Nat.reduceDiv, Nat.reduceMod, Nat.reduceEqDiff, Nat.reduceLT, Nat.add_sub_cancel, Nat.reducePow, Nat.reduceLeDiff, e]
  · simp (disch := omega) only [zl_0, zl_1, zl_2, zl_3, zl_4, zl_5, zl_6, zl_7, zl_8, zl_9, zl_10, zl_11, zl_12, zl_13, zl_14, zl_15, zl_16, zl_17, zl_18, zl_19, zl_20, zl_21, zl_22, zl_23, zl_24, zl_25, zl_26, zl_27, zl_28, zl_29, zl_30, zl_31, zl_32, zl_33, zl_34, zl_35, zl_36, zl_37, zl_38, zl_39, zl_40, zl_41, zl_42, zl_43, zl_44, zl_45, zl_46, zl_47, zl_48, zl_49, zl_50, zl_51, zl_52, zl_53, zl_54, zl_55, zl_56, zl_57, zl_58, zl_59, zl_60, zl_61, zl_62, zl_63, zl_64, zl_65, zl_66, zl_67, zl_68, zl_69, zl_70, zl_71, zl_72, zl_73, zl_74, zl_75, zl_76, zl_77, zl_78, zl_79, zl_80, zl_81, zl_82, zl_83, zl_84, zl_85, zl_86, zl_87, zl_88, zl_89, zl_90, zl_91, zl_92, zl_93, zl_94, zl_95, zl_96, zl_97, zl_98, zl_99, zl_100, zl_101, zl_102, zl_103, zl_104, zl_105, zl_106, zl_107, zl_108, zl_109, zl_110, zl_111, zl_112, zl_113, zl_114, zl_115, zl_116, zl_117, zl_118, zl_119, zl_120, zl_121, zl_122, zl_123, zl_124, zl_125, zl_126, zl_127, zl_128, zl_180, zl_200, zl_240, zl_462, zl_528, zm1, zI_add, zI_mul, zI_sub, zI_addneg, zI_lt, zI_le, zI_inj, zI_nat, zI_zM, zM_zI, zM_lt, lt_zM, zM_le, le_zM, zM_leM, zM_ltM, inB_z, bI_s, bV_s, bIX_s, bVX_s, bIX_x, bVX_x, if_true, if_false, ↓reduceIte, nar0z, nar1z, Nat.not_lt_zero, Nat.zero_le, Nat.le_zero_eq, not_true_eq_false, not_false_eq_true, false_and, and_false, true_and, and_true, and_self, wset_at, Nat.le_refl, Nat.reduceAdd, Nat.reduceSub, Nat.reduceMul, Nat.reduceDiv, Nat.reduceMod, Nat.reduceEqDiff, Nat.reduceLT, Nat.add_sub_cancel, Nat.reducePow, Nat.reduceLeDiff, e, show b < x by omega]
theorem m_inN {a : Nat} {x b : Int32} (hx : x < 0) (h2 : a < 2147483648) : f_X11_in x (zI a) b w = some (zI 0, w) := by
  unfold f_X11_in
  rw [if_pos (zI_neg hx h2).2.2.2.1]
  rfl
theorem m_isSecT {x : Nat} (hM : Mo w.1 142 0 F) (h7 : F 0 ≤ 7) (hx : x < F 0) : f_X11_isSection (zI x) w = some (zI 1, w) := by
  unfold f_X11_isSection
  rw [show Int32.toNatClampNeg 0 = 0 from rfl, hM.at (by omega), zl_0, zl_1, zI_sub (by omega), m_inT (by omega) (by omega) (by omega), bI_s, if_pos nar1z]
theorem m_isSecF {x : Nat} (hM : Mo w.1 142 0 F) (h7 : F 0 ≤ 7) (h31 : x < 2147483648) (hx : F 0 ≤ x) : f_X11_isSection (zI x) w = some (zI 0, w) := by
  unfold f_X11_isSection
  rw [show Int32.toNatClampNeg 0 = 0 from rfl, hM.at (by omega), zl_0, zl_1]
  by_cases e : F 0 = 0
  · rw [e, z0_sub1]
    have : f_X11_in (zI x) (zI 0) zM w = some (zI 0, w) := by
      unfold f_X11_in
      simp (disch := omega) only [zl_0, zl_1, zl_2, zl_3, zl_4, zl_5, zl_6, zl_7, zl_8, zl_9, zl_10, zl_11, zl_12, zl_13, zl_14, zl_15, zl_16, zl_17, zl_18, zl_19, zl_20, zl_21, zl_22, zl_23, zl_24, zl_25, zl_26, zl_27, zl_28, zl_29, zl_30, zl_31, zl_32, zl_33, zl_34, zl_35, zl_36, zl_37, zl_38, zl_39, zl_40, zl_41, zl_42, zl_43, zl_44, zl_45, zl_46, zl_47, zl_48, zl_49, zl_50, zl_51, zl_52, zl_53, zl_54, zl_55, zl_56, zl_57, zl_58, zl_59, zl_60, zl_61, zl_62, zl_63, zl_64, zl_65, zl_66, zl_67, zl_68, zl_69, zl_70, zl_71, zl_72, zl_73, zl_74, zl_75, zl_76, zl_77, zl_78, zl_79, zl_80, zl_81, zl_82, zl_83, zl_84, zl_85, zl_86, zl_87, zl_88, zl_89, zl_90, zl_91, zl_92, zl_93, zl_94, zl_95, zl_96, zl_97, zl_98, zl_99, zl_100, zl_101, zl_102, zl_103, zl_104, zl_105, zl_106, zl_107, zl_108, zl_109, zl_110, zl_111, zl_112, zl_113, zl_114, zl_115, zl_116, zl_117, zl_118, zl_119, zl_120, zl_121, zl_122, zl_123, zl_124, zl_125, zl_126, zl_127, zl_128, zl_180, zl_200, zl_240, zl_462, zl_528, zm1, zI_add, zI_mul, zI_sub, zI_addneg, zI_lt, zI_le, zI_inj, zI_nat, zI_zM, zM_zI, zM_lt, lt_zM, zM_le, le_zM, zM_leM, zM_ltM, inB_z, bI_s, bV_s, bIX_s, bVX_s, bIX_x, bVX_x, if_true, if_false, ↓reduceIte, nar0z, nar1z, Nat.not_lt_zero, Nat.zero_le, Nat.le_zero_eq, not_true_eq_false, not_false_eq_true, false_and, and_false, true_and, and_true, and_self, wset_at, Nat.le_refl, Nat.reduceAdd, Nat.reduceSub, Nat.reduceMul, Nat.reduceDiv, Nat.reduceMod, Nat.reduceEqDiff, Nat.reduceLT, Nat.add_sub_cancel, Nat.reducePow, Nat.reduceLeDiff]
    rw [this, bI_s, if_pos nar0z]
  · rw [zI_sub (by omega), m_inF (by omega) (by omega) (by omega) (by omega), bI_s, if_pos nar0z]
theorem m_isSecN {x : Int32} (hx : x < 0) : f_X11_isSection x w = some (zI 0, w) := by
  unfold f_X11_isSection
  rw [zl_0, m_inN hx (by omega), bI_s, if_pos nar0z]
theorem m_isPipeT {x : Nat} (hM : Mo w.1 142 0 F) (h7 : F 2 ≤ 10) (hx : x < F 2) : f_X11_isPipe (zI x) w = some (zI 1, w) := by
  unfold f_X11_isPipe
  rw [show Int32.toNatClampNeg 2 = 2 from rfl, hM.at (by omega), zl_0, zl_1, zI_sub (by omega), m_inT (by omega) (by omega) (by omega), bI_s, if_pos nar1z]
theorem m_isPipeF {x : Nat} (hM : Mo w.1 142 0 F) (h7 : F 2 ≤ 10) (h31 : x < 2147483648) (hx : F 2 ≤ x) : f_X11_isPipe (zI x) w = some (zI 0, w) := by
  unfold f_X11_isPipe
  rw [show Int32.toNatClampNeg 2 = 2 from rfl, hM.at (by omega), zl_0, zl_1]
  by_cases e : F 2 = 0
  · rw [e, z0_sub1]
    have : f_X11_in (zI x) (zI 0) zM w = some (zI 0, w) := by
      unfold f_X11_in
      simp (disch := omega) only [zl_0, zl_1, zl_2, zl_3, zl_4, zl_5, zl_6, zl_7, zl_8, zl_9, zl_10, zl_11, zl_12, zl_13, zl_14, zl_15, zl_16, zl_17, zl_18, zl_19, zl_20, zl_21, zl_22, zl_23, zl_24, zl_25, zl_26, zl_27, zl_28, zl_29, zl_30, zl_31, zl_32, zl_33, zl_34, zl_35, zl_36, zl_37, zl_38, zl_39, zl_40, zl_41, zl_42, zl_43, zl_44, zl_45, zl_46, zl_47, zl_48, zl_49, zl_50, zl_51, zl_52, zl_53, zl_54, zl_55, zl_56, zl_57, zl_58, zl_59, zl_60, zl_61, zl_62, zl_63, zl_64, zl_65, zl_66, zl_67, zl_68, zl_69, zl_70, zl_71, zl_72, zl_73, zl_74, zl_75, zl_76, zl_77, zl_78, zl_79, zl_80, zl_81, zl_82, zl_83, zl_84, zl_85, zl_86, zl_87, zl_88, zl_89, zl_90, zl_91, zl_92, zl_93, zl_94, zl_95, zl_96, zl_97, zl_98, zl_99, zl_100, zl_101, zl_102, zl_103, zl_104, zl_105, zl_106, zl_107, zl_108, zl_109, zl_110, zl_111, zl_112, zl_113, zl_114, zl_115, zl_116, zl_117, zl_118, zl_119, zl_120, zl_121, zl_122, zl_123, zl_124, zl_125, zl_126, zl_127, zl_128, zl_180, zl_200, zl_240, zl_462, zl_528, zm1, zI_add, zI_mul, zI_sub, zI_addneg, zI_lt, zI_le, zI_inj, zI_nat, zI_zM, zM_zI, zM_lt, lt_zM, zM_le, le_zM, zM_leM, zM_ltM, inB_z, bI_s, bV_s, bIX_s, bVX_s, bIX_x, bVX_x, if_true, if_false, ↓reduceIte, nar0z, nar1z, Nat.not_lt_zero, Nat.zero_le, Nat.le_zero_eq, not_true_eq_false, not_false_eq_true, false_and, and_false, true_and, and_true, and_self, wset_at, Nat.le_refl, Nat.reduceAdd, Nat.reduceSub, Nat.reduceMul, Nat.reduceDiv, Nat.reduceMod, Nat.reduceEqDiff, Nat.reduceLT, Nat.add_sub_cancel, Nat.reducePow, Nat.reduceLeDiff]
    rw [this, bI_s, if_pos nar0z]
  · rw [zI_sub (by omega), m_inF (by omega) (by omega) (by omega) (by omega), bI_s, if_pos nar0z]
theorem m_isPipeN {x : Int32} (hx : x < 0) : f_X11_isPipe x w = some (zI 0, w) := by
  unfold f_X11_isPipe
  rw [zl_0, m_inN hx (by omega), bI_s, if_pos nar0z]
theorem m_isTermT {t : Nat} (ht : t < 8) : f_X11_isTerm (zI (97 + t)) w = some (zI 1, w) := by
  unfold f_X11_isTerm
  rw [zl_97, zl_104, m_inT (by omega) (by omega) (by omega), bI_s, if_pos nar1z]
theorem m_isTermF {x : Nat} (h31 : x < 2147483648) (hx : x < 97 ∨ 104 < x) : f_X11_isTerm (zI x) w = some (zI 0, w) := by
  unfold f_X11_isTerm
  rw [zl_97, zl_104, m_inF (by omega) (by omega) (by omega) (by omega), bI_s, if_pos nar0z]
theorem m_has {x t : Nat} (hM : Mo w.1 142 0 F) (hx : x < 7) (hy : F (12 + x) < 256) (ht : t < 8) : f_X11_has (zI x) (zI (97 + t)) w = some (zI (bt (F (12 + x)) t), w) := by
  unfold f_X11_has
  rw [zl_12, zI_add, if_pos (by rw [inB_z (by omega)]; omega), zI_nat (by omega), hM.at (by omega), zl_97, zI_sub (by omega), Nat.add_sub_cancel_left, zl_31, zl_1, br_shrB _ hy t ht]
  rcases bt_01 (F (12 + x)) t with e | e <;> rw [e]
  · rw [if_neg (by decide)]; rfl
  · rw [if_pos rfl]
theorem m_terms_loop {x : Nat} (hM : Mo w.1 142 0 F) (hx : x < 7) (hy : F (12 + x) < 256) : ∀ (d fuel i : Nat), i + d = 8 → d < fuel → f_X11_terms_5 (zI x) fuel (zI (sm (bt (F (12 + x))) i)) (zI (97 + i)) w = some (zI (pcB (F (12 + x))), w) := by
  intro d
  induction d with
  | zero =>
    intro fuel i hi hf
    obtain ⟨f, rfl⟩ : ∃ f, fuel = f + 1 := ⟨fuel - 1, by omega⟩
    have e : i = 8 := by omega
    subst e
    rw [f_X11_terms_5, if_pos (by rw [zl_104, zI_lt (by omega) (by omega)]; omega)]
    rfl
  | succ d ih =>
    intro fuel i hi hf
    obtain ⟨f, rfl⟩ : ∃ f, fuel = f + 1 := ⟨fuel - 1, by omega⟩
    rw [f_X11_terms_5, if_neg (by rw [zl_104, zI_lt (by omega) (by omega)]; omega), m_has hM hx hy (by omega), bI_s, zl_0, zl_1, zI_add, zI_add, zI_add]
    have h := ih f (i + 1) (by omega) (by omega)
    rw [sm] at h
    rcases bt_01 (F (12 + x)) i with e | e <;> rw [e] at h ⊢
    · rw [if_pos rfl]; exact h
    · rw [if_neg (by decide)]; exact h
theorem m_terms {x : Nat} (hM : Mo w.1 142 0 F) (hx : x < 7) (hy : F (12 + x) < 256) : f_X11_terms (zI x) w = some (zI (pcB (F (12 + x))), w) :=
  m_terms_loop hM hx hy 8 1000 0 (by omega) (by omega)
/-! a frame with one number changed -/
def uF (F : Nat → Nat) (j v : Nat) : Nat → Nat := fun a => if a = j then v else F a
theorem Mo.set (hM : Mo w.1 142 0 F) (j v : Nat) : Mo (wset w 142 j (zI v)).1 142 0 (uF F j v) := by
  intro a ha
  rw [Nat.zero_add, wset_at]
  unfold uF
  by_cases e : a = j
  · rw [if_pos ⟨rfl, e⟩, if_pos e]
  · rw [if_neg (fun z => e z.2), if_neg e]; exact hM.at ha
theorem Mo.ext {h : Nat → Nat → Int32} {a o : Nat} {G : Nat → Nat} (hM : Mo h a o F) (e : ∀ j, j < 66 → F j = G j) : Mo h a o G := fun j hj => by rw [hM j hj, e j hj]
/-! the layers that the reference says -/
theorem m_lays_loop {P : List Nat} {n l : Nat} (hn : n < 7) (hP : P ∈ piles n) (hF1 : F 1 = n) (hF : ∀ j, j < n → F (19 + j) = gtL P j) (hl : l ≤ n) :
    ∀ (d fuel k : Nat) (w : XW), k + d = n → d < fuel → Mo w.1 142 0 F → (∀ j, j < k → w.1 149 (gtL P j) = zI (if j < l then j else j + 1)) →
    ∃ w', f_X11_lays_2 (zI l) fuel (zI k) w = some w' ∧ Fr (fun a => a = 149) w w' ∧ (∀ s, s < n → w'.1 149 s = zI (laI (ixL P) l s)) ∧ w'.1 149 n = zI l := by
  obtain ⟨hlen, hs1, hl1⟩ := piles_ok (by omega) hP
  intro d
  induction d with
  | zero =>
    intro fuel k w hk hf hM h
    obtain ⟨f, rfl⟩ : ∃ f, fuel = f + 1 := ⟨fuel - 1, by omega⟩
    have e : k = n := by omega
    subst e
    refine ⟨wset w 149 k (zI l), ?_, fr1 _ _, fun s hs => ?_, wset_hit _ _ _ _⟩
    · rw [f_X11_lays_2, show Int32.toNatClampNeg 1 = 1 from rfl, hM.at (by omega), hF1, if_pos (by rw [zI_le (by omega) (by omega)]; omega), if_pos (by rw [inB_z (by omega)]; omega), zI_nat (by omega)]
    · rw [wset_at, if_neg (fun z => by omega)]
      have h1 := h (ixL P s) (hs1 s hs).1
      rw [(hs1 s hs).2] at h1
      rw [h1]
      rfl
  | succ d ih =>
    intro fuel k w hk hf hM h
    obtain ⟨f, rfl⟩ : ∃ f, fuel = f + 1 := ⟨fuel - 1, by omega⟩
    have hg := hl1 k (by omega)
    have hFk := hF k (by omega)
    have step : ∀ v, v = (if k < l then k else k + 1) → ∃ w', f_X11_lays_2 (zI l) f (zI (k + 1)) (wset w 149 (gtL P k) (zI v)) = some w' ∧ Fr (fun a => a = 149) w w' ∧ (∀ s, s < n → w'.1 149 s = zI (laI (ixL P) l s)) ∧ w'.1 149 n = zI l := by
      intro v hv
      have hfr : Fr (fun a => a = 149) w (wset w 149 (gtL P k) (zI v)) := fr1 _ _
      obtain ⟨w', e1, e2, e3, e4⟩ := ih f (k + 1) (wset w 149 (gtL P k) (zI v)) (by omega) (by omega) (hM.fr hfr (by omega)) (fun j hj => by
        rw [wset_at]
        by_cases e : gtL P j = gtL P k
        · have : j = k := by
            have h1 := (hl1 j (by omega)).2
            rw [e, hg.2] at h1
            exact h1.symm
          subst this
          rw [if_pos ⟨rfl, rfl⟩, hv]
        · rw [if_neg (fun z => e z.2)]
          refine h j ?_
          by_cases e2 : j = k
          · exact absurd (e2 ▸ rfl) e
          · omega)
      exact ⟨w', e1, hfr.tr e2, e3, e4⟩
    rw [f_X11_lays_2, show Int32.toNatClampNeg 1 = 1 from rfl, hM.at (by omega), hF1, if_neg (by rw [zI_le (by omega) (by omega)]; omega), zl_19, zI_add, if_pos (by rw [inB_z (by omega)]; omega), zI_nat (by omega), hM.at (by omega), hFk]
    by_cases e : k < l
    · rw [if_neg (by rw [zI_le (by omega) (by omega)]; omega), if_pos (by rw [inB_z (by omega)]; omega), zl_1, zI_add, zI_nat (by omega)]
      exact step k (by rw [if_pos e])
    · rw [if_pos (by rw [zI_le (by omega) (by omega)]; omega), if_pos (by rw [inB_z (by omega)]; omega), zl_1, zI_add, zI_nat (by omega)]
      exact step (k + 1) (by rw [if_neg e])
theorem spY_ifs {X Y : Option (Int32 × XW)} {lo hi a b : Nat} :
    (if b ≤ a then (if lo ≤ b then (if b ≤ lo then X else if hi ≤ b then X else if a ≤ hi then X else Y) else if a ≤ lo then (if b ≤ lo then X else if hi ≤ b then X else if a ≤ hi then X else Y) else if a < hi then Y else if b ≤ lo then X else if hi ≤ b then X else if a ≤ hi then X else Y)
    else (if lo ≤ a then (if a ≤ lo then X else if hi ≤ a then X else if b ≤ hi then X else Y) else if b ≤ lo then (if a ≤ lo then X else if hi ≤ a then X else if b ≤ hi then X else Y) else if b < hi then Y else if a ≤ lo then X else if hi ≤ a then X else if b ≤ hi then X else Y))
    = if spY lo hi a b = true then Y else X := by
  unfold spY
  simp only [Bool.or_eq_true, Bool.and_eq_true, decide_eq_true_eq]
  by_cases e : a < b
  · rw [if_neg (show ¬ b ≤ a by omega)]
    simp only [e, if_true, Nat.add_sub_cancel_left]
    (repeat' split) <;> first | rfl | (exfalso; omega)
  · rw [if_pos (show b ≤ a by omega)]
    simp only [e, if_false, Nat.add_sub_cancel]
    (repeat' split) <;> first | rfl | (exfalso; omega)
theorem m_crossed_loop {n lo hi : Nat} {L : Nat → Nat} (hn : n ≤ 7) (hlo : lo < 100) (hhi : hi < 100) (h : ∀ s, s < n → w.1 149 s = zI (L s) ∧ L s < 100) (h1 : 1 ≤ n) :
    ∀ (j fuel c : Nat), n ≤ c + 2 * j → j ≤ fuel → 1 ≤ fuel → c < 100 → f_X11_crossed_79 (zI (n - 1)) (zI lo) (zI hi) (fuel + 1) (zI c) w = some (crZ (crL (fun c => spY lo hi (L c) (L (c + 1))) (n - 1) (j + 1) c), w) := by
  intro j
  induction j with
  | zero =>
    intro fuel c h2 _ _ h5
    rw [f_X11_crossed_79, crL, if_pos (by rw [zI_le (by omega) (by omega)]; omega), if_pos (by omega)]
    rfl
  | succ j ih =>
    intro fuel c h2 hf hf1 h5
    rw [f_X11_crossed_79, crL]
    by_cases hc : n - 1 ≤ c
    · rw [if_pos (by rw [zI_le (by omega) (by omega)]; omega), if_pos hc]; rfl
    · obtain ⟨a1, a2⟩ := h c (by omega)
      obtain ⟨b1, b2⟩ := h (c + 1) (by omega)
      simp (disch := omega) only [a1, b1, hc, show c < 7 by omega, show c + 1 < 7 by omega, Nat.add_sub_cancel_left, zl_0, zl_1, zl_2, zl_3, zl_4, zl_5, zl_6, zl_7, zl_8, zl_9, zl_10, zl_11, zl_12, zl_13, zl_14, zl_15, zl_16, zl_17, zl_18, zl_19, zl_20, zl_21, zl_22, zl_23, zl_24, zl_25, zl_26, zl_27, zl_28, zl_29, zl_30, zl_31, zl_32, zl_33, zl_34, zl_35, zl_36, zl_37, zl_38, zl_39, zl_40, zl_41, zl_42, zl_43, zl_44, zl_45, zl_46, zl_47, zl_48, zl_49, zl_50, zl_51, zl_52, zl_53, zl_54, zl_55, zl_56, zl_57, zl_58, zl_59, zl_60, zl_61, zl_62, zl_63, zl_64, zl_65, zl_66, zl_67, zl_68, zl_69, zl_70, zl_71, zl_72, zl_73, zl_74, zl_75, zl_76, zl_77, zl_78, zl_79, zl_80, zl_81, zl_82, zl_83, zl_84, zl_85, zl_86, zl_87, zl_88, zl_89, zl_90, zl_91, zl_92, zl_93, zl_94, zl_95, zl_96, zl_97, zl_98, zl_99, zl_100, zl_101, zl_102, zl_103, zl_104, zl_105, zl_106, zl_107, zl_108, zl_109, zl_110, zl_111, zl_112, zl_113, zl_114, zl_115, zl_116, zl_117, zl_118, zl_119, zl_120, zl_121, zl_122, zl_123, zl_124, zl_125, zl_126, zl_127, zl_128, zl_180, zl_200, zl_240, zl_462, zl_528, zm1, zI_add, zI_mul, zI_sub, zI_addneg, zI_lt, zI_le, zI_inj, zI_nat, zI_zM, zM_zI, zM_lt, lt_zM, zM_le, le_zM, zM_leM, zM_ltM, inB_z, bI_s, bV_s, bIX_s, bVX_s, bIX_x, bVX_x, if_true, if_false, ↓reduceIte, nar0z, nar1z, Nat.not_lt_zero, Nat.zero_le, Nat.le_zero_eq, not_true_eq_false, not_false_eq_true, false_and, and_false, true_and, and_true, and_self, wset_at, Nat.le_refl, Nat.reduceAdd, Nat.reduceSub, Nat.reduceMul, Nat.reduceDiv, Nat.reduceMod, Nat.reduceEqDiff, Nat.reduceLT, Nat.add_sub_cancel, Nat.reducePow, Nat.reduceLeDiff]
      rw [spY_ifs]
      have hrec : f_X11_crossed_79 (zI (n - 1)) (zI lo) (zI hi) fuel (zI (c + 2)) w = some (crZ (crL (fun c => spY lo hi (L c) (L (c + 1))) (n - 1) (j + 1) (c + 2)), w) := by
        obtain ⟨f, rfl⟩ : ∃ f, fuel = f + 1 := ⟨fuel - 1, by omega⟩
        by_cases hj : j = 0
        · subst hj
          rw [f_X11_crossed_79, crL, if_pos (by rw [zI_le (by omega) (by omega)]; omega), if_pos (by omega)]
          rfl
        · exact ih f (c + 2) (by omega) (by omega) (by omega) (by omega)
      cases hx : spY lo hi (L c) (L (c + 1))
      · simp only [Bool.false_eq_true, if_false]
        exact hrec
      · simp only [if_true]
        rfl
theorem crL_congr {G G' : Nat → Bool} {m : Nat} : ∀ (k c : Nat), (∀ x, x < m → x % 2 = c % 2 → G x = G' x) → crL G m k c = crL G' m k c := by
  intro k
  induction k with
  | zero => intro c _; rfl
  | succ k ih =>
    intro c h
    rw [crL, crL]
    by_cases e : m ≤ c
    · rw [if_pos e, if_pos e]
    · rw [if_neg e, if_neg e, h c (by omega) rfl, ih (c + 2) (fun x hx hp => h x hx (by omega))]
/-- the reference's lowest crease that is crossed -/
theorem m_crossed {P : List Nat} {n l : Nat} (hn : n < 7) (hP : P ∈ piles n) (hF1 : F 1 = n) (hF : ∀ j, j < n → F (19 + j) = gtL P j) (hl : l ≤ n) (hM : Mo w.1 142 0 F) :
    ∃ w', f_X11_crossed (zI l) w = some (crZ (crA (ixL P) n l), w') ∧ Fr (fun a => a = 149) w w' := by
  obtain ⟨hlen, hs1, hl1⟩ := piles_ok (by omega) hP
  by_cases h0 : n = 0
  · refine ⟨w, ?_, Fr.rf⟩
    unfold f_X11_crossed crA
    rw [show Int32.toNatClampNeg 1 = 1 from rfl, hM.at (by omega), hF1, h0, zl_1, z0_sub1, if_neg (by decide), if_pos rfl]
    rfl
  · obtain ⟨w', e1, e2, e3, e4⟩ := m_lays_loop hn hP hF1 hF hl n 1000 0 w (by omega) (by omega) hM (fun j hj => by omega)
    refine ⟨w', ?_, e2⟩
    have hlays : f_X11_lays (zI l) w = some w' := e1
    have hb : ∀ s, s < n → laI (ixL P) l s < 8 := fun s hs => by have := (hs1 s hs).1; unfold laI; split <;> omega
    have hb1 := hb (n - 1) (by omega)
    have h3 := e3 (n - 1) (by omega)
    have hcr : crA (ixL P) n l = crL (fun c => spY (if laI (ixL P) l (n - 1) < l then laI (ixL P) l (n - 1) else l) (laI (ixL P) l (n - 1) + l - (if laI (ixL P) l (n - 1) < l then laI (ixL P) l (n - 1) else l)) (laI (ixL P) l c) (laI (ixL P) l (c + 1))) (n - 1) 9 ((n - 1) % 2) := by
      unfold crA
      rw [if_neg h0]
      exact crL_congr 9 _ (fun x hx hp => piles_spY hn hP hl hx (by omega))
    have hloop : ∀ lo hi, lo < 100 → hi < 100 → f_X11_crossed_79 (zI (n - 1)) (zI lo) (zI hi) 1000 (zI ((n - 1) % 2)) w' = some (crZ (crL (fun c => spY lo hi (laI (ixL P) l c) (laI (ixL P) l (c + 1))) (n - 1) 9 ((n - 1) % 2)), w') := fun lo hi h5 h6 =>
      m_crossed_loop (by omega) h5 h6 (fun s hs => ⟨e3 s hs, by have := hb s hs; omega⟩) (by omega) 8 999 ((n - 1) % 2) (by omega) (by omega) (by omega) (by omega)
    unfold f_X11_crossed
    rw [show Int32.toNatClampNeg 1 = 1 from rfl, hM.at (by omega), hF1, zl_1, zI_sub (by omega), if_pos (show (0 : Int32) ≤ zI (n - 1) by rw [zl_0, zI_le (by omega) (by omega)]; omega), hlays, bV_s, zI_add, show n - 1 + 1 = n by omega]
    simp only [zI_nat (show n < 2147483648 by omega), zI_nat (show n - 1 < 2147483648 by omega), h3, e4, br_oddB (n - 1) (show n - 1 < 64 by omega)]
    rw [if_pos (by rw [inB_z (by omega)]; omega), if_pos (by rw [inB_z (by omega)]; omega), hcr]
    by_cases e : laI (ixL P) l (n - 1) < l
    · rw [if_neg (by rw [zI_le (by omega) (by omega)]; omega), if_pos (by rw [inB_z (by omega)]; omega), if_pos (by rw [inB_z (by omega)]; omega), if_pos (by rw [inB_z (by omega)]; omega), if_pos e, zI_add, zI_sub (by omega)]
      exact hloop _ _ (by omega) (by omega)
    · rw [if_pos (by rw [zI_le (by omega) (by omega)]; omega), if_pos (by rw [inB_z (by omega)]; omega), if_pos (by rw [inB_z (by omega)]; omega), if_pos (by rw [inB_z (by omega)]; omega), if_neg e, zI_add, zI_sub (by omega)]
      exact hloop _ _ (by omega) (by omega)
end
