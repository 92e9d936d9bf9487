/-! layers asked for; sums; what was kept -/
section
variable {w : XW} {F : Nat → Nat}
theorem m_find {P : List Nat} {n s : Nat} (hn : n ≤ 7) (hP : P ∈ piles n) (hF : ∀ j, j < n → F (19 + j) = gtL P j) (hs : s < n) (hM : Mo w.1 142 0 F) : f_X11_layerOf_42 (zI s) 1000 (zI 0) w = some (zI (ixL P s), w) := by
  obtain ⟨_, t1, t2⟩ := piles_ok hn hP
  have ht := t1 s hs
  have loop : ∀ (d fuel i : Nat), i + d = ixL P s → d < fuel → f_X11_layerOf_42 (zI s) fuel (zI i) w = some (zI (ixL P s), w) := by
    intro d
    induction d with
    | zero =>
      intro fuel i hi hf
      obtain ⟨f, rfl⟩ : ∃ f, fuel = f + 1 := ⟨fuel - 1, by omega⟩
      have e0 : i = ixL P s := by omega
      subst e0
      rw [f_X11_layerOf_42, zl_19, zI_add, if_pos (by rw [inB_z (by omega)]; omega), zI_nat (by omega), hM.at (by omega), hF _ ht.1, ht.2, if_pos rfl]
    | succ d ih =>
      intro fuel i hi hf
      obtain ⟨f, rfl⟩ : ∃ f, fuel = f + 1 := ⟨fuel - 1, by omega⟩
      have h3 := t2 i (by omega)
      rw [f_X11_layerOf_42, zl_19, zI_add, if_pos (by rw [inB_z (by omega)]; omega), zI_nat (by omega), hM.at (by omega), hF _ (by omega), if_neg (by
        rw [zI_inj (by omega) (by omega)]
        intro z
        rw [z] at h3
        omega), zl_1, zI_add]
      exact ih f (i + 1) (by omega) (by omega)
  exact loop (ixL P s) 1000 0 (by omega) (by omega)
end
theorem m_inN2 {w : XW} {x : Int32} {n : Nat} (h : x < 0 ∨ ∃ a, a < 2147483648 ∧ n ≤ a ∧ x = zI a) (hn : n ≤ 10) : f_X11_in x (zI 0) (zI n - zI 1) w = some (zI 0, w) := by
  rcases h with h | ⟨a, h1, h2, rfl⟩
  · exact m_inN h (by omega)
  · by_cases e : n = 0
    · rw [e, z0_sub1]
      unfold f_X11_in
      simp (disch := omega) only [zl_0, zl_1, zl_2, zl_3, zl_4, zl_5, zl_6, zl_7, zl_8, zl_9, zl_10, zl_11, zl_12, zl_13, zl_14, zl_15, zl_16, zl_17, zl_18, zl_19, zl_20, zl_21, zl_22, zl_23, zl_24, zl_25, zl_26, zl_27, zl_28, zl_29, zl_30, zl_31, zl_32, zl_33, zl_34, zl_35, zl_36, zl_37, zl_38, zl_39, zl_40, zl_41, zl_42, zl_43, zl_44, zl_45, zl_46, zl_47, zl_48, zl_49, zl_50, zl_51, zl_52, zl_53, zl_54, zl_55, zl_56, zl_57, zl_58, zl_59, zl_60, zl_61, zl_62, zl_63, zl_64, zl_65, zl_66, zl_67, zl_68, zl_69, zl_70, zl_71, zl_72, zl_73, zl_74, zl_75, zl_76, zl_77, zl_78, zl_79, zl_80, zl_81, zl_82, zl_83, zl_84, zl_85, zl_86, zl_87, zl_88, zl_89, zl_90, zl_91, zl_92, zl_93, zl_94, zl_95, zl_96, zl_97, zl_98, zl_99, zl_100, zl_101, zl_102, zl_103, zl_104, zl_105, zl_106, zl_107, zl_108, zl_109, zl_110, zl_111, zl_112, zl_113, zl_114, zl_115, zl_116, zl_117, zl_118, zl_119, zl_120, zl_121, zl_122, zl_123, zl_124, zl_125, zl_126, zl_127, zl_128, zl_180, zl_200, zl_240, zl_462, zl_528, zm1, zI_add, zI_mul, zI_sub, zI_addneg, zI_lt, zI_le, zI_inj, zI_nat, zI_zM, zM_zI, zM_lt, lt_zM, zM_le, le_zM, zM_leM, zM_ltM, inB_z, bI_s, bV_s, bIX_s, bVX_s, bIX_x, bVX_x, if_true, if_false, ↓reduceIte, nar0z, nar1z, Nat.not_lt_zero, Nat.zero_le, Nat.le_zero_eq, not_true_eq_false, not_false_eq_true, false_and, and_false, true_and, and_true, and_self, wset_at, Nat.le_refl, Nat.reduceAdd, Nat.reduceSub, Nat.reduceMul, Nat.reduceDiv, Nat.reduceMod, Nat.reduceEqDiff, Nat.reduceLT, Nat.add_sub_cancel, Nat.reducePow, Nat.reduceLeDiff]
    · rw [zI_sub (by omega)]
      exact m_inF (by omega) h1 (by omega) (by omega)
theorem m_in0T {w : XW} {x n : Nat} (h : x < n) (hn : n ≤ 10) : f_X11_in (zI x) 0 (zI n - 1) w = some (zI 1, w) := by
  rw [zl_0, zl_1, zI_sub (by omega)]
  exact m_inT (by omega) (by omega) (by omega)
theorem m_in0N {w : XW} {x : Int32} {n : Nat} (h : x < 0 ∨ ∃ a, a < 2147483648 ∧ n ≤ a ∧ x = zI a) (hn : n ≤ 10) : f_X11_in x 0 (zI n - 1) w = some (zI 0, w) := by
  rw [zl_0, zl_1]
  exact m_inN2 h hn
/-! the foldings to come -/
/-! sums of water -/
theorem c_sum {w : XW} {F : Nat → Nat} (hC : Cls w.1 1 F) (hI : Inv F) : f_X9_waterSum 2 w = some (zI (sm (fun i => F (5 + i)) (F 0)), w) := by
  have a1 := hI.1
  have loop : ∀ (d fuel i : Nat), i + d = F 0 → d < fuel → f_X9_waterSum_4 2 fuel (zI (sm (fun i => F (5 + i)) i)) (zI i) w = some (zI (sm (fun i => F (5 + i)) (F 0)), w) := by
    intro d
    induction d with
    | zero =>
      intro fuel i hi hf
      obtain ⟨f, rfl⟩ : ∃ f, fuel = f + 1 := ⟨fuel - 1, by omega⟩
      have e : i = F 0 := by omega
      subst e
      rw [f_X9_waterSum_4, show w.1 2 0 = zI (F 0) from hC.1, if_pos (by rw [zI_le (by omega) (by omega)]; omega)]
    | succ d ih =>
      intro fuel i hi hf
      obtain ⟨f, rfl⟩ : ∃ f, fuel = f + 1 := ⟨fuel - 1, by omega⟩
      have h2 := ih f (i + 1) (by omega) (by omega)
      rw [sm] at h2
      rw [f_X9_waterSum_4, show w.1 2 0 = zI (F 0) from hC.1, if_neg (by rw [zI_le (by omega) (by omega)]; omega), if_pos (by rw [inB_z (by omega)]; omega), zI_nat (by omega), show w.1 (2 + 1) i = zI (F (5 + i)) from hC.2.2.2.1 i (by omega), zI_add, zl_1, zI_add]
      exact h2
  exact loop (F 0) 1000 0 (by omega) (by omega)
theorem m_all {w : XW} {F : Nat → Nat} (hM : Mo w.1 142 0 F) (hI : Inv F) : f_X11_all w = some (zI (sm (fun i => F (5 + i)) (F 0)), w) := by
  have a1 := hI.1
  have loop : ∀ (d fuel i : Nat), i + d = F 0 → d < fuel → f_X11_all_4 fuel (zI (sm (fun i => F (5 + i)) i)) (zI i) w = some (zI (sm (fun i => F (5 + i)) (F 0)), w) := by
    intro d
    induction d with
    | zero =>
      intro fuel i hi hf
      obtain ⟨f, rfl⟩ : ∃ f, fuel = f + 1 := ⟨fuel - 1, by omega⟩
      have e : i = F 0 := by omega
      subst e
      rw [f_X11_all_4, show Int32.toNatClampNeg 0 = 0 from rfl, hM.at (by omega), if_pos (by rw [zI_le (by omega) (by omega)]; omega)]
    | succ d ih =>
      intro fuel i hi hf
      obtain ⟨f, rfl⟩ : ∃ f, fuel = f + 1 := ⟨fuel - 1, by omega⟩
      have h2 := ih f (i + 1) (by omega) (by omega)
      rw [sm] at h2
      rw [f_X11_all_4, show Int32.toNatClampNeg 0 = 0 from rfl, hM.at (by omega), if_neg (by rw [zI_le (by omega) (by omega)]; omega), zl_5, zI_add, if_pos (by rw [inB_z (by omega)]; omega), zI_nat (by omega), hM.at (by omega), zI_add, zl_1, zI_add]
      exact h2
  exact loop (F 0) 1000 0 (by omega) (by omega)
theorem sm_cut {G : Nat → Nat} {n : Nat} : ∀ m, n ≤ m → (∀ k, n ≤ k → k < m → G k = 0) → sm G m = sm G n := by
  intro m
  induction m with
  | zero => intro h _; rw [show n = 0 by omega]
  | succ m ih =>
    intro h h2
    by_cases e : n = m + 1
    · rw [e]
    · rw [sm, ih (by omega) (fun k h3 h4 => h2 k h3 (by omega)), h2 m (by omega) (by omega)]; rfl