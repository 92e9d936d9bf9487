/-! one relation for the whole store: class and reference say the same -/
def RSx (h : Nat → Nat → Int32) (F : Nat → Nat) : Prop := Inv F ∧ Cls h 1 F ∧ Mo h 142 0 F
def RNx (B : Nat) (h : Nat → Nat → Int32) : Prop := ∃ (S : Nat → Nat) (sv : Nat), sv ≤ 1 ∧ h 0 10 = zI sv ∧ h 141 6 = zI sv ∧ (sv = 1 → Inv S ∧ S 3 ≤ B ∧ Cls h 23 S ∧ Mo h 144 0 S)
def slot (nx i : Nat) : Nat := 36 + 11 * ((nx + 7 - i) % 8)
def RHy (B : Nat) (h : Nat → Nat → Int32) (hs : Nat → Nat → Nat) (n nx : Nat) : Prop := n ≤ 8 ∧ nx < 8 ∧ h 34 1 = zI nx ∧ h 34 2 = zI n ∧ h 141 5 = zI n ∧ ∀ i, i < n → Inv (hs i) ∧ hs i 3 ≤ B ∧ Cls h (slot nx i) (hs i) ∧ Mo h 145 (66 * (n - 1 - i)) (hs i)
def RHx (B : Nat) (h : Nat → Nat → Int32) : Prop := ∃ hs n nx, RHy B h hs n nx
def RTx (h : Nat → Nat → Int32) : Prop := ∃ t, t ≤ 60 ∧ h 132 1 = zI t ∧ h 141 11 = zI t ∧ ∀ i, i < t → ∃ c, c < 65536 ∧ h 133 i = zI c ∧ h 146 i = zI c
def RLx (h : Nat → Nat → Int32) : Prop := ∃ t, t ≤ 14 ∧ h 134 1 = zI t ∧ h 141 12 = zI t ∧ ∀ i, i < t → ∃ c, c < 65536 ∧ h 135 i = zI c ∧ h 148 i = zI c
def RFx (h : Nat → Nat → Int32) : Prop := h 0 11 = h 141 13
def RDx (h : Nat → Nat → Int32) : Prop := ((h 0 12 = zM ∧ h 141 15 = zI 0) ∨ ∃ n d, 1 ≤ n ∧ n ≤ 8 ∧ d < 100 ∧ h 0 12 = zI n ∧ h 141 15 = zI n ∧ h 0 13 = zI d ∧ h 141 16 = zI d) ∧ ((h 0 14 = zM ∧ h 141 17 = zI 0) ∨ ∃ c, 1 ≤ c ∧ c ≤ 9 ∧ h 0 14 = zI c ∧ h 141 17 = zI c)
def Rel (B : Nat) (h : Nat → Nat → Int32) : Prop := (∃ F, F 3 ≤ B ∧ RSx h F) ∧ RNx B h ∧ RHx B h ∧ RTx h ∧ RLx h ∧ RFx h ∧ RDx h
theorem Cls.cg {h h' : Nat → Nat → Int32} {k : Nat} {F : Nat → Nat} (q : Cls h k F) (e : ∀ a, k + 1 ≤ a → a ≤ k + 10 → h' a = h a) : Cls h' k F := by
  unfold Cls at q ⊢
  rw [e (k + 1) (by omega) (by omega), e (k + 2) (by omega) (by omega), e (k + 3) (by omega) (by omega), e (k + 4) (by omega) (by omega), e (k + 5) (by omega) (by omega), e (k + 6) (by omega) (by omega), e (k + 7) (by omega) (by omega), e (k + 8) (by omega) (by omega), e (k + 9) (by omega) (by omega), e (k + 10) (by omega) (by omega)]
  exact q
theorem Mo.cg {h h' : Nat → Nat → Int32} {a o : Nat} {F : Nat → Nat} (q : Mo h a o F) (e : h' a = h a) : Mo h' a o F := fun j hj => by rw [e]; exact q j hj
section
variable {h h' : Nat → Nat → Int32} {B B' : Nat} {F : Nat → Nat}
theorem RSx.cg (q : RSx h F) (e : ∀ a, 2 ≤ a → a ≤ 11 → h' a = h a) (e2 : h' 142 = h 142) : RSx h' F := ⟨q.1, q.2.1.cg (fun a h1 h2 => e a (by omega) (by omega)), q.2.2.cg e2⟩
theorem RNx.cg (q : RNx B h) (hB : B ≤ B') (e : ∀ a, 24 ≤ a → a ≤ 33 → h' a = h a) (e2 : h' 144 = h 144) (e3 : h' 0 10 = h 0 10) (e4 : h' 141 6 = h 141 6) : RNx B' h' := by
  obtain ⟨S, sv, q1, q2, q3, q4⟩ := q
  exact ⟨S, sv, q1, by rw [e3]; exact q2, by rw [e4]; exact q3, fun z => ⟨(q4 z).1, by have := (q4 z).2.1; omega, (q4 z).2.2.1.cg (fun a h1 h2 => e a (by omega) (by omega)), (q4 z).2.2.2.cg e2⟩⟩
theorem slot_in (nx i : Nat) : 36 ≤ slot nx i ∧ slot nx i + 10 ≤ 123 := by unfold slot; omega
theorem RHx.cg (q : RHx B h) (hB : B ≤ B') (e : ∀ a, 36 ≤ a → a ≤ 123 → h' a = h a) (e2 : h' 145 = h 145) (e3 : h' 34 = h 34) (e4 : h' 141 5 = h 141 5) : RHx B' h' := by
  obtain ⟨hs, n, nx, q1, q2, q3, q4, q5, q6⟩ := q
  refine ⟨hs, n, nx, q1, q2, by rw [e3]; exact q3, by rw [e3]; exact q4, by rw [e4]; exact q5, fun i hi => ?_⟩
  obtain ⟨z1, z2, z3, z4⟩ := q6 i hi
  have := slot_in nx i
  exact ⟨z1, by omega, z3.cg (fun a h1 h2 => e a (by omega) (by omega)), z4.cg e2⟩
theorem RTx.cg (q : RTx h) (e1 : h' 132 1 = h 132 1) (e2 : h' 133 = h 133) (e3 : h' 146 = h 146) (e4 : h' 141 11 = h 141 11) : RTx h' := by
  obtain ⟨t, q1, q2, q3, q4⟩ := q
  exact ⟨t, q1, by rw [e1]; exact q2, by rw [e4]; exact q3, by rw [e2, e3]; exact q4⟩
theorem RLx.cg (q : RLx h) (e1 : h' 134 1 = h 134 1) (e2 : h' 135 = h 135) (e3 : h' 148 = h 148) (e4 : h' 141 12 = h 141 12) : RLx h' := by
  obtain ⟨t, q1, q2, q3, q4⟩ := q
  exact ⟨t, q1, by rw [e1]; exact q2, by rw [e4]; exact q3, by rw [e2, e3]; exact q4⟩
theorem RFx.cg (q : RFx h) (e1 : h' 0 11 = h 0 11) (e2 : h' 141 13 = h 141 13) : RFx h' := by unfold RFx at q ⊢; rw [e1, e2]; exact q
theorem RDx.cg (q : RDx h) (e1 : ∀ c, 12 ≤ c → c ≤ 14 → h' 0 c = h 0 c) (e2 : ∀ c, 15 ≤ c → c ≤ 17 → h' 141 c = h 141 c) : RDx h' := by
  unfold RDx at q ⊢
  rw [e1 12 (by omega) (by omega), e1 13 (by omega) (by omega), e1 14 (by omega) (by omega), e2 15 (by omega) (by omega), e2 16 (by omega) (by omega), e2 17 (by omega) (by omega)]
  exact q
/-- nothing that is related has changed: cells, and the fields of the two great objects -/
theorem Rel.cg (q : Rel B h) (hB : B ≤ B') (e : ∀ a, a ≠ 0 → a ≠ 141 → ¬ (124 ≤ a ∧ a ≤ 131) → ¬ (136 ≤ a ∧ a ≤ 140) → ¬ (12 ≤ a ∧ a ≤ 22) → a ≠ 143 → a ≠ 147 → a ≠ 149 → h' a = h a) (e0 : ∀ c, 10 ≤ c → h' 0 c = h 0 c) (e1 : ∀ c, c = 5 ∨ c = 6 ∨ c = 11 ∨ c = 12 ∨ c = 13 ∨ c = 15 ∨ c = 16 ∨ c = 17 → h' 141 c = h 141 c) : Rel B' h' := by
  obtain ⟨⟨F, q1, q1'⟩, q2, q3, q4, q5, q6, q7⟩ := q
  have g : ∀ a, a ≠ 0 → a ≠ 141 → ¬ (124 ≤ a ∧ a ≤ 131) → ¬ (136 ≤ a ∧ a ≤ 140) → ¬ (12 ≤ a ∧ a ≤ 22) → a ≠ 143 → a ≠ 147 → a ≠ 149 → h' a = h a := e
  refine ⟨⟨F, by omega, q1'.cg (fun a h1 h2 => g a (by omega) (by omega) (by omega) (by omega) (by omega) (by omega) (by omega) (by omega)) (g _ (by omega) (by omega) (by omega) (by omega) (by omega) (by omega) (by omega) (by omega))⟩, q2.cg hB (fun a h1 h2 => g a (by omega) (by omega) (by omega) (by omega) (by omega) (by omega) (by omega) (by omega)) (g _ (by omega) (by omega) (by omega) (by omega) (by omega) (by omega) (by omega) (by omega)) (e0 _ (by omega)) (e1 _ (by omega)), q3.cg hB (fun a h1 h2 => g a (by omega) (by omega) (by omega) (by omega) (by omega) (by omega) (by omega) (by omega)) (g _ (by omega) (by omega) (by omega) (by omega) (by omega) (by omega) (by omega) (by omega)) (g _ (by omega) (by omega) (by omega) (by omega) (by omega) (by omega) (by omega) (by omega)) (e1 _ (by omega)), q4.cg ?_ ?_ ?_ (e1 _ (by omega)), q5.cg ?_ ?_ ?_ (e1 _ (by omega)), q6.cg (e0 _ (by omega)) (e1 _ (by omega)), q7.cg (fun c h1 h2 => e0 c (by omega)) (fun c h1 h2 => e1 c (by omega))⟩
  · rw [g 132 (by omega) (by omega) (by omega) (by omega) (by omega) (by omega) (by omega) (by omega)]
  · exact g 133 (by omega) (by omega) (by omega) (by omega) (by omega) (by omega) (by omega) (by omega)
  · exact g 146 (by omega) (by omega) (by omega) (by omega) (by omega) (by omega) (by omega) (by omega)
  · rw [g 134 (by omega) (by omega) (by omega) (by omega) (by omega) (by omega) (by omega) (by omega)]
  · exact g 135 (by omega) (by omega) (by omega) (by omega) (by omega) (by omega) (by omega) (by omega)
  · exact g 148 (by omega) (by omega) (by omega) (by omega) (by omega) (by omega) (by omega) (by omega)
end
/-! a State, copied -/
theorem wcpy_at (w : XW) (sk sp dk dp n a c : Nat) : (wcpy w sk sp dk dp n).1 a c = if a = dk ∧ dp ≤ c ∧ c < dp + n then w.1 sk (sp + (c - dp)) else w.1 a c := (rfl)
/-- the marks of broken pipes are copied one by one -/
theorem z_copyB {k k1 : Nat} (hk : k ≠ k1) : ∀ (d fuel i : Nat) (w : XW), i + d = 10 → d < fuel → (∀ p, p < 10 → w.1 (k1 + 4) p = zI 0 ∨ w.1 (k1 + 4) p = zI 1) → (∀ p, p < i → w.1 (k + 4) p = w.1 (k1 + 4) p) →
    ∃ w', f_X5_copyFrom_55 k k1 fuel (zI i) w = some w' ∧ Fr (fun a => a = k + 4) w w' ∧ ∀ p, p < 10 → w'.1 (k + 4) p = w.1 (k1 + 4) p := by
  intro d
  induction d with
  | zero =>
    intro fuel i w hi hf hb hp
    obtain ⟨f, rfl⟩ : ∃ f, fuel = f + 1 := ⟨fuel - 1, by omega⟩
    have e : i = 10 := by omega
    subst e
    refine ⟨w, ?_, Fr.rf, hp⟩
    rw [f_X5_copyFrom_55]
    simp (disch := omega) only [zl_0, zl_1, zl_2, zl_3, zl_4, zl_5, zl_6, zl_7, zl_8, zl_9, zl_10, zl_11, zl_12, zl_13, zl_14, zl_15, zl_16, zl_17, zl_18, zl_19, zl_20, zl_21, zl_22, zl_23, zl_24, zl_25, zl_26, zl_27, zl_28, zl_29, zl_30, zl_31, zl_32, zl_33, zl_34, zl_35, zl_36, zl_37, zl_38, zl_39, zl_40, zl_41, zl_42, zl_43, zl_44, zl_45, zl_46, zl_47, zl_48, zl_49, zl_50, zl_51, zl_52, zl_53, zl_54, zl_55, zl_56, zl_57, zl_58, zl_59, zl_60, zl_61, zl_62, zl_63, zl_64, zl_65, zl_66, zl_67, zl_68, zl_69, zl_70, zl_71, zl_72, zl_73, zl_74, zl_75, zl_76, zl_77, zl_78, zl_79, zl_80, zl_81, zl_82, zl_83, zl_84, zl_85, zl_86, zl_87, zl_88, zl_89, zl_90, zl_91, zl_92, zl_93, zl_94, zl_95, zl_96, zl_97, zl_98, zl_99, zl_100, zl_101, zl_102, zl_103, zl_104, zl_105, zl_106, zl_107, zl_108, zl_109, zl_110, zl_111, zl_112, zl_113, zl_114, zl_115, zl_116, zl_117, zl_118, zl_119, zl_120, zl_121, zl_122, zl_123, zl_124, zl_125, zl_126, zl_127, zl_128, zl_180, zl_200, zl_240, zl_462, zl_528, zm1, zI_add, zI_mul, zI_sub, zI_addneg, zI_lt, zI_le, zI_inj, zI_nat, zI_zM, zM_zI, zM_lt, lt_zM, zM_le, le_zM, zM_leM, zM_ltM, inB_z, bI_s, bV_s, bIX_s, bVX_s, bIX_x, bVX_x, if_true, if_false, ↓reduceIte, nar0z, nar1z, Nat.not_lt_zero, Nat.zero_le, Nat.le_zero_eq, not_true_eq_false, not_false_eq_true, false_and, and_false, true_and, and_true, and_self, wset_at, Nat.le_refl, Nat.reduceAdd, Nat.reduceSub, Nat.reduceMul, Nat.reduceDiv, Nat.reduceMod, Nat.reduceEqDiff, Nat.reduceLT, Nat.add_sub_cancel, Nat.reducePow, Nat.reduceLeDiff]
  | succ d ih =>
    intro fuel i w hi hf hb hp
    obtain ⟨f, rfl⟩ : ∃ f, fuel = f + 1 := ⟨fuel - 1, by omega⟩
    have hn : vp_nar .boolean (w.1 (k1 + 4) i) = w.1 (k1 + 4) i := by
      rcases hb i (by omega) with z | z <;> rw [z]
      · exact nar0z
      · exact nar1z
    have hne : k1 + 4 ≠ k + 4 := by omega
    obtain ⟨w', e1, e2, e3⟩ := ih f (i + 1) (wset w (k + 4) i (w.1 (k1 + 4) i)) (by omega) (by omega) (fun p h => by
      simp only [wset_at, hne, false_and, if_false]
      exact hb p h) (fun p h => by
      simp only [wset_at, hne, false_and, if_false]
      by_cases e : p = i
      · simp only [e, and_self, if_true]
      · simp only [e, and_false, if_false]
        exact hp p (by omega))
    refine ⟨w', ?_, ((Fr.rf (P := fun a => a = k + 4) (w := w)).set (k := k + 4) rfl _ _).tr e2, fun p h => ?_⟩
    · rw [f_X5_copyFrom_55]
      simp (disch := omega) only [hn, zl_0, zl_1, zl_2, zl_3, zl_4, zl_5, zl_6, zl_7, zl_8, zl_9, zl_10, zl_11, zl_12, zl_13, zl_14, zl_15, zl_16, zl_17, zl_18, zl_19, zl_20, zl_21, zl_22, zl_23, zl_24, zl_25, zl_26, zl_27, zl_28, zl_29, zl_30, zl_31, zl_32, zl_33, zl_34, zl_35, zl_36, zl_37, zl_38, zl_39, zl_40, zl_41, zl_42, zl_43, zl_44, zl_45, zl_46, zl_47, zl_48, zl_49, zl_50, zl_51, zl_52, zl_53, zl_54, zl_55, zl_56, zl_57, zl_58, zl_59, zl_60, zl_61, zl_62, zl_63, zl_64, zl_65, zl_66, zl_67, zl_68, zl_69, zl_70, zl_71, zl_72, zl_73, zl_74, zl_75, zl_76, zl_77, zl_78, zl_79, zl_80, zl_81, zl_82, zl_83, zl_84, zl_85, zl_86, zl_87, zl_88, zl_89, zl_90, zl_91, zl_92, zl_93, zl_94, zl_95, zl_96, zl_97, zl_98, zl_99, zl_100, zl_101, zl_102, zl_103, zl_104, zl_105, zl_106, zl_107, zl_108, zl_109, zl_110, zl_111, zl_112, zl_113, zl_114, zl_115, zl_116, zl_117, zl_118, zl_119, zl_120, zl_121, zl_122, zl_123, zl_124, zl_125, zl_126, zl_127, zl_128, zl_180, zl_200, zl_240, zl_462, zl_528, zm1, zI_add, zI_mul, zI_sub, zI_addneg, zI_lt, zI_le, zI_inj, zI_nat, zI_zM, zM_zI, zM_lt, lt_zM, zM_le, le_zM, zM_leM, zM_ltM, inB_z, bI_s, bV_s, bIX_s, bVX_s, bIX_x, bVX_x, if_true, if_false, ↓reduceIte, nar0z, nar1z, Nat.not_lt_zero, Nat.zero_le, Nat.le_zero_eq, not_true_eq_false, not_false_eq_true, false_and, and_false, true_and, and_true, and_self, wset_at, Nat.le_refl, Nat.reduceAdd, Nat.reduceSub, Nat.reduceMul, Nat.reduceDiv, Nat.reduceMod, Nat.reduceEqDiff, Nat.reduceLT, Nat.add_sub_cancel, Nat.reducePow, Nat.reduceLeDiff]
      simp only [show ¬ 10 ≤ i by omega, show i < 10 by omega, if_true, if_false]
      exact e1
    · rw [e3 p h]
      simp only [wset_at, hne, false_and, if_false]
theorem z_copy {w : XW} {k k1 : Nat} {F : Nat → Nat} (hC : Cls w.1 k1 F) (hk : k + 11 ≤ k1 ∨ k1 + 11 ≤ k) (h1 : F 1 ≤ 7) (h2 : F 2 ≤ 10) : ∃ w', f_X8_copyFrom k k1 w = some w' ∧ Fr (fun a => k + 1 ≤ a ∧ a ≤ k + 10) w w' ∧ Cls w'.1 k F := by
  obtain ⟨q1, q2, q3, q4, q5, q6, q7, q8, q9, q10⟩ := hC
  have e0 : Int32.toNatClampNeg 0 = 0 := rfl
  have e7 : Int32.toNatClampNeg 7 = 7 := rfl
  have e10 : Int32.toNatClampNeg 10 = 10 := rfl
  obtain ⟨w1, p1, f1, g1⟩ : ∃ w1, f_X9_copyFrom (k + 1) (k1 + 1) w = some w1 ∧ Fr (fun a => k + 1 ≤ a ∧ a ≤ k + 3) w w1 ∧ (w1.1 (k + 1) 0 = w.1 (k1 + 1) 0 ∧ w1.1 (k + 1) 1 = w.1 (k1 + 1) 1 ∧ w1.1 (k + 1) 2 = w.1 (k1 + 1) 2 ∧ (∀ i, i < 7 → w1.1 (k + 2) i = w.1 (k1 + 2) i ∧ w1.1 (k + 3) i = w.1 (k1 + 3) i)) := by
    refine ⟨_, rfl, ⟨fun a ha => ?_, rfl⟩, ?_, ?_, ?_, fun i hi => ⟨?_, ?_⟩⟩
    · funext c
      simp only [wcpy_at, wset_at, e0, e7]
      simp (disch := omega) only [if_pos, if_neg, true_and, and_true, if_true, Nat.zero_le, Nat.zero_add, Nat.sub_zero]
    · simp only [wcpy_at, wset_at, e0, e7]
      simp (disch := omega) only [if_pos, if_neg, true_and, and_true, if_true, Nat.zero_le, Nat.zero_add, Nat.sub_zero]
    · simp only [wcpy_at, wset_at, e0, e7]
      simp (disch := omega) only [if_pos, if_neg, true_and, and_true, if_true, Nat.zero_le, Nat.zero_add, Nat.sub_zero]
    · simp only [wcpy_at, wset_at, e0, e7]
      simp (disch := omega) only [if_pos, if_neg, true_and, and_true, if_true, Nat.zero_le, Nat.zero_add, Nat.sub_zero]
    · simp only [wcpy_at, wset_at, e0, e7]
      simp (disch := omega) only [if_pos, if_neg, true_and, and_true, if_true, Nat.zero_le, Nat.zero_add, Nat.sub_zero]
      try rw [show 0 + (i - 0) = i by omega]
    · simp only [wcpy_at, wset_at, e0, e7]
      simp (disch := omega) only [if_pos, if_neg, true_and, and_true, if_true, Nat.zero_le, Nat.zero_add, Nat.sub_zero]
      try rw [show 0 + (i - 0) = i by omega]
  obtain ⟨g1a, g1b, g1c, g1d⟩ := g1
  obtain ⟨w2, p2, f2, g2, g2'⟩ := p_copy (w := w1) (k := k + 4) (k1 := k1 + 4) (n := F 1) (by omega) (by rw [f1.at (by omega)]; exact q6)
  have fz : ∀ i, i < 10 → w2.1 (k1 + 10) i = zI 0 ∨ w2.1 (k1 + 10) i = zI 1 := fun i hi => by
    rw [f2.at (by omega), f1.at (by omega)]
    exact q10 i hi
  have f12 : Fr (fun a => k + 1 ≤ a ∧ a ≤ k + 5) w w2 := (f1.wk (fun a z => by omega)).tr (f2.wk (fun a z => by omega))
  obtain ⟨w3, p3, f3, g3, g4⟩ : ∃ w3, f_X5_copyFrom (k + 6) (k1 + 6) w2 = some w3 ∧ Fr (fun a => k + 6 ≤ a ∧ a ≤ k + 10) w2 w3 ∧ w3.1 (k + 6) 0 = w2.1 (k1 + 6) 0 ∧ ∀ i, i < 10 → w3.1 (k + 7) i = w2.1 (k1 + 7) i ∧ w3.1 (k + 8) i = w2.1 (k1 + 8) i ∧ w3.1 (k + 9) i = w2.1 (k1 + 9) i ∧ w3.1 (k + 10) i = w2.1 (k1 + 10) i := by
    obtain ⟨W, hW⟩ : ∃ W, W = wcpy (wcpy (wcpy (wset w2 (k + 6) 0 (w2.1 (k1 + 6) 0)) (k1 + 6 + 1) (Int32.toNatClampNeg 0) (k + 6 + 1) (Int32.toNatClampNeg 0) (Int32.toNatClampNeg 10)) (k1 + 6 + 2) (Int32.toNatClampNeg 0) (k + 6 + 2) (Int32.toNatClampNeg 0) (Int32.toNatClampNeg 10)) (k1 + 6 + 3) (Int32.toNatClampNeg 0) (k + 6 + 3) (Int32.toNatClampNeg 0) (Int32.toNatClampNeg 10) := ⟨_, rfl⟩
    have hb : ∀ p, p < 10 → W.1 (k1 + 6 + 4) p = w2.1 (k1 + 10) p := by
      intro p hp
      rw [hW]
      simp only [wcpy_at, wset_at, e0, e10]
      simp (disch := omega) only [if_pos, if_neg, true_and, and_true, if_true, Nat.zero_le, Nat.zero_add, Nat.sub_zero]
    obtain ⟨w3, p3, f3, g3⟩ := z_copyB (k := k + 6) (k1 := k1 + 6) (by omega) 10 1000 0 W rfl (by omega) (fun p hp => by
      rw [hb p hp]
      exact fz p hp) (fun p hp => absurd hp (by omega))
    refine ⟨w3, ?_, ⟨fun a ha => ?_, ?_⟩, ?_, fun i hi => ⟨?_, ?_, ?_, ?_⟩⟩
    · unfold f_X5_copyFrom
      rw [← hW]
      exact p3
    · rw [f3.1 a (by omega), hW]
      funext c
      simp only [wcpy_at, wset_at, e0, e10]
      simp (disch := omega) only [if_pos, if_neg, true_and, and_true, if_true, Nat.zero_le, Nat.zero_add, Nat.sub_zero]
    · rw [f3.2, hW]
      rfl
    · rw [f3.at (by omega), hW]
      simp only [wcpy_at, wset_at, e0, e10]
      simp (disch := omega) only [if_pos, if_neg, true_and, and_true, if_true, Nat.zero_le, Nat.zero_add, Nat.sub_zero]
    · rw [f3.at (by omega), hW]
      simp only [wcpy_at, wset_at, e0, e10]
      simp (disch := omega) only [if_pos, if_neg, true_and, and_true, if_true, Nat.zero_le, Nat.zero_add, Nat.sub_zero]
    · rw [f3.at (by omega), hW]
      simp only [wcpy_at, wset_at, e0, e10]
      simp (disch := omega) only [if_pos, if_neg, true_and, and_true, if_true, Nat.zero_le, Nat.zero_add, Nat.sub_zero]
    · rw [f3.at (by omega), hW]
      simp only [wcpy_at, wset_at, e0, e10]
      simp (disch := omega) only [if_pos, if_neg, true_and, and_true, if_true, Nat.zero_le, Nat.zero_add, Nat.sub_zero]
    · rw [show k + 10 = k + 6 + 4 from rfl, g3 i hi, hb i hi]
  refine ⟨w3, ?_, (f12.wk (fun a z => by omega)).tr (f3.wk (fun a z => by omega)), ?_, ?_, ?_, fun i hi => ?_, fun i hi => ?_, ?_, fun s hs => ?_, ?_, fun p hp => ?_, fun p hp => ?_⟩
  · unfold f_X8_copyFrom
    rw [p1, bV_s, p2, bV_s, p3, bV_s]
  · rw [f3.at (by omega), f2.at (by omega), g1a]; exact q1
  · rw [f3.at (by omega), f2.at (by omega), g1b]; exact q2
  · rw [f3.at (by omega), f2.at (by omega), g1c]; exact q3
  · rw [f3.at (by omega), f2.at (by omega), (g1d i hi).1]; exact q4 i hi
  · rw [f3.at (by omega), f2.at (by omega), (g1d i hi).2]; exact q5 i hi
  · rw [f3.at (by omega)]; exact g2
  · rw [f3.at (by omega), show k + 5 = k + 4 + 1 by omega, g2' s (by omega), f1.at (by omega)]; exact q7 s hs
  · rw [g3, f12.at (by omega)]; exact q8
  · obtain ⟨z1, z2, z3, z4⟩ := g4 p (by omega)
    rw [z1, z2, z3, z4, f12.at (by omega), f12.at (by omega), f12.at (by omega), f12.at (by omega)]; exact q9 p hp
  · rw [(g4 p hp).2.2.2, f12.at (by omega)]; exact q10 p hp
