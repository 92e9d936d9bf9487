/-! the class's greatest flow is the smallest cut: cells 125 (what is left, 7 by 7), 126 (reached from), 127 (the queue) -/
def RR (w : XW) (r : Nat → Nat → Nat) : Prop := ∀ u v, u < 7 → v < 7 → w.1 125 (u * 7 + v) = zI (r u v)
def up2 (r : Nat → Nat → Nat) (a b x : Nat) : Nat → Nat → Nat := fun u v => if u = a ∧ v = b then x else r u v
theorem RR.set {w : XW} {r : Nat → Nat → Nat} (h : RR w r) {a b : Nat} (ha : a < 7) (hb : b < 7) (x : Nat) : RR (wset w 125 (a * 7 + b) (zI x)) (up2 r a b x) := by
  intro u v hu hv
  rw [wset_at]
  unfold up2
  by_cases e : u = a ∧ v = b
  · rw [if_pos e, if_pos ⟨rfl, by omega⟩]
  · rw [if_neg e, if_neg (fun z => e (by omega))]
    exact h u v hu hv
theorem RR.of {w w' : XW} {r : Nat → Nat → Nat} (h : RR w r) (e : w'.1 125 = w.1 125) : RR w' r := fun u v hu hv => by rw [e]; exact h u v hu hv
section
variable {w : XW} {r : Nat → Nat → Nat} {a b d : Nat}
theorem g_grid (ha : a < 7) (hb : b < 7) : f_X1_inGrid (zI a) (zI b) w = some (zI 1, w) := by
  unfold f_X1_inGrid
  simp (disch := omega) only [zl_0, zl_1, zl_2, zl_3, zl_4, zl_5, zl_6, zl_7, zl_8, zl_9, zl_10, zl_11, zl_12, zl_13, zl_14, zl_15, zl_16, zl_17, zl_18, zl_19, zl_20, zl_21, zl_22, zl_23, zl_24, zl_25, zl_26, zl_27, zl_28, zl_29, zl_30, zl_31, zl_32, zl_33, zl_34, zl_35, zl_36, zl_37, zl_38, zl_39, zl_40, zl_41, zl_42, zl_43, zl_44, zl_45, zl_46, zl_47, zl_48, zl_49, zl_50, zl_51, zl_52, zl_53, zl_54, zl_55, zl_56, zl_57, zl_58, zl_59, zl_60, zl_61, zl_62, zl_63, zl_64, zl_65, zl_66, zl_67, zl_68, zl_69, zl_70, zl_71, zl_72, zl_73, zl_74, zl_75, zl_76, zl_77, zl_78, zl_79, zl_80, zl_81, zl_82, zl_83, zl_84, zl_85, zl_86, zl_87, zl_88, zl_89, zl_90, zl_91, zl_92, zl_93, zl_94, zl_95, zl_96, zl_97, zl_98, zl_99, zl_100, zl_101, zl_102, zl_103, zl_104, zl_105, zl_106, zl_107, zl_108, zl_109, zl_110, zl_111, zl_112, zl_113, zl_114, zl_115, zl_116, zl_117, zl_118, zl_119, zl_120, zl_121, zl_122, zl_123, zl_124, zl_125, zl_126, zl_127, zl_128, zl_180, zl_200, zl_240, zl_462, zl_528, zm1, zI_add, zI_mul, zI_sub, zI_addneg, zI_lt, zI_le, zI_inj, zI_nat, zI_zM, zM_zI, zM_lt, lt_zM, zM_le, le_zM, zM_leM, zM_ltM, inB_z, bI_s, bV_s, bIX_s, bVX_s, bIX_x, bVX_x, if_true, if_false, ↓reduceIte, nar0z, nar1z, Nat.not_lt_zero, Nat.zero_le, Nat.le_zero_eq, not_true_eq_false, not_false_eq_true, false_and, and_false, true_and, and_true, and_self, wset_at, Nat.le_refl, Nat.reduceAdd, Nat.reduceSub, Nat.reduceMul, Nat.reduceDiv, Nat.reduceMod, Nat.reduceEqDiff, Nat.reduceLT, Nat.add_sub_cancel, Nat.reducePow, Nat.reduceLeDiff, show ¬ 7 ≤ a by omega, show ¬ 7 ≤ b by omega]
theorem g_add (h : RR w r) (ha : a < 7) (hb : b < 7) : f_X1_addSpare (zI a) (zI b) (zI d) w = some (wset w 125 (a * 7 + b) (zI (r a b + d))) := by
  unfold f_X1_addSpare
  simp (disch := omega) only [g_grid ha hb, h a b ha hb, zl_0, zl_1, zl_2, zl_3, zl_4, zl_5, zl_6, zl_7, zl_8, zl_9, zl_10, zl_11, zl_12, zl_13, zl_14, zl_15, zl_16, zl_17, zl_18, zl_19, zl_20, zl_21, zl_22, zl_23, zl_24, zl_25, zl_26, zl_27, zl_28, zl_29, zl_30, zl_31, zl_32, zl_33, zl_34, zl_35, zl_36, zl_37, zl_38, zl_39, zl_40, zl_41, zl_42, zl_43, zl_44, zl_45, zl_46, zl_47, zl_48, zl_49, zl_50, zl_51, zl_52, zl_53, zl_54, zl_55, zl_56, zl_57, zl_58, zl_59, zl_60, zl_61, zl_62, zl_63, zl_64, zl_65, zl_66, zl_67, zl_68, zl_69, zl_70, zl_71, zl_72, zl_73, zl_74, zl_75, zl_76, zl_77, zl_78, zl_79, zl_80, zl_81, zl_82, zl_83, zl_84, zl_85, zl_86, zl_87, zl_88, zl_89, zl_90, zl_91, zl_92, zl_93, zl_94, zl_95, zl_96, zl_97, zl_98, zl_99, zl_100, zl_101, zl_102, zl_103, zl_104, zl_105, zl_106, zl_107, zl_108, zl_109, zl_110, zl_111, zl_112, zl_113, zl_114, zl_115, zl_116, zl_117, zl_118, zl_119, zl_120, zl_121, zl_122, zl_123, zl_124, zl_125, zl_126, zl_127, zl_128, zl_180, zl_200, zl_240, zl_462, zl_528, zm1, zI_add, zI_mul, zI_sub, zI_addneg, zI_lt, zI_le, zI_inj, zI_nat, zI_zM, zM_zI, zM_lt, lt_zM, zM_le, le_zM, zM_leM, zM_ltM, inB_z, bI_s, bV_s, bIX_s, bVX_s, bIX_x, bVX_x, if_true, if_false, ↓reduceIte, nar0z, nar1z, Nat.not_lt_zero, Nat.zero_le, Nat.le_zero_eq, not_true_eq_false, not_false_eq_true, false_and, and_false, true_and, and_true, and_self, wset_at, Nat.le_refl, Nat.reduceAdd, Nat.reduceSub, Nat.reduceMul, Nat.reduceDiv, Nat.reduceMod, Nat.reduceEqDiff, Nat.reduceLT, Nat.add_sub_cancel, Nat.reducePow, Nat.reduceLeDiff, show a * 7 + b < 49 by omega]
theorem g_take (h : RR w r) (ha : a < 7) (hb : b < 7) (hd : d ≤ r a b) : f_X1_addSpare (zI a) (zI b) (-(zI d)) w = some (wset w 125 (a * 7 + b) (zI (r a b - d))) := by
  unfold f_X1_addSpare
  simp (disch := omega) only [g_grid ha hb, h a b ha hb, zl_0, zl_1, zl_2, zl_3, zl_4, zl_5, zl_6, zl_7, zl_8, zl_9, zl_10, zl_11, zl_12, zl_13, zl_14, zl_15, zl_16, zl_17, zl_18, zl_19, zl_20, zl_21, zl_22, zl_23, zl_24, zl_25, zl_26, zl_27, zl_28, zl_29, zl_30, zl_31, zl_32, zl_33, zl_34, zl_35, zl_36, zl_37, zl_38, zl_39, zl_40, zl_41, zl_42, zl_43, zl_44, zl_45, zl_46, zl_47, zl_48, zl_49, zl_50, zl_51, zl_52, zl_53, zl_54, zl_55, zl_56, zl_57, zl_58, zl_59, zl_60, zl_61, zl_62, zl_63, zl_64, zl_65, zl_66, zl_67, zl_68, zl_69, zl_70, zl_71, zl_72, zl_73, zl_74, zl_75, zl_76, zl_77, zl_78, zl_79, zl_80, zl_81, zl_82, zl_83, zl_84, zl_85, zl_86, zl_87, zl_88, zl_89, zl_90, zl_91, zl_92, zl_93, zl_94, zl_95, zl_96, zl_97, zl_98, zl_99, zl_100, zl_101, zl_102, zl_103, zl_104, zl_105, zl_106, zl_107, zl_108, zl_109, zl_110, zl_111, zl_112, zl_113, zl_114, zl_115, zl_116, zl_117, zl_118, zl_119, zl_120, zl_121, zl_122, zl_123, zl_124, zl_125, zl_126, zl_127, zl_128, zl_180, zl_200, zl_240, zl_462, zl_528, zm1, zI_add, zI_mul, zI_sub, zI_addneg, zI_lt, zI_le, zI_inj, zI_nat, zI_zM, zM_zI, zM_lt, lt_zM, zM_le, le_zM, zM_leM, zM_ltM, inB_z, bI_s, bV_s, bIX_s, bVX_s, bIX_x, bVX_x, if_true, if_false, ↓reduceIte, nar0z, nar1z, Nat.not_lt_zero, Nat.zero_le, Nat.le_zero_eq, not_true_eq_false, not_false_eq_true, false_and, and_false, true_and, and_true, and_self, wset_at, Nat.le_refl, Nat.reduceAdd, Nat.reduceSub, Nat.reduceMul, Nat.reduceDiv, Nat.reduceMod, Nat.reduceEqDiff, Nat.reduceLT, Nat.add_sub_cancel, Nat.reducePow, Nat.reduceLeDiff, show a * 7 + b < 49 by omega]
theorem g_spare (h : RR w r) (ha : a < 7) (hb : b < 7) : f_X1_spareOf (zI a) (zI b) w = some (zI (r a b), w) := by
  unfold f_X1_spareOf
  simp (disch := omega) only [g_grid ha hb, h a b ha hb, zl_0, zl_1, zl_2, zl_3, zl_4, zl_5, zl_6, zl_7, zl_8, zl_9, zl_10, zl_11, zl_12, zl_13, zl_14, zl_15, zl_16, zl_17, zl_18, zl_19, zl_20, zl_21, zl_22, zl_23, zl_24, zl_25, zl_26, zl_27, zl_28, zl_29, zl_30, zl_31, zl_32, zl_33, zl_34, zl_35, zl_36, zl_37, zl_38, zl_39, zl_40, zl_41, zl_42, zl_43, zl_44, zl_45, zl_46, zl_47, zl_48, zl_49, zl_50, zl_51, zl_52, zl_53, zl_54, zl_55, zl_56, zl_57, zl_58, zl_59, zl_60, zl_61, zl_62, zl_63, zl_64, zl_65, zl_66, zl_67, zl_68, zl_69, zl_70, zl_71, zl_72, zl_73, zl_74, zl_75, zl_76, zl_77, zl_78, zl_79, zl_80, zl_81, zl_82, zl_83, zl_84, zl_85, zl_86, zl_87, zl_88, zl_89, zl_90, zl_91, zl_92, zl_93, zl_94, zl_95, zl_96, zl_97, zl_98, zl_99, zl_100, zl_101, zl_102, zl_103, zl_104, zl_105, zl_106, zl_107, zl_108, zl_109, zl_110, zl_111, zl_112, zl_113, zl_114, zl_115, zl_116, zl_117, zl_118, zl_119, zl_120, zl_121, zl_122, zl_123, zl_124, zl_125, zl_126, zl_127, zl_128, zl_180, zl_200, zl_240, zl_462, zl_528, zm1, zI_add, zI_mul, zI_sub, zI_addneg, zI_lt, zI_le, zI_inj, zI_nat, zI_zM, zM_zI, zM_lt, lt_zM, zM_le, le_zM, zM_leM, zM_ltM, inB_z, bI_s, bV_s, bIX_s, bVX_s, bIX_x, bVX_x, if_true, if_false, ↓reduceIte, nar0z, nar1z, Nat.not_lt_zero, Nat.zero_le, Nat.le_zero_eq, not_true_eq_false, not_false_eq_true, false_and, and_false, true_and, and_true, and_self, wset_at, Nat.le_refl, Nat.reduceAdd, Nat.reduceSub, Nat.reduceMul, Nat.reduceDiv, Nat.reduceMod, Nat.reduceEqDiff, Nat.reduceLT, Nat.add_sub_cancel, Nat.reducePow, Nat.reduceLeDiff, show a * 7 + b < 49 by omega]
end
theorem g_clear : ∀ (d fuel i : Nat) (w : XW), i + d = 49 → d < fuel → (∀ c, c < i → w.1 125 c = zI 0) → ∀ (k1 : Nat) (y : Int32),
    ∃ w', f_X1_openPipes_2 k1 y fuel (zI i) w = f_X1_openPipes_26 k1 y 1000 0 w' ∧ Fr (fun a => a = 125) w w' ∧ ∀ c, c < 49 → w'.1 125 c = zI 0 := by
  intro d
  induction d with
  | zero =>
    intro fuel i w hi hf h k1 y
    obtain ⟨f, rfl⟩ : ∃ f, fuel = f + 1 := ⟨fuel - 1, by omega⟩
    refine ⟨w, ?_, Fr.rf, fun c hc => h c (by omega)⟩
    rw [f_X1_openPipes_2]
    rw [if_pos (by rw [zl_49, zI_le (by omega) (by omega)]; omega)]
  | succ d ih =>
    intro fuel i w hi hf h k1 y
    obtain ⟨f, rfl⟩ : ∃ f, fuel = f + 1 := ⟨fuel - 1, by omega⟩
    obtain ⟨w', e1, e2, e3⟩ := ih f (i + 1) (wset w 125 i (zI 0)) (by omega) (by omega) (fun c hc => by
      rw [wset_at]
      by_cases e : c = i
      · rw [if_pos ⟨rfl, e⟩]
      · rw [if_neg (fun z => e z.2)]; exact h c (by omega)) k1 y
    have hfr : Fr (fun a => a = 125) w (wset w 125 i (zI 0)) := fr1 _ _
    refine ⟨w', ?_, hfr.tr e2, e3⟩
    rw [f_X1_openPipes_2, if_neg (by rw [zl_49, zI_le (by omega) (by omega)]; omega), if_pos (by rw [inB_z (by omega)]; omega), zl_1, zI_add, zI_nat (by omega)]
    exact e1
/-- the pipes as the class has them -/
def PP (w : XW) (F : Nat → Nat) : Prop := w.1 7 0 = zI (F 2) ∧ F 2 ≤ 10 ∧ ∀ p, p < F 2 → w.1 8 p = zI (F (26 + 4 * p)) ∧ w.1 9 p = zI (F (27 + 4 * p)) ∧ w.1 10 p = zI (F (28 + 4 * p)) ∧ w.1 11 p = zI (F (29 + 4 * p)) ∧ F (29 + 4 * p) ≤ 1
theorem PP.fr {w w' : XW} {F : Nat → Nat} {P : Nat → Prop} (h : PP w F) (hf : Fr P w w') (hP : ∀ a, 7 ≤ a → a ≤ 11 → ¬ P a) : PP w' F := by
  obtain ⟨h1, h2, h3⟩ := h
  refine ⟨by rw [hf.at (hP 7 (by omega) (by omega))]; exact h1, h2, fun p hp => ?_⟩
  rw [hf.at (hP 8 (by omega) (by omega)), hf.at (hP 9 (by omega) (by omega)), hf.at (hP 10 (by omega) (by omega)), hf.at (hP 11 (by omega) (by omega))]
  exact h3 p hp
/-- what the first pipes let through, from u to v -/
def cpI (F : Nat → Nat) (wo : Nat) : Nat → Nat → Nat → Nat
  | 0 => fun _ _ => 0
  | p + 1 => if F (29 + 4 * p) = 0 ∧ p ≠ wo then up2 (cpI F wo p) (F (26 + 4 * p)) (F (27 + 4 * p)) (cpI F wo p (F (26 + 4 * p)) (F (27 + 4 * p)) + F (28 + 4 * p)) else cpI F wo p
theorem g_open {F : Nat → Nat} {wo n : Nat} {y : Int32} (hn : n ≤ 7) (hy : ∀ p, p < 10 → (zI p = y) = (p = wo)) (hF : ∀ p, p < F 2 → F (26 + 4 * p) < n ∧ F (27 + 4 * p) < n) :
    ∀ (d fuel i : Nat) (w : XW), i + d = F 2 → d < fuel → PP w F → RR w (cpI F wo i) → ∃ w', f_X1_openPipes_26 7 y fuel (zI i) w = some w' ∧ Fr (fun a => a = 125) w w' ∧ RR w' (cpI F wo (F 2)) := by
  intro d
  induction d with
  | zero =>
    intro fuel i w hi hf hP hR
    obtain ⟨f, rfl⟩ : ∃ f, fuel = f + 1 := ⟨fuel - 1, by omega⟩
    have e : i = F 2 := by omega
    subst e
    have h10 := hP.2.1
    refine ⟨w, ?_, Fr.rf, hR⟩
    rw [f_X1_openPipes_26, hP.1, if_pos (by rw [zI_le (by omega) (by omega)]; omega)]
  | succ d ih =>
    intro fuel i w hi hf hP hR
    obtain ⟨f, rfl⟩ : ∃ f, fuel = f + 1 := ⟨fuel - 1, by omega⟩
    obtain ⟨hc, h10, hp⟩ := hP
    obtain ⟨q1, q2, q3, q4, q5⟩ := hp i (by omega)
    obtain ⟨n1, n2⟩ := hF i (by omega)
    rw [f_X1_openPipes_26, hc, if_neg (by rw [zI_le (by omega) (by omega)]; omega)]
    by_cases e1 : i = wo
    · rw [if_pos (by rw [hy i (by omega)]; exact e1), zl_1, zI_add]
      refine ih f (i + 1) w (by omega) (by omega) ⟨hc, h10, hp⟩ ?_
      rw [cpI, if_neg (fun z => z.2 e1)]
      exact hR
    · rw [if_neg (by rw [hy i (by omega)]; exact e1), i_broken hc h10 (by omega) q4 q5, bI_s]
      by_cases e2 : F (29 + 4 * i) = 0
      · rw [e2, if_pos (show zI 0 = 0 from rfl), i_start hc h10 (by omega) q1, bI_s, i_end hc h10 (by omega) q2, bI_s, i_width hc h10 (by omega) q3, bI_s, g_add hR (by omega) (by omega), bV_s, zl_1, zI_add]
        have hR2 : RR (wset w 125 (F (26 + 4 * i) * 7 + F (27 + 4 * i)) (zI (cpI F wo i (F (26 + 4 * i)) (F (27 + 4 * i)) + F (28 + 4 * i)))) (cpI F wo (i + 1)) := by
          rw [cpI, if_pos ⟨e2, e1⟩]
          exact hR.set (by omega) (by omega) _
        have hfr : Fr (fun a => a = 125) w (wset w 125 (F (26 + 4 * i) * 7 + F (27 + 4 * i)) (zI (cpI F wo i (F (26 + 4 * i)) (F (27 + 4 * i)) + F (28 + 4 * i)))) := fr1 _ _
        obtain ⟨w', a1, a2, a3⟩ := ih f (i + 1) _ (by omega) (by omega) (PP.fr ⟨hc, h10, hp⟩ hfr (fun a h1 h2 => by omega)) hR2
        exact ⟨w', a1, hfr.tr a2, a3⟩
      · rw [if_neg (by rw [zl_0, zI_inj (by omega) (by omega)]; exact e2), zl_1, zI_add]
        refine ih f (i + 1) w (by omega) (by omega) ⟨hc, h10, hp⟩ ?_
        rw [cpI, if_neg (fun z => e2 z.1)]
        exact hR
theorem cpI_cut {F : Nat → Nat} {wo n s : Nat} : ∀ i, (∀ p, p < i → F (26 + 4 * p) < n ∧ F (27 + 4 * p) < n) → rc (cpI F wo i) (fun v => bt s v == 1) n = sm (ctP F wo s) i := by
  intro i
  induction i with
  | zero =>
    intro _
    rw [sm, rc_zero]
    intro u v _ _ _ _
    rfl
  | succ i ih =>
    intro h
    rw [sm, ← ih (fun p hp => h p (by omega)), cpI]
    obtain ⟨n1, n2⟩ := h i (by omega)
    by_cases e : F (29 + 4 * i) = 0 ∧ i ≠ wo
    · rw [if_pos e]
      have h1 := rc_off (r := cpI F wo i) (r' := up2 (cpI F wo i) (F (26 + 4 * i)) (F (27 + 4 * i)) (cpI F wo i (F (26 + 4 * i)) (F (27 + 4 * i)) + F (28 + 4 * i))) (fun v => bt s v == 1) n1 n2 (fun a b _ _ hn => by unfold up2; rw [if_neg hn])
      unfold ctP
      have h2 : up2 (cpI F wo i) (F (26 + 4 * i)) (F (27 + 4 * i)) (cpI F wo i (F (26 + 4 * i)) (F (27 + 4 * i)) + F (28 + 4 * i)) (F (26 + 4 * i)) (F (27 + 4 * i)) = cpI F wo i (F (26 + 4 * i)) (F (27 + 4 * i)) + F (28 + 4 * i) := by unfold up2; rw [if_pos ⟨rfl, rfl⟩]
      rw [h2] at h1
      rcases bt_01 s (F (26 + 4 * i)) with b1 | b1 <;> rcases bt_01 s (F (27 + 4 * i)) with b2 | b2 <;> simp [b1, b2, e] at h1 ⊢ <;> omega
    · rw [if_neg e]
      unfold ctP
      rw [if_neg (fun z => e ⟨z.1, z.2.1⟩)]
      rfl
theorem cpI_le {F : Nat → Nat} {wo : Nat} : ∀ i, (∀ p, p < i → F (28 + 4 * p) ≤ 20) → ∀ u v, cpI F wo i u v ≤ 20 * i := by
  intro i
  induction i with
  | zero => intro _ u v; exact Nat.le_refl _
  | succ i ih =>
    intro h u v
    have h1 := ih (fun p hp => h p (by omega))
    have h2 := h i (by omega)
    rw [cpI]
    split
    · unfold up2
      split
      · have := h1 (F (26 + 4 * i)) (F (27 + 4 * i)); omega
      · have := h1 u v; omega
    · have := h1 u v; omega
