/-! the search for a way: the queue q of m sections, each but the first reached from an earlier one (par), the row pv of what each was reached from (9: not) -/
def pz (x : Nat) : Int32 := if x < 7 then zI x else zM
theorem pz_9 : pz 9 = zM := (rfl)
theorem pz_M {x : Nat} (h : x < 7) : (pz x = zM) = False := by unfold pz; rw [if_pos h, zI_zM (by omega)]
def c9 (pv : Nat → Nat) (v : Nat) : Nat := if pv v = 9 then 0 else 1
def QI (w : XW) (r : Nat → Nat → Nat) (n m : Nat) (q pv par : Nat → Nat) : Prop :=
  1 ≤ m ∧ q 0 = 0 ∧ m = 1 + c9 pv 1 + c9 pv 2 + c9 pv 3 + c9 pv 4 + c9 pv 5 + c9 pv 6 ∧ pv 0 = 9 ∧ (∀ v, v < 7 → w.1 126 v = pz (pv v)) ∧ (∀ i, i < m → w.1 127 i = zI (q i) ∧ q i < n) ∧
  (∀ i, 1 ≤ i → i < m → par i < i ∧ pv (q i) = q (par i) ∧ 0 < r (q (par i)) (q i) ∧ 1 ≤ q i) ∧ (∀ v, v < 7 → pv v ≠ 9 → ∃ i, 1 ≤ i ∧ i < m ∧ q i = v) ∧ (∀ i j, i < j → j < m → q i ≠ q j)
theorem c9_le (pv : Nat → Nat) (v : Nat) : c9 pv v ≤ 1 := by unfold c9; split <;> omega
theorem c9_up (pv : Nat → Nat) (v x : Nat) (k : Nat) (hx : x ≠ 9) (h : pv v = 9) : c9 (fun a => if a = v then x else pv a) k = c9 pv k + (if k = v then 1 else 0) := by
  unfold c9
  by_cases e : k = v
  · subst e; simp [hx, h]
  · simp [e]
theorem QI.m7 {w : XW} {r : Nat → Nat → Nat} {n m : Nat} {q pv par : Nat → Nat} (h : QI w r n m q pv par) : m ≤ 7 := by
  have := h.2.2.1
  have := c9_le pv 1
  have := c9_le pv 2
  have := c9_le pv 3
  have := c9_le pv 4
  have := c9_le pv 5
  have := c9_le pv 6
  omega
theorem QI.m6 {w : XW} {r : Nat → Nat → Nat} {n m : Nat} {q pv par : Nat → Nat} (h : QI w r n m q pv par) {v : Nat} (h1 : 1 ≤ v) (h7 : v < 7) (h9 : pv v = 9) : m ≤ 6 := by
  have := h.2.2.1
  have := c9_le pv 1
  have := c9_le pv 2
  have := c9_le pv 3
  have := c9_le pv 4
  have := c9_le pv 5
  have := c9_le pv 6
  have h0 : c9 pv v = 0 := by unfold c9; rw [if_pos h9]
  have e : v = 1 ∨ v = 2 ∨ v = 3 ∨ v = 4 ∨ v = 5 ∨ v = 6 := by omega
  rcases e with rfl | rfl | rfl | rfl | rfl | rfl <;> omega
theorem QI.add {w : XW} {r : Nat → Nat → Nat} {n m h v : Nat} {q pv par : Nat → Nat} (H : QI w r n m q pv par) (hn : n ≤ 7) (hh : h < m) (h1 : 1 ≤ v) (hv : v < n) (h9 : pv v = 9) (hr : 0 < r (q h) v) :
    QI (wset (wset w 126 v (zI (q h))) 127 m (zI v)) r n (m + 1) (fun a => if a = m then v else q a) (fun a => if a = v then q h else pv a) (fun a => if a = m then h else par a) := by
  obtain ⟨a1, a2, a3, a4, a5, a6, a7, a8, a9⟩ := H
  have hqh := (a6 h hh).2
  have hnv : ∀ i, i < m → q i ≠ v := by
    intro i hi e
    by_cases e0 : i = 0
    · subst e0; omega
    · have := a7 i (by omega) hi
      rw [e, h9] at this
      have := (a6 (par i) (by omega)).2
      omega
  refine ⟨by omega, by simp only [show ¬ 0 = m by omega, if_false]; exact a2, ?_, by simp only [show ¬ 0 = v by omega, if_false]; exact a4, ?_, ?_, ?_, ?_, ?_⟩
  · rw [c9_up pv v _ 1 (by omega) h9, c9_up pv v _ 2 (by omega) h9, c9_up pv v _ 3 (by omega) h9, c9_up pv v _ 4 (by omega) h9, c9_up pv v _ 5 (by omega) h9, c9_up pv v _ 6 (by omega) h9, a3]
    have e : v = 1 ∨ v = 2 ∨ v = 3 ∨ v = 4 ∨ v = 5 ∨ v = 6 := by omega
    rcases e with rfl | rfl | rfl | rfl | rfl | rfl <;> simp <;> omega
  · intro a ha
    simp only [wset_at, Nat.reduceEqDiff, false_and, true_and, if_false]
    by_cases e : a = v
    · simp only [e, if_true]; unfold pz; rw [if_pos (by omega)]
    · simp only [e, if_false]; exact a5 a ha
  · intro i hi
    simp only [wset_at, true_and]
    by_cases e : i = m
    · simp only [e, if_true]; exact ⟨trivial, hv⟩
    · simp only [e, if_false, Nat.reduceEqDiff, false_and]; exact a6 i (by omega)
  · intro i hi hi2
    by_cases e : i = m
    · simp only [e, if_true, show ¬ h = m by omega, if_false]
      exact ⟨hh, trivial, hr, h1⟩
    · obtain ⟨b1, b2, b3, b4⟩ := a7 i hi (by omega)
      simp only [e, if_false, show ¬ par i = m by omega, hnv i (by omega)]
      exact ⟨b1, b2, b3, b4⟩
  · intro a ha hne
    by_cases e : a = v
    · exact ⟨m, by omega, by omega, by simp only [if_true]; exact e.symm⟩
    · simp only [e, if_false] at hne
      obtain ⟨i, b1, b2, b3⟩ := a8 a ha hne
      exact ⟨i, b1, by omega, by simp only [show ¬ i = m by omega, if_false]; exact b3⟩
  · intro i j hij hj
    by_cases e : j = m
    · simp only [e, if_true, show ¬ i = m by omega, if_false]; exact hnv i (by omega)
    · simp only [e, show ¬ i = m by omega, if_false]; exact a9 i j hij (by omega)
/-- one section's neighbours -/
theorem b_row {n h : Nat} (hn : n ≤ 7) (r : Nat → Nat → Nat) (hr : ∀ u v, r u v < 1000000) (K : Int32 → Int32 → XW → Option (Int32 × XW)) :
    ∀ (d fuel v m : Nat) (w : XW) (q pv par : Nat → Nat), v + d = n → d < fuel → 1 ≤ v → h < m → RR w r → QI w r n m q pv par → (∀ u, 1 ≤ u → u < v → pv u = 9 → r (q h) u = 0) →
    ∃ w' m' q' pv' par', f_X1_reachesLast_54 K (zI n) (zI h) (zI (q h)) fuel (zI m) (zI v) w = K (zI m') (zI (h + 1)) w' ∧ Fr (fun a => a = 126 ∨ a = 127) w w' ∧ QI w' r n m' q' pv' par' ∧ m ≤ m' ∧ (∀ i, i < m → q' i = q i) ∧ (∀ u, pv u ≠ 9 → pv' u = pv u) ∧ (∀ u, 1 ≤ u → u < n → pv' u = 9 → r (q h) u = 0) := by
  intro d
  induction d with
  | zero =>
    intro fuel v m w q pv par hv hf h1 hh hR H hz
    obtain ⟨f, rfl⟩ : ∃ f, fuel = f + 1 := ⟨fuel - 1, by omega⟩
    have hm := H.m7
    refine ⟨w, m, q, pv, par, ?_, Fr.rf, H, Nat.le_refl _, fun i _ => rfl, fun u _ => rfl, fun u hu hu2 => hz u hu (by omega)⟩
    rw [f_X1_reachesLast_54, if_pos (by rw [zI_le (by omega) (by omega)]; omega), zl_1, zI_add]
  | succ d ih =>
    intro fuel v m w q pv par hv hf h1 hh hR H hz
    obtain ⟨f, rfl⟩ : ∃ f, fuel = f + 1 := ⟨fuel - 1, by omega⟩
    have hm := H.m7
    have hqh := (H.2.2.2.2.2.1 h hh).2
    have h5 := H.2.2.2.2.1 v (by omega)
    have hrv := hr (q h) v
    rw [f_X1_reachesLast_54]
    by_cases e : pv v = 9
    · have hz2 : w.1 126 v = zM := by rw [h5, e]; rfl
      have hm6 := H.m6 h1 (by omega) e
      simp (disch := omega) only [hz2, g_spare hR (show q h < 7 by omega) (show v < 7 by omega), show ¬ n ≤ v by omega, show ¬ 7 ≤ v by omega, show v < 7 by omega, show ¬ 7 ≤ m by omega, show m < 7 by omega, zl_0, zl_1, zl_2, zl_3, zl_4, zl_5, zl_6, zl_7, zl_8, zl_9, zl_10, zl_11, zl_12, zl_13, zl_14, zl_15, zl_16, zl_17, zl_18, zl_19, zl_20, zl_21, zl_22, zl_23, zl_24, zl_25, zl_26, zl_27, zl_28, zl_29, zl_30, zl_31, zl_32, zl_33, zl_34, zl_35, zl_36, zl_37, zl_38, zl_39, zl_40, zl_41, zl_42, zl_43, zl_44, zl_45, zl_46, zl_47, zl_48, zl_49, zl_50, zl_51, zl_52, zl_53, zl_54, zl_55, zl_56, zl_57, zl_58, zl_59, zl_60, zl_61, zl_62, zl_63, zl_64, zl_65, zl_66, zl_67, zl_68, zl_69, zl_70, zl_71, zl_72, zl_73, zl_74, zl_75, zl_76, zl_77, zl_78, zl_79, zl_80, zl_81, zl_82, zl_83, zl_84, zl_85, zl_86, zl_87, zl_88, zl_89, zl_90, zl_91, zl_92, zl_93, zl_94, zl_95, zl_96, zl_97, zl_98, zl_99, zl_100, zl_101, zl_102, zl_103, zl_104, zl_105, zl_106, zl_107, zl_108, zl_109, zl_110, zl_111, zl_112, zl_113, zl_114, zl_115, zl_116, zl_117, zl_118, zl_119, zl_120, zl_121, zl_122, zl_123, zl_124, zl_125, zl_126, zl_127, zl_128, zl_180, zl_200, zl_240, zl_462, zl_528, zm1, zI_add, zI_mul, zI_sub, zI_addneg, zI_lt, zI_le, zI_inj, zI_nat, zI_zM, zM_zI, zM_lt, lt_zM, zM_le, le_zM, zM_leM, zM_ltM, inB_z, bI_s, bV_s, bIX_s, bVX_s, bIX_x, bVX_x, if_true, if_false, ↓reduceIte, nar0z, nar1z, Nat.not_lt_zero, Nat.zero_le, Nat.le_zero_eq, not_true_eq_false, not_false_eq_true, false_and, and_false, true_and, and_true, and_self, wset_at, Nat.le_refl, Nat.reduceAdd, Nat.reduceSub, Nat.reduceMul, Nat.reduceDiv, Nat.reduceMod, Nat.reduceEqDiff, Nat.reduceLT, Nat.add_sub_cancel, Nat.reducePow, Nat.reduceLeDiff]
      by_cases e2 : r (q h) v = 0
      · rw [if_pos e2]
        exact ih f (v + 1) m w q pv par (by omega) (by omega) (by omega) hh hR H (fun u hu hu2 h9 => by
          by_cases e3 : u = v
          · exact e3 ▸ e2
          · exact hz u hu (by omega) h9)
      · rw [if_neg e2]
        have hadd := H.add hn hh h1 (by omega) e (by omega)
        have hfr : Fr (fun a => a = 126 ∨ a = 127) w (wset (wset w 126 v (zI (q h))) 127 m (zI v)) := (Fr.rf.set (Or.inl rfl) _ _).set (Or.inr rfl) _ _
        have hqe : (if h = m then v else q h) = q h := by simp only [show ¬ h = m by omega, if_false]
        obtain ⟨w', m', q', pv', par', c1, c2, c3, c4, c5, c6, c7⟩ := ih f (v + 1) (m + 1) _ _ _ _ (by omega) (by omega) (by omega) (by omega) (hR.of (hfr.1 125 (by omega))) hadd (fun u hu hu2 h9 => by
          rw [hqe]
          by_cases e3 : u = v
          · simp only [e3, if_true] at h9; omega
          · simp only [e3, if_false] at h9; exact hz u hu (by omega) h9)
        rw [hqe] at c1 c7
        refine ⟨w', m', q', pv', par', c1, hfr.tr c2, c3, by omega, fun i hi => ?_, fun u hu => ?_, c7⟩
        · rw [c5 i (by omega)]; simp only [show ¬ i = m by omega, if_false]
        · rw [c6 u (by
            by_cases e3 : u = v
            · exact absurd (e3 ▸ e) hu
            · simp only [e3, if_false]; exact hu)]
          by_cases e3 : u = v
          · exact absurd (e3 ▸ e) hu
          · simp only [e3, if_false]
    · have hp : pv v < 7 := by
        obtain ⟨i, b1, b2, b3⟩ := H.2.2.2.2.2.2.2.1 v (by omega) e
        have b4 := H.2.2.2.2.2.2.1 i b1 b2
        rw [b3] at b4
        have := (H.2.2.2.2.2.1 (par i) (by omega)).2
        omega
      have hz2 : w.1 126 v = zI (pv v) := by rw [h5]; unfold pz; rw [if_pos hp]
      simp (disch := omega) only [hz2, show ¬ n ≤ v by omega, show ¬ 7 ≤ v by omega, show v < 7 by omega, zl_0, zl_1, zl_2, zl_3, zl_4, zl_5, zl_6, zl_7, zl_8, zl_9, zl_10, zl_11, zl_12, zl_13, zl_14, zl_15, zl_16, zl_17, zl_18, zl_19, zl_20, zl_21, zl_22, zl_23, zl_24, zl_25, zl_26, zl_27, zl_28, zl_29, zl_30, zl_31, zl_32, zl_33, zl_34, zl_35, zl_36, zl_37, zl_38, zl_39, zl_40, zl_41, zl_42, zl_43, zl_44, zl_45, zl_46, zl_47, zl_48, zl_49, zl_50, zl_51, zl_52, zl_53, zl_54, zl_55, zl_56, zl_57, zl_58, zl_59, zl_60, zl_61, zl_62, zl_63, zl_64, zl_65, zl_66, zl_67, zl_68, zl_69, zl_70, zl_71, zl_72, zl_73, zl_74, zl_75, zl_76, zl_77, zl_78, zl_79, zl_80, zl_81, zl_82, zl_83, zl_84, zl_85, zl_86, zl_87, zl_88, zl_89, zl_90, zl_91, zl_92, zl_93, zl_94, zl_95, zl_96, zl_97, zl_98, zl_99, zl_100, zl_101, zl_102, zl_103, zl_104, zl_105, zl_106, zl_107, zl_108, zl_109, zl_110, zl_111, zl_112, zl_113, zl_114, zl_115, zl_116, zl_117, zl_118, zl_119, zl_120, zl_121, zl_122, zl_123, zl_124, zl_125, zl_126, zl_127, zl_128, zl_180, zl_200, zl_240, zl_462, zl_528, zm1, zI_add, zI_mul, zI_sub, zI_addneg, zI_lt, zI_le, zI_inj, zI_nat, zI_zM, zM_zI, zM_lt, lt_zM, zM_le, le_zM, zM_leM, zM_ltM, inB_z, bI_s, bV_s, bIX_s, bVX_s, bIX_x, bVX_x, if_true, if_false, ↓reduceIte, nar0z, nar1z, Nat.not_lt_zero, Nat.zero_le, Nat.le_zero_eq, not_true_eq_false, not_false_eq_true, false_and, and_false, true_and, and_true, and_self, wset_at, Nat.le_refl, Nat.reduceAdd, Nat.reduceSub, Nat.reduceMul, Nat.reduceDiv, Nat.reduceMod, Nat.reduceEqDiff, Nat.reduceLT, Nat.add_sub_cancel, Nat.reducePow, Nat.reduceLeDiff]
      exact ih f (v + 1) m w q pv par (by omega) (by omega) (by omega) hh hR H (fun u hu hu2 h9 => by
        by_cases e3 : u = v
        · exact absurd (e3 ▸ h9) e
        · exact hz u hu (by omega) h9)
/-- what the search has found when it ends: a queue whose sections' ways out are all in it -/
def QE (w : XW) (r : Nat → Nat → Nat) (n m : Nat) (q pv par : Nat → Nat) : Prop := QI w r n m q pv par ∧ ∀ i u, i < m → 1 ≤ u → u < n → pv u = 9 → r (q i) u = 0
theorem b_heads {n : Nat} (hn : n ≤ 7) (hn2 : 2 ≤ n) (r : Nat → Nat → Nat) (hr : ∀ u v, r u v < 1000000) :
    ∀ (d fuel h m : Nat) (w : XW) (q pv par : Nat → Nat), h + d = 7 → d < fuel → h ≤ m → RR w r → QI w r n m q pv par → (∀ i u, i < h → 1 ≤ u → u < n → pv u = 9 → r (q i) u = 0) →
    ∃ w' m' q' pv' par', f_X1_reachesLast_32 (zI n) fuel (zI m) (zI h) w = some (if pv' (n - 1) = 9 then zI 0 else zI 1, w') ∧ Fr (fun a => a = 126 ∨ a = 127) w w' ∧ QE w' r n m' q' pv' par' := by
  intro d
  induction d with
  | zero =>
    intro fuel h m w q pv par hd hf hhm hR H hz
    obtain ⟨f, rfl⟩ : ∃ f, fuel = f + 1 := ⟨fuel - 1, by omega⟩
    have hm := H.m7
    have e : m = h := by omega
    have h5 := H.2.2.2.2.1 (n - 1) (by omega)
    refine ⟨w, m, q, pv, par, ?_, Fr.rf, H, fun i u hi => hz i u (by omega)⟩
    rw [f_X1_reachesLast_32, if_pos (by rw [zI_le (by omega) (by omega)]; omega)]
    unfold f_X1_previousOf
    simp (disch := omega) only [h5, show ¬ 7 ≤ n - 1 by omega, show n - 1 < 7 by omega, zl_0, zl_1, zl_2, zl_3, zl_4, zl_5, zl_6, zl_7, zl_8, zl_9, zl_10, zl_11, zl_12, zl_13, zl_14, zl_15, zl_16, zl_17, zl_18, zl_19, zl_20, zl_21, zl_22, zl_23, zl_24, zl_25, zl_26, zl_27, zl_28, zl_29, zl_30, zl_31, zl_32, zl_33, zl_34, zl_35, zl_36, zl_37, zl_38, zl_39, zl_40, zl_41, zl_42, zl_43, zl_44, zl_45, zl_46, zl_47, zl_48, zl_49, zl_50, zl_51, zl_52, zl_53, zl_54, zl_55, zl_56, zl_57, zl_58, zl_59, zl_60, zl_61, zl_62, zl_63, zl_64, zl_65, zl_66, zl_67, zl_68, zl_69, zl_70, zl_71, zl_72, zl_73, zl_74, zl_75, zl_76, zl_77, zl_78, zl_79, zl_80, zl_81, zl_82, zl_83, zl_84, zl_85, zl_86, zl_87, zl_88, zl_89, zl_90, zl_91, zl_92, zl_93, zl_94, zl_95, zl_96, zl_97, zl_98, zl_99, zl_100, zl_101, zl_102, zl_103, zl_104, zl_105, zl_106, zl_107, zl_108, zl_109, zl_110, zl_111, zl_112, zl_113, zl_114, zl_115, zl_116, zl_117, zl_118, zl_119, zl_120, zl_121, zl_122, zl_123, zl_124, zl_125, zl_126, zl_127, zl_128, zl_180, zl_200, zl_240, zl_462, zl_528, zm1, zI_add, zI_mul, zI_sub, zI_addneg, zI_lt, zI_le, zI_inj, zI_nat, zI_zM, zM_zI, zM_lt, lt_zM, zM_le, le_zM, zM_leM, zM_ltM, inB_z, bI_s, bV_s, bIX_s, bVX_s, bIX_x, bVX_x, if_true, if_false, ↓reduceIte, nar0z, nar1z, Nat.not_lt_zero, Nat.zero_le, Nat.le_zero_eq, not_true_eq_false, not_false_eq_true, false_and, and_false, true_and, and_true, and_self, wset_at, Nat.le_refl, Nat.reduceAdd, Nat.reduceSub, Nat.reduceMul, Nat.reduceDiv, Nat.reduceMod, Nat.reduceEqDiff, Nat.reduceLT, Nat.add_sub_cancel, Nat.reducePow, Nat.reduceLeDiff]
    by_cases e9 : pv (n - 1) = 9
    · simp only [e9, pz_9, if_true]
    · have hp : pv (n - 1) < 7 := by
        obtain ⟨i, b1, b2, b3⟩ := H.2.2.2.2.2.2.2.1 (n - 1) (by omega) e9
        have b4 := H.2.2.2.2.2.2.1 i b1 b2
        rw [b3] at b4
        have := (H.2.2.2.2.2.1 (par i) (by omega)).2
        omega
      simp only [e9, pz_M hp, if_false]
  | succ d ih =>
    intro fuel h m w q pv par hd hf hhm hR H hz
    obtain ⟨f, rfl⟩ : ∃ f, fuel = f + 1 := ⟨fuel - 1, by omega⟩
    have hm := H.m7
    by_cases e : m = h
    · have h5 := H.2.2.2.2.1 (n - 1) (by omega)
      refine ⟨w, m, q, pv, par, ?_, Fr.rf, H, fun i u hi => hz i u (by omega)⟩
      rw [f_X1_reachesLast_32, if_pos (by rw [zI_le (by omega) (by omega)]; omega)]
      unfold f_X1_previousOf
      simp (disch := omega) only [h5, show ¬ 7 ≤ n - 1 by omega, show n - 1 < 7 by omega, zl_0, zl_1, zl_2, zl_3, zl_4, zl_5, zl_6, zl_7, zl_8, zl_9, zl_10, zl_11, zl_12, zl_13, zl_14, zl_15, zl_16, zl_17, zl_18, zl_19, zl_20, zl_21, zl_22, zl_23, zl_24, zl_25, zl_26, zl_27, zl_28, zl_29, zl_30, zl_31, zl_32, zl_33, zl_34, zl_35, zl_36, zl_37, zl_38, zl_39, zl_40, zl_41, zl_42, zl_43, zl_44, zl_45, zl_46, zl_47, zl_48, zl_49, zl_50, zl_51, zl_52, zl_53, zl_54, zl_55, zl_56, zl_57, zl_58, zl_59, zl_60, zl_61, zl_62, zl_63, zl_64, zl_65, zl_66, zl_67, zl_68, zl_69, zl_70, zl_71, zl_72, zl_73, zl_74, zl_75, zl_76, zl_77, zl_78, zl_79, zl_80, zl_81, zl_82, zl_83, zl_84, zl_85, zl_86, zl_87, zl_88, zl_89, zl_90, zl_91, zl_92, zl_93, zl_94, zl_95, zl_96, zl_97, zl_98, zl_99, zl_100, zl_101, zl_102, zl_103, zl_104, zl_105, zl_106, zl_107, zl_108, zl_109, zl_110, zl_111, zl_112, zl_113, zl_114, zl_115, zl_116, zl_117, zl_118, zl_119, zl_120, zl_121, zl_122, zl_123, zl_124, zl_125, zl_126, zl_127, zl_128, zl_180, zl_200, zl_240, zl_462, zl_528, zm1, zI_add, zI_mul, zI_sub, zI_addneg, zI_lt, zI_le, zI_inj, zI_nat, zI_zM, zM_zI, zM_lt, lt_zM, zM_le, le_zM, zM_leM, zM_ltM, inB_z, bI_s, bV_s, bIX_s, bVX_s, bIX_x, bVX_x, if_true, if_false, ↓reduceIte, nar0z, nar1z, Nat.not_lt_zero, Nat.zero_le, Nat.le_zero_eq, not_true_eq_false, not_false_eq_true, false_and, and_false, true_and, and_true, and_self, wset_at, Nat.le_refl, Nat.reduceAdd, Nat.reduceSub, Nat.reduceMul, Nat.reduceDiv, Nat.reduceMod, Nat.reduceEqDiff, Nat.reduceLT, Nat.add_sub_cancel, Nat.reducePow, Nat.reduceLeDiff]
      by_cases e9 : pv (n - 1) = 9
      · simp only [e9, pz_9, if_true]
      · have hp : pv (n - 1) < 7 := by
          obtain ⟨i, b1, b2, b3⟩ := H.2.2.2.2.2.2.2.1 (n - 1) (by omega) e9
          have b4 := H.2.2.2.2.2.2.1 i b1 b2
          rw [b3] at b4
          have := (H.2.2.2.2.2.1 (par i) (by omega)).2
          omega
        simp only [e9, pz_M hp, if_false]
    · have hq := H.2.2.2.2.2.1 h (by omega)
      obtain ⟨w', m', q', pv', par', c1, c2, c3, c4, c5, c6, c7⟩ := b_row hn r hr (fun a0 a1 w9 => f_X1_reachesLast_32 (zI n) f a0 a1 w9) (n - 1) 1000 1 m w q pv par (by omega) (by omega) (by omega) (show h < m by omega) hR H (fun u hu hu2 => by omega)
      obtain ⟨w2, m2, q2, pv2, par2, d1, d2, d3⟩ := ih f (h + 1) m' w' q' pv' par' (by omega) (by omega) (by omega) (hR.of (c2.1 125 (by omega))) c3 (fun i u hi hu hu2 h9 => by
        rw [c5 i (by omega)]
        by_cases e2 : i = h
        · subst e2; exact c7 u hu hu2 h9
        · refine hz i u (by omega) hu hu2 ?_
          by_cases e3 : pv u = 9
          · exact e3
          · rw [c6 u e3] at h9; exact h9)
      refine ⟨w2, m2, q2, pv2, par2, ?_, c2.tr d2, d3⟩
      rw [f_X1_reachesLast_32, if_neg (by rw [zI_le (by omega) (by omega)]; omega), if_neg (by rw [zl_7, zI_le (by omega) (by omega)]; omega), if_pos (by rw [inB_z (by omega)]; omega), zI_nat (by omega), hq.1]
      exact c1.trans d1
theorem b_none : ∀ (d fuel i : Nat) (w : XW), i + d = 7 → d < fuel → (∀ c, c < i → w.1 126 c = zM) → ∀ (y : Int32),
    ∃ w', f_X1_reachesLast_2 y fuel (zI i) w = f_X1_reachesLast_32 y 1000 1 0 (wset w' 127 (Int32.toNatClampNeg 0) 0) ∧ Fr (fun a => a = 126 ∨ a = 127) w w' ∧ ∀ c, c < 7 → w'.1 126 c = zM := by
  intro d
  induction d with
  | zero =>
    intro fuel i w hi hf h y
    obtain ⟨f, rfl⟩ : ∃ f, fuel = f + 1 := ⟨fuel - 1, by omega⟩
    refine ⟨w, ?_, Fr.rf, fun c hc => h c (by omega)⟩
    rw [f_X1_reachesLast_2, if_pos (by rw [zl_7, zI_le (by omega) (by omega)]; omega)]
  | succ d ih =>
    intro fuel i w hi hf h y
    obtain ⟨f, rfl⟩ : ∃ f, fuel = f + 1 := ⟨fuel - 1, by omega⟩
    obtain ⟨w', e1, e2, e3⟩ := ih f (i + 1) (wset w 126 i zM) (by omega) (by omega) (fun c hc => by
      rw [wset_at]
      by_cases e : c = i
      · rw [if_pos ⟨rfl, e⟩]
      · rw [if_neg (fun z => e z.2)]; exact h c (by omega)) y
    have hfr : Fr (fun a => a = 126 ∨ a = 127) w (wset w 126 i zM) := Fr.rf.set (Or.inl rfl) _ _
    refine ⟨w', ?_, hfr.tr e2, e3⟩
    rw [f_X1_reachesLast_2, if_neg (by rw [zl_7, zI_le (by omega) (by omega)]; omega), if_pos (by rw [inB_z (by omega)]; omega), zl_1, zI_add, zI_nat (by omega)]
    exact e1
theorem b_reach {n : Nat} (hn : n ≤ 7) (hn2 : 2 ≤ n) (r : Nat → Nat → Nat) (hr : ∀ u v, r u v < 1000000) {w : XW} (hR : RR w r) :
    ∃ w' m q pv par, f_X1_reachesLast (zI n) w = some (if pv (n - 1) = 9 then zI 0 else zI 1, w') ∧ Fr (fun a => a = 126 ∨ a = 127) w w' ∧ QE w' r n m q pv par := by
  obtain ⟨w1, e1, e2, e3⟩ := b_none 7 1000 0 w (by omega) (by omega) (fun c hc => by omega) (zI n)
  have hfr : Fr (fun a => a = 126 ∨ a = 127) w (wset w1 127 0 (zI 0)) := e2.set (Or.inr rfl) _ _
  have H : QI (wset w1 127 0 (zI 0)) r n 1 (fun _ => 0) (fun _ => 9) (fun _ => 0) := by
    refine ⟨Nat.le_refl _, rfl, rfl, rfl, fun v hv => ?_, fun i hi => ?_, fun i h1 h2 => by omega, fun v _ h => absurd rfl h, fun i j h1 h2 => by omega⟩
    · simp only [wset_at, Nat.reduceEqDiff, false_and, if_false]; exact e3 v hv
    · have : i = 0 := by omega
      subst this
      simp only [wset_at, and_self, if_true]
      exact ⟨trivial, by omega⟩
  obtain ⟨w', m', q', pv', par', d1, d2, d3⟩ := b_heads hn hn2 r hr 7 1000 0 1 _ _ _ _ (by omega) (by omega) (by omega) (hR.of (hfr.1 125 (by omega))) H (fun i u hi => by omega)
  refine ⟨w', m', q', pv', par', ?_, hfr.tr d2, d3⟩
  exact e1.trans d1
