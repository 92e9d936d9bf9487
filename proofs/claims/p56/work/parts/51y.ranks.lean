/-! more calls that ask: terms, ranks, layers, sums, accounts -/
def smk (G : Nat → Nat) (n : Nat) : Nat := sm (fun k => G k * 2 ^ k) n
theorem smk_lt {G : Nat → Nat} (hG : ∀ k, G k ≤ 1) : ∀ n, smk G n < 2 ^ n := by
  intro n
  induction n with
  | zero => exact Nat.one_pos
  | succ n ih =>
    unfold smk at ih ⊢
    rw [sm, Nat.pow_succ]
    have h1 : G n * 2 ^ n ≤ 1 * 2 ^ n := Nat.mul_le_mul_right _ (hG n)
    omega
theorem pow7 {n : Nat} (h : n ≤ 7) : 2 ^ n ≤ 128 := Nat.pow_le_pow_right (by omega) h
theorem bit_B : ∀ k, k < 7 → ∀ m, m < 128 → m < 2 ^ k → (zI m ||| (zI 1 <<< (zI k &&& zI 31))) = zI (m + 2 ^ k) ∧ pcB (m + 2 ^ k) = pcB m + 1 := by decide +kernel
theorem smk_step {G : Nat → Nat} (hG : ∀ k, G k ≤ 1) {n : Nat} (h : n < 7) : (zI (smk G n) ||| (zI 1 <<< (zI n &&& zI 31))) = zI (smk G n + 2 ^ n) := (bit_B n h _ (by have := smk_lt hG n; have := pow7 (n := n) (by omega); omega) (smk_lt hG n)).1
theorem smk_pc {G : Nat → Nat} (hG : ∀ k, G k ≤ 1) : ∀ n, n ≤ 7 → pcB (smk G n) = sm G n := by
  intro n
  induction n with
  | zero => intro _; show pcB 0 = 0; decide +kernel
  | succ n ih =>
    intro h
    have h1 := ih (by omega)
    have h2 := hG n
    show pcB (smk G n + G n * 2 ^ n) = sm G n + G n
    by_cases e : G n = 0
    · rw [e, Nat.zero_mul, Nat.add_zero, Nat.add_zero]; exact h1
    · rw [show G n = 1 by omega, Nat.one_mul, (bit_B n (by omega) _ (by have := smk_lt hG n; have := pow7 (n := n) (by omega); omega) (smk_lt hG n)).2, h1]
def btT (F : Nat → Nat) (t : Nat) : Nat → Nat := fun k => bt (F (12 + k)) t
theorem btT_le (F : Nat → Nat) (t k : Nat) : btT F t k ≤ 1 := by unfold btT; rcases bt_01 (F (12 + k)) t with e | e <;> omega
section
variable {w : XW} {F : Nat → Nat}
theorem s_bearers {t : Nat} (hC : Cls w.1 1 F) (hI : Inv F) (ht : t < 8) : f_X9_bearersOf 2 (zI (97 + t)) w = some (zI (smk (btT F t) (F 0)), w) := by
  have a1 := hI.1
  have loop : ∀ (d fuel i : Nat), i + d = F 0 → d < fuel → f_X9_bearersOf_4 2 (zI (97 + t)) fuel (zI (smk (btT F t) i)) (zI i) w = some (zI (smk (btT F t) (F 0)), w) := by
    intro d
    induction d with
    | zero =>
      intro fuel i hi hf
      obtain ⟨f, rfl⟩ : ∃ f, fuel = f + 1 := ⟨fuel - 1, by omega⟩
      have e : i = F 0 := by omega
      subst e
      rw [f_X9_bearersOf_4, show w.1 2 0 = zI (F 0) from hC.1, if_pos (by rw [zI_le (by omega) (by omega)]; omega)]
    | succ d ih =>
      intro fuel i hi hf
      obtain ⟨f, rfl⟩ : ∃ f, fuel = f + 1 := ⟨fuel - 1, by omega⟩
      have h2 := ih f (i + 1) (by omega) (by omega)
      have hst : smk (btT F t) (i + 1) = smk (btT F t) i + btT F t i * 2 ^ i := rfl
      rw [hst] at h2
      rw [f_X9_bearersOf_4, show w.1 2 0 = zI (F 0) from hC.1, if_neg (by rw [zI_le (by omega) (by omega)]; omega), s_bears hC.1 a1 (by omega) (hI.2.2.2.2.1 i (by omega)).2.1 (hC.2.2.2.2.1 i (by omega)) ht, bI_s, zl_1, zl_31, zI_add, smk_step (btT_le F t) (show i < 7 by omega)]
      have hbt : btT F t i = bt (F (12 + i)) t := rfl
      rw [hbt] at h2
      rcases bt_01 (F (12 + i)) t with e | e
      · rw [e, if_pos (by rfl)]
        rw [e, Nat.zero_mul, Nat.add_zero] at h2
        exact h2
      · rw [e, if_neg (by decide)]
        rw [e, Nat.one_mul] at h2
        exact h2
  exact loop (F 0) 1000 0 (by omega) (by omega)
theorem m_with_loop {t : Nat} (hM : Mo w.1 142 0 F) (hI : Inv F) (ht : t < 8) (h0 : w.1 141 0 = zI 0) : ∀ (d fuel i : Nat), i + d = F 0 → d < fuel → f_X11_sectionsWith_20 (zI (97 + t)) fuel (zI (sm (btT F t) i)) (zI i) w = some (zI (sm (btT F t) (F 0)), w) := by
  have a1 := hI.1
  intro d
  induction d with
  | zero =>
    intro fuel i hi hf
    obtain ⟨f, rfl⟩ : ∃ f, fuel = f + 1 := ⟨fuel - 1, by omega⟩
    have e : i = F 0 := by omega
    subst e
    rw [f_X11_sectionsWith_20, show Int32.toNatClampNeg 0 = 0 from rfl, hM.at (by omega), if_pos (by rw [zI_le (by omega) (by omega)]; omega)]
  | succ d ih =>
    intro fuel i hi hf
    obtain ⟨f, rfl⟩ : ∃ f, fuel = f + 1 := ⟨fuel - 1, by omega⟩
    have h2 := ih f (i + 1) (by omega) (by omega)
    have hst : sm (btT F t) (i + 1) = sm (btT F t) i + bt (F (12 + i)) t := rfl
    rw [hst] at h2
    rw [f_X11_sectionsWith_20, show Int32.toNatClampNeg 0 = 0 from rfl, hM.at (by omega), if_neg (by rw [zI_le (by omega) (by omega)]; omega), h0, if_pos (by rfl), m_has hM (by omega) (hI.2.2.2.2.1 i (by omega)).2.1 ht, bI_s, zl_0, zl_1, zI_add, zI_add, zI_add]
    rcases bt_01 (F (12 + i)) t with e | e
    · rw [e, if_pos (by rfl)]
      rw [e] at h2
      exact h2
    · rw [e, if_neg (by decide)]
      rw [e] at h2
      exact h2
end
/-! ranks -/
def ahF (F : Nat → Nat) (a b : Nat) : Nat := if F (5 + a) = F (5 + b) then (if pcB (F (12 + a)) = pcB (F (12 + b)) then (if b ≤ a then 0 else 1) else if pcB (F (12 + a)) ≤ pcB (F (12 + b)) then 0 else 1) else if F (5 + a) ≤ F (5 + b) then 0 else 1
def rkF (F : Nat → Nat) (s : Nat) : Nat := sm (fun o => ahF F o s) (F 0)
section
variable {w : XW} {F : Nat → Nat}
theorem c_before {a b : Nat} (hC : Cls w.1 1 F) (hI : Inv F) (ha : a < F 0) (hb : b < F 0) : f_X9_comesBefore 2 (zI a) (zI b) w = some (zI (ahF F a b), w) := by
  have a1 := hI.1
  have wa := s_waterOf hC.1 a1 ha (hC.2.2.2.1 a (by omega))
  have wb := s_waterOf hC.1 a1 hb (hC.2.2.2.1 b (by omega))
  have ta := s_termCountOf hC.1 a1 ha (hI.2.2.2.2.1 a (by omega)).2.1 (hC.2.2.2.2.1 a (by omega))
  have tb := s_termCountOf hC.1 a1 hb (hI.2.2.2.2.1 b (by omega)).2.1 (hC.2.2.2.2.1 b (by omega))
  have va := (hI.2.2.2.2.1 a (by omega)).1
  have vb := (hI.2.2.2.2.1 b (by omega)).1
  have pa := pcB_le (F (12 + a))
  have pb := pcB_le (F (12 + b))
  unfold f_X9_comesBefore ahF
  simp (disch := omega) only [wa, wb, ta, tb, zl_0, zl_1, zl_2, zl_3, zl_4, zl_5, zl_6, zl_7, zl_8, zl_9, zl_10, zl_11, zl_12, zl_13, zl_14, zl_15, zl_16, zl_17, zl_18, zl_19, zl_20, zl_21, zl_22, zl_23, zl_24, zl_25, zl_26, zl_27, zl_28, zl_29, zl_30, zl_31, zl_32, zl_33, zl_34, zl_35, zl_36, zl_37, zl_38, zl_39, zl_40, zl_41, zl_42, zl_43, zl_44, zl_45, zl_46, zl_47, zl_48, zl_49, zl_50, zl_51, zl_52, zl_53, zl_54, zl_55, zl_56, zl_57, zl_58, zl_59, zl_60, zl_61, zl_62, zl_63, zl_64, zl_65, zl_66, zl_67, zl_68, zl_69, zl_70, zl_71, zl_72, zl_73, zl_74, zl_75, zl_76, zl_77, zl_78, zl_79, zl_80, zl_81, zl_82, zl_83, zl_84, zl_85, zl_86, zl_87, zl_88, zl_89, zl_90, zl_91, zl_92, zl_93, zl_94, zl_95, zl_96, zl_97, zl_98, zl_99, zl_100, zl_101, zl_102, zl_103, zl_104, zl_105, zl_106, zl_107, zl_108, zl_109, zl_110, zl_111, zl_112, zl_113, zl_114, zl_115, zl_116, zl_117, zl_118, zl_119, zl_120, zl_121, zl_122, zl_123, zl_124, zl_125, zl_126, zl_127, zl_128, zl_180, zl_200, zl_240, zl_462, zl_528, zm1, zI_add, zI_mul, zI_sub, zI_addneg, zI_lt, zI_le, zI_inj, zI_nat, zI_zM, zM_zI, zM_lt, lt_zM, zM_le, le_zM, zM_leM, zM_ltM, inB_z, bI_s, bV_s, bIX_s, bVX_s, bIX_x, bVX_x, if_true, if_false, ↓reduceIte, nar0z, nar1z, Nat.not_lt_zero, Nat.zero_le, Nat.le_zero_eq, not_true_eq_false, not_false_eq_true, false_and, and_false, true_and, and_true, and_self, wset_at, Nat.le_refl, Nat.reduceAdd, Nat.reduceSub, Nat.reduceMul, Nat.reduceDiv, Nat.reduceMod, Nat.reduceEqDiff, Nat.reduceLT, Nat.add_sub_cancel, Nat.reducePow, Nat.reduceLeDiff]
  by_cases e1 : F (5 + a) = F (5 + b)
  · simp only [e1, if_true]
    by_cases e2 : pcB (F (12 + a)) = pcB (F (12 + b))
    · simp only [e2, if_true]
      split <;> rfl
    · simp only [e2, if_false]
      split <;> rfl
  · simp only [e1, if_false]
    split <;> rfl
theorem m_ahead {a b : Nat} (hM : Mo w.1 142 0 F) (hI : Inv F) (ha : a < F 0) (hb : b < F 0) : f_X11_isAhead (zI a) (zI b) w = some (zI (ahF F a b), w) := by
  have a1 := hI.1
  have wa := hM.at (j := 5 + a) (by omega)
  have wb := hM.at (j := 5 + b) (by omega)
  have ta := m_terms hM (show a < 7 by omega) (hI.2.2.2.2.1 a (by omega)).2.1
  have tb := m_terms hM (show b < 7 by omega) (hI.2.2.2.2.1 b (by omega)).2.1
  have va := (hI.2.2.2.2.1 a (by omega)).1
  have vb := (hI.2.2.2.2.1 b (by omega)).1
  have pa := pcB_le (F (12 + a))
  have pb := pcB_le (F (12 + b))
  unfold f_X11_isAhead ahF
  simp (disch := omega) only [wa, wb, ta, tb, show 5 + a < 66 by omega, show 5 + b < 66 by omega, zl_0, zl_1, zl_2, zl_3, zl_4, zl_5, zl_6, zl_7, zl_8, zl_9, zl_10, zl_11, zl_12, zl_13, zl_14, zl_15, zl_16, zl_17, zl_18, zl_19, zl_20, zl_21, zl_22, zl_23, zl_24, zl_25, zl_26, zl_27, zl_28, zl_29, zl_30, zl_31, zl_32, zl_33, zl_34, zl_35, zl_36, zl_37, zl_38, zl_39, zl_40, zl_41, zl_42, zl_43, zl_44, zl_45, zl_46, zl_47, zl_48, zl_49, zl_50, zl_51, zl_52, zl_53, zl_54, zl_55, zl_56, zl_57, zl_58, zl_59, zl_60, zl_61, zl_62, zl_63, zl_64, zl_65, zl_66, zl_67, zl_68, zl_69, zl_70, zl_71, zl_72, zl_73, zl_74, zl_75, zl_76, zl_77, zl_78, zl_79, zl_80, zl_81, zl_82, zl_83, zl_84, zl_85, zl_86, zl_87, zl_88, zl_89, zl_90, zl_91, zl_92, zl_93, zl_94, zl_95, zl_96, zl_97, zl_98, zl_99, zl_100, zl_101, zl_102, zl_103, zl_104, zl_105, zl_106, zl_107, zl_108, zl_109, zl_110, zl_111, zl_112, zl_113, zl_114, zl_115, zl_116, zl_117, zl_118, zl_119, zl_120, zl_121, zl_122, zl_123, zl_124, zl_125, zl_126, zl_127, zl_128, zl_180, zl_200, zl_240, zl_462, zl_528, zm1, zI_add, zI_mul, zI_sub, zI_addneg, zI_lt, zI_le, zI_inj, zI_nat, zI_zM, zM_zI, zM_lt, lt_zM, zM_le, le_zM, zM_leM, zM_ltM, inB_z, bI_s, bV_s, bIX_s, bVX_s, bIX_x, bVX_x, if_true, if_false, ↓reduceIte, nar0z, nar1z, Nat.not_lt_zero, Nat.zero_le, Nat.le_zero_eq, not_true_eq_false, not_false_eq_true, false_and, and_false, true_and, and_true, and_self, wset_at, Nat.le_refl, Nat.reduceAdd, Nat.reduceSub, Nat.reduceMul, Nat.reduceDiv, Nat.reduceMod, Nat.reduceEqDiff, Nat.reduceLT, Nat.add_sub_cancel, Nat.reducePow, Nat.reduceLeDiff]
  by_cases e1 : F (5 + a) = F (5 + b)
  · simp only [e1, if_true]
    by_cases e2 : pcB (F (12 + a)) = pcB (F (12 + b))
    · simp only [e2, if_true]
      split <;> rfl
    · simp only [e2, if_false]
      split <;> rfl
  · simp only [e1, if_false]
    split <;> rfl
theorem ah_self (F : Nat → Nat) (a : Nat) : ahF F a a = 0 := by unfold ahF; rw [if_pos rfl, if_pos rfl, if_pos (Nat.le_refl _)]
theorem ah_01 (F : Nat → Nat) (a b : Nat) : ahF F a b = 0 ∨ ahF F a b = 1 := by unfold ahF; split <;> split <;> (try split) <;> omega
theorem c_rank {s : Nat} (hC : Cls w.1 1 F) (hI : Inv F) (hs : s < F 0) : f_X9_rankOf 2 (zI s) w = some (zI (rkF F s), w) := by
  have a1 := hI.1
  have loop : ∀ (d fuel i : Nat), i + d = F 0 → d < fuel → f_X9_rankOf_4 2 (zI s) fuel (zI (sm (fun o => ahF F o s) i)) (zI i) w = some (zI (rkF F s), w) := by
    intro d
    induction d with
    | zero =>
      intro fuel i hi hf
      obtain ⟨f, rfl⟩ : ∃ f, fuel = f + 1 := ⟨fuel - 1, by omega⟩
      have e : i = F 0 := by omega
      subst e
      rw [f_X9_rankOf_4, show w.1 2 0 = zI (F 0) from hC.1, if_pos (by rw [zI_le (by omega) (by omega)]; omega)]
      rfl
    | succ d ih =>
      intro fuel i hi hf
      obtain ⟨f, rfl⟩ : ∃ f, fuel = f + 1 := ⟨fuel - 1, by omega⟩
      have h2 := ih f (i + 1) (by omega) (by omega)
      rw [sm] at h2
      rw [f_X9_rankOf_4, show w.1 2 0 = zI (F 0) from hC.1, if_neg (by rw [zI_le (by omega) (by omega)]; omega), c_before hC hI (by omega) hs, bI_s, zl_1, zI_add, zI_add]
      rcases ah_01 F i s with e | e
      · rw [e, if_pos (by rfl)]; rw [e] at h2; exact h2
      · rw [e, if_neg (by decide)]; rw [e] at h2; exact h2
  exact loop (F 0) 1000 0 (by omega) (by omega)
/-- the first section whose rank is that -/
def fdR (F : Nat → Nat) (x : Int32) : Nat → Nat → Option Nat
  | 0, _ => none
  | k + 1, s => if zI (rkF F s) = x then some s else fdR F x k (s + 1)
theorem c_atRank (hC : Cls w.1 1 F) (hI : Inv F) (x : Int32) : f_X9_sectionAtRank 2 x w = some (crZ (fdR F x (F 0) 0), w) := by
  have a1 := hI.1
  have loop : ∀ (d fuel i : Nat), i + d = F 0 → d < fuel → f_X9_sectionAtRank_2 2 x fuel (zI i) w = some (crZ (fdR F x d i), w) := by
    intro d
    induction d with
    | zero =>
      intro fuel i hi hf
      obtain ⟨f, rfl⟩ : ∃ f, fuel = f + 1 := ⟨fuel - 1, by omega⟩
      rw [f_X9_sectionAtRank_2, show w.1 2 0 = zI (F 0) from hC.1, if_pos (by rw [zI_le (by omega) (by omega)]; omega)]
      rfl
    | succ d ih =>
      intro fuel i hi hf
      obtain ⟨f, rfl⟩ : ∃ f, fuel = f + 1 := ⟨fuel - 1, by omega⟩
      rw [f_X9_sectionAtRank_2, show w.1 2 0 = zI (F 0) from hC.1, if_neg (by rw [zI_le (by omega) (by omega)]; omega), c_rank hC hI (by omega), bI_s, fdR, zl_1, zI_add]
      by_cases e : zI (rkF F i) = x
      · rw [if_pos e, if_pos e]; rfl
      · rw [if_neg e, if_neg e]; exact ih f (i + 1) (by omega) (by omega)
  exact loop (F 0) 1000 0 (by omega) (by omega)
theorem fdR_lt {x : Int32} : ∀ (k s : Nat) (y : Nat), fdR F x k s = some y → y < s + k := by
  intro k
  induction k with
  | zero => intro s y h; cases h
  | succ k ih =>
    intro s y h
    rw [fdR] at h
    split at h
    · cases h; omega
    · have := ih _ _ h; omega
theorem m_row (hM : Mo w.1 142 0 F) (hI : Inv F) (x : Int32) {s : Nat} (hs : s < F 0) (K : Int32 → XW → Option (Int32 × XW)) : ∀ (d fuel i : Nat), i + d = F 0 → d < fuel → f_X11_sectionByWater_22 K x (zI s) fuel (zI (sm (fun o => ahF F o s) i)) (zI i) w = (if zI (rkF F s) = x then some (zI s, w) else K (zI (s + 1)) w) := by
  have a1 := hI.1
  intro d
  induction d with
  | zero =>
    intro fuel i hi hf
    obtain ⟨f, rfl⟩ : ∃ f, fuel = f + 1 := ⟨fuel - 1, by omega⟩
    have e : i = F 0 := by omega
    subst e
    rw [f_X11_sectionByWater_22, show Int32.toNatClampNeg 0 = 0 from rfl, hM.at (by omega), if_pos (by rw [zI_le (by omega) (by omega)]; omega), zl_1, zI_add]
    rfl
  | succ d ih =>
    intro fuel i hi hf
    obtain ⟨f, rfl⟩ : ∃ f, fuel = f + 1 := ⟨fuel - 1, by omega⟩
    have h2 := ih f (i + 1) (by omega) (by omega)
    rw [sm] at h2
    rw [f_X11_sectionByWater_22, show Int32.toNatClampNeg 0 = 0 from rfl, hM.at (by omega), if_neg (by rw [zI_le (by omega) (by omega)]; omega), zl_0, zl_1, zI_add, zI_add, zI_add]
    by_cases e : i = s
    · rw [if_pos (by rw [e])]
      rw [e, ah_self] at h2
      rw [e]; exact h2
    · rw [if_neg (by rw [zI_inj (by omega) (by omega)]; exact e), m_ahead hM hI (by omega) hs, bI_s]
      rcases ah_01 F i s with e2 | e2
      · rw [e2, if_pos (by rfl)]; rw [e2] at h2; exact h2
      · rw [e2, if_neg (by decide)]; rw [e2] at h2; exact h2
theorem m_atRank (hM : Mo w.1 142 0 F) (hI : Inv F) (x : Int32) : ∀ (d fuel i : Nat), i + d = F 0 → d < fuel → f_X11_sectionByWater_7 x fuel (zI i) w = (match fdR F x d i with | some s => some (zI s, w) | none => some (zI 0, wset w 141 0 (zI 1))) := by
  have a1 := hI.1
  intro d
  induction d with
  | zero =>
    intro fuel i hi hf
    obtain ⟨f, rfl⟩ : ∃ f, fuel = f + 1 := ⟨fuel - 1, by omega⟩
    rw [f_X11_sectionByWater_7, show Int32.toNatClampNeg 0 = 0 from rfl, hM.at (by omega), if_pos (by rw [zI_le (by omega) (by omega)]; omega)]
    rfl
  | succ d ih =>
    intro fuel i hi hf
    obtain ⟨f, rfl⟩ : ∃ f, fuel = f + 1 := ⟨fuel - 1, by omega⟩
    have h := m_row hM hI x (show i < F 0 by omega) (fun a0 w9 => f_X11_sectionByWater_7 x f a0 w9) (F 0) 1000 0 (by omega) (by omega)
    rw [f_X11_sectionByWater_7, show Int32.toNatClampNeg 0 = 0 from rfl, hM.at (by omega), if_neg (by rw [zI_le (by omega) (by omega)]; omega), fdR]
    refine h.trans ?_
    by_cases e : zI (rkF F i) = x
    · rw [if_pos e, if_pos e]
    · rw [if_neg e, if_neg e]; exact ih f (i + 1) (by omega) (by omega)
end