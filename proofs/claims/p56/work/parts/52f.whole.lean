/-! the law's look at the whole -/
def useP (F : Nat → Nat) (p : Nat) : Nat := if F (29 + 4 * p) = 1 then 0 else F (28 + 4 * p)
def outP (F : Nat → Nat) (p : Nat) : Nat := if F (26 + 4 * p) = 0 then useP F p else 0
def inP (F : Nat → Nat) (p : Nat) : Nat := if F (27 + 4 * p) = F 0 - 1 then useP F p else 0
theorem bt1_B : ∀ v, v < 8 → bt 1 v = if v = 0 then 1 else 0 := by decide +kernel
theorem btm_B : ∀ n, n < 8 → 2 ≤ n → ∀ v, v < n → bt (2 ^ (n - 1) - 1) v = if v = n - 1 then 0 else 1 := by decide +kernel
theorem odd_B : ∀ n, n < 8 → 2 ≤ n → 2 ^ (n - 1) - 1 < 2 ^ (n - 1) ∧ (2 ^ (n - 1) - 1) % 2 = 1 ∧ 1 < 2 ^ (n - 1) := by decide +kernel
theorem flow_out {F : Nat → Nat} (hI : Inv F) (h2 : 2 ≤ F 0) : mcF F 99 (F 0) ≤ sm (outP F) (F 2) ∧ mcF F 99 (F 0) ≤ sm (inP F) (F 2) := by
  have h7 := hI.1
  obtain ⟨_, m2⟩ := mcF_spec F 99 h2
  obtain ⟨o1, o2, o3⟩ := odd_B (F 0) (by omega) h2
  refine ⟨Nat.le_trans (m2 1 o3 (by omega)) (sm_le fun p hp => ?_), Nat.le_trans (m2 _ o1 o2) (sm_le fun p hp => ?_)⟩
  · have h8 := hI.2.2.2.2.2.2.2 p hp
    unfold ctP outP useP
    by_cases h : F (29 + 4 * p) = 0 ∧ p ≠ 99 ∧ bt 1 (F (26 + 4 * p)) = 1 ∧ bt 1 (F (27 + 4 * p)) = 0
    · have hb := bt1_B (F (26 + 4 * p)) (by omega)
      rw [h.2.2.1] at hb
      have z : F (26 + 4 * p) = 0 := by
        by_cases z : F (26 + 4 * p) = 0
        · exact z
        · rw [if_neg z] at hb; omega
      rw [if_pos h, if_pos z, if_neg (by omega)]
      exact Nat.le_refl _
    · rw [if_neg h]; exact Nat.zero_le _
  · have h8 := hI.2.2.2.2.2.2.2 p hp
    unfold ctP inP useP
    by_cases h : F (29 + 4 * p) = 0 ∧ p ≠ 99 ∧ bt (2 ^ (F 0 - 1) - 1) (F (26 + 4 * p)) = 1 ∧ bt (2 ^ (F 0 - 1) - 1) (F (27 + 4 * p)) = 0
    · have hb := btm_B (F 0) (by omega) h2 _ h8.2.1
      rw [h.2.2.2] at hb
      have z : F (27 + 4 * p) = F 0 - 1 := by
        by_cases z : F (27 + 4 * p) = F 0 - 1
        · exact z
        · rw [if_neg z] at hb; omega
      rw [if_pos h, if_pos z, if_neg (by omega)]
      exact Nat.le_refl _
    · rw [if_neg h]; exact Nat.zero_le _
section
variable {w : XW} {F : Nat → Nat} {sc : Nat × (Nat → Int32)} {x2 x3 : Int32}
theorem useP_le (hI : Inv F) {p : Nat} (hp : p < F 2) : useP F p ≤ 20 := by
  have h8 := hI.2.2.2.2.2.2.2 p hp
  unfold useP; split <;> omega
theorem outP_le (hI : Inv F) {p : Nat} (hp : p < F 2) : outP F p ≤ 20 := by
  have := useP_le hI hp
  unfold outP; split <;> omega
theorem inP_le (hI : Inv F) {p : Nat} (hp : p < F 2) : inP F p ≤ 20 := by
  have := useP_le hI hp
  unfold inP; split <;> omega
/-- one pipe's turn -/
theorem w_pipe (hC : Cls w.1 1 F) (hI : Inv F) (K : Int32 → Int32 → Int32 → XW → Option (Int32 × XW)) (y5 y6 : Int32) {p : Nat} (hp : p < F 2) : ∃ w', Fr KQ w w' ∧ f_L_isWhole_167 sc K x2 x3 (zI (F 0)) y5 y6 (zI (mcF F 99 (F 0))) (zI (sm (outP F) p)) (zI (sm (inP F) p)) (zI p) (zI (useP F p)) w = K (zI (sm (outP F) (p + 1))) (zI (sm (inP F) (p + 1))) (zI (p + 1)) w' := by
  have h7 := hI.1
  have h10 := hI.2.2.1
  have h8 := hI.2.2.2.2.2.2.2 p hp
  have hu := useP_le hI hp
  have hm := mcF_le (wo := 99) hI (show 2 ≤ F 0 by omega)
  obtain ⟨L1, L2⟩ := loss_B hI hp
  have L2 : mcF F 99 (F 0) ≤ mcF F p (F 0) + useP F p := L2
  obtain ⟨w1, e1, f1⟩ := a_loss hC hI hp
  have hC1 : Cls w1.1 1 F := hC.fr f1 (fun a h1 h2 => by unfold KQ; omega)
  obtain ⟨w2, e2, f2⟩ := a_loss hC1 hI hp
  refine ⟨w2, f1.tr f2, ?_⟩
  have t210 : ∀ o i : Nat, f_L_isWhole_210 sc K x2 x3 (zI (F 0)) y5 y6 (zI (mcF F 99 (F 0))) (zI o) (zI p) (zI (useP F p)) (zI i) (zI (sm (inP F) p)) w = K (zI o) (zI (sm (inP F) p) + zI i) (zI (p + 1)) w2 := fun o i => by
    unfold f_L_isWhole_210
    rw [e1, bI_s, if_neg (by rw [zl_0, zI_lt (by omega) (by omega)]; omega), e2, bI_s, zI_min (by omega) (by omega), if_pos (by rw [zI_le (by omega) (by split <;> omega)]; split <;> omega), zl_1, zI_add, zI_add]
  have t186 : ∀ o : Nat, f_L_isWhole_186 sc K x2 x3 (zI (F 0)) y5 y6 (zI (mcF F 99 (F 0))) (zI (sm (inP F) p)) (zI p) (zI (useP F p)) (zI o) (zI (sm (outP F) p)) w = K (zI (sm (outP F) p + o)) (zI (sm (inP F) (p + 1))) (zI (p + 1)) w2 := fun o => by
    unfold f_L_isWhole_186
    rw [a_to hC hI hp, bI_s, zI_add, zl_1, zI_sub (by omega)]
    have es : sm (inP F) (p + 1) = sm (inP F) p + inP F p := rfl
    by_cases z : F (27 + 4 * p) = F 0 - 1
    · rw [if_pos (by rw [z]), t210, zI_add, es]
      unfold inP; rw [if_pos z]
    · rw [if_neg (by rw [zI_inj (by omega) (by omega)]; exact z), zl_0, t210, zI_add, es]
      unfold inP; rw [if_neg z]
  unfold f_L_isWhole_167
  rw [a_from hC hI hp, bI_s]
  have es : sm (outP F) (p + 1) = sm (outP F) p + outP F p := rfl
  by_cases z : F (26 + 4 * p) = 0
  · rw [if_pos (by rw [z]; rfl), t186, es]
    unfold outP; rw [if_pos z]
  · rw [if_neg (by rw [zl_0, zI_inj (by omega) (by omega)]; exact z), zl_0, t186, es]
    unfold outP; rw [if_neg z]
theorem w_pipes (hI : Inv F) (y5 y6 : Int32) (fl : Nat) (hfl : 2 ≤ F 0 → fl = mcF F 99 (F 0)) (hfl0 : fl ≤ 200) : ∀ (d fuel p : Nat) (w : XW), Cls w.1 1 F → p + d = F 2 → d < fuel → ∃ w', Fr KQ w w' ∧ f_L_isWhole_138 sc x2 x3 (zI (F 0)) y5 y6 (zI fl) fuel (zI (sm (outP F) p)) (zI (sm (inP F) p)) (zI p) w = f_L_isWhole_275 sc x2 x3 (zI (F 0)) y5 y6 w' := by
  have h7 := hI.1
  have h10 := hI.2.2.1
  have so := fun p (hp : p ≤ F 2) => sm_bound (G := outP F) (c := 20) p (fun k hk => outP_le hI (by omega))
  have si := fun p (hp : p ≤ F 2) => sm_bound (G := inP F) (c := 20) p (fun k hk => inP_le hI (by omega))
  intro d
  induction d with
  | zero =>
    intro fuel p w hC hp hf
    cases fuel with
    | zero => omega
    | succ fuel =>
      refine ⟨w, Fr.rf, ?_⟩
      have hp' : p = F 2 := by omega
      subst hp'
      have so2 := so (F 2) (Nat.le_refl _)
      have si2 := si (F 2) (Nat.le_refl _)
      unfold f_L_isWhole_138
      rw [a_pipes hC, bI_s, if_pos (by rw [zI_le (by omega) (by omega)]; omega)]
      by_cases h2 : F 0 < 2
      · rw [if_pos (by rw [zl_2, zI_lt (by omega) (by omega)]; exact h2)]
      · obtain ⟨q1, q2⟩ := flow_out hI (by omega)
        have e := hfl (by omega)
        rw [if_neg (by rw [zl_2, zI_lt (by omega) (by omega)]; exact h2), a_cut hC hI (by omega), bI_s, if_pos (by rw [e]), if_neg (by rw [zI_lt (by omega) (by omega)]; omega), if_neg (by rw [zI_lt (by omega) (by omega)]; omega)]
  | succ d ih =>
    intro fuel p w hC hp hf
    cases fuel with
    | zero => omega
    | succ fuel =>
      have h8 := hI.2.2.2.2.2.2.2 p (by omega)
      have e := hfl (by omega)
      subst e
      obtain ⟨w1, f1, e1⟩ := w_pipe (sc := sc) (x2 := x2) (x3 := x3) hC hI (fun a0 a1 a2 w9 => f_L_isWhole_138 sc x2 x3 (zI (F 0)) y5 y6 (zI (mcF F 99 (F 0))) fuel a0 a1 a2 w9) y5 y6 (show p < F 2 by omega)
      have hC1 : Cls w1.1 1 F := hC.fr f1 (fun a h1 h2 => by unfold KQ; omega)
      obtain ⟨w2, f2, e2⟩ := ih fuel (p + 1) w1 hC1 (by omega) (by omega)
      refine ⟨w2, f1.tr f2, ?_⟩
      unfold f_L_isWhole_138
      rw [a_pipes hC, bI_s, if_neg (by rw [zI_le (by omega) (by omega)]; omega), a_brk hC hI (by omega), bI_s]
      by_cases z : F (29 + 4 * p) = 1
      · have eu : (0 : Int32) = zI (useP F p) := by unfold useP; rw [if_pos z]; rfl
        rw [if_pos (by rw [z]; rfl), eu]
        exact e1.trans e2
      · have eu : zI (F (28 + 4 * p)) = zI (useP F p) := by unfold useP; rw [if_neg z]
        rw [if_neg (by rw [zl_1, zI_inj (by omega) (by omega)]; exact z), a_cap hC hI (by omega), bI_s, eu]
        exact e1.trans e2
/-- behind the pipes -/
theorem w_tail (hI : Inv F) (hB : F 3 < 16777216) (hS : ¬ x3 = 0 → ∀ w, Cls w.1 1 F → w.1 132 1 = zI 0 → ∃ w', f_L_isSearch sc x2 w = some (1, w') ∧ Fr KF w w') (hC : Cls w.1 1 F) (h132 : w.1 132 1 = zI 0) : ∃ w', f_L_isWhole_275 sc x2 x3 (zI (F 0)) (zI (sm (fun i => F (5 + i)) (F 0))) (zI (2 ^ F 0 - 1)) w = some (1, w') ∧ Fr KF w w' := by
  have h7 := hI.1
  have h10 := hI.2.2.1
  have h4 := hI.2.2.2.1
  have h70 := sm_70 hI
  have hp2 := Nat.two_pow_pos (F 0)
  have t383 : ∃ w', f_L_isWhole_383 sc x2 x3 (zI (F 0)) (zI (2 ^ F 0 - 1)) 1 1 1 w = some (1, w') ∧ Fr KF w w' := by
    unfold f_L_isWhole_383
    rw [if_neg (by decide), if_neg (by decide), if_neg (by decide), if_pos (by rw [zl_1, zl_31, (br_shlB (F 0) (by omega)).1, zI_sub (by omega)]), l_isPile hC hI, bI_s, if_neg (by decide), a_pipes hC, bI_s, if_neg (by rw [zl_10, zI_lt (by omega) (by omega)]; omega), if_neg (by rw [zl_7, zI_lt (by omega) (by omega)]; omega)]
    by_cases z : x3 = 0
    · refine ⟨w, ?_, Fr.rf⟩
      rw [if_pos z]
      unfold f_L_isWhole_447 f_L_isWhole_452
      rw [if_pos nar1]
    · obtain ⟨w1, e1, f1⟩ := hS z w hC h132
      refine ⟨w1, ?_, f1⟩
      rw [if_neg z, e1, bI_s, if_neg (by decide)]
      unfold f_L_isWhole_447 f_L_isWhole_452
      rw [if_pos nar1]
  obtain ⟨w', e, f⟩ := t383
  refine ⟨w', ?_, f⟩
  have t374 : ∀ v : UInt32, okF32 v → f_L_isWhole_374 sc x2 x3 (zI (F 0)) (zI (2 ^ F 0 - 1)) 1 1 v v w = some (1, w') := fun v hv => by
    unfold f_L_isWhole_374
    rw [eq32 hv, if_pos (by rfl)]
    exact e
  have t343 : ∀ v : UInt64, okF64 v → f_L_isWhole_343 sc x2 x3 (zI (F 0)) (zI (2 ^ F 0 - 1)) 1 1 v v w = some (1, w') := fun v hv => by
    unfold f_L_isWhole_343
    rw [eq64 hv, if_pos (by rfl)]
    by_cases z : F 3 = 0
    · rw [a_share0 hC z, bF_s, a_poured hC, bI_s, if_pos (by rw [z]; rfl)]
      exact t374 _ (by decide)
    · obtain ⟨s1, s2⟩ := a_share hC hI hB z
      rw [s1, bF_s, a_poured hC, bI_s, if_neg (by rw [zl_0, zI_inj (by omega) (by omega)]; exact z), a_leaked hC, bI_s, a_poured hC, bI_s, if_pos s2]
      exact t374 _ s2
  have t319 : f_L_isWhole_319 sc x2 x3 (zI (F 0)) (zI (sm (fun i => F (5 + i)) (F 0))) (zI (2 ^ F 0 - 1)) 1 1 w = some (1, w') := by
    unfold f_L_isWhole_319
    by_cases z : F 0 = 0
    · rw [a_mean0 hC z, bD_s, if_pos (by rw [z]; rfl)]
      exact t343 _ (by decide)
    · obtain ⟨s1, s2⟩ := a_mean hC hI z
      rw [s1, bD_s, if_neg (by rw [zl_0, zI_inj (by omega) (by omega)]; exact z), if_pos s2]
      exact t343 _ s2
  unfold f_L_isWhole_275 f_L_isWhole_280
  rw [a_total hC hI, bI_s, if_pos rfl, a_totalA hC hI, bI_s, if_pos rfl, a_poured hC, bI_s, a_leaked hC, bI_s, zI_sub (by omega), if_pos (by rw [show F 3 - F 4 = sm (fun i => F (5 + i)) (F 0) by omega])]
  exact t319
/-- one rank's turn -/
theorem w_rank (hC : Cls w.1 1 F) (hI : Inv F) (K : Int32 → Int32 → Int32 → XW → Option (Int32 × XW)) {i m at' last : Nat} (hi : i < F 0) (ha : at' < F 0) (hl : last < F 0) (hw : F (5 + at') ≤ F (5 + last)) : f_L_isWhole_48 sc K x2 x3 (zI (F 0)) (zI (sm (fun i => F (5 + i)) i)) (zI m) (zI i) (zI at') (zI last) w = K (zI (sm (fun i => F (5 + i)) (i + 1))) (zI (m ||| 2 ^ at')) (zI (i + 1)) w := by
  have h7 := hI.1
  have h99 := (hI.2.2.2.2.1 i (by omega)).1
  have h99a := (hI.2.2.2.2.1 at' (by omega)).1
  have h99l := (hI.2.2.2.2.1 last (by omega)).1
  unfold f_L_isWhole_48
  rw [a_water hC hI hi, bI_s, a_water hC hI hi, bI_s, if_neg (by rw [zl_0, zI_lt (by omega) (by omega)]; omega), a_water hC hI hi, bI_s, if_neg (by rw [zl_99, zI_lt (by omega) (by omega)]; omega), a_water hC hI hl, bI_s, a_water hC hI ha, bI_s, if_pos (by rw [zI_le (by omega) (by omega)]; exact hw), zI_add, zl_1, zl_31, (br_shlB at' (by omega)).1, zI_or, zI_add]
  rfl
theorem w_ranks (hC : Cls w.1 1 F) (hI : Inv F) : ∀ (d fuel i m : Nat), i + d = F 0 → d < fuel → MK (F 0) m (fun k => decide (rkF F k < i)) → f_L_isWhole_15 sc x2 x3 (zI (F 0)) fuel (zI (sm (fun i => F (5 + i)) i)) (zI m) (zI i) w = (if 2 ≤ zI (F 0) then bI (f_L_greatestFlow w) (fun r2 w2 => f_L_isWhole_127 sc x2 x3 (zI (F 0)) (zI (sm (fun i => F (5 + i)) (F 0))) (zI (2 ^ F 0 - 1)) r2 w2) else f_L_isWhole_127 sc x2 x3 (zI (F 0)) (zI (sm (fun i => F (5 + i)) (F 0))) (zI (2 ^ F 0 - 1)) 0 w) := by
  have h7 := hI.1
  intro d
  induction d with
  | zero =>
    intro fuel i m hi hf hm
    cases fuel with
    | zero => omega
    | succ fuel =>
      have e : m = 2 ^ F 0 - 1 := (hm.cg (T := fun _ => true) fun k hk => decide_eq_true (by have := rk_n (F := F) hk; omega)).uniq MK.all
      have hi' : i = F 0 := by omega
      subst hi'
      unfold f_L_isWhole_15
      rw [if_pos (by rw [zI_le (by omega) (by omega)]; omega), e]
  | succ d ih =>
    intro fuel i m hi hf hm
    cases fuel with
    | zero => omega
    | succ fuel =>
      obtain ⟨r1, r2⟩ := atR_ok h7 (show i < F 0 by omega)
      have nx : ∀ last, last < F 0 → F (5 + atR F i) ≤ F (5 + last) → f_L_isWhole_48 sc (fun a0 a1 a2 w9 => f_L_isWhole_15 sc x2 x3 (zI (F 0)) fuel a0 a1 a2 w9) x2 x3 (zI (F 0)) (zI (sm (fun i => F (5 + i)) i)) (zI m) (zI i) (zI (atR F i)) (zI last) w = (if 2 ≤ zI (F 0) then bI (f_L_greatestFlow w) (fun r2 w2 => f_L_isWhole_127 sc x2 x3 (zI (F 0)) (zI (sm (fun i => F (5 + i)) (F 0))) (zI (2 ^ F 0 - 1)) r2 w2) else f_L_isWhole_127 sc x2 x3 (zI (F 0)) (zI (sm (fun i => F (5 + i)) (F 0))) (zI (2 ^ F 0 - 1)) 0 w) := fun last h1 h2 => by
        rw [w_rank hC hI _ (by omega) r1 h1 h2]
        refine ih fuel (i + 1) _ (by omega) (by omega) ((hm.or (MK.bit r1)).cg fun k hk => ?_)
        by_cases z1 : rkF F k < i
        · rw [decide_eq_true z1, decide_eq_true (by omega : rkF F k < i + 1)]; rfl
        · rw [decide_eq_false z1, Bool.false_or]
          by_cases z2 : rkF F k = i
          · rw [decide_eq_true (rk_inj r1 hk (r2.trans z2.symm)), decide_eq_true (by omega : rkF F k < i + 1)]
          · rw [decide_eq_false (fun z : atR F i = k => z2 (by rw [← z]; exact r2)), decide_eq_false (by omega : ¬ rkF F k < i + 1)]
      unfold f_L_isWhole_15
      rw [if_neg (by rw [zI_le (by omega) (by omega)]; omega), a_byWater hC hI (by omega), bI_s]
      by_cases z : i = 0
      · rw [if_pos (by rw [z]; rfl)]
        exact nx _ r1 (Nat.le_refl _)
      · rw [if_neg (by rw [zl_0, zI_inj (by omega) (by omega)]; exact z), zl_1, zI_sub (by omega), a_byWater hC hI (show i - 1 < F 0 by omega), bI_s]
        have hr := rank_water (F := F) h7 (r := i - 1) (by omega)
        rw [show i - 1 + 1 = i by omega] at hr
        exact nx _ (atR_ok h7 (by omega)).1 hr
theorem l_isWhole (hI : Inv F) (hB : F 3 < 16777216) (hS : ¬ x3 = 0 → ∀ w, Cls w.1 1 F → w.1 132 1 = zI 0 → ∃ w', f_L_isSearch sc x2 w = some (1, w') ∧ Fr KF w w') (hC : Cls w.1 1 F) (h132 : w.1 132 1 = zI 0) : ∃ w', f_L_isWhole sc x2 x3 w = some (1, w') ∧ Fr KF w w' := by
  have h7 := hI.1
  have h10 := hI.2.2.1
  have fin : ∀ (fl : Nat) (w1 : XW), (2 ≤ F 0 → fl = mcF F 99 (F 0)) → fl ≤ 200 → Fr KQ w w1 → ∃ w', f_L_isWhole_127 sc x2 x3 (zI (F 0)) (zI (sm (fun i => F (5 + i)) (F 0))) (zI (2 ^ F 0 - 1)) (zI fl) w1 = some (1, w') ∧ Fr KF w w' := fun fl w1 h1 h2 f1 => by
    have hC1 : Cls w1.1 1 F := hC.fr f1 (fun a h1 h2 => by unfold KQ; omega)
    obtain ⟨w2, f2, e2⟩ := w_pipes (sc := sc) (x2 := x2) (x3 := x3) hI (zI (sm (fun i => F (5 + i)) (F 0))) (zI (2 ^ F 0 - 1)) fl h1 h2 (F 2) 12 0 w1 hC1 (by omega) (by omega)
    have hC2 : Cls w2.1 1 F := hC1.fr f2 (fun a h1 h2 => by unfold KQ; omega)
    obtain ⟨w3, e3, f3⟩ := w_tail (sc := sc) (x2 := x2) (x3 := x3) hI hB hS hC2 (by rw [f2.at (by unfold KQ; omega), f1.at (by unfold KQ; omega)]; exact h132)
    refine ⟨w3, ?_, ((f1.tr f2).wk fun _ => KQ.F).tr f3⟩
    unfold f_L_isWhole_127
    rw [zl_0]
    exact e2.trans e3
  unfold f_L_isWhole
  rw [a_count hC, bI_s, zl_0]
  have hr := w_ranks (sc := sc) (x2 := x2) (x3 := x3) hC hI (F 0) 12 0 0 (by omega) (by omega) ⟨Nat.two_pow_pos _, fun k hk => by rw [Nat.zero_testBit]; exact (decide_eq_false (by omega)).symm⟩
  have hr : f_L_isWhole_15 sc x2 x3 (zI (F 0)) 12 (zI 0) (zI 0) (zI 0) w = _ := hr
  rw [hr]
  by_cases h2 : 2 ≤ F 0
  · obtain ⟨w1, e1, f1⟩ := a_flow hC hI h2
    rw [if_pos (by rw [zl_2, zI_le (by omega) (by omega)]; exact h2), e1, bI_s]
    exact fin _ w1 (fun _ => rfl) (mcF_le hI h2) f1
  · rw [if_neg (by rw [zl_2, zI_le (by omega) (by omega)]; exact h2), zl_0]
    exact fin 0 w (fun h => absurd h h2) (by omega) Fr.rf
end
