/-! along a way back to the first section: the least that is left, the push, and what it makes of a border -/
theorem zI_min {a b : Nat} (ha : a < 2147483648) (hb : b < 2147483648) : (if zI a < zI b then zI a else zI b) = zI (if a < b then a else b) := by simp only [zI_lt ha hb, zI_ite]
theorem zI_max {a b : Nat} (ha : a < 2147483648) (hb : b < 2147483648) : (if zI a < zI b then zI b else zI a) = zI (if a < b then b else a) := by simp only [zI_lt ha hb, zI_ite]
/-- b fits on each edge of the way from the queue's place i on -/
def onp (par : Nat → Nat) (E : Nat → Nat) (b : Nat) : Nat → Nat → Prop
  | 0, _ => True
  | k + 1, i => i = 0 ∨ (b ≤ E i ∧ onp par E b k (par i))
theorem onp_mono {par E E' : Nat → Nat} {b b' m : Nat} (hb : b' ≤ b) (hp : ∀ i, 1 ≤ i → i < m → par i < i) : ∀ (k i : Nat), i < m → (∀ j, j ≤ i → E j ≤ E' j) → onp par E b k i → onp par E' b' k i := by
  intro k
  induction k with
  | zero => intro i _ _ _; trivial
  | succ k ih =>
    intro i hi hE h
    rcases h with h | ⟨h1, h2⟩
    · exact Or.inl h
    · by_cases e : i = 0
      · exact Or.inl e
      · have := hp i (by omega) hi
        exact Or.inr ⟨by have := hE i (Nat.le_refl _); omega, ih (par i) (by omega) (fun j hj => hE j (by omega)) h2⟩
theorem g_prev {w : XW} {r : Nat → Nat → Nat} {n m i : Nat} {q pv par : Nat → Nat} (H : QI w r n m q pv par) (hn : n ≤ 7) (h1 : 1 ≤ i) (hi : i < m) : f_X1_previousOf (zI (q i)) w = some (zI (q (par i)), w) := by
  have a := H.2.2.2.2.2.2.1 i h1 hi
  have b := (H.2.2.2.2.2.1 i hi).2
  have c := (H.2.2.2.2.2.1 (par i) (by omega)).2
  have h5 := H.2.2.2.2.1 (q i) (by omega)
  rw [a.2.1] at h5
  unfold pz at h5
  rw [if_pos (by omega)] at h5
  unfold f_X1_previousOf
  simp (disch := omega) only [h5, show ¬ 7 ≤ q i by omega, show q i < 7 by omega, zl_0, zl_1, zl_2, zl_3, zl_4, zl_5, zl_6, zl_7, zl_8, zl_9, zl_10, zl_11, zl_12, zl_13, zl_14, zl_15, zl_16, zl_17, zl_18, zl_19, zl_20, zl_21, zl_22, zl_23, zl_24, zl_25, zl_26, zl_27, zl_28, zl_29, zl_30, zl_31, zl_32, zl_33, zl_34, zl_35, zl_36, zl_37, zl_38, zl_39, zl_40, zl_41, zl_42, zl_43, zl_44, zl_45, zl_46, zl_47, zl_48, zl_49, zl_50, zl_51, zl_52, zl_53, zl_54, zl_55, zl_56, zl_57, zl_58, zl_59, zl_60, zl_61, zl_62, zl_63, zl_64, zl_65, zl_66, zl_67, zl_68, zl_69, zl_70, zl_71, zl_72, zl_73, zl_74, zl_75, zl_76, zl_77, zl_78, zl_79, zl_80, zl_81, zl_82, zl_83, zl_84, zl_85, zl_86, zl_87, zl_88, zl_89, zl_90, zl_91, zl_92, zl_93, zl_94, zl_95, zl_96, zl_97, zl_98, zl_99, zl_100, zl_101, zl_102, zl_103, zl_104, zl_105, zl_106, zl_107, zl_108, zl_109, zl_110, zl_111, zl_112, zl_113, zl_114, zl_115, zl_116, zl_117, zl_118, zl_119, zl_120, zl_121, zl_122, zl_123, zl_124, zl_125, zl_126, zl_127, zl_128, zl_180, zl_200, zl_240, zl_462, zl_528, zm1, zI_add, zI_mul, zI_sub, zI_addneg, zI_lt, zI_le, zI_inj, zI_nat, zI_zM, zM_zI, zM_lt, lt_zM, zM_le, le_zM, zM_leM, zM_ltM, inB_z, bI_s, bV_s, bIX_s, bVX_s, bIX_x, bVX_x, if_true, if_false, ↓reduceIte, nar0z, nar1z, Nat.not_lt_zero, Nat.zero_le, Nat.le_zero_eq, not_true_eq_false, not_false_eq_true, false_and, and_false, true_and, and_true, and_self, wset_at, Nat.le_refl, Nat.reduceAdd, Nat.reduceSub, Nat.reduceMul, Nat.reduceDiv, Nat.reduceMod, Nat.reduceEqDiff, Nat.reduceLT, Nat.add_sub_cancel, Nat.reducePow, Nat.reduceLeDiff]
theorem g_least {w : XW} {r : Nat → Nat → Nat} {n m : Nat} {q pv par : Nat → Nat} (H : QI w r n m q pv par) (hn : n ≤ 7) (hR : RR w r) (hr : ∀ u v, r u v < 1000000) (y : Int32) :
    ∀ (k i b s fuel : Nat), i ≤ k → i < m → s + i ≤ 6 → 7 < fuel + s → 0 < b → b ≤ 200 → ∃ b', 0 < b' ∧ b' ≤ b ∧ (∀ k2, onp par (fun j => r (q (par j)) (q j)) b' k2 i) ∧ f_X1_augment_9 y fuel (zI b) (zI (q i)) (zI s) w = f_X1_augment_53 (zI b') 1000 y 0 w := by
  intro k
  induction k with
  | zero =>
    intro i b s fuel hik hi hs hf hb hb2
    have e : i = 0 := by omega
    subst e
    obtain ⟨f, rfl⟩ : ∃ f, fuel = f + 1 := ⟨fuel - 1, by omega⟩
    refine ⟨b, hb, Nat.le_refl _, fun k2 => by cases k2 <;> simp [onp], ?_⟩
    rw [f_X1_augment_9, H.2.1, if_neg (by rw [zl_7, zI_le (by omega) (by omega)]; omega), if_pos (by rw [zl_0, zI_le (by omega) (by omega)]; omega)]
  | succ k ih =>
    intro i b s fuel hik hi hs hf hb hb2
    by_cases e : i = 0
    · subst e
      exact ih 0 b s fuel (by omega) hi hs hf hb hb2
    · obtain ⟨f, rfl⟩ : ∃ f, fuel = f + 1 := ⟨fuel - 1, by omega⟩
      have a := H.2.2.2.2.2.2.1 i (by omega) hi
      have b1 := (H.2.2.2.2.2.1 i hi).2
      have b2 := (H.2.2.2.2.2.1 (par i) (by omega)).2
      have b3 := hr (q (par i)) (q i)
      obtain ⟨b', c1, c2, c3, c4⟩ := ih (par i) (if r (q (par i)) (q i) < b then r (q (par i)) (q i) else b) (s + 1) f (by omega) (by omega) (by omega) (by omega) (by split <;> omega) (by split <;> omega)
      refine ⟨b', c1, by split at c2 <;> omega, fun k2 => ?_, ?_⟩
      · cases k2 with
        | zero => trivial
        | succ k2 => exact Or.inr ⟨by dsimp only; split at c2 <;> omega, c3 k2⟩
      · rw [← c4, f_X1_augment_9, if_neg (by rw [zl_7, zI_le (by omega) (by omega)]; omega), if_neg (by rw [zl_0, zI_le (by omega) (by omega)]; omega), g_prev H hn (by omega) hi, bI_s, g_spare hR (by omega) (by omega), bI_s, zl_1, zI_add, zI_min (by omega) (by omega)]
theorem g_push {n m b : Nat} {q pv par : Nat → Nat} (hn : n ≤ 7) (hb : 0 < b) (hb2 : b ≤ 200) :
    ∀ (k i s fuel M : Nat) (w : XW) (r : Nat → Nat → Nat), i ≤ k → i < m → s + i ≤ 6 → 7 < fuel + s → QI w (fun _ _ => 1) n m q pv par → RR w r → (∀ u v, r u v ≤ M) → M + 200 * i < 1000000 → onp par (fun j => r (q (par j)) (q j)) b 7 i → i < 7 →
    ∃ w' r', f_X1_augment_53 (zI b) fuel (zI (q i)) (zI s) w = some (zI b, w') ∧ Fr (fun a => a = 125) w w' ∧ RR w' r' ∧ (∀ u v, r' u v ≤ M + 200 * i) ∧
      ∀ S : Nat → Bool, rc r' S n + (if S 0 then b else 0) = rc r S n + (if S (q i) then b else 0) := by
  intro k
  induction k with
  | zero =>
    intro i s fuel M w r hik hi hs hf H hR hM hM2 hp hi7
    have e : i = 0 := by omega
    subst e
    obtain ⟨f, rfl⟩ : ∃ f, fuel = f + 1 := ⟨fuel - 1, by omega⟩
    refine ⟨w, r, ?_, Fr.rf, hR, fun u v => hM u v, fun S => by rw [H.2.1]⟩
    rw [f_X1_augment_53, H.2.1, if_neg (by rw [zl_7, zI_le (by omega) (by omega)]; omega), if_pos (by rw [zl_0, zI_le (by omega) (by omega)]; omega)]
  | succ k ih =>
    intro i s fuel M w r hik hi hs hf H hR hM hM2 hp hi7
    by_cases e : i = 0
    · subst e
      exact ih 0 s fuel M w r (by omega) hi hs hf H hR hM hM2 hp hi7
    · obtain ⟨f, rfl⟩ : ∃ f, fuel = f + 1 := ⟨fuel - 1, by omega⟩
      have a := H.2.2.2.2.2.2.1 i (by omega) hi
      have b1 := (H.2.2.2.2.2.1 i hi).2
      have b2 := (H.2.2.2.2.2.1 (par i) (by omega)).2
      have hne : q (par i) ≠ q i := H.2.2.2.2.2.2.2.2 (par i) i a.1 hi
      rcases hp with hp | ⟨hp1, hp2⟩
      · exact absurd hp e
      have hMi := hM (q (par i)) (q i)
      have hMj := hM (q i) (q (par i))
      have hR1 : RR (wset w 125 (q (par i) * 7 + q i) (zI (r (q (par i)) (q i) - b))) (up2 r (q (par i)) (q i) (r (q (par i)) (q i) - b)) := hR.set (by omega) (by omega) _
      have hx : up2 r (q (par i)) (q i) (r (q (par i)) (q i) - b) (q i) (q (par i)) = r (q i) (q (par i)) := by unfold up2; rw [if_neg (fun z => hne z.2)]
      have hR2 := hR1.set (a := q i) (b := q (par i)) (by omega) (by omega) (r (q i) (q (par i)) + b)
      have hfr : Fr (fun a => a = 125) w (wset (wset w 125 (q (par i) * 7 + q i) (zI (r (q (par i)) (q i) - b))) 125 (q i * 7 + q (par i)) (zI (r (q i) (q (par i)) + b))) := (fr1 _ _).tr (fr1 _ _)
      obtain ⟨w', r', c1, c2, c3, c4, c5⟩ := ih (par i) (s + 1) f (M + 200) _ _ (by omega) (by omega) (by omega) (by omega) (by
          obtain ⟨z1, z2, z3, z4, z5, z6, z7, z8, z9⟩ := H
          exact ⟨z1, z2, z3, z4, fun v hv => by rw [hfr.at (by omega)]; exact z5 v hv, fun j hj => by rw [hfr.at (by omega)]; exact z6 j hj, z7, z8, z9⟩) hR2 (fun u v => by
          have := hM u v
          unfold up2
          split
          · omega
          · split <;> omega) (by omega) (by
          refine onp_mono (E := fun j => r (q (par j)) (q j)) (m := m) (Nat.le_refl b) (fun j h1 h2 => (H.2.2.2.2.2.2.1 j h1 h2).1) 7 (par i) (by omega) (fun j hj => ?_) ?_
          · unfold up2
            split
            · rename_i z; rw [z.1, z.2]; omega
            · split
              · rename_i z
                exact absurd z.2 (H.2.2.2.2.2.2.2.2 j i (by omega) hi)
              · exact Nat.le_refl _
          · have h7 : ∀ (k2 j : Nat), j ≤ k2 → j < m → onp par (fun j => r (q (par j)) (q j)) b k2 j → ∀ k3, onp par (fun j => r (q (par j)) (q j)) b k3 j := by
              intro k2
              induction k2 with
              | zero => intro j h1 h2 _ k3; cases k3 <;> simp [onp]; exact Or.inl (by omega)
              | succ k2 ih2 =>
                intro j h1 h2 h3 k3
                cases k3 with
                | zero => trivial
                | succ k3 =>
                  rcases h3 with h3 | ⟨h3, h4⟩
                  · exact Or.inl h3
                  · by_cases e0 : j = 0
                    · exact Or.inl e0
                    · have := (H.2.2.2.2.2.2.1 j (by omega) h2).1
                      exact Or.inr ⟨h3, ih2 (par j) (by omega) (by omega) h4 k3⟩
            exact h7 6 (par i) (by omega) (by omega) hp2 7) (by omega)
      refine ⟨w', r', ?_, hfr.tr c2, c3, fun u v => by have := c4 u v; omega, fun S => ?_⟩
      · rw [f_X1_augment_53, if_neg (by rw [zl_7, zI_le (by omega) (by omega)]; omega), if_neg (by rw [zl_0, zI_le (by omega) (by omega)]; omega), g_prev H hn (by omega) hi, bI_s, g_take hR (by omega) (by omega) hp1, bV_s, g_add hR1 (by omega) (by omega), bV_s, hx, zl_1, zI_add]
        exact c1
      · have d1 := c5 S
        have d2 := rc_push (r := r) (r' := up2 (up2 r (q (par i)) (q i) (r (q (par i)) (q i) - b)) (q i) (q (par i)) (r (q i) (q (par i)) + b)) S b2 b1 hne hp1 (by unfold up2; rw [if_neg (fun z => hne z.1), if_pos ⟨rfl, rfl⟩]) (by unfold up2; rw [if_pos ⟨rfl, rfl⟩]) (fun x y _ _ h1 h2 => by unfold up2; rw [if_neg h2, if_neg h1])
        omega
theorem QI.one {w : XW} {r : Nat → Nat → Nat} {n m : Nat} {q pv par : Nat → Nat} (H : QI w r n m q pv par) : QI w (fun _ _ => 1) n m q pv par := by
  obtain ⟨z1, z2, z3, z4, z5, z6, z7, z8, z9⟩ := H
  exact ⟨z1, z2, z3, z4, z5, z6, fun i h1 h2 => ⟨(z7 i h1 h2).1, (z7 i h1 h2).2.1, Nat.one_pos, (z7 i h1 h2).2.2.2⟩, z8, z9⟩
/-- the loop over the ways: flow and border make up the cut -/
theorem g_ways {n : Nat} (hn : n ≤ 7) (hn2 : 2 ≤ n) (C : Nat → Nat) (hC : ∀ s, s < 2 ^ (n - 1) → s % 2 = 1 → C s ≤ 200) (y : Int32) :
    ∀ (d fuel k fl : Nat) (w : XW) (r : Nat → Nat → Nat), k + d = 200 → d < fuel → k ≤ fl → fl ≤ 200 → RR w r → (∀ u v, r u v ≤ 200 + 1200 * k) → (∀ s, s < 2 ^ (n - 1) → s % 2 = 1 → rc r (fun v => bt s v == 1) n + fl = C s) →
    ∃ w' x, f_X1_greatest_25 7 (zI n) fuel (zI fl) (zI k) w = some (zI x, w') ∧ Fr (fun a => 125 ≤ a ∧ a ≤ 127) w w' ∧ x ≤ 200 ∧ (∃ s, s < 2 ^ (n - 1) ∧ s % 2 = 1 ∧ x = C s) ∧ ∀ s, s < 2 ^ (n - 1) → s % 2 = 1 → x ≤ C s := by
  intro d
  have h1lt : 1 < 2 ^ (n - 1) := Nat.one_lt_two_pow (by omega)
  have hb0 : ∀ s, s % 2 = 1 → bt s 0 = 1 := fun s h => by unfold bt; omega
  have hbl : ∀ s, s < 2 ^ (n - 1) → bt s (n - 1) = 0 := fun s h => by unfold bt; rw [Nat.div_eq_of_lt h]
  induction d with
  | zero =>
    intro fuel k fl w r hk hf hkf hfl hR hM hC2
    obtain ⟨f, rfl⟩ : ∃ f, fuel = f + 1 := ⟨fuel - 1, by omega⟩
    have e : k = 200 := by omega
    subst e
    refine ⟨w, fl, ?_, Fr.rf, hfl, ⟨1, h1lt, rfl, ?_⟩, fun s hs ho => ?_⟩
    · rw [f_X1_greatest_25, if_pos (by rw [zl_200, zI_le (by omega) (by omega)]; omega)]
    · have := hC 1 h1lt rfl; have := hC2 1 h1lt rfl; omega
    · have := hC2 s hs ho; omega
  | succ d ih =>
    intro fuel k fl w r hk hf hkf hfl hR hM hC2
    obtain ⟨f, rfl⟩ : ∃ f, fuel = f + 1 := ⟨fuel - 1, by omega⟩
    have hr6 : ∀ u v, r u v < 1000000 := fun u v => by have := hM u v; omega
    obtain ⟨w1, m, q, pv, par, e1, e2, e3, e4⟩ := b_reach hn hn2 r hr6 hR
    have hR1 : RR w1 r := hR.of (e2.1 125 (by omega))
    rw [f_X1_greatest_25, if_neg (by rw [zl_200, zI_le (by omega) (by omega)]; omega), e1, bI_s]
    by_cases e9 : pv (n - 1) = 9
    · rw [if_pos e9, if_pos (show zI 0 = 0 from rfl)]
      refine ⟨w1, fl, rfl, e2.wk (fun a ha => by omega), hfl, ?_, fun s hs ho => by have := hC2 s hs ho; omega⟩
      have hS := mk7_lt (fun v => v == 0 || (decide (v < n - 1) && !(pv v == 9))) hn2 hn (by simp) (fun v hv => by simp; omega)
      refine ⟨mk7 (fun v => v == 0 || (decide (v < n - 1) && !(pv v == 9))), hS.1, hS.2, ?_⟩
      have h2 := hC2 _ hS.1 hS.2
      rw [rc_zero, Nat.zero_add] at h2
      · exact h2
      · intro u v hu hv h3 h4
        rw [mk7_bt _ (by omega)] at h3 h4
        have h3' : (u == 0 || (decide (u < n - 1) && !(pv u == 9))) = true := by
          revert h3; cases (u == 0 || (decide (u < n - 1) && !(pv u == 9))) <;> simp
        have h4' : (v == 0 || (decide (v < n - 1) && !(pv v == 9))) = false := by
          revert h4; cases (v == 0 || (decide (v < n - 1) && !(pv v == 9))) <;> simp
        simp only [Bool.or_eq_false_iff, Bool.and_eq_false_iff, beq_eq_false_iff_ne, decide_eq_false_iff_not, Bool.not_eq_false', beq_iff_eq] at h4'
        have hv9 : pv v = 9 := by
          by_cases z : v = n - 1
          · exact z ▸ e9
          · rcases h4'.2 with z2 | z2
            · omega
            · exact z2
        by_cases hu0 : u = 0
        · have := e4 0 v (by have := e3.1; omega) (by omega) hv hv9
          rw [e3.2.1] at this
          exact hu0 ▸ this
        · simp only [Bool.or_eq_true, Bool.and_eq_true, beq_iff_eq, hu0, false_or, decide_eq_true_eq, Bool.not_eq_true', beq_eq_false_iff_ne] at h3'
          obtain ⟨i, z1, z2, z3⟩ := e3.2.2.2.2.2.2.2.1 u (by omega) h3'.2
          exact z3 ▸ e4 i v z2 (by omega) hv hv9
    · rw [if_neg e9, if_neg (by decide)]
      obtain ⟨i, z1, z2, z3⟩ := e3.2.2.2.2.2.2.2.1 (n - 1) (by omega) e9
      have hm7 := e3.m7
      obtain ⟨b, b1, b2, b3, b4⟩ := g_least e3 hn hR1 hr6 (zI (n - 1)) i i 200 0 1000 (Nat.le_refl _) z2 (by omega) (by omega) (by omega) (by omega)
      obtain ⟨w2, r2, c1, c2, c3, c4, c5⟩ := g_push hn b1 b2 i i 0 1000 (200 + 1200 * k) w1 r (Nat.le_refl _) z2 (by omega) (by omega) e3.one hR1 hM (by omega) (b3 7) (by omega)
      have hC3 : ∀ s, s < 2 ^ (n - 1) → s % 2 = 1 → rc r2 (fun v => bt s v == 1) n + (fl + b) = C s := fun s hs ho => by
        have h5 := c5 (fun v => bt s v == 1)
        rw [z3, hb0 s ho, hbl s hs] at h5
        have h6 := hC2 s hs ho
        simp at h5
        omega
      obtain ⟨w3, x, d1, d2, d3⟩ := ih f (k + 1) (fl + b) w2 r2 (by omega) (by omega) (by omega) (by have := hC 1 h1lt rfl; have := hC3 1 h1lt rfl; omega) c3 (fun u v => by have := c4 u v; omega) hC3
      refine ⟨w3, x, ?_, (e2.wk (fun a ha => by omega)).tr ((c2.wk (fun a ha => by omega)).tr d2), d3⟩
      rw [z3] at b4 c1
      have h7 : f_X1_augment (zI n - 1) w1 = some (zI b, w2) := by
        unfold f_X1_augment
        rw [zl_1, zI_sub (by omega), zl_200]
        exact b4.trans c1
      rw [h7, bI_s, zI_add, zl_1, zI_add]
      exact d1
theorem sm_bound {G : Nat → Nat} {c : Nat} : ∀ n, (∀ k, k < n → G k ≤ c) → sm G n ≤ c * n := fun n h => by
  rw [← sm_const c n]
  exact sm_le h
theorem ctV_le {F : Nat → Nat} {wo s : Nat} (h10 : F 2 ≤ 10) (hF : ∀ p, p < F 2 → F (28 + 4 * p) ≤ 20) : ctV F wo s ≤ 200 := by
  have h := sm_bound (G := ctP F wo s) (c := 20) (F 2) (fun p hp => by
    unfold ctP
    have := hF p hp
    split <;> omega)
  unfold ctV
  omega
/-- the class's greatest flow -/
theorem g_greatest {w : XW} {F : Nat → Nat} {wo n : Nat} {y : Int32} (hn : n ≤ 7) (hn2 : 2 ≤ n) (hP : PP w F) (hy : ∀ p, p < 10 → (zI p = y) = (p = wo)) (hF : ∀ p, p < F 2 → F (26 + 4 * p) < n ∧ F (27 + 4 * p) < n) (hW : ∀ p, p < F 2 → F (28 + 4 * p) ≤ 20) :
    ∃ w', f_X1_greatest 7 (zI n) y w = some (zI (mcF F wo n), w') ∧ Fr (fun a => 125 ≤ a ∧ a ≤ 127) w w' ∧ mcF F wo n ≤ 200 := by
  have h10 := hP.2.1
  obtain ⟨w1, e1, e2, e3⟩ := g_clear 49 1000 0 w (by omega) (by omega) (fun c hc => by omega) 7 y
  obtain ⟨w2, f1, f2, f3⟩ := g_open hn hy hF (F 2) 1000 0 w1 (by omega) (by omega) (hP.fr e2 (fun a h1 h2 => by omega)) (fun u v hu hv => e3 _ (by omega))
  obtain ⟨w3, x, d1, d2, d3, d4, d5⟩ := g_ways hn hn2 (ctV F wo) (fun s _ _ => ctV_le h10 hW) y 200 1000 0 0 w2 _ (by omega) (by omega) (by omega) (by omega) f3 (fun u v => by have := cpI_le (F := F) (wo := wo) (F 2) hW u v; omega) (fun s _ _ => by rw [cpI_cut (F 2) hF]; rfl)
  have hx := mcF_eq hn2 d4 d5
  subst hx
  refine ⟨w3, ?_, (e2.wk (fun a ha => by omega)).tr ((f2.wk (fun a ha => by omega)).tr d2), d3⟩
  have h8 : f_X1_openPipes 7 y w = some w2 := by
    unfold f_X1_openPipes
    exact e1.trans f1
  unfold f_X1_greatest
  rw [if_neg (by rw [zl_2, zI_lt (by omega) (by omega)]; omega), if_pos (by rw [zl_7, zI_le (by omega) (by omega)]; omega), h8, bV_s]
  exact d1
