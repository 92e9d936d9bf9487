/-! the class's two counts: its trial pile (cells 129, 130), the layers of the order that is tried (cell 131) -/
def TP (w : XW) (n : Nat) (P : List Nat) : Prop := w.1 129 0 = zI n ∧ ∀ s, s < n → w.1 130 s = zI (ixL P s)
theorem TP.fr {w w' : XW} {n : Nat} {P : List Nat} {Q : Nat → Prop} (h : TP w n P) (hf : Fr Q w w') (h1 : ¬ Q 129) (h2 : ¬ Q 130) : TP w' n P :=
  ⟨(hf.at h1 0).trans h.1, fun s hs => (hf.at h2 s).trans (h.2 s hs)⟩
theorem f_foldRest {t : Nat} (ht : t ≤ 7) : ∀ (k n : Nat) (P : List Nat) (w : XW), n ≤ t → t < n + k → P ∈ piles n → TP w n P →
    ∃ w', f_X2_foldRest k (zI n) (zI t) w = some (zI (wyL t k P n), w') ∧ Fr (fun a => a = 129 ∨ a = 130) w w' ∧ TP w' n P := by
  intro k
  induction k with
  | zero => intro n P w h1 h2; omega
  | succ k ih =>
    intro n P w h1 h2 hP hT
    rw [f_X2_foldRest, wyL]
    unfold f_X2_foldRestO
    by_cases e : n = t
    · rw [if_neg (by rw [zI_lt (by omega) (by omega)]; omega), if_pos (by omega)]
      exact ⟨w, rfl, Fr.rf, hT⟩
    · rw [if_pos (by rw [zI_lt (by omega) (by omega)]; omega), if_neg (by omega)]
      obtain ⟨_, hs1, _⟩ := piles_ok (by omega) hP
      have loop : ∀ (d fuel l acc : Nat) (w : XW), l + d = n + 1 → d < fuel → TP w n P → ∃ w', f_X2_foldRest_12 (f_X2_foldRest k) (zI n) (zI t) fuel (zI acc) (zI l) w = some (zI (acc + smF (fun l => if (crA (ixL P) n l).isNone then wyL t k (insL P l n) (n + 1) else 0) d l), w') ∧ Fr (fun a => a = 129 ∨ a = 130) w w' ∧ TP w' n P := by
        intro d
        induction d with
        | zero =>
          intro fuel l acc w hl hf hT
          obtain ⟨f, rfl⟩ : ∃ f, fuel = f + 1 := ⟨fuel - 1, by omega⟩
          refine ⟨w, ?_, Fr.rf, hT⟩
          rw [f_X2_foldRest_12, if_pos (by rw [zI_lt (by omega) (by omega)]; omega)]
          rfl
        | succ d ihd =>
          intro fuel l acc w hl hf hT
          obtain ⟨f, rfl⟩ : ∃ f, fuel = f + 1 := ⟨fuel - 1, by omega⟩
          have h8 : ∀ s, s < n → ixL P s < 8 := fun s hs => by have := (hs1 s hs).1; omega
          rw [f_X2_foldRest_12, if_neg (by rw [zI_lt (by omega) (by omega)]; omega), p_crease (k := 129) hT.1 (by omega) hT.2 h8 (by omega), bI_s, smF, zl_1, zm1]
          have hcz := crZ_none (o := crA (ixL P) n l) (fun x hx => by have := crA_lt hx; omega)
          by_cases e2 : (crA (ixL P) n l).isNone = true
          · have e3 : crA (ixL P) n l = none := by cases h : crA (ixL P) n l with | none => rfl | some x => rw [h] at e2; cases e2
            rw [if_pos (by rw [hcz]; exact e2), if_pos e2]
            obtain ⟨w2, b1, b2, b3, b4, b5⟩ := p_insert (k := 129) hT.1 (by omega) hT.2 h8 (show l < 8 by omega)
            obtain ⟨i1, i2, _, i4⟩ := piles_insI (by omega) hP (show l ≤ n by omega)
            have hT2 : TP w2 (n + 1) (insL P l n) := ⟨b3, fun s hs => by
              by_cases z : s = n
              · subst z; rw [i2]; exact b5
              · rw [i1 s (by omega)]; exact b4 s (by omega)⟩
            obtain ⟨w3, c1, c2, c3⟩ := ih (n + 1) (insL P l n) w2 (by omega) (by omega) (piles_ins hP (by omega) e3) hT2
            obtain ⟨q1, q2, q3, q4⟩ := piles_rm (by omega) (piles_ins hP (show l ≤ n by omega) e3)
            obtain ⟨_, hs2, _⟩ := piles_ok (by omega) (piles_ins hP (show l ≤ n by omega) e3)
            obtain ⟨w4, d1, d2, d3, d4⟩ := p_remove (k := 129) (L := ixL (insL P l n)) (l := l) c3.1 (by omega) (fun s hs => c3.2 s (by omega)) (fun s hs => by have := (hs2 s (by omega)).1; omega) (by omega) (by have := c3.2 n (by omega); rwa [i2] at this)
            have hT4 : TP w4 n P := ⟨d3, fun s hs => by
              rw [d4 s hs]
              have := q3 s hs
              rw [i4, i2] at this
              rw [this]⟩
            obtain ⟨w5, f1, f2, f3⟩ := ihd f (l + 1) (acc + wyL t k (insL P l n) (n + 1)) w4 (by omega) (by omega) hT4
            refine ⟨w5, ?_, b2.tr (c2.tr (d2.tr f2)), f3⟩
            have ei : f_X2_foldInto (f_X2_foldRest k) (zI l) (zI n) (zI t) w = some (zI (wyL t k (insL P l n) (n + 1)), w4) := by
              unfold f_X2_foldInto
              rw [b1, bI_s, zl_1, zI_add, c1, bI_s, d1, bI_s]
            rw [ei, bI_s, zI_add, zI_add, ← Nat.add_assoc]
            exact f1
          · rw [if_neg (by rw [hcz]; exact e2), if_neg e2, Nat.zero_add, zI_add]
            exact ihd f (l + 1) acc w (by omega) (by omega) hT
      obtain ⟨w', z1, z2⟩ := loop (n + 1) 1000 0 0 w (by omega) (by omega) hT
      rw [Nat.zero_add] at z1
      exact ⟨w', z1, z2⟩
/-- the trial pile, copied -/
theorem f_copyTrial {w : XW} {n : Nat} {P : List Nat} (h0 : w.1 5 0 = zI n) (h : ∀ s, s < n → w.1 6 s = zI (ixL P s)) (hn : n ≤ 7) : ∃ w', f_X4_copyFrom 129 5 w = some w' ∧ Fr (fun a => a = 129 ∨ a = 130) w w' ∧ TP w' n P := by
  obtain ⟨w', e1, e2, e3, e4⟩ := p_copy (k := 129) (k1 := 5) (by omega) h0
  exact ⟨w', e1, e2, e3, fun s hs => (e4 s (by omega)).trans (h s hs)⟩
theorem f_byFolding {w : XW} {n t : Nat} {P : List Nat} (ht : t ≤ 7) (hn : n ≤ t) (hP : P ∈ piles n) (h0 : w.1 5 0 = zI n) (h : ∀ s, s < n → w.1 6 s = zI (ixL P s)) :
    ∃ w', f_X2_countByFolding 5 (zI t) w = some (zI (wyL t 9 P n), w') ∧ Fr (fun a => a = 129 ∨ a = 130) w w' := by
  obtain ⟨w1, e1, e2, e3⟩ := f_copyTrial h0 h (by omega)
  obtain ⟨w2, d1, d2, d3⟩ := f_foldRest ht 9 n P w1 hn (by omega) hP e3
  refine ⟨w2, ?_, e2.tr d2⟩
  unfold f_X2_countByFolding
  rw [e1, bV_s, e3.1, if_neg (by rw [zl_7, zI_lt (by omega) (by omega)]; omega), d1, bI_s]
/-! by orders -/
def PQ (w : XW) (Q : List Nat) : Prop := ∀ s, s < 7 → w.1 131 s = zI (gtL Q s)
theorem PQ.fr {w w' : XW} {Q : List Nat} {R : Nat → Prop} (h : PQ w Q) (hf : Fr R w w') (h1 : ¬ R 131) : PQ w' Q := fun s hs => (hf.at h1 s).trans (h s hs)
theorem stL_get : ∀ (Q : List Nat) (s a j : Nat), s < Q.length → gtL (stL Q s a) j = if j = s then a else gtL Q j := by
  intro Q
  induction Q with
  | nil => intro s a j h; simp at h
  | cons q Q ih =>
    intro s a j h
    cases s with
    | zero =>
      cases j with
      | zero => rfl
      | succ j => rfl
    | succ s =>
      cases j with
      | zero => rfl
      | succ j =>
        rw [stL, gtL, gtL, ih s a j (by simpa using h)]
        simp
theorem stL_len : ∀ (Q : List Nat) (s a : Nat), (stL Q s a).length = Q.length := by
  intro Q
  induction Q with
  | nil => intro s a; rfl
  | cons q Q ih =>
    intro s a
    cases s with
    | zero => rfl
    | succ s => rw [stL, List.length_cons, ih, List.length_cons]
theorem stL_back : ∀ (Q : List Nat) (s a : Nat), stL (stL Q s a) s (gtL Q s) = Q := by
  intro Q
  induction Q with
  | nil => intro s a; rfl
  | cons q Q ih =>
    intro s a
    cases s with
    | zero => rfl
    | succ s => rw [stL, stL, gtL, ih]
theorem PQ.set {w : XW} {Q : List Nat} (h : PQ w Q) (hl : Q.length = 7) {s : Nat} (hs : s < 7) (a : Nat) : PQ (wset w 131 s (zI a)) (stL Q s a) := by
  intro j hj
  rw [wset_at, stL_get Q s a j (by omega)]
  by_cases e : j = s
  · rw [if_pos ⟨rfl, e⟩, if_pos e]
  · rw [if_neg (fun z => e z.2), if_neg e]; exact h j hj
section
variable {w : XW} {Q P : List Nat} {t n : Nat}
theorem o_place {c : Nat} (h : PQ w Q) (ht : t ≤ 7) (hc : c < 9) : f_X2_placeOf (zI c) (zI t) w = some (zI (pcL Q t c), w) := by
  unfold f_X2_placeOf pcL
  by_cases e : t ≤ c
  · simp (disch := omega) only [e, zl_0, zl_1, zl_2, zl_3, zl_4, zl_5, zl_6, zl_7, zl_8, zl_9, zl_10, zl_11, zl_12, zl_13, zl_14, zl_15, zl_16, zl_17, zl_18, zl_19, zl_20, zl_21, zl_22, zl_23, zl_24, zl_25, zl_26, zl_27, zl_28, zl_29, zl_30, zl_31, zl_32, zl_33, zl_34, zl_35, zl_36, zl_37, zl_38, zl_39, zl_40, zl_41, zl_42, zl_43, zl_44, zl_45, zl_46, zl_47, zl_48, zl_49, zl_50, zl_51, zl_52, zl_53, zl_54, zl_55, zl_56, zl_57, zl_58, zl_59, zl_60, zl_61, zl_62, zl_63, zl_64, zl_65, zl_66, zl_67, zl_68, zl_69, zl_70, zl_71, zl_72, zl_73, zl_74, zl_75, zl_76, zl_77, zl_78, zl_79, zl_80, zl_81, zl_82, zl_83, zl_84, zl_85, zl_86, zl_87, zl_88, zl_89, zl_90, zl_91, zl_92, zl_93, zl_94, zl_95, zl_96, zl_97, zl_98, zl_99, zl_100, zl_101, zl_102, zl_103, zl_104, zl_105, zl_106, zl_107, zl_108, zl_109, zl_110, zl_111, zl_112, zl_113, zl_114, zl_115, zl_116, zl_117, zl_118, zl_119, zl_120, zl_121, zl_122, zl_123, zl_124, zl_125, zl_126, zl_127, zl_128, zl_180, zl_200, zl_240, zl_462, zl_528, zm1, zI_add, zI_mul, zI_sub, zI_addneg, zI_lt, zI_le, zI_inj, zI_nat, zI_zM, zM_zI, zM_lt, lt_zM, zM_le, le_zM, zM_leM, zM_ltM, inB_z, bI_s, bV_s, bIX_s, bVX_s, bIX_x, bVX_x, if_true, if_false, ↓reduceIte, nar0z, nar1z, Nat.not_lt_zero, Nat.zero_le, Nat.le_zero_eq, not_true_eq_false, not_false_eq_true, false_and, and_false, true_and, and_true, and_self, wset_at, Nat.le_refl, Nat.reduceAdd, Nat.reduceSub, Nat.reduceMul, Nat.reduceDiv, Nat.reduceMod, Nat.reduceEqDiff, Nat.reduceLT, Nat.add_sub_cancel, Nat.reducePow, Nat.reduceLeDiff]
  · simp (disch := omega) only [e, show ¬ 7 ≤ c by omega, show c < 7 by omega, h c (by omega), zl_0, zl_1, zl_2, zl_3, zl_4, zl_5, zl_6, zl_7, zl_8, zl_9, zl_10, zl_11, zl_12, zl_13, zl_14, zl_15, zl_16, zl_17, zl_18, zl_19, zl_20, zl_21, zl_22, zl_23, zl_24, zl_25, zl_26, zl_27, zl_28, zl_29, zl_30, zl_31, zl_32, zl_33, zl_34, zl_35, zl_36, zl_37, zl_38, zl_39, zl_40, zl_41, zl_42, zl_43, zl_44, zl_45, zl_46, zl_47, zl_48, zl_49, zl_50, zl_51, zl_52, zl_53, zl_54, zl_55, zl_56, zl_57, zl_58, zl_59, zl_60, zl_61, zl_62, zl_63, zl_64, zl_65, zl_66, zl_67, zl_68, zl_69, zl_70, zl_71, zl_72, zl_73, zl_74, zl_75, zl_76, zl_77, zl_78, zl_79, zl_80, zl_81, zl_82, zl_83, zl_84, zl_85, zl_86, zl_87, zl_88, zl_89, zl_90, zl_91, zl_92, zl_93, zl_94, zl_95, zl_96, zl_97, zl_98, zl_99, zl_100, zl_101, zl_102, zl_103, zl_104, zl_105, zl_106, zl_107, zl_108, zl_109, zl_110, zl_111, zl_112, zl_113, zl_114, zl_115, zl_116, zl_117, zl_118, zl_119, zl_120, zl_121, zl_122, zl_123, zl_124, zl_125, zl_126, zl_127, zl_128, zl_180, zl_200, zl_240, zl_462, zl_528, zm1, zI_add, zI_mul, zI_sub, zI_addneg, zI_lt, zI_le, zI_inj, zI_nat, zI_zM, zM_zI, zM_lt, lt_zM, zM_le, le_zM, zM_leM, zM_ltM, inB_z, bI_s, bV_s, bIX_s, bVX_s, bIX_x, bVX_x, if_true, if_false, ↓reduceIte, nar0z, nar1z, Nat.not_lt_zero, Nat.zero_le, Nat.le_zero_eq, not_true_eq_false, not_false_eq_true, false_and, and_false, true_and, and_true, and_self, wset_at, Nat.le_refl, Nat.reduceAdd, Nat.reduceSub, Nat.reduceMul, Nat.reduceDiv, Nat.reduceMod, Nat.reduceEqDiff, Nat.reduceLT, Nat.add_sub_cancel, Nat.reducePow, Nat.reduceLeDiff]
theorem o_placeM (ht : t ≤ 7) : f_X2_placeOf zM (zI t) w = some (zI t, w) := by
  unfold f_X2_placeOf
  rw [if_pos (by decide)]
theorem alB_step {p : Nat → Bool} : ∀ n, alB p n = true ∨ ∃ i, i < n ∧ p i = false := by
  intro n
  induction n with
  | zero => exact Or.inl rfl
  | succ n ih =>
    cases h : p n
    · exact Or.inr ⟨n, by omega, h⟩
    · rcases ih with ih | ⟨i, a, b⟩
      · exact Or.inl (by rw [alB, h, ih]; rfl)
      · exact Or.inr ⟨i, by omega, b⟩
theorem alB_of {p : Nat → Bool} : ∀ n, (∀ i, i < n → p i = true) → alB p n = true := by
  intro n h
  rcases alB_step (p := p) n with h1 | ⟨i, a, b⟩
  · exact h1
  · rw [h i a] at b; cases b
theorem alB_no {p : Nat → Bool} {n i : Nat} (hi : i < n) (h : p i = false) : alB p n = false := by
  cases e : alB p n
  · rfl
  · rw [alB_at e i hi] at h; cases h
theorem o_next_loop (h : PQ w Q) (hT : TP w n P) (hn : n ≤ 7) (ht : t ≤ 7) (hQ : ∀ s, s < 7 → gtL Q s ≤ 7) (h8 : ∀ s, s < n → ixL P s < 8) {y : Nat} (hy : y < 8) :
    ∀ (d fuel i : Nat), i + d = n → d < fuel → (∀ j, j < i → (if y ≤ ixL P j then true else !(gtL Q j == t)) = true) → f_X2_isNextOfPile_12 (zI t) (zI y) fuel (zI i) w = some (zI (alB (fun o => if y ≤ ixL P o then true else !(gtL Q o == t)) n).toNat, w) := by
  intro d
  induction d with
  | zero =>
    intro fuel i hi hf hj
    obtain ⟨f, rfl⟩ : ∃ f, fuel = f + 1 := ⟨fuel - 1, by omega⟩
    have e : i = n := by omega
    subst e
    rw [f_X2_isNextOfPile_12, hT.1, if_pos (by rw [zI_le (by omega) (by omega)]; omega), alB_of _ hj]
    rfl
  | succ d ih =>
    intro fuel i hi hf hj
    obtain ⟨f, rfl⟩ : ∃ f, fuel = f + 1 := ⟨fuel - 1, by omega⟩
    have h1 := h8 i (by omega)
    have h2 := hQ i (by omega)
    rw [f_X2_isNextOfPile_12, hT.1, if_neg (by rw [zI_le (by omega) (by omega)]; omega), if_neg (by rw [zl_7, zI_le (by omega) (by omega)]; omega), p_layT (k := 129) hT.1 hn (by omega) (hT.2 i (by omega)), bI_s]
    by_cases e : y ≤ ixL P i
    · rw [if_pos (by rw [zI_le (by omega) (by omega)]; exact e), zl_1, zI_add]
      exact ih f (i + 1) (by omega) (by omega) (fun j hj2 => by
        by_cases z : j = i
        · rw [z, if_pos e]
        · exact hj j (by omega))
    · rw [if_neg (by rw [zI_le (by omega) (by omega)]; exact e), if_pos (by rw [inB_z (by omega)]; omega), zI_nat (by omega), h i (by omega)]
      by_cases e2 : gtL Q i = t
      · rw [if_pos (by rw [e2]), alB_no (i := i) (by omega) (by rw [if_neg e, e2]; simp)]
        rfl
      · rw [if_neg (by rw [zI_inj (by omega) (by omega)]; exact e2), zl_1, zI_add]
        exact ih f (i + 1) (by omega) (by omega) (fun j hj2 => by
          by_cases z : j = i
          · rw [z, if_neg e]; simp [e2]
          · exact hj j (by omega))
theorem o_nextM_loop (hT : TP w n P) (hn : n ≤ 7) (h8 : ∀ s, s < n → ixL P s < 8) : ∀ (d fuel i : Nat), i + d = n → d < fuel → f_X2_isNextOfPile_12 (zI t) zM fuel (zI i) w = some (zI 1, w) := by
  intro d
  induction d with
  | zero =>
    intro fuel i hi hf
    obtain ⟨f, rfl⟩ : ∃ f, fuel = f + 1 := ⟨fuel - 1, by omega⟩
    rw [f_X2_isNextOfPile_12, hT.1, if_pos (by rw [zI_le (by omega) (by omega)]; omega)]
    rfl
  | succ d ih =>
    intro fuel i hi hf
    obtain ⟨f, rfl⟩ : ∃ f, fuel = f + 1 := ⟨fuel - 1, by omega⟩
    have h1 := h8 i (by omega)
    rw [f_X2_isNextOfPile_12, hT.1, if_neg (by rw [zI_le (by omega) (by omega)]; omega), if_neg (by rw [zl_7, zI_le (by omega) (by omega)]; omega), p_layT (k := 129) hT.1 hn (by omega) (hT.2 i (by omega)), bI_s, if_pos (by rw [zM_le (by omega)]; trivial), zl_1, zI_add]
    exact ih f (i + 1) (by omega) (by omega)
theorem o_next (h : PQ w Q) (hT : TP w n P) (hn : n ≤ 7) (ht : t ≤ 7) (hQ : ∀ s, s < 7 → gtL Q s ≤ 7) (h8 : ∀ s, s < n → ixL P s < 8) {s : Nat} (hs : s < 7) : f_X2_isNextOfPile (zI s) (zI t) w = some (zI (nxL P n Q t s).toNat, w) := by
  unfold f_X2_isNextOfPile nxL
  by_cases e : n ≤ s
  · rw [p_layF (k := 129) hT.1 hn (by omega) e, bI_s, if_pos e]
    exact o_nextM_loop hT hn h8 n 1000 0 (by omega) (by omega)
  · rw [p_layT (k := 129) hT.1 hn (by omega) (hT.2 s (by omega)), bI_s, if_neg e]
    exact o_next_loop h hT hn ht hQ h8 (h8 s (by omega)) n 1000 0 (by omega) (by omega) (fun j hj => by omega)
theorem pcL_le {c : Nat} (ht : t ≤ 7) (hQ : ∀ s, s < 7 → gtL Q s ≤ 7) : pcL Q t c ≤ 7 := by
  unfold pcL
  split
  · exact ht
  · exact hQ c (by omega)
theorem o_cross_loop (h : PQ w Q) (ht : t ≤ 7) (hQ : ∀ s, s < 7 → gtL Q s ≤ 7) {c a b : Nat} (hc : c < 7) (ha : a ≤ 7) (hb : b ≤ 7) :
    ∀ (j fuel o : Nat), t ≤ o + 2 * j → j ≤ fuel → 1 ≤ fuel → o < 8 → f_X2_spanCrosses_35 (zI c) (zI t) (zI a) (zI b) (fuel + 1) (zI o) w = some (zI (spL (fun o => if o = c then false else spX a b (pcL Q t o) (pcL Q t (o + 1))) t (j + 1) o).toNat, w) := by
  intro j
  induction j with
  | zero =>
    intro fuel o h1 _ _ h5
    rw [f_X2_spanCrosses_35, spL, zl_1, zI_add, if_pos (by rw [zI_le (by omega) (by omega)]; omega), if_pos (by omega)]
    rfl
  | succ j ih =>
    intro fuel o h1 hf hf1 h5
    have r1 := pcL_le (c := o) ht hQ
    have r2 := pcL_le (c := o + 1) ht hQ
    rw [f_X2_spanCrosses_35, spL, zl_1, zI_add]
    by_cases e : t ≤ o + 1
    · rw [if_pos (by rw [zI_le (by omega) (by omega)]; exact e), if_pos e]; rfl
    · rw [if_neg (by rw [zI_le (by omega) (by omega)]; exact e), if_neg e, o_place h ht (by omega), bI_s, o_place h ht (by omega), bI_s, p_spans (by omega) (by omega) (by omega) (by omega), bI_s, zl_2, zI_add, zl_0]
      have hrec : f_X2_spanCrosses_35 (zI c) (zI t) (zI a) (zI b) fuel (zI (o + 2)) w = some (zI (spL (fun o => if o = c then false else spX a b (pcL Q t o) (pcL Q t (o + 1))) t (j + 1) (o + 2)).toNat, w) := by
        obtain ⟨f, rfl⟩ : ∃ f, fuel = f + 1 := ⟨fuel - 1, by omega⟩
        by_cases hj : j = 0
        · subst hj
          rw [f_X2_spanCrosses_35, spL, zl_1, zI_add, if_pos (by rw [zI_le (by omega) (by omega)]; omega), if_pos (by omega)]
          rfl
        · exact ih f (o + 2) (by omega) (by omega) (by omega) (by omega)
      by_cases e2 : o = c
      · rw [if_pos (by rw [e2]), if_pos e2, if_neg (by decide)]
        exact hrec
      · rw [if_neg (by rw [zI_inj (by omega) (by omega)]; exact e2), if_neg e2]
        cases hx : spX a b (pcL Q t o) (pcL Q t (o + 1))
        · rw [if_pos (by rfl), if_neg (by decide)]
          exact hrec
        · rw [if_neg (by decide), if_pos (by rfl)]
          rfl
theorem o_cross (h : PQ w Q) (ht : t ≤ 7) (hQ : ∀ s, s < 7 → gtL Q s ≤ 7) {c : Nat} (hc : c < 7) : f_X2_spanCrosses (zI c) (zI t) w = some (zI (spC Q t c).toNat, w) := by
  have r1 := pcL_le (c := c) ht hQ
  have r2 := pcL_le (c := c + 1) ht hQ
  unfold f_X2_spanCrosses spC
  rw [o_place h ht (by omega), bI_s, zl_1, zI_add, o_place h ht (by omega), bI_s]
  by_cases e1 : pcL Q t c = t
  · rw [if_pos (by rw [e1]), if_pos e1]; rfl
  · rw [if_neg (by rw [zI_inj (by omega) (by omega)]; exact e1), if_neg e1]
    by_cases e2 : pcL Q t (c + 1) = t
    · rw [if_pos (by rw [e2]), if_pos e2]; rfl
    · rw [if_neg (by rw [zI_inj (by omega) (by omega)]; exact e2), if_neg e2, zl_2, zI_div (by omega) (by omega), zI_mul, zI_sub (by omega), show c - c / 2 * 2 = c % 2 by omega]
      exact o_cross_loop h ht hQ hc r1 r2 8 999 (c % 2) (by omega) (by omega) (by omega) (by omega)
theorem o_crossM (ht : t ≤ 7) (h : PQ w Q) (hQ : ∀ s, s < 7 → gtL Q s ≤ 7) : f_X2_spanCrosses zM (zI t) w = some (zI 0, w) := by
  unfold f_X2_spanCrosses
  rw [o_placeM ht, bI_s, zl_1, zM_add 0, o_place h ht (by omega), bI_s, if_pos (by rfl)]
  rfl
end
theorem o_placeRest {n t : Nat} {P : List Nat} (ht : t ≤ 7) (hn : n ≤ t) (hP : P ∈ piles n) : ∀ (k a : Nat) (Q : List Nat) (w : XW), a ≤ t → t < a + k → Q.length = 7 → (∀ s, s < 7 → gtL Q s ≤ 7) → TP w n P → PQ w Q →
    ∃ w', f_X2_placeRest k (zI a) (zI t) w = some (zI (odL P n t k a Q), w') ∧ Fr (fun a => a = 131) w w' ∧ PQ w' Q := by
  obtain ⟨_, hs1, _⟩ := piles_ok (by omega) hP
  have h8 : ∀ s, s < n → ixL P s < 8 := fun s hs => by have := (hs1 s hs).1; omega
  intro k
  induction k with
  | zero => intro a Q w h1 h2; omega
  | succ k ih =>
    intro a Q w h1 h2 hl hQ hT hPQ
    rw [f_X2_placeRest, odL]
    unfold f_X2_placeRestO
    by_cases e : a = t
    · rw [if_neg (by rw [zI_lt (by omega) (by omega)]; omega), if_pos (by omega)]
      exact ⟨w, rfl, Fr.rf, hPQ⟩
    · rw [if_pos (by rw [zI_lt (by omega) (by omega)]; omega), if_neg (by omega)]
      have loop : ∀ (d fuel s acc : Nat) (w : XW), s + d = t → d < fuel → TP w n P → PQ w Q → ∃ w', f_X2_placeRest_12 (f_X2_placeRest k) (zI a) (zI t) fuel (zI acc) (zI s) w = some (zI (acc + smF (fun s => if gtL Q s = t then (if nxL P n Q t s then (if (if s = 0 then false else spC (stL Q s a) t (s - 1)) then 0 else if spC (stL Q s a) t s then 0 else odL P n t k (a + 1) (stL Q s a)) else 0) else 0) d s), w') ∧ Fr (fun a => a = 131) w w' ∧ PQ w' Q := by
        intro d
        induction d with
        | zero =>
          intro fuel s acc w hs hf hT hPQ
          obtain ⟨f, rfl⟩ : ∃ f, fuel = f + 1 := ⟨fuel - 1, by omega⟩
          refine ⟨w, ?_, Fr.rf, hPQ⟩
          rw [f_X2_placeRest_12, if_pos (by rw [zI_le (by omega) (by omega)]; omega)]
          rfl
        | succ d ihd =>
          intro fuel s acc w hs hf hT hPQ
          obtain ⟨f, rfl⟩ : ∃ f, fuel = f + 1 := ⟨fuel - 1, by omega⟩
          have hQs := hQ s (by omega)
          have skip : ∃ w', f_X2_placeRest_12 (f_X2_placeRest k) (zI a) (zI t) f (zI acc) (zI (s + 1)) w = some (zI (acc + smF (fun s => if gtL Q s = t then (if nxL P n Q t s then (if (if s = 0 then false else spC (stL Q s a) t (s - 1)) then 0 else if spC (stL Q s a) t s then 0 else odL P n t k (a + 1) (stL Q s a)) else 0) else 0) d (s + 1)), w') ∧ Fr (fun a => a = 131) w w' ∧ PQ w' Q := ihd f (s + 1) acc w (by omega) (by omega) hT hPQ
          rw [f_X2_placeRest_12, if_neg (by rw [zI_le (by omega) (by omega)]; omega), if_neg (by rw [zl_7, zI_le (by omega) (by omega)]; omega), if_pos (by rw [inB_z (by omega)]; omega), show w.1 131 (zI s).toNatClampNeg = zI (gtL Q s) by rw [zI_nat (by omega)]; exact hPQ s (by omega), smF, zl_1, zI_add]
          by_cases e1 : gtL Q s = t
          · rw [if_pos (by rw [e1]), if_pos e1, o_next hPQ hT (by omega) ht hQ h8 (by omega), bI_s]
            cases hx : nxL P n Q t s
            · rw [if_pos (by rfl), if_neg (by decide), Nat.zero_add]
              exact skip
            · rw [if_neg (by decide), if_pos (by rw [inB_z (by omega)]; omega), if_pos (show true = true from rfl)]
              simp only [zI_nat (show s < 2147483648 by omega)]
              have hPQ1 := hPQ.set hl (s := s) (by omega) a
              have hfr1 : Fr (fun a => a = 131) w (wset w 131 s (zI a)) := fr1 _ _
              have hQ1 : ∀ j, j < 7 → gtL (stL Q s a) j ≤ 7 := fun j hj => by
                rw [stL_get Q s a j (by omega)]
                split
                · omega
                · exact hQ j hj
              have hT1 := hT.fr hfr1 (by omega) (by omega)
              have back : ∀ w2, PQ w2 (stL Q s a) → PQ (wset w2 131 s (zI t)) Q := fun w2 h2 => by
                have := h2.set (by rw [stL_len]; exact hl) (s := s) (by omega) t
                have hb := stL_back Q s a
                rw [e1] at hb
                rwa [hb] at this
              have skip2 : ∃ w', f_X2_placeRest_12 (f_X2_placeRest k) (zI a) (zI t) f (zI acc) (zI (s + 1)) (wset (wset w 131 s (zI a)) 131 s (zI t)) = some (zI (acc + smF (fun s => if gtL Q s = t then (if nxL P n Q t s then (if (if s = 0 then false else spC (stL Q s a) t (s - 1)) then 0 else if spC (stL Q s a) t s then 0 else odL P n t k (a + 1) (stL Q s a)) else 0) else 0) d (s + 1)), w') ∧ Fr (fun a => a = 131) w w' ∧ PQ w' Q := by
                obtain ⟨w', z1, z2, z3⟩ := ihd f (s + 1) acc (wset (wset w 131 s (zI a)) 131 s (zI t)) (by omega) (by omega) (hT1.fr (fr1 _ _) (by omega) (by omega)) (back _ hPQ1)
                exact ⟨w', z1, (hfr1.tr (fr1 _ _)).tr z2, z3⟩
              have c1 : f_X2_spanCrosses (zI s - zI 1) (zI t) (wset w 131 s (zI a)) = some (zI (if s = 0 then false else spC (stL Q s a) t (s - 1)).toNat, wset w 131 s (zI a)) := by
                by_cases z : s = 0
                · subst z
                  rw [z0_sub1, o_crossM ht hPQ1 hQ1, if_pos (by rfl)]
                  rfl
                · rw [zI_sub (by omega), o_cross hPQ1 ht hQ1 (by omega), if_neg z]
              cases hy : (if s = 0 then false else spC (stL Q s a) t (s - 1))
              · cases hz : spC (stL Q s a) t s
                · rw [if_neg (show ¬ (false = true) by decide), if_neg (show ¬ (false = true) by decide)]
                  obtain ⟨w2, b1, b2, b3⟩ := ih (a + 1) (stL Q s a) (wset w 131 s (zI a)) (by omega) (by omega) (by rw [stL_len]; exact hl) hQ1 hT1 hPQ1
                  have hT2 := hT1.fr b2 (by omega) (by omega)
                  obtain ⟨w3, z1, z2, z3⟩ := ihd f (s + 1) (acc + odL P n t k (a + 1) (stL Q s a)) (wset w2 131 s (zI t)) (by omega) (by omega) (hT2.fr (fr1 _ _) (by omega) (by omega)) (back _ b3)
                  refine ⟨w3, ?_, (hfr1.tr b2).tr ((fr1 _ _).tr z2), z3⟩
                  have gg : f_X2_goOnAbove (f_X2_placeRest k) (zI s) (zI a) (zI t) (wset w 131 s (zI a)) = some (zI (odL P n t k (a + 1) (stL Q s a)), w2) := by
                    unfold f_X2_goOnAbove
                    rw [zl_1, c1, hy, bI_s, if_pos (show zI (false.toNat) = 0 from rfl), o_cross hPQ1 ht hQ1 (by omega), hz, bI_s, if_pos (show zI (false.toNat) = 0 from rfl), zI_add, b1, bI_s]
                  rw [gg, bI_s, if_pos (by rw [inB_z (by omega)]; omega), zI_add, ← Nat.add_assoc]
                  exact z1
                · have gg : f_X2_goOnAbove (f_X2_placeRest k) (zI s) (zI a) (zI t) (wset w 131 s (zI a)) = some (0, wset w 131 s (zI a)) := by
                    unfold f_X2_goOnAbove
                    rw [zl_1, c1, hy, bI_s, if_pos (show zI (false.toNat) = 0 from rfl), o_cross hPQ1 ht hQ1 (by omega), hz, bI_s, if_neg (show ¬ zI (true.toNat) = 0 by decide)]
                  rw [gg, bI_s, if_pos (by rw [inB_z (by omega)]; omega), if_neg (show ¬ (false = true) by decide), if_pos (show true = true from rfl), zl_0, zI_add, Nat.add_zero, Nat.zero_add]
                  exact skip2
              · have gg : f_X2_goOnAbove (f_X2_placeRest k) (zI s) (zI a) (zI t) (wset w 131 s (zI a)) = some (0, wset w 131 s (zI a)) := by
                  unfold f_X2_goOnAbove
                  rw [zl_1, c1, hy, bI_s, if_neg (show ¬ zI (true.toNat) = 0 by decide)]
                rw [gg, bI_s, if_pos (by rw [inB_z (by omega)]; omega), if_pos (show true = true from rfl), zl_0, zI_add, Nat.add_zero, Nat.zero_add]
                exact skip2
          · rw [if_neg (by rw [zI_inj (by omega) (by omega)]; exact e1), if_neg e1, Nat.zero_add]
            exact skip
      obtain ⟨w', z1, z2⟩ := loop t 1000 0 0 w (by omega) (by omega) hT hPQ
      rw [Nat.zero_add] at z1
      exact ⟨w', z1, z2⟩
theorem f_byOrders {w : XW} {n t : Nat} {P : List Nat} (ht : t ≤ 7) (hn : n ≤ t) (hP : P ∈ piles n) (h0 : w.1 5 0 = zI n) (h : ∀ s, s < n → w.1 6 s = zI (ixL P s)) :
    ∃ w', f_X2_countByOrders 5 (zI t) w = some (zI (wyL t 9 P n), w') ∧ Fr (fun a => 129 ≤ a ∧ a ≤ 131) w w' := by
  obtain ⟨w1, e1, e2, e3⟩ := f_copyTrial h0 h (by omega)
  have loop : ∀ (d fuel i : Nat) (w : XW), i + d = 7 → d < fuel → TP w n P → (∀ c, c < i → w.1 131 c = zI t) → ∃ w', f_X2_countByOrders_18 5 (zI t) fuel (zI i) w = some (zI (wyL t 9 P n), w') ∧ Fr (fun a => a = 131) w w' := by
    intro d
    induction d with
    | zero =>
      intro fuel i w hi hf hT hc
      obtain ⟨f, rfl⟩ : ∃ f, fuel = f + 1 := ⟨fuel - 1, by omega⟩
      have hg : ∀ s, s < 7 → gtL [t, t, t, t, t, t, t] s = t := fun s hs => by
        match s, hs with
        | 0, _ => rfl
        | 1, _ => rfl
        | 2, _ => rfl
        | 3, _ => rfl
        | 4, _ => rfl
        | 5, _ => rfl
        | 6, _ => rfl
      obtain ⟨w', z1, z2, z3⟩ := o_placeRest ht hn hP 9 0 [t, t, t, t, t, t, t] w (by omega) (by omega) rfl (fun s hs => by rw [hg s hs]; exact ht) hT (fun s hs => by rw [hg s hs]; exact hc s (by omega))
      rw [counts_eq ht hn hP] at z1
      refine ⟨w', ?_, z2⟩
      rw [f_X2_countByOrders_18, if_pos (by rw [zl_7, zI_le (by omega) (by omega)]; omega), zl_0, z1, bI_s]
    | succ d ih =>
      intro fuel i w hi hf hT hc
      obtain ⟨f, rfl⟩ : ∃ f, fuel = f + 1 := ⟨fuel - 1, by omega⟩
      have hfr : Fr (fun a => a = 131) w (wset w 131 i (zI t)) := fr1 _ _
      obtain ⟨w', z1, z2⟩ := ih f (i + 1) (wset w 131 i (zI t)) (by omega) (by omega) (hT.fr hfr (by omega) (by omega)) (fun c hc2 => by
        rw [wset_at]
        by_cases z : c = i
        · rw [if_pos ⟨rfl, z⟩]
        · rw [if_neg (fun q => z q.2)]; exact hc c (by omega))
      refine ⟨w', ?_, hfr.tr z2⟩
      rw [f_X2_countByOrders_18, if_neg (by rw [zl_7, zI_le (by omega) (by omega)]; omega), if_pos (by rw [inB_z (by omega)]; omega), zI_nat (by omega), zl_1, zI_add]
      exact z1
  obtain ⟨w2, d1, d2⟩ := loop 7 1000 0 w1 (by omega) (by omega) e3 (fun c hc => by omega)
  refine ⟨w2, ?_, (e2.wk (fun a z => by omega)).tr (d2.wk (fun a z => by omega))⟩
  unfold f_X2_countByOrders
  rw [e1, bV_s, if_neg (by rw [zl_7, zI_lt (by omega) (by omega)]; omega)]
  exact d1
