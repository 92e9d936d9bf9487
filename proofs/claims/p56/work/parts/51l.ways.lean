/-! folding and unfolding in the reference's frame; its count of the foldings to come -/
def putF (F : Nat → Nat) (l : Nat) : Nat → Nat := fun a => if a = 1 then F 1 + 1 else if a = 19 + l then F 1 else if 19 + l < a ∧ a ≤ 19 + F 1 then F (a - 1) else F a
def takF (F : Nat → Nat) (l : Nat) : Nat → Nat := fun a => if a = 1 then F 1 - 1 else if a = 19 + (F 1 - 1) then 0 else if 19 + l ≤ a ∧ a < 19 + (F 1 - 1) then F (a + 1) else F a
theorem m_puts_loop {F : Nat → Nat} {n l : Nat} (hn : n < 7) (hF1 : F 1 = n) (hl : l ≤ n) :
    ∀ (d fuel k : Nat) (w : XW), l + d = k → k ≤ n → d < fuel → Mo w.1 142 0 (fun a => if 19 + k < a ∧ a ≤ 19 + n then F (a - 1) else F a) → ∃ w', f_X11_puts_9 (zI l) (zI n) fuel (zI k) w = some w' ∧ Fr (fun a => a = 142) w w' ∧ Mo w'.1 142 0 (putF F l) := by
  intro d
  induction d with
  | zero =>
    intro fuel k w hk hkn hf hM
    obtain ⟨f, rfl⟩ : ∃ f, fuel = f + 1 := ⟨fuel - 1, by omega⟩
    have e : k = l := by omega
    subst e
    refine ⟨wset (wset w 142 (19 + k) (zI n)) 142 1 (zI (n + 1)), ?_, (fr1 _ _).tr (fr1 _ _), ((hM.set (19 + k) n).set 1 (n + 1)).ext (fun j hj => ?_)⟩
    · rw [f_X11_puts_9, if_pos (by rw [zI_le (by omega) (by omega)]; omega), zl_19, zI_add, if_pos (by rw [inB_z (by omega)]; omega), zI_nat (by omega), zl_1, zI_add]
      rfl
    · unfold uF putF
      rw [hF1]
  | succ d ih =>
    intro fuel k w hk hkn hf hM
    obtain ⟨f, rfl⟩ : ∃ f, fuel = f + 1 := ⟨fuel - 1, by omega⟩
    have hv := hM.at (j := 19 + (k - 1)) (by omega)
    rw [if_neg (by omega)] at hv
    have hfr : Fr (fun a => a = 142) w (wset w 142 (19 + k) (zI (F (19 + (k - 1))))) := fr1 _ _
    obtain ⟨w', e1, e2, e3⟩ := ih f (k - 1) (wset w 142 (19 + k) (zI (F (19 + (k - 1))))) (by omega) (by omega) (by omega) ((hM.set (19 + k) (F (19 + (k - 1)))).ext (fun j hj => by
      unfold uF
      dsimp only
      by_cases e1 : j = 19 + k
      · rw [if_pos e1, if_pos (by omega), e1]
        congr 1
        omega
      · rw [if_neg e1]
        by_cases e2 : 19 + k < j ∧ j ≤ 19 + n
        · rw [if_pos e2, if_pos (by omega)]
        · rw [if_neg e2, if_neg (by omega)]))
    refine ⟨w', ?_, hfr.tr e2, e3⟩
    rw [f_X11_puts_9, if_neg (by rw [zI_le (by omega) (by omega)]; omega), zl_19, zl_1, zI_add, zI_sub (by omega), if_pos (by rw [inB_z (by omega)]; omega), if_pos (by rw [inB_z (by omega)]; omega), zI_nat (by omega), zI_nat (by omega), show 19 + k - 1 = 19 + (k - 1) by omega, hv, zm1, zI_addM (by omega)]
    exact e1
theorem m_puts {F : Nat → Nat} {w : XW} {l : Nat} (hn : F 1 < 7) (hl : l ≤ F 1) (hM : Mo w.1 142 0 F) : ∃ w', f_X11_puts (zI l) w = some w' ∧ Fr (fun a => a = 142) w w' ∧ Mo w'.1 142 0 (putF F l) := by
  obtain ⟨w', e⟩ := m_puts_loop (F := F) hn rfl hl (F 1 - l) 1000 (F 1) w (by omega) (by omega) (by omega) (hM.ext (fun j _ => by rw [if_neg (by omega)]))
  refine ⟨w', ?_, e.2⟩
  unfold f_X11_puts
  rw [show Int32.toNatClampNeg 1 = 1 from rfl, hM.at (by omega)]
  exact e.1
theorem m_shift_loop {F : Nat → Nat} {m t : Nat} (hm : m < 7) (hF1 : F 1 = m + 1) (ht : t ≤ m) :
    ∀ (d fuel k : Nat) (w : XW), k + d = m → t ≤ k → d < fuel → Mo w.1 142 0 (fun a => if 19 + t ≤ a ∧ a < 19 + k then F (a + 1) else F a) → ∃ w', f_X11_takes_32 (zI m) (zI t) fuel (zI k) w = some (zI t, w') ∧ Fr (fun a => a = 142) w w' ∧ Mo w'.1 142 0 (takF F t) := by
  intro d
  induction d with
  | zero =>
    intro fuel k w hk hkn hf hM
    obtain ⟨f, rfl⟩ : ∃ f, fuel = f + 1 := ⟨fuel - 1, by omega⟩
    have e : k = m := by omega
    subst e
    refine ⟨wset (wset w 142 (19 + k) (zI 0)) 142 1 (zI k), ?_, (fr1 _ _).tr (fr1 _ _), ((hM.set (19 + k) 0).set 1 k).ext (fun j hj => ?_)⟩
    · rw [f_X11_takes_32, if_pos (by rw [zI_le (by omega) (by omega)]; omega), zl_19, zI_add, if_pos (by rw [inB_z (by omega)]; omega), zI_nat (by omega)]
      rfl
    · unfold uF takF
      rw [hF1, Nat.add_sub_cancel]
  | succ d ih =>
    intro fuel k w hk hkn hf hM
    obtain ⟨f, rfl⟩ : ∃ f, fuel = f + 1 := ⟨fuel - 1, by omega⟩
    have hv := hM.at (j := 19 + k + 1) (by omega)
    rw [if_neg (by omega)] at hv
    have hfr : Fr (fun a => a = 142) w (wset w 142 (19 + k) (zI (F (19 + k + 1)))) := fr1 _ _
    obtain ⟨w', e1, e2, e3⟩ := ih f (k + 1) (wset w 142 (19 + k) (zI (F (19 + k + 1)))) (by omega) (by omega) (by omega) ((hM.set (19 + k) (F (19 + k + 1))).ext (fun j hj => by
      unfold uF
      dsimp only
      by_cases e1 : j = 19 + k
      · rw [if_pos e1, if_pos (by omega), e1]
      · rw [if_neg e1]
        by_cases e2 : 19 + t ≤ j ∧ j < 19 + k
        · rw [if_pos e2, if_pos (by omega)]
        · rw [if_neg e2, if_neg (by omega)]))
    refine ⟨w', ?_, hfr.tr e2, e3⟩
    rw [f_X11_takes_32, if_neg (by rw [zI_le (by omega) (by omega)]; omega), zl_19, zl_1, zI_add, zI_add, if_pos (by rw [inB_z (by omega)]; omega), if_pos (by rw [inB_z (by omega)]; omega), zI_nat (by omega), zI_nat (by omega), hv, zI_add]
    exact e1
theorem m_takes {F : Nat → Nat} {w : XW} {m : Nat} {P : List Nat} (hm : m < 7) (hF1 : F 1 = m + 1) (hP : P ∈ piles (m + 1)) (hF : ∀ j, j < m + 1 → F (19 + j) = gtL P j) (hM : Mo w.1 142 0 F) :
    ∃ w', f_X11_takes w = some (zI (ixL P m), w') ∧ Fr (fun a => a = 142) w w' ∧ Mo w'.1 142 0 (takF F (ixL P m)) := by
  obtain ⟨_, hs1, hl1⟩ := piles_ok (by omega) hP
  have ht := hs1 m (by omega)
  obtain ⟨w', e⟩ := m_shift_loop hm hF1 (show ixL P m ≤ m by omega) (m - ixL P m) 1000 (ixL P m) w (by omega) (by omega) (by omega) (hM.ext (fun j _ => by rw [if_neg (by omega)]))
  refine ⟨w', ?_, e.2⟩
  have loop : ∀ (d fuel i : Nat), i + d = ixL P m → d < fuel → f_X11_takes_11 (zI m) fuel (zI i) w = f_X11_takes_32 (zI m) (zI (ixL P m)) 1000 (zI (ixL P m)) w := by
    intro d
    induction d with
    | zero =>
      intro fuel i hi hf
      obtain ⟨f, rfl⟩ : ∃ f, fuel = f + 1 := ⟨fuel - 1, by omega⟩
      have e0 : i = ixL P m := by omega
      subst e0
      rw [f_X11_takes_11, zl_19, zI_add, if_pos (by rw [inB_z (by omega)]; omega), zI_nat (by omega), hM.at (by omega), hF _ ht.1, ht.2, if_pos rfl]
    | succ d ih =>
      intro fuel i hi hf
      obtain ⟨f, rfl⟩ : ∃ f, fuel = f + 1 := ⟨fuel - 1, by omega⟩
      have h3 := hl1 i (by omega)
      rw [f_X11_takes_11, zl_19, zI_add, if_pos (by rw [inB_z (by omega)]; omega), zI_nat (by omega), hM.at (by omega), hF _ (by omega), if_neg (by
        rw [zI_inj (by omega) (by omega)]
        intro z
        rw [z] at h3
        omega), zl_1, zI_add]
      exact ih f (i + 1) (by omega) (by omega)
  have h := (loop (ixL P m) 1000 0 (by omega) (by omega)).trans e.1
  unfold f_X11_takes
  rw [show Int32.toNatClampNeg 1 = 1 from rfl, hM.at (by omega), hF1, zl_1, zI_sub (by omega), Nat.add_sub_cancel]
  exact h
theorem crL_lt {G : Nat → Bool} {m : Nat} : ∀ (k c : Nat), ∀ x, crL G m k c = some x → x < m := by
  intro k
  induction k with
  | zero => intro c x h; cases h
  | succ k ih =>
    intro c x h
    rw [crL] at h
    split at h
    · cases h
    · split at h
      · cases h; omega
      · exact ih _ _ h
theorem crA_lt {L : Nat → Nat} {n l x : Nat} (h : crA L n l = some x) : x < n := by
  unfold crA at h
  split at h
  · cases h
  · have := crL_lt _ _ _ h
    omega
theorem crZ_none {o : Option Nat} (h : ∀ x, o = some x → x < 2147483648) : (crZ o = zM) = (o.isNone = true) := by
  cases o with
  | none => exact propext ⟨fun _ => rfl, fun _ => rfl⟩
  | some x =>
    show (zI x = zM) = _
    rw [zI_zM (h x rfl)]
    exact propext ⟨fun z => z.elim, fun z => by cases z⟩
theorem take_put {F : Nat → Nat} {l : Nat} (hl : l ≤ F 1) (hn : F 1 < 7) (h0 : ∀ j, j < 7 → F 1 ≤ j → F (19 + j) = 0) : ∀ j, j < 66 → takF (putF F l) l j = F j := by
  intro j hj
  have e1 : putF F l 1 = F 1 + 1 := by unfold putF; rw [if_pos rfl]
  unfold takF
  rw [e1, Nat.add_sub_cancel]
  by_cases a : j = 1
  · rw [if_pos a, a]
  · rw [if_neg a]
    by_cases b : j = 19 + F 1
    · rw [if_pos b, b]
      exact (h0 (F 1) (by omega) (Nat.le_refl _)).symm
    · rw [if_neg b]
      by_cases c : 19 + l ≤ j ∧ j < 19 + F 1
      · rw [if_pos c]
        unfold putF
        rw [if_neg (by omega), if_neg (by omega), if_pos (by omega), Nat.add_sub_cancel]
      · rw [if_neg c]
        unfold putF
        rw [if_neg a, if_neg (by omega), if_neg (by omega)]
theorem put_pile {F : Nat → Nat} {P : List Nat} {n l : Nat} (hn : n < 7) (hP : P ∈ piles n) (hF1 : F 1 = n) (hF : ∀ j, j < n → F (19 + j) = gtL P j) (hl : l ≤ n) : ∀ j, j < n + 1 → putF F l (19 + j) = gtL (insL P l n) j := by
  intro j hj
  obtain ⟨_, _, h3, _⟩ := piles_insI hn hP hl
  rw [h3 j (by omega)]
  unfold putF
  rw [if_neg (by omega), hF1]
  by_cases a : j < l
  · rw [if_neg (by omega), if_neg (by omega), if_pos a, hF j (by omega)]
  · rw [if_neg a]
    by_cases b : j = l
    · rw [if_pos (by omega), if_pos b]
    · rw [if_neg (by omega), if_pos (by omega), if_neg b, ← hF (j - 1) (by omega)]
      congr 1
      omega
/-- the reference's ways -/
theorem m_ways {t : Nat} (ht : t ≤ 7) : ∀ (k n : Nat) (F : Nat → Nat) (P : List Nat) (w : XW), n ≤ t → t < n + k → P ∈ piles n → F 0 = t → F 1 = n → (∀ j, j < n → F (19 + j) = gtL P j) → (∀ j, j < 7 → n ≤ j → F (19 + j) = 0) → Mo w.1 142 0 F →
    ∃ w', f_X11_ways k w = some (zI (wyL t k P n), w') ∧ Fr (fun a => a = 142 ∨ a = 149) w w' ∧ Mo w'.1 142 0 F := by
  intro k
  induction k with
  | zero => intro n F P w h1 h2; omega
  | succ k ih =>
    intro n F P w h1 h2 hP hF0 hF1 hF hz hM
    rw [f_X11_ways, wyL]
    unfold f_X11_waysO
    rw [show Int32.toNatClampNeg 1 = 1 from rfl, show Int32.toNatClampNeg 0 = 0 from rfl, hM.at (by omega), hM.at (by omega), hF0, hF1]
    by_cases e : n = t
    · rw [if_pos (by rw [e]), if_pos (by omega)]
      exact ⟨w, rfl, Fr.rf, hM⟩
    · rw [if_neg (by rw [zI_inj (by omega) (by omega)]; exact e), if_neg (by omega)]
      have loop : ∀ (d fuel l acc : Nat) (w : XW), l + d = n + 1 → d < fuel → Mo w.1 142 0 F → ∃ w', f_X11_ways_28 (f_X11_ways k) (zI n) fuel (zI acc) (zI l) w = some (zI (acc + smF (fun l => if (crA (ixL P) n l).isNone then wyL t k (insL P l n) (n + 1) else 0) d l), w') ∧ Fr (fun a => a = 142 ∨ a = 149) w w' ∧ Mo w'.1 142 0 F := by
        intro d
        induction d with
        | zero =>
          intro fuel l acc w hl hf hM
          obtain ⟨f, rfl⟩ : ∃ f, fuel = f + 1 := ⟨fuel - 1, by omega⟩
          refine ⟨w, ?_, Fr.rf, hM⟩
          rw [f_X11_ways_28, if_pos (by rw [zI_lt (by omega) (by omega)]; omega)]
          rfl
        | succ d ihd =>
          intro fuel l acc w hl hf hM
          obtain ⟨f, rfl⟩ : ∃ f, fuel = f + 1 := ⟨fuel - 1, by omega⟩
          obtain ⟨w1, a1, a2⟩ := m_crossed (l := l) (by omega) hP hF1 hF (by omega) hM
          have hM1 := hM.fr a2 (by omega)
          rw [f_X11_ways_28, if_neg (by rw [zI_lt (by omega) (by omega)]; omega), a1, bI_s, smF, zl_1, zm1]
          have hcz := crZ_none (o := crA (ixL P) n l) (fun x hx => by have := crA_lt hx; omega)
          by_cases e2 : (crA (ixL P) n l).isNone = true
          · have e3 : crA (ixL P) n l = none := by cases h : crA (ixL P) n l with | none => rfl | some x => rw [h] at e2; cases e2
            rw [if_pos (by rw [hcz]; exact e2), if_pos e2]
            obtain ⟨w2, b1, b2, b3⟩ := m_puts (l := l) (by omega) (by omega) hM1
            obtain ⟨w3, c1, c2, c3⟩ := ih (n + 1) (putF F l) (insL P l n) w2 (by omega) (by omega) (piles_ins hP (by omega) e3) (by show (if 0 = 1 then _ else _) = _; rw [if_neg (by omega), if_neg (by omega), if_neg (by omega)]; exact hF0) (by show (if 1 = 1 then F 1 + 1 else _) = _; rw [if_pos rfl, hF1]) (put_pile (by omega) hP hF1 hF (by omega)) (fun j hj hj2 => by
              unfold putF
              rw [if_neg (by omega), if_neg (by omega), if_neg (by omega)]
              exact hz j hj (by omega)) b3
            have hput1 : putF F l 1 = n + 1 := by unfold putF; rw [if_pos rfl, hF1]
            obtain ⟨w4, d1, d2, d3⟩ := m_takes (F := putF F l) (show n < 7 by omega) hput1 (piles_ins hP (by omega) e3) (put_pile (by omega) hP hF1 hF (by omega)) c3
            have hix : ixL (insL P l n) n = l := (piles_insI (by omega) hP (by omega)).2.1
            rw [hix] at d3
            have hM4 : Mo w4.1 142 0 F := d3.ext (take_put (by omega) (by omega) (fun j hj hj2 => hz j hj (by omega)))
            obtain ⟨w5, f1, f2, f3⟩ := ihd f (l + 1) (acc + wyL t k (insL P l n) (n + 1)) w4 (by omega) (by omega) hM4
            refine ⟨w5, ?_, (a2.wk (fun a z => Or.inr z)).tr ((b2.wk (fun a z => Or.inl z)).tr (c2.tr ((d2.wk (fun a z => Or.inl z)).tr f2))), f3⟩
            rw [b1, bV_s, c1, bI_s, d1, bI_s, zI_add, zI_add, ← Nat.add_assoc]
            exact f1
          · rw [if_neg (by rw [hcz]; exact e2), if_neg e2, Nat.zero_add, zI_add]
            obtain ⟨w5, f1, f2, f3⟩ := ihd f (l + 1) acc w1 (by omega) (by omega) hM1
            exact ⟨w5, f1, (a2.wk (fun a z => Or.inr z)).tr f2, f3⟩
      obtain ⟨w', z1, z2⟩ := loop (n + 1) 1000 0 0 w (by omega) (by omega) hM
      rw [Nat.zero_add] at z1
      exact ⟨w', z1, z2⟩
