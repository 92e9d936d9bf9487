/-! folding, unfolding, pipes -/
theorem Cls.pile {w w' : XW} {F G : Nat → Nat} (c : Cls w.1 1 F) (hf : Fr (fun a => a = 5 ∨ a = 6) w w') (e : ∀ j, j < 66 → j ≠ 1 → ¬ (19 ≤ j ∧ j < 26) → G j = F j) (hp : F 2 ≤ 10) (h1 : w'.1 5 0 = zI (G 1)) (h2 : ∀ s, s < G 1 → w'.1 6 s = zI (ixL (plF G) s)) : Cls w'.1 1 G := by
  obtain ⟨q1, q2, q3, q4, q5, q6, q7, q8, q9, q10⟩ := c
  have g : ∀ a, a ≠ 5 → a ≠ 6 → ∀ c, w'.1 a c = w.1 a c := fun a x y c => hf.at (by omega) c
  refine ⟨?_, ?_, ?_, fun i hi => ?_, fun i hi => ?_, h1, h2, ?_, fun p hp2 => ?_, fun p hp2 => ?_⟩
  · rw [e 0 (by omega) (by omega) (by omega), g _ (by omega) (by omega)]; exact q1
  · rw [e 3 (by omega) (by omega) (by omega), g _ (by omega) (by omega)]; exact q2
  · rw [e 4 (by omega) (by omega) (by omega), g _ (by omega) (by omega)]; exact q3
  · rw [e _ (by omega) (by omega) (by omega), g _ (by omega) (by omega)]; exact q4 i hi
  · rw [e _ (by omega) (by omega) (by omega), g _ (by omega) (by omega)]; exact q5 i hi
  · rw [e 2 (by omega) (by omega) (by omega), g _ (by omega) (by omega)]; exact q8
  · rw [e 2 (by omega) (by omega) (by omega)] at hp2
    rw [e (26 + 4 * p) (by omega) (by omega) (by omega), e (27 + 4 * p) (by omega) (by omega) (by omega), e (28 + 4 * p) (by omega) (by omega) (by omega), e (29 + 4 * p) (by omega) (by omega) (by omega), g _ (by omega) (by omega), g _ (by omega) (by omega), g _ (by omega) (by omega), g _ (by omega) (by omega)]
    exact q9 p hp2
  · rw [g _ (by omega) (by omega)]; exact q10 p hp2
theorem Inv.pile {F G : Nat → Nat} (hI : Inv F) (e : ∀ j, j < 66 → j ≠ 1 → ¬ (19 ≤ j ∧ j < 26) → G j = F j) (h1 : G 1 ≤ F 0) (h2 : plF G ∈ piles (G 1)) (h3 : ∀ j, j < 7 → G 1 ≤ j → G (19 + j) = 0) : Inv G := by
  obtain ⟨a1, a2, a3, a4, a5, a6, a7, a8⟩ := hI
  have e0 := e 0 (by omega) (by omega) (by omega)
  have e2 := e 2 (by omega) (by omega) (by omega)
  refine ⟨by omega, by omega, by omega, ?_, fun i hi => ?_, h2, h3, fun p hp => ?_⟩
  · rw [e 3 (by omega) (by omega) (by omega), e 4 (by omega) (by omega) (by omega), a4, sm_congr (fun k hk => e (5 + k) (by omega) (by omega) (by omega))]
  · rw [e (5 + i) (by omega) (by omega) (by omega), e (12 + i) (by omega) (by omega) (by omega), e0]; exact a5 i hi
  · rw [e2] at hp
    rw [e (26 + 4 * p) (by omega) (by omega) (by omega), e (27 + 4 * p) (by omega) (by omega) (by omega), e (28 + 4 * p) (by omega) (by omega) (by omega), e (29 + 4 * p) (by omega) (by omega) (by omega), e0]
    exact a8 p hp
theorem inv_ix {F : Nat → Nat} (hI : Inv F) : ∀ s, s < F 1 → ixL (plF F) s < 8 := fun s hs => by
  have a1 := hI.1
  have a2 := hI.2.1
  have := ((piles_ok (by omega) hI.2.2.2.2.2.1).2.1 s hs).1
  omega
theorem put_far {F : Nat → Nat} {l : Nat} (hl : l ≤ F 1) (hn : F 1 < 7) : ∀ j, j < 66 → j ≠ 1 → ¬ (19 ≤ j ∧ j < 26) → putF F l j = F j := fun j h1 h2 h3 => by
  unfold putF
  rw [if_neg h2, if_neg (by omega), if_neg (by omega)]
theorem tak_far {F : Nat → Nat} {l : Nat} (h0 : 1 ≤ F 1) (hn : F 1 ≤ 7) : ∀ j, j < 66 → j ≠ 1 → ¬ (19 ≤ j ∧ j < 26) → takF F l j = F j := fun j h1 h2 h3 => by
  unfold takF
  rw [if_neg h2, if_neg (by omega), if_neg (by omega)]
theorem op_fold (a b c : Int32) : OpR 4 a b c (f_X11_folds a) := by
  intro F hI
  have hI0 := hI
  obtain ⟨a1, a2, a3, a4, a5, a6, a7, a8⟩ := hI
  have h8 := inv_ix hI0
  have bad : (∀ l, l ≤ F 1 → a = zI l → False) → (∀ w : XW, Cls w.1 1 F → f_X8_judgeFold 1 a w = some (-(zI 1), w)) → (∀ w : XW, f_X11_in a 0 (zI (F 1)) w = some (zI 0, w)) → ∃ e, OpE 4 a b c (f_X11_folds a) F e := fun h3 h1 h2 => by
    refine ⟨1, Or.inl rfl, ⟨by decide, fun _ => h3⟩, fun w hC => by rw [jd_4]; exact h1 w hC, fun w hM => ?_⟩
    unfold f_X11_folds
    rw [show Int32.toNatClampNeg 1 = 1 from rfl, hM.at (by omega), h2, bI_s, if_pos (by rfl), zl_1]
  rcases zI_cases a with ha | ⟨l, hl, rfl⟩
  · refine Or.inl (bad (fun l hl e => (zI_neg ha (show l < 2147483648 by omega)).2.2.1 e) (fun w hC => ?_) (fun w => by rw [zl_0]; exact m_inN ha (by omega)))
    unfold f_X8_judgeFold
    rw [if_pos ha, zl_1]
  · by_cases hlf : l ≤ F 1
    · by_cases hall : F 1 = F 0
      · refine Or.inr (Or.inl ⟨2, F 0, by omega, by omega, by omega, ⟨by decide, fun _ => ⟨by rw [if_pos hall], fun _ _ _ => Or.inl hall⟩, fun e => absurd e (by decide), fun e => absurd e (by decide)⟩, fun w hC => ?_, fun w hM => ⟨w, ?_, Fr.rf⟩⟩)
        · have q1 : w.1 (1 + 1) 0 = zI (F 0) := hC.1
          have q6 : w.1 (1 + 4) 0 = zI (F 1) := hC.2.2.2.2.2.1
          rw [jd_4]
          unfold f_X8_judgeFold
          rw [if_neg (by rw [zl_0, zI_lt (by omega) (by omega)]; omega), q6, if_pos (by rw [zI_le (by omega) (by omega)]; omega), q1, if_neg (by rw [zI_lt (by omega) (by omega)]; omega), zl_2, den_c, bI_s]
        · unfold f_X11_folds
          rw [show Int32.toNatClampNeg 1 = 1 from rfl, show Int32.toNatClampNeg 0 = 0 from rfl, hM.at (by omega), zl_0, m_inT (by omega) (by omega) (by omega), bI_s, if_neg (by decide), hM.at (by omega), hM.at (by omega), if_pos (by rw [hall]), zl_2, den_m, bI_s]
      · have hcz := crZ_none (o := crA (ixL (plF F)) (F 1) l) (fun x hx => by have := crA_lt hx; omega)
        have judge : ∀ w : XW, Cls w.1 1 F → f_X8_judge 1 4 (zI l) b c w = (if crZ (crA (ixL (plF F)) (F 1) l) = zM then some (zI 0, w) else bI (f_X8_denied 4 (crZ (crA (ixL (plF F)) (F 1) l)) w) (fun r2 w2 => some (r2, w2))) := fun w hC => by
          have q1 : w.1 (1 + 1) 0 = zI (F 0) := hC.1
          have q6 : w.1 (1 + 4) 0 = zI (F 1) := hC.2.2.2.2.2.1
          rw [jd_4]
          unfold f_X8_judgeFold
          rw [if_neg (by rw [zl_0, zI_lt (by omega) (by omega)]; omega), q6, if_pos (by rw [zI_le (by omega) (by omega)]; omega), q1, if_pos (by rw [zI_lt (by omega) (by omega)]; omega), p_crease (k := 1 + 4) q6 (by omega) hC.2.2.2.2.2.2.1 h8 (by omega), bI_s, zl_0, zl_1, zm1]
        have ref : ∀ w : XW, Mo w.1 142 0 F → ∃ w1, Fr (fun a => a = 149) w w1 ∧ f_X11_folds (zI l) w = (if crZ (crA (ixL (plF F)) (F 1) l) = zM then (bV (f_X11_puts (zI l) w1) (fun w3 => (bI (f_X11_done (w3.1 142 1) w3) (fun r4 w4 => (some (r4, w4)))))) else bI (f_X11_denied 4 (crZ (crA (ixL (plF F)) (F 1) l)) w1) (fun r5 w5 => (some (r5, w5)))) := fun w hM => by
          obtain ⟨w1, e1, e2⟩ := m_crossed (l := l) (show F 1 < 7 by omega) a6 rfl (fun j hj => (plF_get hj).symm) hlf hM
          refine ⟨w1, e2, ?_⟩
          unfold f_X11_folds
          rw [show Int32.toNatClampNeg 1 = 1 from rfl, show Int32.toNatClampNeg 0 = 0 from rfl, hM.at (by omega), zl_0, m_inT (by omega) (by omega) (by omega), bI_s, if_neg (by decide), hM.at (by omega), hM.at (by omega), if_neg (by rw [zI_inj (by omega) (by omega)]; exact hall), e1, bI_s, zl_1, zm1]
        cases hx : crA (ixL (plF F)) (F 1) l with
        | some x =>
          have hxl := crA_lt hx
          rw [hx] at judge ref
          refine Or.inr (Or.inl ⟨4, x, by omega, by omega, by omega, ⟨by decide, fun _ => ⟨by rw [if_neg hall], fun l2 h2 e => Or.inr (by rw [zI_inj (by omega) (by omega)] at e; rw [← e, hx]; exact fun h => by cases h)⟩, fun e => absurd e (by decide), fun e => absurd e (by decide)⟩, fun w hC => ?_, fun w hM => ?_⟩)
          · rw [judge w hC, if_neg (by show ¬ (zI x = zM); rw [zI_zM (by omega)]; exact id), zl_4]
            exact congrArg (bI · _) (den_c 4 x w)
          · obtain ⟨w1, e1, e2⟩ := ref w hM
            refine ⟨w1, ?_, e1⟩
            rw [e2, if_neg (by show ¬ (zI x = zM); rw [zI_zM (by omega)]; exact id), zl_4]
            exact congrArg (bI · _) (den_m 4 x w1)
        | none =>
          rw [hx] at judge ref
          have hn7 : F 1 < 7 := by omega
          have hG1 : putF F l 1 = F 1 + 1 := by unfold putF; rw [if_pos rfl]
          have hpl : plF (putF F l) = insL (plF F) l (F 1) := plF_ext (by rw [hG1]; exact (piles_ok (by omega) (piles_ins a6 hlf hx)).1) (fun j hj => by rw [hG1] at hj; exact put_pile hn7 a6 rfl (fun j hj => (plF_get hj).symm) hlf j hj)
          obtain ⟨i1, i2, _, _⟩ := piles_insI hn7 a6 hlf
          have hG : Inv (putF F l) := hI0.pile (put_far hlf hn7) (by rw [hG1]; omega) (by rw [hpl, hG1]; exact piles_ins a6 hlf hx) (fun j hj hj2 => by
            rw [hG1] at hj2
            unfold putF
            rw [if_neg (by omega), if_neg (by omega), if_neg (by omega)]
            exact a7 j hj (by omega))
          refine Or.inr (Or.inr ⟨F 1 + 1, putF F l, hG, by rw [put_far hlf hn7 3 (by omega) (by omega) (by omega)]; omega, by omega, ⟨fun _ _ => put_far hlf hn7 4 (by omega) (by omega) (by omega), fun e => absurd e (by decide), fun _ => ⟨l, rfl, hlf, by omega, rfl, rfl, hx⟩, fun e => absurd e (by decide), fun e => absurd e (by decide), fun e => absurd e (by decide), fun e => absurd e (by decide), fun e => absurd e (by decide)⟩, fun w hC => ?_, fun w hC => ?_, fun w hM => ?_⟩)
          · rw [judge w hC]; exact if_pos rfl
          · obtain ⟨w', e1, e2, e3, e4, e5⟩ := p_insert (k := 5) (l := l) hC.2.2.2.2.2.1 hn7 hC.2.2.2.2.2.2.1 h8 (by omega)
            refine ⟨w', by rw [ap_4]; exact e1, hC.pile e2 (put_far hlf hn7) a3 (by rw [hG1]; exact e3) (fun s hs => ?_), e2.wk (fun a z => Or.inl (by omega))⟩
            rw [hG1] at hs
            rw [hpl]
            by_cases z : s = F 1
            · rw [z, i2]; exact e5
            · rw [i1 s (by omega)]; exact e4 s (by omega)
          · obtain ⟨w1, e1, e2⟩ := ref w hM
            obtain ⟨w2, d1, d2, d3⟩ := m_puts (l := l) hn7 hlf (hM.fr e1 (by omega))
            refine ⟨w2, ?_, d3, (e1.wk (fun a z => Or.inr z)).tr (d2.wk (fun a z => Or.inl z))⟩
            rw [e2]
            refine (if_pos rfl).trans ?_
            rw [d1, bV_s, d3.at (by omega), hG1, don_m, bI_s]
    · refine Or.inl (bad (fun l2 hl2 e => by rw [zI_inj (by omega) (by omega)] at e; omega) (fun w hC => ?_) (fun w => by rw [zl_0]; exact m_inF (by omega) (by omega) (by omega) (by omega)))
      have q6 : w.1 (1 + 4) 0 = zI (F 1) := hC.2.2.2.2.2.1
      unfold f_X8_judgeFold
      rw [if_neg (by rw [zl_0, zI_lt (by omega) (by omega)]; omega), q6, if_neg (by rw [zI_le (by omega) (by omega)]; omega), zl_1]
theorem op_open (a b c : Int32) : OpR 5 a b c f_X11_opens := by
  intro F hI
  have hI0 := hI
  obtain ⟨a1, a2, a3, a4, a5, a6, a7, a8⟩ := hI
  have h8 := inv_ix hI0
  by_cases h0 : F 1 = 0
  · refine Or.inr (Or.inl ⟨3, F 0, by omega, by omega, by omega, KD.pl (by decide), fun w hC => ?_, fun w hM => ⟨w, ?_, Fr.rf⟩⟩)
    · have q1 : w.1 2 0 = zI (F 0) := hC.1
      have q6 : w.1 5 0 = zI (F 1) := hC.2.2.2.2.2.1
      rw [jd_5, q6, q1, if_pos (by rw [zl_0, zI_le (by omega) (by omega)]; omega), zl_3, den_c, bI_s]
    · unfold f_X11_opens
      rw [show Int32.toNatClampNeg 1 = 1 from rfl, show Int32.toNatClampNeg 0 = 0 from rfl, hM.at (by omega), hM.at (by omega), if_pos (by rw [h0]; rfl), zl_3, den_m, bI_s]
  · obtain ⟨m, hm⟩ : ∃ m, F 1 = m + 1 := ⟨F 1 - 1, by omega⟩
    have hm7 : m < 7 := by omega
    have a6' : plF F ∈ piles (m + 1) := hm ▸ a6
    obtain ⟨r1, r2, r3, r4⟩ := piles_rm hm7 a6'
    obtain ⟨_, s1, s2⟩ := piles_ok (show m + 1 ≤ 7 by omega) a6'
    have hsm := s1 m (by omega)
    have hG1 : takF F (ixL (plF F) m) 1 = m := by unfold takF; rw [if_pos rfl, hm, Nat.add_sub_cancel]
    have hget : ∀ j, j < m → takF F (ixL (plF F) m) (19 + j) = gtL (rvL (plF F) m) j := fun j hj => by
      rw [r4 j hj]
      unfold takF
      rw [if_neg (by omega), hm, Nat.add_sub_cancel, if_neg (by omega)]
      by_cases z : j < ixL (plF F) m
      · rw [if_neg (by omega), if_pos z, plF_get (by omega)]
      · rw [if_pos (by omega), if_neg z, plF_get (by omega)]
        congr 1
    have hpl : plF (takF F (ixL (plF F) m)) = rvL (plF F) m := plF_ext (by rw [hG1]; exact (piles_ok (by omega) r1).1) (fun j hj => by rw [hG1] at hj; exact hget j hj)
    have hG : Inv (takF F (ixL (plF F) m)) := hI0.pile (tak_far (by omega) (by omega)) (by rw [hG1]; omega) (by rw [hpl, hG1]; exact r1) (fun j hj hj2 => by
      rw [hG1] at hj2
      unfold takF
      rw [if_neg (by omega), hm, Nat.add_sub_cancel]
      by_cases z : j = m
      · rw [if_pos (by omega)]
      · rw [if_neg (by omega), if_neg (by omega)]; exact a7 j hj (by omega))
    refine Or.inr (Or.inr ⟨ixL (plF F) m, takF F (ixL (plF F) m), hG, by rw [tak_far (by omega) (by omega) 3 (by omega) (by omega) (by omega)]; omega, by omega, ⟨fun _ _ => tak_far (by omega) (by omega) 4 (by omega) (by omega) (by omega), fun e => absurd e (by decide), fun e => absurd e (by decide), fun _ => ⟨by omega, by rw [show F 1 - 1 = m by omega], rfl⟩, fun e => absurd e (by decide), fun e => absurd e (by decide), fun e => absurd e (by decide), fun e => absurd e (by decide)⟩, fun w hC => ?_, fun w hC => ?_, fun w hM => ?_⟩)
    · have q6 : w.1 5 0 = zI (F 1) := hC.2.2.2.2.2.1
      rw [jd_5, q6, if_neg (by rw [zl_0, zI_le (by omega) (by omega)]; omega), zl_0]
    · obtain ⟨w', e1, e2, e3, e4⟩ := p_remove (k := 5) (n := m) (L := ixL (plF F)) (l := ixL (plF F) m) (hm ▸ hC.2.2.2.2.2.1) hm7 (fun s hs => hC.2.2.2.2.2.2.1 s (by omega)) (fun s hs => h8 s (by omega)) (by omega) (hC.2.2.2.2.2.2.1 m (by omega))
      refine ⟨w', by rw [ap_5]; exact e1, hC.pile e2 (tak_far (by omega) (by omega)) a3 (by rw [hG1]; exact e3) (fun s hs => ?_), e2.wk (fun a z => Or.inl (by omega))⟩
      rw [hG1] at hs
      rw [hpl, r3 s hs]
      exact e4 s hs
    · obtain ⟨w', e1, e2, e3⟩ := m_takes hm7 hm a6' (fun j hj => (plF_get (by omega)).symm) hM
      refine ⟨w', ?_, e3, e2.wk (fun a z => Or.inl z)⟩
      unfold f_X11_opens
      rw [show Int32.toNatClampNeg 1 = 1 from rfl, hM.at (by omega), if_neg (by rw [zl_0, zI_inj (by omega) (by omega)]; exact h0), e1, bI_s, don_m, bI_s]
