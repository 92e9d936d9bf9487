/-! searches asked -/
theorem Rel.flt {B B' : Nat} {h h' : Nat → Nat → Int32} (q : Rel B h) (hB : B ≤ B') (e : ∀ a, a ≠ 0 → a ≠ 141 → ¬ (124 ≤ a ∧ a ≤ 131) → ¬ (136 ≤ a ∧ a ≤ 140) → ¬ (12 ≤ a ∧ a ≤ 22) → a ≠ 143 → a ≠ 147 → a ≠ 149 → h' a = h a) (e0 : ∀ c, 10 ≤ c → c ≠ 11 → h' 0 c = h 0 c) (e1 : ∀ c, c = 5 ∨ c = 6 ∨ c = 11 ∨ c = 12 ∨ c = 15 ∨ c = 16 ∨ c = 17 → h' 141 c = h 141 c) (ef : h' 0 11 = h' 141 13) : Rel B' h' := by
  obtain ⟨⟨F, q1, q1'⟩, q2, q3, q4, q5, q6, q7⟩ := q
  have g : ∀ a, a ≠ 0 → a ≠ 141 → ¬ (124 ≤ a ∧ a ≤ 131) → ¬ (136 ≤ a ∧ a ≤ 140) → ¬ (12 ≤ a ∧ a ≤ 22) → a ≠ 143 → a ≠ 147 → a ≠ 149 → h' a = h a := e
  refine ⟨⟨F, by omega, q1'.cg (fun a h1 h2 => g a (by omega) (by omega) (by omega) (by omega) (by omega) (by omega) (by omega) (by omega)) (g _ (by omega) (by omega) (by omega) (by omega) (by omega) (by omega) (by omega) (by omega))⟩, q2.cg hB (fun a h1 h2 => g a (by omega) (by omega) (by omega) (by omega) (by omega) (by omega) (by omega) (by omega)) (g _ (by omega) (by omega) (by omega) (by omega) (by omega) (by omega) (by omega) (by omega)) (e0 _ (by omega) (by omega)) (e1 _ (by omega)), q3.cg hB (fun a h1 h2 => g a (by omega) (by omega) (by omega) (by omega) (by omega) (by omega) (by omega) (by omega)) (g _ (by omega) (by omega) (by omega) (by omega) (by omega) (by omega) (by omega) (by omega)) (g _ (by omega) (by omega) (by omega) (by omega) (by omega) (by omega) (by omega) (by omega)) (e1 _ (by omega)), q4.cg ?_ ?_ ?_ (e1 _ (by omega)), q5.cg ?_ ?_ ?_ (e1 _ (by omega)), ef, q7.cg (fun c h1 h2 => e0 c (by omega) (by omega)) (fun c h1 h2 => e1 c (by omega))⟩
  · rw [g 132 (by omega) (by omega) (by omega) (by omega) (by omega) (by omega) (by omega) (by omega)]
  · exact g 133 (by omega) (by omega) (by omega) (by omega) (by omega) (by omega) (by omega) (by omega)
  · exact g 146 (by omega) (by omega) (by omega) (by omega) (by omega) (by omega) (by omega) (by omega)
  · rw [g 134 (by omega) (by omega) (by omega) (by omega) (by omega) (by omega) (by omega) (by omega)]
  · exact g 135 (by omega) (by omega) (by omega) (by omega) (by omega) (by omega) (by omega) (by omega)
  · exact g 148 (by omega) (by omega) (by omega) (by omega) (by omega) (by omega) (by omega) (by omega)
theorem txt_of {h : Nat → Nat → Int32} (q : RTx h) : ∃ (t : Nat) (ch : Nat → Nat), t ≤ 60 ∧ h 132 1 = zI t ∧ h 141 11 = zI t ∧ (∀ i, i < t → h 133 i = zI (ch i)) ∧ (∀ i, i < t → h 146 i = zI (ch i)) ∧ (∀ i, ch i < 65536) ∧ ∀ i, t ≤ i → ch i = 0 := by
  obtain ⟨t, t1, t2, t3, t4⟩ := q
  refine ⟨t, fun i => if i < t then chN (h 133 i) else 0, t1, t2, t3, fun i hi => ?_, fun i hi => ?_, fun i => ?_, fun i hi => ?_⟩
  · obtain ⟨c, c1, c2, c3⟩ := t4 i hi
    show h 133 i = zI (if i < t then chN (h 133 i) else 0)
    rw [if_pos hi, c2, chN_zI c1]
  · obtain ⟨c, c1, c2, c3⟩ := t4 i hi
    show h 146 i = zI (if i < t then chN (h 133 i) else 0)
    rw [if_pos hi, c2, c3, chN_zI c1]
  · show (if i < t then chN (h 133 i) else 0) < 65536
    by_cases z : i < t
    · rw [if_pos z]; exact chN_lt _
    · rw [if_neg z]; omega
  · show (if i < t then chN (h 133 i) else 0) = 0
    rw [if_neg (by omega)]
theorem c_read {w1 : XW} {t : Nat} {ch : Nat → Nat} {n : Nat} {σ : Nat → Nat} {S : Nat → Nat → Bool} (T : CT w1 t ch) (Bk : CB w1 n σ S) : ∃ x w', f_X7_read w1 = some (x, w') ∧ w'.2 = w1.2 ∧ (∀ a c, ¬ (a = 136 ∧ (c = 2 ∨ c = 3)) → w'.1 a c = w1.1 a c) ∧ (PG ch S 400 4 0 nV 0).2.2 ≤ t ∧ (((PG ch S 400 4 0 nV 0).1 = false ∧ (PG ch S 400 4 0 nV 0).2.2 = t ∧ w'.1 136 3 = zM ∧ ∃ m, x = zI m ∧ MK n m (fun k => (PG ch S 400 4 0 nV 0).2.1 (σ k))) ∨ (((PG ch S 400 4 0 nV 0).1 = true ∨ (PG ch S 400 4 0 nV 0).2.2 ≠ t) ∧ w'.1 136 3 = zI (PG ch S 400 4 0 nV 0).2.2)) := by
  obtain ⟨t1, t2, t3, t4, t5⟩ := id T
  have hb := (PGb (S := S) t5 400 4 0 nV 0 (by omega) (by omega)).2.1
  have J : JC w1 (zI 0) zM (wset (wset w1 136 2 0) 136 3 (-1)) := ⟨rfl, fun a c h => by rw [wset_at, if_neg (by omega), wset_at, if_neg (by omega)], by rw [wset_at, if_neg (by omega), wset_hit, zl_0], by rw [wset_hit, zl_1, zm1]⟩
  obtain ⟨x, w', e, g1, g2⟩ := (c_parse T Bk 400).2.2.2.2 0 0 5 _ rfl (by omega) (by omega) (by omega) J
  obtain ⟨r, hr⟩ : ∃ r, r = PG ch S 400 4 0 nV 0 := ⟨_, rfl⟩
  rw [← hr] at g1 g2 hb ⊢
  have hf : f_X7_read w1 = bI (f_X7_readSumO (f_X7_readSum 5) (zI 0) (wset (wset w1 136 2 0) 136 3 (-1))) (fun r1 w1 => (if (w1.1 136 3) = (-1) then (if (w1.1 132 1) ≤ (w1.1 136 2) then (some (r1, w1)) else (some (r1, (wset w1 136 3 (w1.1 136 2))))) else (some (r1, w1)))) := (rfl)
  rw [e, bI_s] at hf
  by_cases z : r.1 = true
  · obtain ⟨q, J2⟩ := g1 z
    rw [J2.2.2.2, if_neg (show ¬ (zI r.2.2 = -1) by rw [zl_1, zm1, zI_zM (by omega)]; exact id)] at hf
    exact ⟨x, w', hf, J2.1, J2.2.1, hb, Or.inr ⟨Or.inl z, J2.2.2.2⟩⟩
  · have z := Bool.eq_false_iff.mpr z
    obtain ⟨J2, m, rfl, hm⟩ := g2 z
    rw [J2.2.2.2, if_pos (show zM = -1 from rfl), J2.2.1 132 1 (by omega), t2, J2.2.2.1] at hf
    by_cases y : r.2.2 = t
    · rw [if_pos (show zI t ≤ zI r.2.2 by rw [y, zI_le (by omega) (by omega)]; omega)] at hf
      exact ⟨_, w', hf, J2.1, J2.2.1, hb, Or.inl ⟨z, y, J2.2.2.2, m, rfl, hm⟩⟩
    · rw [if_neg (show ¬ (zI t ≤ zI r.2.2) by rw [zI_le (by omega) (by omega)]; omega)] at hf
      exact ⟨_, wset w' 136 3 (zI r.2.2), hf, J2.1, fun a c h => by rw [wset_at, if_neg (by omega)]; exact J2.2.1 a c h, hb, Or.inr ⟨Or.inr y, wset_hit _ _ _ _⟩⟩
/-- whom the program asks for every term -/
theorem c_askAll {w : XW} {F : Nat → Nat} (hC : Cls w.1 1 F) (hI : Inv F) : ∃ w', f_X7_askForAll 2 w = some w' ∧ Fr (fun a => a = 136 ∨ a = 137) w w' ∧ CB w' (F 0) (fun k => k) (stF F) := by
  have a1 := hI.1
  have loop : ∀ (d fuel i : Nat) (w : XW), i + d = 8 → d < fuel → Cls w.1 1 F → (∀ j, j < i → w.1 137 j = zI (smk (btT F j) (F 0))) → ∃ w', f_X7_askForAll_14 2 fuel (zI i) w = some w' ∧ Fr (fun a => a = 137) w w' ∧ ∀ j, j < 8 → w'.1 137 j = zI (smk (btT F j) (F 0)) := by
    intro d
    induction d with
    | zero =>
      intro fuel i w hi hf hC hj
      cases fuel with
      | zero => omega
      | succ fuel =>
        unfold f_X7_askForAll_14
        rw [if_pos (show 8 ≤ zI i by rw [zl_8, zI_le (by omega) (by omega)]; omega)]
        exact ⟨w, rfl, Fr.rf, fun j h => hj j (by omega)⟩
    | succ d ih =>
      intro fuel i w hi hf hC hj
      cases fuel with
      | zero => omega
      | succ fuel =>
        unfold f_X7_askForAll_14
        rw [if_neg (show ¬ (8 ≤ zI i) by rw [zl_8, zI_le (by omega) (by omega)]; omega), show 97 + zI i = zI (97 + i) by rw [zl_97, zI_add], s_bearers hC hI (by omega), bI_s, if_pos (by rw [inB_z (by omega)]; omega), zI_nat (by omega), show zI i + 1 = zI (i + 1) by rw [zl_1, zI_add]]
        obtain ⟨w', e1, e2, e3⟩ := ih fuel (i + 1) (wset w 137 i (zI (smk (btT F i) (F 0)))) (by omega) (by omega) (hC.fr (Fr.rf.set (P := fun a => a = 137) rfl _ _) (fun a h1 h2 => by omega)) (fun j h => by
          rw [wset_at]
          by_cases z : j = i
          · rw [if_pos ⟨rfl, z⟩, z]
          · rw [if_neg (fun y => z y.2)]; exact hj j (by omega))
        exact ⟨w', e1, (Fr.rf.set (P := fun a => a = 137) rfl _ _).tr e2, e3⟩
  have hC1 : Cls (wset w 136 1 ((1 <<< ((w.1 2 0) &&& 31)) - 1)).1 1 F := hC.fr (Fr.rf.set (P := fun a => a = 136) rfl _ _) (fun a h1 h2 => by omega)
  obtain ⟨w', e1, e2, e3⟩ := loop 8 1000 0 _ (by omega) (by omega) hC1 (fun j h => by omega)
  refine ⟨w', e1, (Fr.rf.set (Or.inl rfl) _ _).tr (e2.wk (fun a h => Or.inr h)), a1, ?_, fun i hi => ⟨_, e3 i hi, smk_MK (btT_le F i) _ a1⟩⟩
  rw [e2.at (by omega), wset_hit, show w.1 2 0 = zI (F 0) from hC.1, zl_1, zl_31, every_B _ (by omega)]
theorem c_askOne {w : XW} {F : Nat → Nat} {s : Nat} (hC : Cls w.1 1 F) (hI : Inv F) (hs : s < F 0) : ∃ w', f_X7_askForOne 2 (zI s) w = some w' ∧ Fr (fun a => a = 136 ∨ a = 137) w w' ∧ CB w' 1 (fun _ => s) (stF F) := by
  have a1 := hI.1
  have a5 := (hI.2.2.2.2.1 s (by omega)).2.1
  have loop : ∀ (d fuel i : Nat) (w : XW), i + d = 8 → d < fuel → Cls w.1 1 F → (∀ j, j < i → w.1 137 j = zI (bt (F (12 + s)) j)) → ∃ w', f_X7_askForOne_7 2 (zI s) fuel (zI i) w = some w' ∧ Fr (fun a => a = 137) w w' ∧ ∀ j, j < 8 → w'.1 137 j = zI (bt (F (12 + s)) j) := by
    intro d
    induction d with
    | zero =>
      intro fuel i w hi hf hC hj
      cases fuel with
      | zero => omega
      | succ fuel =>
        unfold f_X7_askForOne_7
        rw [if_pos (show 8 ≤ zI i by rw [zl_8, zI_le (by omega) (by omega)]; omega)]
        exact ⟨w, rfl, Fr.rf, fun j h => hj j (by omega)⟩
    | succ d ih =>
      intro fuel i w hi hf hC hj
      cases fuel with
      | zero => omega
      | succ fuel =>
        unfold f_X7_askForOne_7
        rw [if_neg (show ¬ (8 ≤ zI i) by rw [zl_8, zI_le (by omega) (by omega)]; omega), show 97 + zI i = zI (97 + i) by rw [zl_97, zI_add], s_bears hC.1 a1 hs a5 (hC.2.2.2.2.1 s (by omega)) (by omega), bI_s, if_pos (show inB (zI i) 8 by rw [inB_z (by omega)]; omega), if_pos (show inB (zI i) 8 by rw [inB_z (by omega)]; omega), zI_nat (by omega), show zI i + 1 = zI (i + 1) by rw [zl_1, zI_add]]
        obtain ⟨w', e1, e2, e3⟩ := ih fuel (i + 1) (wset w 137 i (zI (bt (F (12 + s)) i))) (by omega) (by omega) (hC.fr (Fr.rf.set (P := fun a => a = 137) rfl _ _) (fun a h1 h2 => by omega)) (fun j h => by
          rw [wset_at]
          by_cases z : j = i
          · rw [if_pos ⟨rfl, z⟩, z]
          · rw [if_neg (fun y => z y.2)]; exact hj j (by omega))
        refine ⟨w', ?_, (Fr.rf.set (P := fun a => a = 137) rfl _ _).tr e2, e3⟩
        rcases bt_01 (F (12 + s)) i with e | e
        · rw [e] at e1 ⊢; rw [if_pos (show zI 0 = 0 from rfl)]; exact e1
        · rw [e] at e1 ⊢; rw [if_neg (show ¬ zI 1 = 0 by decide)]; exact e1
  have hC1 : Cls (wset w 136 1 1).1 1 F := hC.fr (Fr.rf.set (P := fun a => a = 136) rfl _ _) (fun a h1 h2 => by omega)
  obtain ⟨w', e1, e2, e3⟩ := loop 8 1000 0 _ (by omega) (by omega) hC1 (fun j h => by omega)
  refine ⟨w', e1, (Fr.rf.set (Or.inl rfl) _ _).tr (e2.wk (fun a h => Or.inr h)), by omega, ?_, fun i hi => ⟨_, e3 i hi, ?_⟩⟩
  · rw [e2.at (by omega), wset_hit]; rfl
  · unfold stF
    rcases bt_01 (F (12 + s)) i with e | e
    · rw [e]; exact ⟨by omega, fun k hk => by rw [show k = 0 by omega]; show _ = decide (bt (F (12 + s)) i = 1); rw [e]; rfl⟩
    · rw [e]; exact ⟨by omega, fun k hk => by rw [show k = 0 by omega]; show _ = decide (bt (F (12 + s)) i = 1); rw [e]; rfl⟩
theorem MK.uniq {n a b : Nat} {S : Nat → Bool} (h : MK n a S) (h' : MK n b S) : a = b := by
  apply Nat.eq_of_testBit_eq
  intro i
  by_cases z : i < n
  · rw [h.2 i z, h'.2 i z]
  · have hp : 2 ^ n ≤ 2 ^ i := Nat.pow_le_pow_right (n := 2) (by decide) (by omega)
    have := h.1
    have := h'.1
    rw [Nat.testBit_lt_two_pow (by omega), Nat.testBit_lt_two_pow (by omega)]
theorem bt_big {m k : Nat} (h : m < 2 ^ k) : bt m k = 0 := by unfold bt; rw [Nat.div_eq_of_lt h]
theorem m_search_loop {w : XW} {F : Nat → Nat} {m : Nat} (hM : Mo w.1 142 0 F) (h7 : F 0 ≤ 7) (hm : m < 256) : ∀ (d fuel i : Nat), i + d = F 0 → d < fuel → f_X11_search_25 (zI m) fuel (zI (sm (bt m) i)) (zI i) w = some (zI (sm (bt m) (F 0)), w) := by
  intro d
  induction d with
  | zero =>
    intro fuel i hi hf
    cases fuel with
    | zero => omega
    | succ fuel =>
      unfold f_X11_search_25
      rw [show Int32.toNatClampNeg 0 = 0 from rfl, hM.at (by omega), if_pos (by rw [zI_le (by omega) (by omega)]; omega), show i = F 0 by omega]
  | succ d ih =>
    intro fuel i hi hf
    cases fuel with
    | zero => omega
    | succ fuel =>
      unfold f_X11_search_25
      rw [show Int32.toNatClampNeg 0 = 0 from rfl, hM.at (by omega), if_neg (by rw [zI_le (by omega) (by omega)]; omega), zl_31, zl_1, br_shrB m hm i (by omega), zI_add, zI_add]
      exact ih fuel (i + 1) (by omega) (by omega)
theorem q_search (B : Nat) : QX B B f_X10_search f_X11_search [(iae, 1)] := fun w q => by
  obtain ⟨F, hF, hI, hC, hM, _⟩ := q.get
  have a1 := hI.1
  obtain ⟨t, ch, t1, t2, t3, t4, t5, t6, t7⟩ := txt_of q.2.2.2.1
  obtain ⟨wa, e1, e2, e3⟩ := c_askAll hC hI
  have T : CT wa t ch := ⟨t1, by rw [e2.at (by omega)]; exact t2, fun i hi => by rw [e2.at (by omega)]; exact t4 i hi, t6, t7⟩
  obtain ⟨x, wb, f1, f2, f3, f4, f5⟩ := c_read T e3
  have h2 : wb.2 = w.2 := f2.trans e2.2
  have hfr : ∀ a c, ¬ (a = 136 ∨ a = 137) → wb.1 a c = w.1 a c := fun a c h => (f3 a c (by omega)).trans (e2.at h c)
  have hcl : f_X10_search w = bVX (f_X10_refuseFault (wb.1 136 3) wb) (fun w3 => (bI (f_J6_bitCount_0f7a4 x w3) (fun r4 w4 => (some (.inl (r4, w4)))))) := by
    unfold f_X10_search; rw [e1, bV_s, f1, bI_s]
  have hM' : ∀ (u : XW) (v : Int64 × UInt64), (∀ a c, ¬ (a = 136 ∨ a = 137 ∨ a = 0) → u.1 a c = w.1 a c) → ∃ w', w'.2 = v ∧ (∀ a c, ¬ (a = 141 ∧ (c = 0 ∨ c = 18 ∨ c = 19 ∨ c = 21 ∨ c = 22 ∨ c = 13)) → w'.1 a c = u.1 a c) ∧ w'.1 141 0 = zI 0 ∧
      (((PG ch (stF F) 400 4 0 nV 0).1 = false ∧ (PG ch (stF F) 400 4 0 nV 0).2.2 = t ∧ w'.1 141 13 = u.1 141 13 ∧ ∃ m, MK (F 0) m (PG ch (stF F) 400 4 0 nV 0).2.1 ∧ f_X11_found (wset (u.1, v) 141 0 0) = some (zI m, w')) ∨
       (((PG ch (stF F) 400 4 0 nV 0).1 = true ∨ (PG ch (stF F) 400 4 0 nV 0).2.2 ≠ t) ∧ w'.1 141 13 = zI (PG ch (stF F) 400 4 0 nV 0).2.2 ∧ f_X11_found (wset (u.1, v) 141 0 0) = some (zM, w'))) := by
    intro u v hu
    obtain ⟨w', g1, g2, g3⟩ := m_found (wset (u.1, v) 141 0 0) (t := t) (ch := ch) (F := F) t1 (by rw [wset_at, if_neg (by omega)]; show u.1 141 11 = _; rw [hu _ _ (by omega)]; exact t3) (fun i hi => by rw [wset_at, if_neg (by omega)]; show u.1 146 i = _; rw [hu _ _ (by omega)]; exact t5 i hi) t6 t7 (fun j hj => by rw [wset_at, if_neg (by omega)]; show u.1 142 _ = _; rw [hu _ _ (by omega)]; exact hM j hj) hI
    refine ⟨w', g1, fun a c h => by rw [g2 a c (by omega), wset_at, if_neg (by omega)], by rw [g2 141 0 (by omega), wset_hit, zl_0], ?_⟩
    rw [wset_at, if_neg (by omega)] at g3
    exact g3
  rcases f5 with ⟨y1, y2, y3, m, rfl, hm⟩ | ⟨y1, y2⟩
  · refine Or.inr ⟨zI (pcB m), wb, ?_, fun v => ?_⟩
    · rw [hcl, y3]
      have := hm.lt a1
      show bVX (some (.inl wb)) _ = _
      rw [bVX_s, z_bitCount (by omega), bI_s]
    · obtain ⟨w', g1, g2, g0, g3⟩ := hM' wb v (fun a c h => hfr a c (by omega))
      rcases g3 with ⟨_, _, g4, m', hm', g5⟩ | ⟨g4, _⟩
      · have hmm : m = m' := hm.uniq hm'
        subst hmm
        refine ⟨w', ?_, g1, g0, q.cg (Nat.le_refl _) (fun a h1 h2 h3 h4 h5 h6 h7 h8 => by funext c; rw [g2 a c (by omega), hfr a c (by omega)]) (fun c hc => by rw [g2 0 c (by omega), hfr 0 c (by omega)]) (fun c hc => by
          by_cases z : c = 13
          · rw [z, g4, hfr _ _ (by omega)]
          · rw [g2 141 c (by omega), hfr _ _ (by omega)])⟩
        unfold f_X11_search
        have h8 := hm.lt a1
        rw [g5, bI_s, if_neg (show ¬ (zI m = -1) by rw [zl_1, zm1, zI_zM (by omega)]; exact id)]
        have hMw : Mo w'.1 142 0 F := fun j hj => by rw [g2 142 _ (by omega), hfr _ _ (by omega)]; exact hM j hj
        have hl := m_search_loop hMw a1 (show m < 256 by omega) (F 0) 1000 0 (by omega) (by omega)
        have hs : pcB m = sm (bt m) (F 0) := sm_cut 8 (by omega) (fun k h1 h2 => bt_big (by have h := hm.1; have hp : 2 ^ F 0 ≤ 2 ^ k := Nat.pow_le_pow_right (n := 2) (by decide) h1; omega))
        rw [hs]
        exact hl
      · exfalso
        rcases g4 with g4 | g4
        · rw [y1] at g4; cases g4
        · exact g4 y2
  · refine Or.inl ⟨(iae, 1), List.mem_cons_self, wset wb 0 11 (wb.1 136 3), ?_, fun v => ?_⟩
    · rw [hcl]
      unfold f_X10_refuseFault
      rw [y2, if_neg (show ¬ (zI (PG ch (stF F) 400 4 0 nV 0).2.2 = -1) by rw [zl_1, zm1, zI_zM (by omega)]; exact id)]
      rfl
    · obtain ⟨w', g1, g2, g0, g3⟩ := hM' (wset wb 0 11 (wb.1 136 3)) v (fun a c h => by rw [wset_at, if_neg (by omega)]; exact hfr a c (by omega))
      rcases g3 with ⟨g4, g5, _⟩ | ⟨_, g4, g5⟩
      · exfalso
        rcases y1 with y | y
        · rw [g4] at y; cases y
        · exact y g5
      · have hn : ∀ a c, a ≠ 0 → (wset wb 0 11 (wb.1 136 3)).1 a c = wb.1 a c := fun a c h => by rw [wset_at, if_neg (by omega)]
        refine ⟨zI 0, wset w' 141 0 (zI 1), ?_, g1, wset_hit _ _ _ _, q.flt (Nat.le_refl _) (fun a h1 h2 h3 h4 h5 h6 h7 h8 => by funext c; rw [wset_at, if_neg (by omega), g2 a c (by omega), hn a c h1, hfr a c (by omega)]) (fun c hc h11 => by rw [wset_at, if_neg (by omega), g2 0 c (by omega), wset_at, if_neg (by omega), hfr 0 c (by omega)]) (fun c hc => by rw [wset_at, if_neg (by omega), g2 141 c (by omega), hn _ _ (by omega), hfr _ _ (by omega)]) ?_⟩
        · unfold f_X11_search
          rw [g5, bI_s, if_pos (show zM = -1 from rfl)]
          rfl
        · rw [wset_at, if_neg (by omega), wset_at, if_neg (by omega), g2 0 11 (by omega), wset_hit, g4, y2]
