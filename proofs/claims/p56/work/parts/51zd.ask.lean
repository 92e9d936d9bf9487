def stF (F : Nat → Nat) (c : Nat) : Nat → Bool := fun s => decide (bt (F (12 + s)) c = 1)
theorem every_B : ∀ n, n < 8 → (zI 1 <<< (zI n &&& zI 31)) - zI 1 = zI (2 ^ n - 1) := by decide +kernel
/-! searches asked -/
theorem c_read {w1 : XW} {t : Nat} {ch : Nat → Nat} {n : Nat} {σ : Nat → Nat} {S : Nat → Nat → Bool} (T : CT w1 t ch) (Bk : CB w1 n σ S) : ∃ x w', f_X7_read w1 = some (x, w') ∧ w'.2 = w1.2 ∧ (∀ a c, ¬ (a = 136 ∧ (c = 2 ∨ c = 3)) → w'.1 a c = w1.1 a c) ∧ (PG ch S 400 4 0 nV 0).2.2 ≤ t ∧ (((PG ch S 400 4 0 nV 0).1 = false ∧ (PG ch S 400 4 0 nV 0).2.2 = t ∧ w'.1 136 3 = zM ∧ ∃ m, x = zI m ∧ MK n m (fun k => (PG ch S 400 4 0 nV 0).2.1 (σ k))) ∨ (((PG ch S 400 4 0 nV 0).1 = true ∨ (PG ch S 400 4 0 nV 0).2.2 ≠ t) ∧ w'.1 136 3 = zI (PG ch S 400 4 0 nV 0).2.2)) := by
  obtain ⟨t1, t2, t3, t4, t5⟩ := id T
  have hb := (PGb (S := S) t5 400 4 0 nV 0 (by omega) (by omega)).2.1
  have J : JC w1 (zI 0) zM (wset (wset w1 136 2 0) 136 3 (-1)) := ⟨rfl, fun a c h => by rw [wset_at, if_neg (by omega), wset_at, if_neg (by omega)], by rw [wset_at, if_neg (by omega), wset_hit, zl_0], by rw [wset_hit, zl_1, zm1]⟩
  obtain ⟨x, w', e, g1, g2⟩ := (c_parse T Bk 400).2.2.2.2 0 0 5 _ rfl (by omega) (by omega) (by omega) J
  obtain ⟨r, hr⟩ : ∃ r, r = PG ch S 400 4 0 nV 0 := ⟨_, rfl⟩
  rw [← hr] at g1 g2 hb ⊢
  have hf : f_X7_read w1 = bI (f_X7_readSumO (f_X7_readSum 5) (zI 0) (wset (wset w1 136 2 0) 136 3 (-1))) (fun r1 w1 => (if (w1.1 136 3) = (-1) then (if (w1.1 132 1) ≤ (w1.1 136 2) then (some (r1, w1)) else (some (r1, (wset w1 136 3 (w1.1 136 2))))) else (some (r1, w1)))) := (rfl)
  rw [e, bI_s] at hf
  by_cases z : r.1 = true
  · obtain ⟨q, J2⟩ := g1 z
    rw [J2.2.2.2, if_neg (show ¬ (zI r.2.2 = -1) by rw [zl_1, zm1, zI_zM (by omega)]; exact id)] at hf
    exact ⟨x, w', hf, J2.1, J2.2.1, hb, Or.inr ⟨Or.inl z, J2.2.2.2⟩⟩
  · have z := Bool.eq_false_iff.mpr z
    obtain ⟨J2, m, rfl, hm⟩ := g2 z
    rw [J2.2.2.2, if_pos (show zM = -1 from rfl), J2.2.1 132 1 (by omega), t2, J2.2.2.1] at hf
    by_cases y : r.2.2 = t
    · rw [if_pos (show zI t ≤ zI r.2.2 by rw [y, zI_le (by omega) (by omega)]; omega)] at hf
      exact ⟨_, w', hf, J2.1, J2.2.1, hb, Or.inl ⟨z, y, J2.2.2.2, m, rfl, hm⟩⟩
    · rw [if_neg (show ¬ (zI t ≤ zI r.2.2) by rw [zI_le (by omega) (by omega)]; omega)] at hf
      exact ⟨_, wset w' 136 3 (zI r.2.2), hf, J2.1, fun a c h => by rw [wset_at, if_neg (by omega)]; exact J2.2.1 a c h, hb, Or.inr ⟨Or.inr y, wset_hit _ _ _ _⟩⟩
/-- whom the program asks for every term -/
theorem c_askAll {w : XW} {F : Nat → Nat} (hC : Cls w.1 1 F) (hI : Inv F) : ∃ w', f_X7_askForAll 2 w = some w' ∧ Fr (fun a => a = 136 ∨ a = 137) w w' ∧ CB w' (F 0) (fun k => k) (stF F) := by
  have a1 := hI.1
  have loop : ∀ (d fuel i : Nat) (w : XW), i + d = 8 → d < fuel → Cls w.1 1 F → (∀ j, j < i → w.1 137 j = zI (smk (btT F j) (F 0))) → ∃ w', f_X7_askForAll_14 2 fuel (zI i) w = some w' ∧ Fr (fun a => a = 137) w w' ∧ ∀ j, j < 8 → w'.1 137 j = zI (smk (btT F j) (F 0)) := by
    intro d
    induction d with
    | zero =>
      intro fuel i w hi hf hC hj
      cases fuel with
      | zero => omega
      | succ fuel =>
        unfold f_X7_askForAll_14
        rw [if_pos (show 8 ≤ zI i by rw [zl_8, zI_le (by omega) (by omega)]; omega)]
        exact ⟨w, rfl, Fr.rf, fun j h => hj j (by omega)⟩
    | succ d ih =>
      intro fuel i w hi hf hC hj
      cases fuel with
      | zero => omega
      | succ fuel =>
        unfold f_X7_askForAll_14
        rw [if_neg (show ¬ (8 ≤ zI i) by rw [zl_8, zI_le (by omega) (by omega)]; omega), show 97 + zI i = zI (97 + i) by rw [zl_97, zI_add], s_bearers hC hI (by omega), bI_s, if_pos (by rw [inB_z (by omega)]; omega), zI_nat (by omega), show zI i + 1 = zI (i + 1) by rw [zl_1, zI_add]]
        obtain ⟨w', e1, e2, e3⟩ := ih fuel (i + 1) (wset w 137 i (zI (smk (btT F i) (F 0)))) (by omega) (by omega) (hC.fr (Fr.rf.set (P := fun a => a = 137) rfl _ _) (fun a h1 h2 => by omega)) (fun j h => by
          rw [wset_at]
          by_cases z : j = i
          · rw [if_pos ⟨rfl, z⟩, z]
          · rw [if_neg (fun y => z y.2)]; exact hj j (by omega))
        exact ⟨w', e1, (Fr.rf.set (P := fun a => a = 137) rfl _ _).tr e2, e3⟩
  have hC1 : Cls (wset w 136 1 ((1 <<< ((w.1 2 0) &&& 31)) - 1)).1 1 F := hC.fr (Fr.rf.set (P := fun a => a = 136) rfl _ _) (fun a h1 h2 => by omega)
  obtain ⟨w', e1, e2, e3⟩ := loop 8 1000 0 _ (by omega) (by omega) hC1 (fun j h => by omega)
  refine ⟨w', e1, (Fr.rf.set (Or.inl rfl) _ _).tr (e2.wk (fun a h => Or.inr h)), a1, ?_, fun i hi => ⟨_, e3 i hi, smk_MK (btT_le F i) _ a1⟩⟩
  rw [e2.at (by omega), wset_hit, show w.1 2 0 = zI (F 0) from hC.1, zl_1, zl_31, every_B _ (by omega)]
theorem c_askOne {w : XW} {F : Nat → Nat} {s : Nat} (hC : Cls w.1 1 F) (hI : Inv F) (hs : s < F 0) : ∃ w', f_X7_askForOne 2 (zI s) w = some w' ∧ Fr (fun a => a = 136 ∨ a = 137) w w' ∧ CB w' 1 (fun _ => s) (stF F) := by
  have a1 := hI.1
  have a5 := (hI.2.2.2.2.1 s (by omega)).2.1
  have loop : ∀ (d fuel i : Nat) (w : XW), i + d = 8 → d < fuel → Cls w.1 1 F → (∀ j, j < i → w.1 137 j = zI (bt (F (12 + s)) j)) → ∃ w', f_X7_askForOne_7 2 (zI s) fuel (zI i) w = some w' ∧ Fr (fun a => a = 137) w w' ∧ ∀ j, j < 8 → w'.1 137 j = zI (bt (F (12 + s)) j) := by
    intro d
    induction d with
    | zero =>
      intro fuel i w hi hf hC hj
      cases fuel with
      | zero => omega
      | succ fuel =>
        unfold f_X7_askForOne_7
        rw [if_pos (show 8 ≤ zI i by rw [zl_8, zI_le (by omega) (by omega)]; omega)]
        exact ⟨w, rfl, Fr.rf, fun j h => hj j (by omega)⟩
    | succ d ih =>
      intro fuel i w hi hf hC hj
      cases fuel with
      | zero => omega
      | succ fuel =>
        unfold f_X7_askForOne_7
        rw [if_neg (show ¬ (8 ≤ zI i) by rw [zl_8, zI_le (by omega) (by omega)]; omega), show 97 + zI i = zI (97 + i) by rw [zl_97, zI_add], s_bears hC.1 a1 hs a5 (hC.2.2.2.2.1 s (by omega)) (by omega), bI_s, if_pos (show inB (zI i) 8 by rw [inB_z (by omega)]; omega), if_pos (show inB (zI i) 8 by rw [inB_z (by omega)]; omega), zI_nat (by omega), show zI i + 1 = zI (i + 1) by rw [zl_1, zI_add]]
        obtain ⟨w', e1, e2, e3⟩ := ih fuel (i + 1) (wset w 137 i (zI (bt (F (12 + s)) i))) (by omega) (by omega) (hC.fr (Fr.rf.set (P := fun a => a = 137) rfl _ _) (fun a h1 h2 => by omega)) (fun j h => by
          rw [wset_at]
          by_cases z : j = i
          · rw [if_pos ⟨rfl, z⟩, z]
          · rw [if_neg (fun y => z y.2)]; exact hj j (by omega))
        refine ⟨w', ?_, (Fr.rf.set (P := fun a => a = 137) rfl _ _).tr e2, e3⟩
        rcases bt_01 (F (12 + s)) i with e | e
        · rw [e] at e1 ⊢; rw [if_pos (show zI 0 = 0 from rfl)]; exact e1
        · rw [e] at e1 ⊢; rw [if_neg (show ¬ zI 1 = 0 by decide)]; exact e1
  have hC1 : Cls (wset w 136 1 1).1 1 F := hC.fr (Fr.rf.set (P := fun a => a = 136) rfl _ _) (fun a h1 h2 => by omega)
  obtain ⟨w', e1, e2, e3⟩ := loop 8 1000 0 _ (by omega) (by omega) hC1 (fun j h => by omega)
  refine ⟨w', e1, (Fr.rf.set (Or.inl rfl) _ _).tr (e2.wk (fun a h => Or.inr h)), by omega, ?_, fun i hi => ⟨_, e3 i hi, ?_⟩⟩
  · rw [e2.at (by omega), wset_hit]; rfl
  · unfold stF
    rcases bt_01 (F (12 + s)) i with e | e
    · rw [e]; exact ⟨by omega, fun k hk => by rw [show k = 0 by omega]; show _ = decide (bt (F (12 + s)) i = 1); rw [e]; rfl⟩
    · rw [e]; exact ⟨by omega, fun k hk => by rw [show k = 0 by omega]; show _ = decide (bt (F (12 + s)) i = 1); rw [e]; rfl⟩
theorem MK.uniq {n a b : Nat} {S : Nat → Bool} (h : MK n a S) (h' : MK n b S) : a = b := by
  apply Nat.eq_of_testBit_eq
  intro i
  by_cases z : i < n
  · rw [h.2 i z, h'.2 i z]
  · have hp : 2 ^ n ≤ 2 ^ i := Nat.pow_le_pow_right (n := 2) (by decide) (by omega)
    have := h.1
    have := h'.1
    rw [Nat.testBit_lt_two_pow (by omega), Nat.testBit_lt_two_pow (by omega)]
theorem bt_big {m k : Nat} (h : m < 2 ^ k) : bt m k = 0 := by unfold bt; rw [Nat.div_eq_of_lt h]