/-! what was kept: faults, denials; undo, snapshots; the text buffer -/
theorem ch_nar {c : Nat} (h : c < 65536) : vp_nar .char (zI c) = zI c := by
  show (zI c).toUInt32.toUInt16.toUInt32.toInt32 = zI c
  have e1 : (zI c).toUInt32 = UInt32.ofNat c := rfl
  have e2 : (UInt32.ofNat c).toUInt16.toUInt32 = UInt32.ofNat c := by
    apply UInt32.toNat_inj.mp
    rw [UInt16.toNat_toUInt32, UInt32.toNat_toUInt16, UInt32.toNat_ofNat_of_lt' (by show c < 4294967296; omega)]
    exact Nat.mod_eq_of_lt h
  rw [e1, e2]
  rfl
def chN (x : Int32) : Nat := x.toUInt32.toNat % 65536
theorem chN_lt (x : Int32) : chN x < 65536 := Nat.mod_lt _ (by omega)
theorem ch_i2c (x : Int32) : ((Int32.toUInt32 x) % 65536).toInt32 = zI (chN x) := by
  have e : (Int32.toUInt32 x) % 65536 = UInt32.ofNat (chN x) := by
    apply UInt32.toNat_inj.mp
    rw [UInt32.toNat_mod, UInt32.toNat_ofNat_of_lt' (by have := chN_lt x; show chN x < 4294967296; omega)]
    rfl
  rw [e]
  rfl
theorem chN_zI {c : Nat} (h : c < 65536) : chN (zI c) = c := by
  unfold chN
  have e1 : (zI c).toUInt32 = UInt32.ofNat c := rfl
  rw [e1, UInt32.toNat_ofNat_of_lt' (by show c < 4294967296; omega)]
  exact Nat.mod_eq_of_lt h
theorem chN_pos (x : Int32) : ¬ (((Int32.toUInt32 x) % 65536).toInt32 < 0) := by
  rw [ch_i2c, zl_0, zI_lt (by have := chN_lt x; omega) (by omega)]
  omega
theorem w13 {w : XW} {v : Int64 × UInt64} {x : Int32} {c : Nat} (h : c ≠ 0) : (wset (w.1, v) 141 0 x).1 141 c = w.1 141 c := by rw [wset_at, if_neg (fun z => h z.2)]
theorem q_kept (B : Nat) (cl : XW → Option ((Int32 × XW) ⊕ (String × XW))) (md : XW → Option (Int32 × XW)) (h : ∀ w : XW, Rel B w.1 → (cl w = some (.inr (nsee, w)) ∧ ∀ v, md (w.1, v) = some (zI 0, wset (wset (w.1, v) 141 0 (zI 0)) 141 0 (zI 1))) ∨ ∃ r, cl w = some (.inl (r, w)) ∧ ∀ v, md (w.1, v) = some (r, wset (w.1, v) 141 0 (zI 0))) : QX B B cl md [(nsee, 1)] := fun w q => by
  rcases h w q with ⟨h1, h2⟩ | ⟨r, h1, h2⟩
  · exact Or.inl ⟨(nsee, 1), List.mem_cons_self, w, h1, fun v => ⟨_, _, h2 v, rfl, wset_hit _ _ _ _, (q.thr v (zI 0)).thr (w := wset (w.1, v) 141 0 (zI 0)) v (zI 1)⟩⟩
  · exact Or.inr ⟨r, w, h1, fun v => ⟨_, h2 v, rfl, wset_hit _ _ _ _, q.thr v _⟩⟩
theorem q_fault (B : Nat) : QX B B f_X10_faultPosition f_X11_faultPosition [(nsee, 1)] := q_kept B _ _ fun w q => by
  have h : w.1 0 11 = w.1 141 13 := q.2.2.2.2.2.1
  unfold f_X10_faultPosition f_X11_faultPosition
  by_cases e : w.1 0 11 = -1
  · refine Or.inl ⟨by rw [if_pos e]; rfl, fun v => ?_⟩
    rw [zl_0, w13 (by omega), if_pos (by rw [← h]; exact e)]
    rfl
  · refine Or.inr ⟨_, by rw [if_neg e], fun v => ?_⟩
    rw [zl_0, w13 (by omega), if_neg (by rw [← h]; exact e), h]
theorem q_denial (B : Nat) : QX B B f_X10_denial f_X11_denial [(nsee, 1)] := q_kept B _ _ fun w q => by
  unfold f_X10_denial f_X11_denial
  rcases q.2.2.2.2.2.2.1 with ⟨h1, h2⟩ | ⟨n, d, n1, n2, d1, h1, h2, h3, h4⟩
  · refine Or.inl ⟨by rw [zl_1, zm1, if_pos h1]; rfl, fun v => ?_⟩
    rw [zl_0, w13 (by omega), if_pos h2]
    rfl
  · refine Or.inr ⟨zI n, by rw [if_neg (by rw [h1, zl_1, zm1, zI_zM (by omega)]; exact id), h1], fun v => ?_⟩
    rw [zl_0, w13 (by omega), if_neg (by rw [h2, zI_inj (by omega) (by omega)]; omega), h2]
theorem q_detail (B : Nat) : QX B B f_X10_denialDetail f_X11_denialDetail [(nsee, 1)] := q_kept B _ _ fun w q => by
  unfold f_X10_denialDetail f_X11_denialDetail
  rcases q.2.2.2.2.2.2.1 with ⟨h1, h2⟩ | ⟨n, d, n1, n2, d1, h1, h2, h3, h4⟩
  · refine Or.inl ⟨by rw [zl_1, zm1, if_pos h1]; rfl, fun v => ?_⟩
    rw [zl_0, w13 (by omega), if_pos h2]
    rfl
  · refine Or.inr ⟨zI d, by rw [if_neg (by rw [h1, zl_1, zm1, zI_zM (by omega)]; exact id), h3], fun v => ?_⟩
    rw [zl_0, w13 (by omega), if_neg (by rw [h2, zI_inj (by omega) (by omega)]; omega), w13 (by omega), h4]
theorem q_cause (B : Nat) : QX B B f_X10_denialCause f_X11_denialCause [(nsee, 1)] := q_kept B _ _ fun w q => by
  unfold f_X10_denialCause f_X11_denialCause
  rcases q.2.2.2.2.2.2.2 with ⟨h1, h2⟩ | ⟨n, n1, n2, h1, h2⟩
  · refine Or.inl ⟨by rw [zl_1, zm1, if_pos h1]; rfl, fun v => ?_⟩
    rw [zl_0, w13 (by omega), if_pos h2]
    rfl
  · refine Or.inr ⟨zI n, by rw [if_neg (by rw [h1, zl_1, zm1, zI_zM (by omega)]; exact id), h1], fun v => ?_⟩
    rw [zl_0, w13 (by omega), if_neg (by rw [h2, zI_inj (by omega) (by omega)]; omega), h2]
/-! undo, snapshots -/
theorem m_undo_loop {n : Nat} (hn : n < 8) : ∀ (d fuel i : Nat) (w : XW), i + d = 66 → d < fuel → w.1 141 5 = zI n → ∃ w', f_X11_undo_30 fuel (zI i) w = some (zI n, w') ∧ Fr (fun a => a = 142) w w' ∧ (∀ j, j < i → w'.1 142 j = w.1 142 j) ∧ ∀ j, i ≤ j → j < 66 → w'.1 142 j = w.1 145 (66 * n + j) := by
  intro d
  induction d with
  | zero =>
    intro fuel i w hi hf h
    obtain ⟨f, rfl⟩ : ∃ f, fuel = f + 1 := ⟨fuel - 1, by omega⟩
    refine ⟨w, ?_, Fr.rf, fun j _ => rfl, fun j h1 h2 => by omega⟩
    rw [f_X11_undo_30, if_pos (by rw [zl_66, zI_le (by omega) (by omega)]; omega), h]
  | succ d ih =>
    intro fuel i w hi hf h
    obtain ⟨f, rfl⟩ : ∃ f, fuel = f + 1 := ⟨fuel - 1, by omega⟩
    have hfr : Fr (fun a => a = 142) w (wset w 142 i (w.1 145 (66 * n + i))) := fr1 _ _
    obtain ⟨w', e1, e2, e3, e4⟩ := ih f (i + 1) (wset w 142 i (w.1 145 (66 * n + i))) (by omega) (by omega) (by rw [hfr.at (by omega)]; exact h)
    refine ⟨w', ?_, hfr.tr e2, fun j hj => ?_, fun j h1 h2 => ?_⟩
    · rw [f_X11_undo_30, if_neg (by rw [zl_66, zI_le (by omega) (by omega)]; omega), h, zl_66, zI_mul, zI_add, if_pos (by rw [inB_z (by omega)]; omega), if_pos (by rw [inB_z (by omega)]; omega), zI_nat (by omega), zI_nat (by omega), zl_1, zI_add]
      exact e1
    · rw [e3 j (by omega), wset_at, if_neg (by omega)]
    · by_cases z : j = i
      · subst z; rw [e3 j (by omega), wset_hit]
      · rw [e4 j (by omega) h2, hfr.at (by omega)]
theorem q_undo (B : Nat) : QX B B f_X10_undo f_X11_undo [(ise, 1)] := fun w q => by
  obtain ⟨⟨F, q1, hI, hC, hM⟩, q2, ⟨hs, n, nx, b1, b2, b3, b4, b5, b6⟩, q4, q5, q6, q7⟩ := id q
  by_cases e : n = 0
  · refine Or.inl ⟨(ise, 1), List.mem_cons_self, w, ?_, fun v => ⟨zI 0, wset (wset (w.1, v) 141 0 (zI 0)) 141 0 (zI 1), ?_, rfl, wset_hit _ _ _ _, (q.thr v (zI 0)).thr (w := wset (w.1, v) 141 0 (zI 0)) v (zI 1)⟩⟩
    · unfold f_X10_undo
      rw [b4, if_neg (by rw [zl_0, zI_lt (by omega) (by omega)]; omega)]
      rfl
    · unfold f_X11_undo
      rw [zl_0, w13 (by omega), b5, if_pos (by rw [e])]
      rfl
  · obtain ⟨m, rfl⟩ : ∃ m, n = m + 1 := ⟨n - 1, by omega⟩
    have h0 := b6 0 (by omega)
    have hz1 : hs 0 1 ≤ 7 := by have := h0.1.1; have := h0.1.2.1; omega
    obtain ⟨w1, k1, k2, k3, k4⟩ := h_back (hs := hs) (n := m) ⟨b1, b2, b3, b4, fun i hi => (b6 i hi).2.2.1⟩ hz1 h0.1.2.2.1
    have g1 : ∀ a, a ≠ 34 → ¬ (2 ≤ a ∧ a ≤ 11) → ∀ c, w1.1 a c = w.1 a c := fun a h1 h2 c => k2.at (by omega) c
    refine Or.inr ⟨zI m, w1, ?_, fun v => ?_⟩
    · unfold f_X10_undo
      rw [b4, if_pos (by rw [zl_0, zI_lt (by omega) (by omega)]; omega), k1, bV_s, k3.2.2.2.1]
    · obtain ⟨w2, e1, e2, e3, e4⟩ := m_undo_loop (n := m) (by omega) 66 1000 0 (wset (wset (w1.1, v) 141 0 (zI 0)) 141 5 (zI m)) (by omega) (by omega) (wset_hit _ _ _ _)
      have g2 : ∀ a, a ≠ 141 → a ≠ 142 → ∀ c, w2.1 a c = w1.1 a c := fun a h1 h2 c => by rw [e2.at (by omega), wset_at, if_neg (by omega), wset_at, if_neg (by omega)]
      have g3 : ∀ c, c ≠ 0 → c ≠ 5 → w2.1 141 c = w.1 141 c := fun c h1 h2 => by
        rw [e2.at (by omega), wset_at, if_neg (by omega), wset_at, if_neg (by omega)]
        exact g1 141 (by omega) (by omega) c
      have g4 : ∀ a, a ≠ 141 → a ≠ 142 → a ≠ 34 → ¬ (2 ≤ a ∧ a ≤ 11) → w2.1 a = w.1 a := fun a h1 h2 h3 h4 => by funext c; rw [g2 a h1 h2 c]; exact g1 a h3 h4 c
      refine ⟨w2, ?_, e2.2, ?_, ?_⟩
      · unfold f_X11_undo
        rw [zl_0, w13 (by omega), g1 141 (by omega) (by omega), b5, if_neg (by rw [zI_inj (by omega) (by omega)]; omega), zl_1, zI_sub (by omega), Nat.add_sub_cancel]
        exact e1
      · rw [e2.at (by omega), wset_at, if_neg (by omega), wset_hit]
      · refine Rel.mk2 (F := hs 0) (hs := fun i => hs (i + 1)) (n := m) (nx := (nx + 7) % 8) h0.2.1 ⟨h0.1, k4.cg (fun a h1 h2 => by funext c; exact g2 a (by omega) (by omega) c), fun j hj => ?_⟩ (q2.cg (by omega) (fun a h1 h2 => g4 a (by omega) (by omega) (by omega) (by omega)) (g4 _ (by omega) (by omega) (by omega) (by omega)) (by rw [g4 0 (by omega) (by omega) (by omega) (by omega)]) (g3 _ (by omega) (by omega))) ?_ ⟨?_, fun i hi => ?_⟩ (fun i hi => ⟨(b6 (i + 1) (by omega)).1, (b6 (i + 1) (by omega)).2.1⟩) (q4.cg (by rw [g4 132 (by omega) (by omega) (by omega) (by omega)]) (g4 _ (by omega) (by omega) (by omega) (by omega)) (g4 _ (by omega) (by omega) (by omega) (by omega)) (g3 _ (by omega) (by omega))) (q5.cg (by rw [g4 134 (by omega) (by omega) (by omega) (by omega)]) (g4 _ (by omega) (by omega) (by omega) (by omega)) (g4 _ (by omega) (by omega) (by omega) (by omega)) (g3 _ (by omega) (by omega))) (q6.cg (by rw [g4 0 (by omega) (by omega) (by omega) (by omega)]) (g3 _ (by omega) (by omega))) (q7.cg (fun c h1 h2 => by rw [g4 0 (by omega) (by omega) (by omega) (by omega)]) (fun c h1 h2 => g3 c (by omega) (by omega)))
        · rw [Nat.zero_add, e4 j (by omega) hj, wset_at, if_neg (by omega), wset_at, if_neg (by omega)]
          have := h0.2.2.2 j hj
          rw [show 66 * (m + 1 - 1 - 0) + j = 66 * m + j by omega] at this
          exact (g1 145 (by omega) (by omega) _).trans this
        · obtain ⟨z1, z2, z3, z4, z5⟩ := k3
          refine ⟨z1, z2, (g2 34 (by omega) (by omega) 1).trans z3, (g2 34 (by omega) (by omega) 2).trans z4, fun i hi => ?_⟩
          have hin := slot_in ((nx + 7) % 8) i
          exact (z5 i hi).cg (fun a h1 h2 => by funext c; exact g2 a (by omega) (by omega) c)
        · rw [e2.at (by omega), wset_hit]
        · have := (b6 (i + 1) (by omega)).2.2.2
          rw [show m + 1 - 1 - (i + 1) = m - 1 - i by omega] at this
          exact this.cg (g4 145 (by omega) (by omega) (by omega) (by omega))
theorem m_save_loop {t : Nat} : ∀ (d fuel i : Nat) (w : XW), i + d = 66 → d < fuel → w.1 142 0 = zI t → ∃ w', f_X11_saveSnapshot_7 fuel (zI i) w = some (zI t, wset w' 141 6 (zI 1)) ∧ Fr (fun a => a = 144) w w' ∧ (∀ j, j < i → w'.1 144 j = w.1 144 j) ∧ ∀ j, i ≤ j → j < 66 → w'.1 144 j = w.1 142 j := by
  intro d
  induction d with
  | zero =>
    intro fuel i w hi hf h
    obtain ⟨f, rfl⟩ : ∃ f, fuel = f + 1 := ⟨fuel - 1, by omega⟩
    refine ⟨w, ?_, Fr.rf, fun j _ => rfl, fun j h1 h2 => by omega⟩
    rw [f_X11_saveSnapshot_7, if_pos (by rw [zl_66, zI_le (by omega) (by omega)]; omega), show Int32.toNatClampNeg 0 = 0 from rfl, wset_at, if_neg (by omega), h]
    rfl
  | succ d ih =>
    intro fuel i w hi hf h
    obtain ⟨f, rfl⟩ : ∃ f, fuel = f + 1 := ⟨fuel - 1, by omega⟩
    have hfr : Fr (fun a => a = 144) w (wset w 144 i (w.1 142 i)) := fr1 _ _
    obtain ⟨w', e1, e2, e3, e4⟩ := ih f (i + 1) (wset w 144 i (w.1 142 i)) (by omega) (by omega) (by rw [hfr.at (by omega)]; exact h)
    refine ⟨w', ?_, hfr.tr e2, fun j hj => ?_, fun j h1 h2 => ?_⟩
    · rw [f_X11_saveSnapshot_7, if_neg (by rw [zl_66, zI_le (by omega) (by omega)]; omega), if_pos (by rw [inB_z (by omega)]; omega), if_pos (by rw [inB_z (by omega)]; omega), zI_nat (by omega), zl_1, zI_add]
      exact e1
    · rw [e3 j (by omega), wset_at, if_neg (by omega)]
    · by_cases z : j = i
      · subst z; rw [e3 j (by omega), wset_hit]
      · rw [e4 j (by omega) h2, hfr.at (by omega)]
theorem q_save (B : Nat) : QD B B f_X10_saveSnapshot f_X11_saveSnapshot := fun w q => by
  obtain ⟨⟨F, q1, hI, hC, hM⟩, q2, q3, q4, q5, q6, q7⟩ := id q
  have a1 := hI.1
  have a2 := hI.2.1
  obtain ⟨w1, k1, k2, k3⟩ := z_copy (k := 23) hC (by omega) (by omega) hI.2.2.1
  have hC1 : Cls w1.1 1 F := hC.fr k2 (fun a h1 h2 => by omega)
  have e0 : (wset w1 0 10 (zI 1)).1 2 0 = zI (F 0) := by rw [wset_at, if_neg (by omega)]; exact hC1.1
  refine ⟨zI (F 0), wset w1 0 10 (zI 1), ?_, fun v => ?_⟩
  · unfold f_X10_saveSnapshot
    rw [k1, bV_s, zl_1, e0]
  · have hM0 : Mo (wset ((wset w1 0 10 (zI 1)).1, v) 141 0 (zI 0)).1 142 0 F := fun j hj => by
      rw [wset_at, if_neg (by omega)]
      show (wset w1 0 10 (zI 1)).1 142 _ = _
      rw [wset_at, if_neg (by omega), k2.at (by omega)]
      exact hM j hj
    obtain ⟨w2, e1, e2, e3, e4⟩ := m_save_loop (t := F 0) 66 1000 0 (wset ((wset w1 0 10 (zI 1)).1, v) 141 0 (zI 0)) (by omega) (by omega) (hM0.at (by omega))
    have g : ∀ a, a ≠ 0 → a ≠ 141 → a ≠ 144 → ¬ (24 ≤ a ∧ a ≤ 33) → (wset w2 141 6 (zI 1)).1 a = w.1 a := fun a h1 h2 h3 h4 => by
      funext c
      rw [wset_at, if_neg (by omega), e2.at (by omega), wset_at, if_neg (by omega)]
      show (wset w1 0 10 (zI 1)).1 a c = _
      rw [wset_at, if_neg (by omega), k2.at (by omega)]
    have g0 : ∀ c, c ≠ 10 → (wset w2 141 6 (zI 1)).1 0 c = w.1 0 c := fun c h1 => by
      rw [wset_at, if_neg (by omega), e2.at (by omega), wset_at, if_neg (by omega)]
      show (wset w1 0 10 (zI 1)).1 0 c = _
      rw [wset_at, if_neg (by omega), k2.at (by omega)]
    have g1 : ∀ c, c ≠ 0 → c ≠ 6 → (wset w2 141 6 (zI 1)).1 141 c = w.1 141 c := fun c h1 h2 => by
      rw [wset_at, if_neg (by omega), e2.at (by omega), wset_at, if_neg (by omega)]
      show (wset w1 0 10 (zI 1)).1 141 c = _
      rw [wset_at, if_neg (by omega), k2.at (by omega)]
    have hS : RSx w.1 F := ⟨hI, hC, hM⟩
    refine ⟨wset w2 141 6 (zI 1), ?_, e2.2, ⟨⟨F, q1, hS.cg (fun a h1 h2 => g a (by omega) (by omega) (by omega) (by omega)) (g _ (by omega) (by omega) (by omega) (by omega))⟩, ⟨F, 1, by omega, ?_, wset_hit _ _ _ _, fun _ => ⟨hI, q1, k3.cg (fun a h1 h2 => ?_), fun j hj => ?_⟩⟩, q3.cg (by omega) (fun a h1 h2 => g a (by omega) (by omega) (by omega) (by omega)) (g _ (by omega) (by omega) (by omega) (by omega)) (g _ (by omega) (by omega) (by omega) (by omega)) (g1 _ (by omega) (by omega)), q4.cg (by rw [g 132 (by omega) (by omega) (by omega) (by omega)]) (g _ (by omega) (by omega) (by omega) (by omega)) (g _ (by omega) (by omega) (by omega) (by omega)) (g1 _ (by omega) (by omega)), q5.cg (by rw [g 134 (by omega) (by omega) (by omega) (by omega)]) (g _ (by omega) (by omega) (by omega) (by omega)) (g _ (by omega) (by omega) (by omega) (by omega)) (g1 _ (by omega) (by omega)), q6.cg (g0 _ (by omega)) (g1 _ (by omega) (by omega)), q7.cg (fun c h1 h2 => g0 c (by omega)) (fun c h1 h2 => g1 c (by omega) (by omega))⟩⟩
    · unfold f_X11_saveSnapshot
      exact e1
    · rw [wset_at, if_neg (by omega), e2.at (by omega), wset_at, if_neg (by omega)]
      show (wset w1 0 10 (zI 1)).1 0 10 = zI 1
      exact wset_hit _ _ _ _
    · funext c
      rw [wset_at, if_neg (by omega), e2.at (by omega), wset_at, if_neg (by omega)]
      show (wset w1 0 10 (zI 1)).1 a c = _
      rw [wset_at, if_neg (by omega)]
    · rw [wset_at, if_neg (by omega), Nat.zero_add, e4 j (by omega) hj]
      exact hM0.at hj
theorem m_rest_loop {t : Nat} : ∀ (d fuel i : Nat) (w : XW), i + d = 66 → d < fuel → (i = 66 → w.1 142 0 = zI t) → (0 < i → w.1 142 0 = zI t) → (i = 0 → w.1 144 0 = zI t) → ∃ w', f_X11_restoreSnapshot_20 fuel (zI i) w = some (zI t, wset w' 141 5 (zI 0)) ∧ Fr (fun a => a = 142) w w' ∧ (∀ j, j < i → w'.1 142 j = w.1 142 j) ∧ ∀ j, i ≤ j → j < 66 → w'.1 142 j = w.1 144 j := by
  intro d
  induction d with
  | zero =>
    intro fuel i w hi hf h h0 h00
    obtain ⟨f, rfl⟩ : ∃ f, fuel = f + 1 := ⟨fuel - 1, by omega⟩
    refine ⟨w, ?_, Fr.rf, fun j _ => rfl, fun j h1 h2 => by omega⟩
    rw [f_X11_restoreSnapshot_20, if_pos (by rw [zl_66, zI_le (by omega) (by omega)]; omega), show Int32.toNatClampNeg 0 = 0 from rfl, wset_at, if_neg (by omega), h (by omega)]
    rfl
  | succ d ih =>
    intro fuel i w hi hf h h0 h00
    obtain ⟨f, rfl⟩ : ∃ f, fuel = f + 1 := ⟨fuel - 1, by omega⟩
    have hfr : Fr (fun a => a = 142) w (wset w 142 i (w.1 144 i)) := fr1 _ _
    have hn : (wset w 142 i (w.1 144 i)).1 142 0 = zI t := by
      rw [wset_at]
      by_cases z : i = 0
      · rw [if_pos ⟨rfl, z.symm⟩, z]; exact h00 z
      · rw [if_neg (by omega)]; exact h0 (by omega)
    obtain ⟨w', e1, e2, e3, e4⟩ := ih f (i + 1) (wset w 142 i (w.1 144 i)) (by omega) (by omega) (fun _ => hn) (fun _ => hn) (fun z => by omega)
    refine ⟨w', ?_, hfr.tr e2, fun j hj => ?_, fun j h1 h2 => ?_⟩
    · rw [f_X11_restoreSnapshot_20, if_neg (by rw [zl_66, zI_le (by omega) (by omega)]; omega), if_pos (by rw [inB_z (by omega)]; omega), if_pos (by rw [inB_z (by omega)]; omega), zI_nat (by omega), zl_1, zI_add]
      exact e1
    · rw [e3 j (by omega), wset_at, if_neg (by omega)]
    · by_cases z : j = i
      · subst z; rw [e3 j (by omega), wset_hit]
      · rw [e4 j (by omega) h2, hfr.at (by omega)]
theorem q_restore (B : Nat) : QX B B f_X10_restoreSnapshot f_X11_restoreSnapshot [(ise, 1)] := fun w q => by
  obtain ⟨⟨F, q1, hI, hC, hM⟩, ⟨S, sv, s1, s2, s3, s4⟩, ⟨hs, n, nx, b1, b2, b3, b4, b5, b6⟩, q4, q5, q6, q7⟩ := id q
  by_cases e : sv = 0
  · refine Or.inl ⟨(ise, 1), List.mem_cons_self, w, ?_, fun v => ⟨zI 0, wset (wset (w.1, v) 141 0 (zI 0)) 141 0 (zI 1), ?_, rfl, wset_hit _ _ _ _, (q.thr v (zI 0)).thr (w := wset (w.1, v) 141 0 (zI 0)) v (zI 1)⟩⟩
    · unfold f_X10_restoreSnapshot
      rw [s2, if_pos (by rw [e]; rfl)]
      rfl
    · unfold f_X11_restoreSnapshot
      rw [zl_0, w13 (by omega), s3, if_pos (by rw [e])]
      rfl
  · obtain ⟨iS, bS, cS, mS⟩ := s4 (by omega)
    have z1 := iS.1
    have z2 := iS.2.1
    obtain ⟨w1, k1, k2, k3⟩ := z_copy (k := 1) cS (by omega) (by omega) iS.2.2.1
    have hfr : Fr (fun a => a = 34) w1 (wset w1 34 2 (zI 0)) := fr1 _ _
    have g1 : ∀ a, a ≠ 34 → ¬ (2 ≤ a ∧ a ≤ 11) → ∀ c, (wset w1 34 2 (zI 0)).1 a c = w.1 a c := fun a h1 h2 c => by rw [wset_at, if_neg (by omega)]; exact k2.at (by omega) c
    refine Or.inr ⟨zI (S 0), wset w1 34 2 (zI 0), ?_, fun v => ?_⟩
    · unfold f_X10_restoreSnapshot
      rw [s2, if_neg (by rw [zl_0, zI_inj (by omega) (by omega)]; exact e), k1, bV_s]
      show bV (some (wset w1 34 2 (zI 0))) _ = _
      rw [bV_s, show (wset w1 34 2 (zI 0)).1 2 0 = zI (S 0) by rw [wset_at, if_neg (by omega)]; exact k3.1]
    · obtain ⟨w2, e1, e2, e3, e4⟩ := m_rest_loop (t := S 0) 66 1000 0 (wset ((wset w1 34 2 (zI 0)).1, v) 141 0 (zI 0)) (by omega) (by omega) (fun z => by omega) (fun z => by omega) (fun _ => by
        rw [wset_at, if_neg (by omega)]
        exact (g1 144 (by omega) (by omega) 0).trans (mS.at (by omega)))
      have g2 : ∀ a, a ≠ 141 → a ≠ 142 → ∀ c, (wset w2 141 5 (zI 0)).1 a c = (wset w1 34 2 (zI 0)).1 a c := fun a h1 h2 c => by rw [wset_at, if_neg (by omega), e2.at (by omega), wset_at, if_neg (by omega)]
      have g3 : ∀ c, c ≠ 0 → c ≠ 5 → (wset w2 141 5 (zI 0)).1 141 c = w.1 141 c := fun c h1 h2 => by
        rw [wset_at, if_neg (by omega), e2.at (by omega), wset_at, if_neg (by omega)]
        exact g1 141 (by omega) (by omega) c
      have g4 : ∀ a, a ≠ 141 → a ≠ 142 → a ≠ 34 → ¬ (2 ≤ a ∧ a ≤ 11) → (wset w2 141 5 (zI 0)).1 a = w.1 a := fun a h1 h2 h3 h4 => by funext c; rw [g2 a h1 h2 c]; exact g1 a h3 h4 c
      have hN : RNx B w.1 := ⟨S, sv, s1, s2, s3, s4⟩
      refine ⟨wset w2 141 5 (zI 0), ?_, e2.2, ?_, Rel.mk2 (F := S) (hs := hs) (n := 0) (nx := nx) bS ⟨iS, (k3.fr hfr (fun a h1 h2 => by omega)).cg (fun a h1 h2 => by funext c; exact g2 a (by omega) (by omega) c), fun j hj => ?_⟩ (hN.cg (by omega) (fun a h1 h2 => g4 a (by omega) (by omega) (by omega) (by omega)) (g4 _ (by omega) (by omega) (by omega) (by omega)) (by rw [g4 0 (by omega) (by omega) (by omega) (by omega)]) (g3 _ (by omega) (by omega))) ⟨by omega, b2, ?_, ?_, fun i hi => by omega⟩ ⟨wset_hit _ _ _ _, fun i hi => by omega⟩ (fun i hi => by omega) (q4.cg (by rw [g4 132 (by omega) (by omega) (by omega) (by omega)]) (g4 _ (by omega) (by omega) (by omega) (by omega)) (g4 _ (by omega) (by omega) (by omega) (by omega)) (g3 _ (by omega) (by omega))) (q5.cg (by rw [g4 134 (by omega) (by omega) (by omega) (by omega)]) (g4 _ (by omega) (by omega) (by omega) (by omega)) (g4 _ (by omega) (by omega) (by omega) (by omega)) (g3 _ (by omega) (by omega))) (q6.cg (by rw [g4 0 (by omega) (by omega) (by omega) (by omega)]) (g3 _ (by omega) (by omega))) (q7.cg (fun c h1 h2 => by rw [g4 0 (by omega) (by omega) (by omega) (by omega)]) (fun c h1 h2 => g3 c (by omega) (by omega)))⟩
      · unfold f_X11_restoreSnapshot
        rw [zl_0, w13 (by omega), g1 141 (by omega) (by omega), s3, if_neg (by rw [zI_inj (by omega) (by omega)]; exact e)]
        exact e1
      · rw [wset_at, if_neg (by omega), e2.at (by omega), wset_hit]
      · rw [wset_at, if_neg (by omega), Nat.zero_add, e4 j (by omega) hj, wset_at, if_neg (by omega)]
        exact (g1 144 (by omega) (by omega) j).trans (mS.at hj)
      · rw [g2 34 (by omega) (by omega), wset_at, if_neg (by omega), k2.at (by omega)]; exact b3
      · rw [g2 34 (by omega) (by omega)]; exact wset_hit _ _ _ _
/-! the text buffer -/
theorem row132 : rowN 132 = 60 := by decide +kernel
theorem row134 : rowN 134 = 14 := by decide +kernel
theorem q_feed (B : Nat) {c : Nat} (hc : c < 65536) : QX B B (f_X10_feed (zI c)) (f_X11_feed (zI c)) [(ise, 1)] := fun w q => by
  obtain ⟨q1, q2, q3, ⟨t, t1, t2, t3, t4⟩, q5, q6, q7⟩ := id q
  by_cases e : t = 60
  · refine Or.inl ⟨(ise, 1), List.mem_cons_self, w, ?_, fun v => ⟨zI 0, wset (w.1, v) 141 0 (zI 1), ?_, rfl, wset_hit _ _ _ _, q.thr v _⟩⟩
    · unfold f_X10_feed f_X6_isFull
      rw [t2, row132]
      show bI (if zI t < zI 60 then _ else _) _ = _
      rw [if_neg (by rw [zI_lt (by omega) (by omega)]; omega), bI_s, if_neg (by decide)]
      rfl
    · unfold f_X11_feed
      rw [show (w.1, v).1 141 11 = zI t from t3, if_pos (by rw [e]; rfl), zl_1, if_neg (thr_pos (by omega) (by omega)).1]
      rfl
  · have hput : f_X6_put 132 (zI c) w = some (wset (wset w 133 t (zI c)) 132 1 (zI (t + 1))) := by
      unfold f_X6_put
      rw [t2, row132]
      show (if zI 60 ≤ zI t then _ else _) = _
      rw [if_neg (by rw [zI_le (by omega) (by omega)]; omega), if_pos (by rw [inB_z (by omega)]; omega), ch_nar hc, zI_nat (by omega), wset_at, if_neg (by omega), t2, zl_1, zI_add]
    refine Or.inr ⟨zI (t + 1), wset (wset w 133 t (zI c)) 132 1 (zI (t + 1)), ?_, fun v => ⟨wset (wset (wset ((wset (wset w 133 t (zI c)) 132 1 (zI (t + 1))).1, v) 141 0 (zI 0)) 146 t (zI c)) 141 11 (zI (t + 1)), ?_, rfl, ?_, ?_⟩⟩
    · unfold f_X10_feed f_X6_isFull
      rw [t2, row132]
      show bI (if zI t < zI 60 then _ else _) _ = _
      rw [if_pos (by rw [zI_lt (by omega) (by omega)]; omega), bI_s, if_pos (by rfl), hput, bV_s, wset_hit]
    · have h11 : ((wset (wset w 133 t (zI c)) 132 1 (zI (t + 1))).1, v).1 141 11 = zI t := by
        show (wset (wset w 133 t (zI c)) 132 1 (zI (t + 1))).1 141 11 = zI t
        rw [wset_at, if_neg (by omega), wset_at, if_neg (by omega)]; exact t3
      have h11' : (wset ((wset (wset w 133 t (zI c)) 132 1 (zI (t + 1))).1, v) 141 0 0).1 141 11 = zI t := by rw [wset_at, if_neg (by omega)]; exact h11
      unfold f_X11_feed
      rw [h11, if_neg (by rw [zl_60, zI_inj (by omega) (by omega)]; exact e), if_pos (by rw [wset_hit]; decide), h11', if_pos (by rw [inB_z (by omega)]; omega), zI_nat (by omega)]
      have h12 : (wset (wset ((wset (wset w 133 t (zI c)) 132 1 (zI (t + 1))).1, v) 141 0 0) 146 t (zI c)).1 141 11 = zI t := by rw [wset_at, if_neg (by omega)]; exact h11'
      rw [h12, zl_1, zI_add, wset_hit]
      rfl
    · rw [wset_at, if_neg (by omega), wset_at, if_neg (by omega), wset_hit]
    · obtain ⟨X, hX⟩ : ∃ X, X = (wset (wset (wset ((wset (wset w 133 t (zI c)) 132 1 (zI (t + 1))).1, v) 141 0 (zI 0)) 146 t (zI c)) 141 11 (zI (t + 1))).1 := ⟨_, rfl⟩
      have g : ∀ a, a ≠ 132 → a ≠ 133 → a ≠ 141 → a ≠ 146 → X a = w.1 a := fun a h1 h2 h3 h4 => by
        funext y
        rw [hX]
        simp (disch := omega) only [wset_at, if_neg]
      have g1 : ∀ y, y ≠ 0 → y ≠ 11 → X 141 y = w.1 141 y := fun y h1 h2 => by
        rw [hX]
        simp (disch := omega) only [wset_at, if_neg]
      rw [← hX]
      obtain ⟨F, hF, hS⟩ := q1
      refine ⟨⟨F, hF, hS.cg (fun a h1 h2 => g a (by omega) (by omega) (by omega) (by omega)) (g _ (by omega) (by omega) (by omega) (by omega))⟩, q2.cg (by omega) (fun a h1 h2 => g a (by omega) (by omega) (by omega) (by omega)) (g _ (by omega) (by omega) (by omega) (by omega)) (by rw [g 0 (by omega) (by omega) (by omega) (by omega)]) (g1 _ (by omega) (by omega)), q3.cg (by omega) (fun a h1 h2 => g a (by omega) (by omega) (by omega) (by omega)) (g _ (by omega) (by omega) (by omega) (by omega)) (g _ (by omega) (by omega) (by omega) (by omega)) (g1 _ (by omega) (by omega)), ⟨t + 1, by omega, ?_, ?_, fun i hi => ?_⟩, q5.cg (by rw [g 134 (by omega) (by omega) (by omega) (by omega)]) (g _ (by omega) (by omega) (by omega) (by omega)) (g _ (by omega) (by omega) (by omega) (by omega)) (g1 _ (by omega) (by omega)), q6.cg (by rw [g 0 (by omega) (by omega) (by omega) (by omega)]) (g1 _ (by omega) (by omega)), q7.cg (fun y h1 h2 => by rw [g 0 (by omega) (by omega) (by omega) (by omega)]) (fun y h1 h2 => g1 y (by omega) (by omega))⟩
      · rw [hX]; simp (disch := omega) only [wset_at, if_neg, if_pos, and_self, if_true]
      · rw [hX]; simp (disch := omega) only [wset_at, if_neg, if_pos, and_self, if_true]
      · by_cases z : i = t
        · refine ⟨c, hc, ?_, ?_⟩
          · rw [hX, z]; simp (disch := omega) only [wset_at, if_neg, if_pos, and_self, if_true]
          · rw [hX, z]; simp (disch := omega) only [wset_at, if_neg, if_pos, and_self, if_true]
        · obtain ⟨c', c1, c2, c3⟩ := t4 i (by omega)
          refine ⟨c', c1, ?_, ?_⟩
          · rw [hX]; simp (disch := omega) only [wset_at, if_neg]; exact c2
          · rw [hX]; simp (disch := omega) only [wset_at, if_neg]; exact c3
theorem q_clear (B : Nat) : QD B B f_X10_clearText f_X11_clearText := fun w q => by
  obtain ⟨q1, q2, q3, ⟨t, t1, t2, t3, t4⟩, q5, q6, q7⟩ := id q
  refine ⟨zI t, wset w 132 1 (zI 0), ?_, fun v => ⟨wset (wset ((wset w 132 1 (zI 0)).1, v) 141 0 (zI 0)) 141 11 (zI 0), ?_, rfl, ?_⟩⟩
  · unfold f_X10_clearText f_X6_empty
    rw [bV_s, t2]
    rfl
  · unfold f_X11_clearText
    rw [zl_0, wset_at, if_neg (by omega)]
    show some ((wset w 132 1 (zI 0)).1 141 11, _) = _
    rw [wset_at, if_neg (by omega), t3]
  · obtain ⟨X, hX⟩ : ∃ X, X = (wset (wset ((wset w 132 1 (zI 0)).1, v) 141 0 (zI 0)) 141 11 (zI 0)).1 := ⟨_, rfl⟩
    have g : ∀ a, a ≠ 132 → a ≠ 141 → X a = w.1 a := fun a h1 h2 => by
      funext y
      rw [hX]
      simp (disch := omega) only [wset_at, if_neg]
    have g1 : ∀ y, y ≠ 0 → y ≠ 11 → X 141 y = w.1 141 y := fun y h1 h2 => by
      rw [hX]
      simp (disch := omega) only [wset_at, if_neg]
    rw [← hX]
    obtain ⟨F, hF, hS⟩ := q1
    refine ⟨⟨F, hF, hS.cg (fun a h1 h2 => g a (by omega) (by omega)) (g _ (by omega) (by omega))⟩, q2.cg (by omega) (fun a h1 h2 => g a (by omega) (by omega)) (g _ (by omega) (by omega)) (by rw [g 0 (by omega) (by omega)]) (g1 _ (by omega) (by omega)), q3.cg (by omega) (fun a h1 h2 => g a (by omega) (by omega)) (g _ (by omega) (by omega)) (g _ (by omega) (by omega)) (g1 _ (by omega) (by omega)), ⟨0, by omega, ?_, ?_, fun i hi => by omega⟩, q5.cg (by rw [g 134 (by omega) (by omega)]) (g _ (by omega) (by omega)) (g _ (by omega) (by omega)) (g1 _ (by omega) (by omega)), q6.cg (by rw [g 0 (by omega) (by omega)]) (g1 _ (by omega) (by omega)), q7.cg (fun y h1 h2 => by rw [g 0 (by omega) (by omega)]) (fun y h1 h2 => g1 y (by omega) (by omega))⟩
    · rw [hX]; simp (disch := omega) only [wset_at, if_neg, if_pos, and_self, if_true]
    · rw [hX]; simp (disch := omega) only [wset_at, if_neg, if_pos, and_self, if_true]
