theorem dL_cell_0 : decode cL_cell 0 = .ok (.iload_n 1, 1) := by decide +kernel
theorem dL_cell_1 : decode cL_cell 1 = .ok (.aload_n 0, 1) := by decide +kernel
theorem dL_cell_2 : decode cL_cell 2 = .ok (.arraylength, 1) := by decide +kernel
theorem dL_cell_3 : decode cL_cell 3 = .ok (.if_icmp .ge 9, 3) := by decide +kernel
theorem dL_cell_6 : decode cL_cell 6 = .ok (.aload_n 0, 1) := by decide +kernel
theorem dL_cell_7 : decode cL_cell 7 = .ok (.iload_n 1, 1) := by decide +kernel
theorem dL_cell_8 : decode cL_cell 8 = .ok (.iaload, 1) := by decide +kernel
theorem dL_cell_9 : decode cL_cell 9 = .ok (.goto 7, 3) := by decide +kernel
theorem dL_cell_12 : decode cL_cell 12 = .ok (.ldc 7, 2) := by decide +kernel
theorem dL_cell_14 : decode cL_cell 14 = .ok (.iload_n 1, 1) := by decide +kernel
theorem dL_cell_15 : decode cL_cell 15 = .ok (.imul, 1) := by decide +kernel
theorem dL_cell_16 : decode cL_cell 16 = .ok (.ireturn, 1) := by decide +kernel
def f_L_cell_16 (sc : Nat × (Nat → Int32)) (u0 : Int32) (w : XW) : Option (Int32 × XW) := (some (u0, w))
set_option maxRecDepth 100000 in
theorem S_L_cell_16 {g : GC} (hl : g.1.stackTraces = false) : ∀ (u0 : Int32) (w : XW) (kc ks : Nat), kc + 0 ≤ 0 → ks + 0 ≤ 0 → VE g cL_cell 2 RL (some .int) [] (rmL 3 0 0) 0 0 oI kc ks 16 [] [.int u0] w (f_L_cell_16 (scG g)  u0 w) := by
  intro u0 w kc ks hk hks
  unfold f_L_cell_16
  exact v_iret dL_cell_16 rfl rfl (by omega) (by omega)
def f_L_cell (sc : Nat × (Nat → Int32)) (x1 : Int32) (w : XW) : Option (Int32 × XW) := (if (Int32.ofNat sc.1) ≤ x1 then (f_L_cell_16 sc (40503 * x1) w) else (if inB x1 sc.1 then (f_L_cell_16 sc (sc.2 (Int32.toNatClampNeg x1)) w) else none))
set_option maxRecDepth 100000 in
theorem W_L_cell {g : GC} (hl : g.1.stackTraces = false) {x1 : Int32} {w : XW} : VE g cL_cell 2 RL (some .int) [] (rmL 3 0 0) 0 0 oI 0 0 0 [(0, .ref g.2.2.2.2.2.2.1), (1, .int x1)] [] w (f_L_cell (scG g) x1 w) := by
  unfold f_L_cell
  refine v_iload_n dL_cell_0 rfl 1 rfl ?_
  refine v_aload_n dL_cell_1 rfl 0 rfl ?_
  refine v_slen dL_cell_2 ?_
  refine v_icmp_ge (tgt := 12) dL_cell_3 (by decide) ?_ ?_
  · refine v_ldc gw_365 dL_cell_12 ?_
    refine v_iload_n dL_cell_14 rfl 1 rfl ?_
    refine v_imul dL_cell_15 ?_
    refine v_sub [] rfl ?_
    exact S_L_cell_16 hl _ _ _ _ (by omega) (by omega)
  · refine v_aload_n dL_cell_6 rfl 0 rfl ?_
    refine v_iload_n dL_cell_7 rfl 1 rfl ?_
    refine v_guard (fun h1 => ?_)
    refine v_sld h1 dL_cell_8 ?_
    refine v_goto (tgt := 16) dL_cell_9 (by decide) ?_
    refine v_sub [] rfl ?_
    exact S_L_cell_16 hl _ _ _ _ (by omega) (by omega)
theorem S_L_cell {g : GC} (hl : g.1.stackTraces = false) {x1 : Int32} {w : XW} : ∀ q, f_L_cell (scG g) x1 w = some q → MM g (.code yL_cell cL_cell 2 (some .int)) yL_cell (rmL 3 0 0) 0 0 [.ref g.2.2.2.2.2.2.1, .int x1] w (oI q) := fun q hq => MM_of (own := RL) hl (by decide) gw_364 rfl (Nat.le_of_ble_eq_true rfl) (W_L_cell hl q hq) ⟨rfl, rfl⟩

theorem dL_pick_0 : decode cL_pick 0 = .ok (.aload_n 0, 1) := by decide +kernel
theorem dL_pick_1 : decode cL_pick 1 = .ok (.iload_n 1, 1) := by decide +kernel
theorem dL_pick_2 : decode cL_pick 2 = .ok (.invokestatic 8, 3) := by decide +kernel
theorem dL_pick_5 : decode cL_pick 5 = .ok (.iconst 1, 1) := by decide +kernel
theorem dL_pick_6 : decode cL_pick 6 = .ok (.iushr, 1) := by decide +kernel
theorem dL_pick_7 : decode cL_pick 7 = .ok (.iload_n 2, 1) := by decide +kernel
theorem dL_pick_8 : decode cL_pick 8 = .ok (.irem, 1) := by decide +kernel
theorem dL_pick_9 : decode cL_pick 9 = .ok (.ireturn, 1) := by decide +kernel
def f_L_pick (sc : Nat × (Nat → Int32)) (x1 : Int32) (x2 : Int32) (w : XW) : Option (Int32 × XW) := (bI (f_L_cell sc x1 w) (fun r1 w1 => (if ¬ (x2 = 0) then (some ((((Int32.toUInt32 r1 >>> (Int32.toUInt32 1 &&& Int32.toUInt32 31)).toInt32) - ((Int32.toUInt32 r1 >>> (Int32.toUInt32 1 &&& Int32.toUInt32 31)).toInt32) / x2 * x2), w1)) else none)))
set_option maxRecDepth 100000 in
theorem W_L_pick {g : GC} (hl : g.1.stackTraces = false) {x1 : Int32} {x2 : Int32} {w : XW} : VE g cL_pick 3 RL (some .int) [] (rmL 4 0 0) 0 0 oI 0 0 0 [(0, .ref g.2.2.2.2.2.2.1), (1, .int x1), (2, .int x2)] [] w (f_L_pick (scG g) x1 x2 w) := by
  unfold f_L_pick
  refine v_aload_n dL_pick_0 rfl 0 rfl ?_
  refine v_iload_n dL_pick_1 rfl 1 rfl ?_
  refine v_callSi (As := [.ref g.2.2.2.2.2.2.1, .int x1]) cs_L_8 (S_L_cell hl) rfl rfl (Nat.le_of_ble_eq_true rfl) dL_pick_2 (CR_rm (by decide) (by decide) (by omega) (by omega)) (fun r1 w1 => ?_)
  refine v_iconst (v := 1) dL_pick_5 (by decide) ?_
  refine v_iushr dL_pick_6 ?_
  refine v_iload_n dL_pick_7 rfl 2 rfl ?_
  refine v_guard (fun h2 => ?_)
  refine v_irem dL_pick_8 h2 ?_
  exact v_iret dL_pick_9 rfl rfl (by omega) (by omega)
theorem S_L_pick {g : GC} (hl : g.1.stackTraces = false) {x1 : Int32} {x2 : Int32} {w : XW} : ∀ q, f_L_pick (scG g) x1 x2 w = some q → MM g (.code yL_pick cL_pick 3 (some .int)) yL_pick (rmL 4 0 0) 0 0 [.ref g.2.2.2.2.2.2.1, .int x1, .int x2] w (oI q) := fun q hq => MM_of (own := RL) hl (by decide) gw_361 rfl (Nat.le_of_ble_eq_true rfl) (W_L_pick hl q hq) ⟨rfl, rfl⟩

theorem dL_feeds_0 : decode cL_feeds 0 = .ok (.iconst 0, 1) := by decide +kernel
theorem dL_feeds_1 : decode cL_feeds 1 = .ok (.istore_n 2, 1) := by decide +kernel
theorem dL_feeds_2 : decode cL_feeds 2 = .ok (.iload_n 2, 1) := by decide +kernel
theorem dL_feeds_3 : decode cL_feeds 3 = .ok (.aload_n 1, 1) := by decide +kernel
theorem dL_feeds_4 : decode cL_feeds 4 = .ok (.invokevirtual 162, 3) := by decide +kernel
theorem dL_feeds_7 : decode cL_feeds 7 = .ok (.if_icmp .ge 19, 3) := by decide +kernel
theorem dL_feeds_10 : decode cL_feeds 10 = .ok (.aload_n 0, 1) := by decide +kernel
theorem dL_feeds_11 : decode cL_feeds 11 = .ok (.aload_n 1, 1) := by decide +kernel
theorem dL_feeds_12 : decode cL_feeds 12 = .ok (.iload_n 2, 1) := by decide +kernel
theorem dL_feeds_13 : decode cL_feeds 13 = .ok (.invokevirtual 167, 3) := by decide +kernel
theorem dL_feeds_16 : decode cL_feeds 16 = .ok (.invokestatic 170, 3) := by decide +kernel
theorem dL_feeds_19 : decode cL_feeds 19 = .ok (.istore_n 3, 1) := by decide +kernel
theorem dL_feeds_20 : decode cL_feeds 20 = .ok (.iinc 2 1, 3) := by decide +kernel
theorem dL_feeds_23 : decode cL_feeds 23 = .ok (.goto (-21), 3) := by decide +kernel
theorem dL_feeds_26 : decode cL_feeds 26 = .ok (.return_, 1) := by decide +kernel
def f_L_feeds_2 (tx : List Int32) : Nat → Int32 → XW → Option (XW)
  | 0, _, _ => none
  | n + 1, z2, w => (bI (f_tlen tx w) (fun r1 w1 => (if r1 ≤ z2 then (some w1) else (bI (f_tchar tx z2 w1) (fun r2 w2 => (bI (f_L_feed r2 w2) (fun r3 w3 => (f_L_feeds_2 tx n (z2 + 1) w3))))))))
set_option maxRecDepth 100000 in
theorem S_L_feeds_2 {g : GC} (hl : g.1.stackTraces = false) : ∀ (n : Nat) (z2 : Int32) (w : XW) (kc ks : Nat), kc + (1 * n + 0) ≤ 40 → ks + (6 * n + 0) ≤ 240 → VE g cL_feeds 4 RL none [] (rmL 6 40 240) 40 240 oV kc ks 2 [(0, .ref (g.2.1 + 0)), (1, .ref (g.2.2.2.2.1 26)), (2, .int z2)] [] w (f_L_feeds_2 (txG g)  n z2 w) := by
  intro n
  induction n with
  | zero => intro z2 w kc ks hk hks; exact v_none
  | succ n ih =>
    intro z2 w kc ks hk hks
    rw [f_L_feeds_2]
    refine v_iload_n dL_feeds_2 rfl 2 rfl ?_
    refine v_aload_n dL_feeds_3 rfl 1 rfl ?_
    refine v_call_lengthT hl cv_L_162 rfl (Nat.le_of_ble_eq_true rfl) dL_feeds_4 (CR_rm (by decide) (by decide) (by omega) (by omega)) (fun r1 w1 => ?_)
    refine v_icmp_ge (tgt := 26) dL_feeds_7 (by decide) ?_ ?_
    · exact v_vret dL_feeds_26 rfl rfl (by omega) (by omega)
    · refine v_aload_n dL_feeds_10 rfl 0 rfl ?_
      refine v_aload_n dL_feeds_11 rfl 1 rfl ?_
      refine v_iload_n dL_feeds_12 rfl 2 rfl ?_
      refine v_call_charAtT hl cv_L_167 rfl (Nat.le_of_ble_eq_true rfl) dL_feeds_13 (CR_rm (by decide) (by decide) (by omega) (by omega)) (fun r2 w2 => ?_)
      refine v_callSh (As := [.ref (g.2.1 + 0), .int r2]) ch_L_170 (S_L_feed hl) rfl rfl (Nat.le_of_ble_eq_true rfl) dL_feeds_16 (CR_rm (by decide) (by decide) (by omega) (by omega)) (fun r3 w3 => ?_)
      refine v_istore_n dL_feeds_19 rfl (Nat.le_of_ble_eq_true rfl) rfl ?_
      refine v_iinc (v := (z2 + 1)) dL_feeds_20 (q := 3) rfl rfl (Nat.le_of_ble_eq_true rfl) rfl ?_
      refine v_goto (tgt := 2) dL_feeds_23 (by decide) ?_
      refine v_sub [2, 3, 0] rfl ?_
      exact ih _ _ _ _ (by omega) (by omega)
def f_L_feeds (tx : List Int32) (w : XW) : Option (XW) := (f_L_feeds_2 tx 40 0 w)
set_option maxRecDepth 100000 in
theorem W_L_feeds {g : GC} (hl : g.1.stackTraces = false) {w : XW} : VE g cL_feeds 4 RL none [] (rmL 6 40 240) 40 240 oV 0 0 0 [(0, .ref (g.2.1 + 0)), (1, .ref (g.2.2.2.2.1 26))] [] w (f_L_feeds (txG g)  w) := by
  unfold f_L_feeds
  refine v_iconst (v := 0) dL_feeds_0 (by decide) ?_
  refine v_istore_n dL_feeds_1 rfl (Nat.le_of_ble_eq_true rfl) rfl ?_
  refine v_sub [1, 2, 0] rfl ?_
  exact S_L_feeds_2 hl _ _ _ _ _ (by omega) (by omega)
theorem S_L_feeds {g : GC} (hl : g.1.stackTraces = false) {w : XW} : ∀ q, f_L_feeds (txG g)  w = some q → MM g (.code yL_feeds cL_feeds 4 none) yL_feeds (rmL 6 40 240) 40 240 [.ref (g.2.1 + 0), .ref (g.2.2.2.2.1 26)] w (oV q) := fun q hq => MM_of (own := RL) hl (by decide) gw_1217 rfl (Nat.le_of_ble_eq_true rfl) (W_L_feeds hl q hq) ⟨rfl, rfl⟩

theorem dL_runs_0 : decode cL_runs 0 = .ok (.aload_n 0, 1) := by decide +kernel
theorem dL_runs_1 : decode cL_runs 1 = .ok (.aload_n 1, 1) := by decide +kernel
theorem dL_runs_2 : decode cL_runs 2 = .ok (.invokestatic 173, 3) := by decide +kernel
theorem dL_runs_5 : decode cL_runs 5 = .ok (.aload_n 0, 1) := by decide +kernel
theorem dL_runs_6 : decode cL_runs 6 = .ok (.invokestatic 177, 3) := by decide +kernel
theorem dL_runs_9 : decode cL_runs 9 = .ok (.ireturn, 1) := by decide +kernel
def f_L_runs (tx : List Int32) (w : XW) : Option (Int32 × XW) := (bV (f_L_feeds tx w) (fun w1 => (bI (f_L_execute w1) (fun r2 w2 => (some (r2, w2))))))
set_option maxRecDepth 100000 in
theorem W_L_runs {g : GC} (hl : g.1.stackTraces = false) {w : XW} : VE g cL_runs 2 RL (some .int) [] (rmL 12 42 252) 42 252 oI 0 0 0 [(0, .ref (g.2.1 + 0)), (1, .ref (g.2.2.2.2.1 26))] [] w (f_L_runs (txG g)  w) := by
  unfold f_L_runs
  refine v_aload_n dL_runs_0 rfl 0 rfl ?_
  refine v_aload_n dL_runs_1 rfl 1 rfl ?_
  refine v_callSv (As := [.ref (g.2.1 + 0), .ref (g.2.2.2.2.1 26)]) cs_L_173 (S_L_feeds hl) rfl rfl (Nat.le_of_ble_eq_true rfl) dL_runs_2 (CR_rm (by decide) (by decide) (by omega) (by omega)) (fun w1 => ?_)
  refine v_aload_n dL_runs_5 rfl 0 rfl ?_
  refine v_callSh (As := [.ref (g.2.1 + 0)]) ch_L_177 (S_L_execute hl) rfl rfl (Nat.le_of_ble_eq_true rfl) dL_runs_6 (CR_rm (by decide) (by decide) (by omega) (by omega)) (fun r2 w2 => ?_)
  exact v_iret dL_runs_9 rfl rfl (by omega) (by omega)
theorem S_L_runs {g : GC} (hl : g.1.stackTraces = false) {w : XW} : ∀ q, f_L_runs (txG g)  w = some q → MM g (.code yL_runs cL_runs 2 (some .int)) yL_runs (rmL 12 42 252) 42 252 [.ref (g.2.1 + 0), .ref (g.2.2.2.2.1 26)] w (oI q) := fun q hq => MM_of (own := RL) hl (by decide) gw_1214 rfl (Nat.le_of_ble_eq_true rfl) (W_L_runs hl q hq) ⟨rfl, rfl⟩

theorem dL_finds_0 : decode cL_finds 0 = .ok (.aload_n 0, 1) := by decide +kernel
theorem dL_finds_1 : decode cL_finds 1 = .ok (.aload_n 1, 1) := by decide +kernel
theorem dL_finds_2 : decode cL_finds 2 = .ok (.invokestatic 173, 3) := by decide +kernel
theorem dL_finds_5 : decode cL_finds 5 = .ok (.aload_n 0, 1) := by decide +kernel
theorem dL_finds_6 : decode cL_finds 6 = .ok (.invokestatic 180, 3) := by decide +kernel
theorem dL_finds_9 : decode cL_finds 9 = .ok (.istore_n 2, 1) := by decide +kernel
theorem dL_finds_10 : decode cL_finds 10 = .ok (.aload_n 0, 1) := by decide +kernel
theorem dL_finds_11 : decode cL_finds 11 = .ok (.invokevirtual 182, 3) := by decide +kernel
theorem dL_finds_14 : decode cL_finds 14 = .ok (.istore_n 3, 1) := by decide +kernel
theorem dL_finds_15 : decode cL_finds 15 = .ok (.iload_n 3, 1) := by decide +kernel
theorem dL_finds_16 : decode cL_finds 16 = .ok (.aload_n 1, 1) := by decide +kernel
theorem dL_finds_17 : decode cL_finds 17 = .ok (.invokevirtual 162, 3) := by decide +kernel
theorem dL_finds_20 : decode cL_finds 20 = .ok (.if_icmp .ne 7, 3) := by decide +kernel
theorem dL_finds_23 : decode cL_finds 23 = .ok (.iload_n 2, 1) := by decide +kernel
theorem dL_finds_24 : decode cL_finds 24 = .ok (.goto 4, 3) := by decide +kernel
theorem dL_finds_27 : decode cL_finds 27 = .ok (.iconst (-1), 1) := by decide +kernel
theorem dL_finds_28 : decode cL_finds 28 = .ok (.ireturn, 1) := by decide +kernel
def f_L_finds_28 (tx : List Int32) (u0 : Int32) (w : XW) : Option (Int32 × XW) := (some (u0, w))
set_option maxRecDepth 100000 in
theorem S_L_finds_28 {g : GC} (hl : g.1.stackTraces = false) : ∀ (u0 : Int32) (w : XW) (kc ks : Nat), kc + 0 ≤ 41 → ks + 0 ≤ 246 → VE g cL_finds 4 RL (some .int) [] (rmL 33 41 246) 41 246 oI kc ks 28 [] [.int u0] w (f_L_finds_28 (txG g)  u0 w) := by
  intro u0 w kc ks hk hks
  unfold f_L_finds_28
  exact v_iret dL_finds_28 rfl rfl (by omega) (by omega)
def f_L_finds (tx : List Int32) (w : XW) : Option (Int32 × XW) := (bV (f_L_feeds tx w) (fun w1 => (bI (f_L_search w1) (fun r2 w2 => (bI (f_X10_clearText w2) (fun r3 w3 => (bI (f_tlen tx w3) (fun r4 w4 => (if r3 = r4 then (f_L_finds_28 tx r2 w4) else (f_L_finds_28 tx (-1) w4))))))))))
set_option maxRecDepth 100000 in
theorem W_L_finds {g : GC} (hl : g.1.stackTraces = false) {w : XW} : VE g cL_finds 4 RL (some .int) [] (rmL 33 41 246) 41 246 oI 0 0 0 [(0, .ref (g.2.1 + 0)), (1, .ref (g.2.2.2.2.1 26))] [] w (f_L_finds (txG g)  w) := by
  unfold f_L_finds
  refine v_aload_n dL_finds_0 rfl 0 rfl ?_
  refine v_aload_n dL_finds_1 rfl 1 rfl ?_
  refine v_callSv (As := [.ref (g.2.1 + 0), .ref (g.2.2.2.2.1 26)]) cs_L_173 (S_L_feeds hl) rfl rfl (Nat.le_of_ble_eq_true rfl) dL_finds_2 (CR_rm (by decide) (by decide) (by omega) (by omega)) (fun w1 => ?_)
  refine v_aload_n dL_finds_5 rfl 0 rfl ?_
  refine v_callSh (As := [.ref (g.2.1 + 0)]) ch_L_180 (S_L_search hl) rfl rfl (Nat.le_of_ble_eq_true rfl) dL_finds_6 (CR_rm (by decide) (by decide) (by omega) (by omega)) (fun r2 w2 => ?_)
  refine v_istore_n dL_finds_9 rfl (Nat.le_of_ble_eq_true rfl) rfl ?_
  refine v_aload_n dL_finds_10 rfl 1 rfl ?_
  refine v_callVi (As := []) cv_L_182 (S_X10_clearText hl) tt_0 rfl rfl rfl (Nat.le_of_ble_eq_true rfl) dL_finds_11 (CR_rm (by decide) (by decide) (by omega) (by omega)) (fun r3 w3 => ?_)
  refine v_istore_n dL_finds_14 rfl (Nat.le_of_ble_eq_true rfl) rfl ?_
  refine v_iload_n dL_finds_15 rfl 0 rfl ?_
  refine v_aload_n dL_finds_16 rfl 3 rfl ?_
  refine v_call_lengthT hl cv_L_162 rfl (Nat.le_of_ble_eq_true rfl) dL_finds_17 (CR_rm (by decide) (by decide) (by omega) (by omega)) (fun r4 w4 => ?_)
  refine v_icmp_ne (tgt := 27) dL_finds_20 (by decide) ?_ ?_
  · refine v_iconst (v := (-1)) dL_finds_27 (by decide) ?_
    refine v_sub [] rfl ?_
    exact S_L_finds_28 hl _ _ _ _ (by omega) (by omega)
  · refine v_iload_n dL_finds_23 rfl 1 rfl ?_
    refine v_goto (tgt := 28) dL_finds_24 (by decide) ?_
    refine v_sub [] rfl ?_
    exact S_L_finds_28 hl _ _ _ _ (by omega) (by omega)
theorem S_L_finds {g : GC} (hl : g.1.stackTraces = false) {w : XW} : ∀ q, f_L_finds (txG g)  w = some q → MM g (.code yL_finds cL_finds 4 (some .int)) yL_finds (rmL 33 41 246) 41 246 [.ref (g.2.1 + 0), .ref (g.2.2.2.2.1 26)] w (oI q) := fun q hq => MM_of (own := RL) hl (by decide) gw_1490 rfl (Nat.le_of_ble_eq_true rfl) (W_L_finds hl q hq) ⟨rfl, rfl⟩

theorem dL_over_0 : decode cL_over 0 = .ok (.iconst 0, 1) := by decide +kernel
theorem dL_over_1 : decode cL_over 1 = .ok (.istore_n 1, 1) := by decide +kernel
theorem dL_over_2 : decode cL_over 2 = .ok (.iconst 0, 1) := by decide +kernel
theorem dL_over_3 : decode cL_over 3 = .ok (.istore_n 2, 1) := by decide +kernel
theorem dL_over_4 : decode cL_over 4 = .ok (.iload_n 2, 1) := by decide +kernel
theorem dL_over_5 : decode cL_over 5 = .ok (.aload_n 0, 1) := by decide +kernel
theorem dL_over_6 : decode cL_over 6 = .ok (.invokevirtual 209, 3) := by decide +kernel
theorem dL_over_9 : decode cL_over 9 = .ok (.if_icmp .ge 24, 3) := by decide +kernel
theorem dL_over_12 : decode cL_over 12 = .ok (.iload_n 1, 1) := by decide +kernel
theorem dL_over_13 : decode cL_over 13 = .ok (.iconst 0, 1) := by decide +kernel
theorem dL_over_14 : decode cL_over 14 = .ok (.aload_n 0, 1) := by decide +kernel
theorem dL_over_15 : decode cL_over 15 = .ok (.iload_n 2, 1) := by decide +kernel
theorem dL_over_16 : decode cL_over 16 = .ok (.invokestatic 217, 3) := by decide +kernel
theorem dL_over_19 : decode cL_over 19 = .ok (.bipush 20, 2) := by decide +kernel
theorem dL_over_21 : decode cL_over 21 = .ok (.isub, 1) := by decide +kernel
theorem dL_over_22 : decode cL_over 22 = .ok (.invokestatic 254, 3) := by decide +kernel
theorem dL_over_25 : decode cL_over 25 = .ok (.iadd, 1) := by decide +kernel
theorem dL_over_26 : decode cL_over 26 = .ok (.istore_n 1, 1) := by decide +kernel
theorem dL_over_27 : decode cL_over 27 = .ok (.iinc 2 1, 3) := by decide +kernel
theorem dL_over_30 : decode cL_over 30 = .ok (.goto (-26), 3) := by decide +kernel
theorem dL_over_33 : decode cL_over 33 = .ok (.iload_n 1, 1) := by decide +kernel
theorem dL_over_34 : decode cL_over 34 = .ok (.ireturn, 1) := by decide +kernel
def f_L_over_4 : Nat → Int32 → Int32 → XW → Option (Int32 × XW)
  | 0, _, _, _ => none
  | n + 1, z1, z2, w => (bI (f_X10_foldedCount w) (fun r1 w1 => (if r1 ≤ z2 then (some (z1, w1)) else (bI (f_L_water z2 w1) (fun r2 w2 => (f_L_over_4 n (z1 + (if 0 < (r2 - 20) then (r2 - 20) else 0)) (z2 + 1) w2))))))
set_option maxRecDepth 100000 in
theorem S_L_over_4 {g : GC} (hl : g.1.stackTraces = false) : ∀ (n : Nat) (z1 : Int32) (z2 : Int32) (w : XW) (kc ks : Nat), kc + (1 * n + 0) ≤ 12 → ks + (6 * n + 0) ≤ 72 → VE g cL_over 3 RL (some .int) [] (rmL 7 12 72) 12 72 oI kc ks 4 [(0, .ref (g.2.1 + 0)), (1, .int z1), (2, .int z2)] [] w (f_L_over_4  n z1 z2 w) := by
  intro n
  induction n with
  | zero => intro z1 z2 w kc ks hk hks; exact v_none
  | succ n ih =>
    intro z1 z2 w kc ks hk hks
    rw [f_L_over_4]
    refine v_iload_n dL_over_4 rfl 2 rfl ?_
    refine v_aload_n dL_over_5 rfl 0 rfl ?_
    refine v_callVi (As := []) cv_L_209 (S_X10_foldedCount hl) tt_0 rfl rfl rfl (Nat.le_of_ble_eq_true rfl) dL_over_6 (CR_rm (by decide) (by decide) (by omega) (by omega)) (fun r1 w1 => ?_)
    refine v_icmp_ge (tgt := 33) dL_over_9 (by decide) ?_ ?_
    · refine v_iload_n dL_over_33 rfl 1 rfl ?_
      exact v_iret dL_over_34 rfl rfl (by omega) (by omega)
    · refine v_iload_n dL_over_12 rfl 1 rfl ?_
      refine v_iconst (v := 0) dL_over_13 (by decide) ?_
      refine v_aload_n dL_over_14 rfl 0 rfl ?_
      refine v_iload_n dL_over_15 rfl 2 rfl ?_
      refine v_callSh (As := [.ref (g.2.1 + 0), .int z2]) ch_L_217 (S_L_water hl) rfl rfl (Nat.le_of_ble_eq_true rfl) dL_over_16 (CR_rm (by decide) (by decide) (by omega) (by omega)) (fun r2 w2 => ?_)
      refine v_bipush (v := 20) dL_over_19 (by decide) ?_
      refine v_isub dL_over_21 ?_
      refine v_max gw_702 gw_233 gw_54 gw_234 dL_over_22 (CR_f1 _ _ _) (CR_f2 (Nat.le_of_ble_eq_true rfl) _ _ _) (CR_k1 (by omega)) (CR_k2 (by omega)) ?_
      refine v_iadd dL_over_25 ?_
      refine v_istore_n dL_over_26 rfl (Nat.le_of_ble_eq_true rfl) rfl ?_
      refine v_iinc (v := (z2 + 1)) dL_over_27 (q := 2) rfl rfl (Nat.le_of_ble_eq_true rfl) rfl ?_
      refine v_goto (tgt := 4) dL_over_30 (by decide) ?_
      refine v_sub [2, 1, 0] rfl ?_
      exact ih _ _ _ _ _ (by omega) (by omega)
def f_L_over (w : XW) : Option (Int32 × XW) := (f_L_over_4 12 0 0 w)
set_option maxRecDepth 100000 in
theorem W_L_over {g : GC} (hl : g.1.stackTraces = false) {w : XW} : VE g cL_over 3 RL (some .int) [] (rmL 7 12 72) 12 72 oI 0 0 0 [(0, .ref (g.2.1 + 0))] [] w (f_L_over  w) := by
  unfold f_L_over
  refine v_iconst (v := 0) dL_over_0 (by decide) ?_
  refine v_istore_n dL_over_1 rfl (Nat.le_of_ble_eq_true rfl) rfl ?_
  refine v_iconst (v := 0) dL_over_2 (by decide) ?_
  refine v_istore_n dL_over_3 rfl (Nat.le_of_ble_eq_true rfl) rfl ?_
  refine v_sub [2, 1, 0] rfl ?_
  exact S_L_over_4 hl _ _ _ _ _ _ (by omega) (by omega)
theorem S_L_over {g : GC} (hl : g.1.stackTraces = false) {w : XW} : ∀ q, f_L_over  w = some q → MM g (.code yL_over cL_over 3 (some .int)) yL_over (rmL 7 12 72) 12 72 [.ref (g.2.1 + 0)] w (oI q) := fun q hq => MM_of (own := RL) hl (by decide) gw_701 rfl (Nat.le_of_ble_eq_true rfl) (W_L_over hl q hq) ⟨rfl, rfl⟩

theorem dL_sum_0 : decode cL_sum 0 = .ok (.ldc2_w 317, 3) := by decide +kernel
theorem dL_sum_3 : decode cL_sum 3 = .ok (.aload_n 0, 1) := by decide +kernel
theorem dL_sum_4 : decode cL_sum 4 = .ok (.invokevirtual 319, 3) := by decide +kernel
theorem dL_sum_7 : decode cL_sum 7 = .ok (.i2l, 1) := by decide +kernel
theorem dL_sum_8 : decode cL_sum 8 = .ok (.lmul, 1) := by decide +kernel
theorem dL_sum_9 : decode cL_sum 9 = .ok (.ldc2_w 322, 3) := by decide +kernel
theorem dL_sum_12 : decode cL_sum 12 = .ok (.aload_n 0, 1) := by decide +kernel
theorem dL_sum_13 : decode cL_sum 13 = .ok (.invokevirtual 225, 3) := by decide +kernel
theorem dL_sum_16 : decode cL_sum 16 = .ok (.i2l, 1) := by decide +kernel
theorem dL_sum_17 : decode cL_sum 17 = .ok (.lmul, 1) := by decide +kernel
theorem dL_sum_18 : decode cL_sum 18 = .ok (.ladd, 1) := by decide +kernel
theorem dL_sum_19 : decode cL_sum 19 = .ok (.aload_n 0, 1) := by decide +kernel
theorem dL_sum_20 : decode cL_sum 20 = .ok (.invokevirtual 209, 3) := by decide +kernel
theorem dL_sum_23 : decode cL_sum 23 = .ok (.i2l, 1) := by decide +kernel
theorem dL_sum_24 : decode cL_sum 24 = .ok (.ladd, 1) := by decide +kernel
theorem dL_sum_25 : decode cL_sum 25 = .ok (.lstore_n 1, 1) := by decide +kernel
theorem dL_sum_26 : decode cL_sum 26 = .ok (.iconst 0, 1) := by decide +kernel
theorem dL_sum_27 : decode cL_sum 27 = .ok (.istore_n 3, 1) := by decide +kernel
theorem dL_sum_28 : decode cL_sum 28 = .ok (.iload_n 3, 1) := by decide +kernel
theorem dL_sum_29 : decode cL_sum 29 = .ok (.aload_n 0, 1) := by decide +kernel
theorem dL_sum_30 : decode cL_sum 30 = .ok (.invokevirtual 206, 3) := by decide +kernel
theorem dL_sum_33 : decode cL_sum 33 = .ok (.if_icmp .ge 69, 3) := by decide +kernel
theorem dL_sum_36 : decode cL_sum 36 = .ok (.ldc2_w 322, 3) := by decide +kernel
theorem dL_sum_39 : decode cL_sum 39 = .ok (.lload_n 1, 1) := by decide +kernel
theorem dL_sum_40 : decode cL_sum 40 = .ok (.lmul, 1) := by decide +kernel
theorem dL_sum_41 : decode cL_sum 41 = .ok (.ldc2_w 317, 3) := by decide +kernel
theorem dL_sum_44 : decode cL_sum 44 = .ok (.aload_n 0, 1) := by decide +kernel
theorem dL_sum_45 : decode cL_sum 45 = .ok (.iload_n 3, 1) := by decide +kernel
theorem dL_sum_46 : decode cL_sum 46 = .ok (.invokestatic 217, 3) := by decide +kernel
theorem dL_sum_49 : decode cL_sum 49 = .ok (.i2l, 1) := by decide +kernel
theorem dL_sum_50 : decode cL_sum 50 = .ok (.lmul, 1) := by decide +kernel
theorem dL_sum_51 : decode cL_sum 51 = .ok (.ladd, 1) := by decide +kernel
theorem dL_sum_52 : decode cL_sum 52 = .ok (.aload_n 0, 1) := by decide +kernel
theorem dL_sum_53 : decode cL_sum 53 = .ok (.iload_n 3, 1) := by decide +kernel
theorem dL_sum_54 : decode cL_sum 54 = .ok (.invokestatic 237, 3) := by decide +kernel
theorem dL_sum_57 : decode cL_sum 57 = .ok (.i2l, 1) := by decide +kernel
theorem dL_sum_58 : decode cL_sum 58 = .ok (.ladd, 1) := by decide +kernel
theorem dL_sum_59 : decode cL_sum 59 = .ok (.lstore_n 1, 1) := by decide +kernel
theorem dL_sum_60 : decode cL_sum 60 = .ok (.bipush 97, 2) := by decide +kernel
theorem dL_sum_62 : decode cL_sum 62 = .ok (.istore 4, 2) := by decide +kernel
theorem dL_sum_64 : decode cL_sum 64 = .ok (.iload 4, 2) := by decide +kernel
theorem dL_sum_66 : decode cL_sum 66 = .ok (.bipush 104, 2) := by decide +kernel
theorem dL_sum_68 : decode cL_sum 68 = .ok (.if_icmp .gt 28, 3) := by decide +kernel
theorem dL_sum_71 : decode cL_sum 71 = .ok (.ldc2_w 324, 3) := by decide +kernel
theorem dL_sum_74 : decode cL_sum 74 = .ok (.lload_n 1, 1) := by decide +kernel
theorem dL_sum_75 : decode cL_sum 75 = .ok (.lmul, 1) := by decide +kernel
theorem dL_sum_76 : decode cL_sum 76 = .ok (.aload_n 0, 1) := by decide +kernel
theorem dL_sum_77 : decode cL_sum 77 = .ok (.iload_n 3, 1) := by decide +kernel
theorem dL_sum_78 : decode cL_sum 78 = .ok (.iload 4, 2) := by decide +kernel
theorem dL_sum_80 : decode cL_sum 80 = .ok (.invokestatic 326, 3) := by decide +kernel
theorem dL_sum_83 : decode cL_sum 83 = .ok (.i2l, 1) := by decide +kernel
theorem dL_sum_84 : decode cL_sum 84 = .ok (.ladd, 1) := by decide +kernel
theorem dL_sum_85 : decode cL_sum 85 = .ok (.lstore_n 1, 1) := by decide +kernel
theorem dL_sum_86 : decode cL_sum 86 = .ok (.iload 4, 2) := by decide +kernel
theorem dL_sum_88 : decode cL_sum 88 = .ok (.iconst 1, 1) := by decide +kernel
theorem dL_sum_89 : decode cL_sum 89 = .ok (.iadd, 1) := by decide +kernel
theorem dL_sum_90 : decode cL_sum 90 = .ok (.i2c, 1) := by decide +kernel
theorem dL_sum_91 : decode cL_sum 91 = .ok (.istore 4, 2) := by decide +kernel
theorem dL_sum_93 : decode cL_sum 93 = .ok (.goto (-29), 3) := by decide +kernel
theorem dL_sum_96 : decode cL_sum 96 = .ok (.iinc 3 1, 3) := by decide +kernel
theorem dL_sum_99 : decode cL_sum 99 = .ok (.goto (-71), 3) := by decide +kernel
theorem dL_sum_102 : decode cL_sum 102 = .ok (.iconst 0, 1) := by decide +kernel
theorem dL_sum_103 : decode cL_sum 103 = .ok (.istore_n 3, 1) := by decide +kernel
theorem dL_sum_104 : decode cL_sum 104 = .ok (.iload_n 3, 1) := by decide +kernel
theorem dL_sum_105 : decode cL_sum 105 = .ok (.aload_n 0, 1) := by decide +kernel
theorem dL_sum_106 : decode cL_sum 106 = .ok (.invokevirtual 212, 3) := by decide +kernel
theorem dL_sum_109 : decode cL_sum 109 = .ok (.if_icmp .ge 55, 3) := by decide +kernel
theorem dL_sum_112 : decode cL_sum 112 = .ok (.ldc2_w 322, 3) := by decide +kernel
theorem dL_sum_115 : decode cL_sum 115 = .ok (.lload_n 1, 1) := by decide +kernel
theorem dL_sum_116 : decode cL_sum 116 = .ok (.lmul, 1) := by decide +kernel
theorem dL_sum_117 : decode cL_sum 117 = .ok (.ldc2_w 317, 3) := by decide +kernel
theorem dL_sum_120 : decode cL_sum 120 = .ok (.aload_n 0, 1) := by decide +kernel
theorem dL_sum_121 : decode cL_sum 121 = .ok (.iload_n 3, 1) := by decide +kernel
theorem dL_sum_122 : decode cL_sum 122 = .ok (.invokestatic 239, 3) := by decide +kernel
theorem dL_sum_125 : decode cL_sum 125 = .ok (.i2l, 1) := by decide +kernel
theorem dL_sum_126 : decode cL_sum 126 = .ok (.lmul, 1) := by decide +kernel
theorem dL_sum_127 : decode cL_sum 127 = .ok (.ladd, 1) := by decide +kernel
theorem dL_sum_128 : decode cL_sum 128 = .ok (.ldc2_w 328, 3) := by decide +kernel
theorem dL_sum_131 : decode cL_sum 131 = .ok (.aload_n 0, 1) := by decide +kernel
theorem dL_sum_132 : decode cL_sum 132 = .ok (.iload_n 3, 1) := by decide +kernel
theorem dL_sum_133 : decode cL_sum 133 = .ok (.invokestatic 330, 3) := by decide +kernel
theorem dL_sum_136 : decode cL_sum 136 = .ok (.i2l, 1) := by decide +kernel
theorem dL_sum_137 : decode cL_sum 137 = .ok (.lmul, 1) := by decide +kernel
theorem dL_sum_138 : decode cL_sum 138 = .ok (.ladd, 1) := by decide +kernel
theorem dL_sum_139 : decode cL_sum 139 = .ok (.ldc2_w 332, 3) := by decide +kernel
theorem dL_sum_142 : decode cL_sum 142 = .ok (.aload_n 0, 1) := by decide +kernel
theorem dL_sum_143 : decode cL_sum 143 = .ok (.iload_n 3, 1) := by decide +kernel
theorem dL_sum_144 : decode cL_sum 144 = .ok (.invokestatic 334, 3) := by decide +kernel
theorem dL_sum_147 : decode cL_sum 147 = .ok (.i2l, 1) := by decide +kernel
theorem dL_sum_148 : decode cL_sum 148 = .ok (.lmul, 1) := by decide +kernel
theorem dL_sum_149 : decode cL_sum 149 = .ok (.ladd, 1) := by decide +kernel
theorem dL_sum_150 : decode cL_sum 150 = .ok (.aload_n 0, 1) := by decide +kernel
theorem dL_sum_151 : decode cL_sum 151 = .ok (.iload_n 3, 1) := by decide +kernel
theorem dL_sum_152 : decode cL_sum 152 = .ok (.invokestatic 223, 3) := by decide +kernel
theorem dL_sum_155 : decode cL_sum 155 = .ok (.i2l, 1) := by decide +kernel
theorem dL_sum_156 : decode cL_sum 156 = .ok (.ladd, 1) := by decide +kernel
theorem dL_sum_157 : decode cL_sum 157 = .ok (.lstore_n 1, 1) := by decide +kernel
theorem dL_sum_158 : decode cL_sum 158 = .ok (.iinc 3 1, 3) := by decide +kernel
theorem dL_sum_161 : decode cL_sum 161 = .ok (.goto (-57), 3) := by decide +kernel
theorem dL_sum_164 : decode cL_sum 164 = .ok (.lload_n 1, 1) := by decide +kernel
theorem dL_sum_165 : decode cL_sum 165 = .ok (.ldc2_w 322, 3) := by decide +kernel
theorem dL_sum_168 : decode cL_sum 168 = .ok (.aload_n 0, 1) := by decide +kernel
theorem dL_sum_169 : decode cL_sum 169 = .ok (.invokevirtual 206, 3) := by decide +kernel
theorem dL_sum_172 : decode cL_sum 172 = .ok (.i2l, 1) := by decide +kernel
theorem dL_sum_173 : decode cL_sum 173 = .ok (.lmul, 1) := by decide +kernel
theorem dL_sum_174 : decode cL_sum 174 = .ok (.ladd, 1) := by decide +kernel
theorem dL_sum_175 : decode cL_sum 175 = .ok (.lreturn, 1) := by decide +kernel
def f_L_sum_104 : Nat → Int64 → Int32 → XW → Option (Int64 × XW)
  | 0, _, _, _ => none
  | n + 1, z1, z3, w => (bI (f_X10_pipeCount w) (fun r7 w7 => (if r7 ≤ z3 then (bI (f_X10_sectionCount w7) (fun r8 w8 => (some ((z1 + (31 * (Int32.toInt64 r8))), w8)))) else (bI (f_L_capacity z3 w7) (fun r9 w9 => (bI (f_L_pipeFrom z3 w9) (fun r10 w10 => (bI (f_L_pipeTo z3 w10) (fun r11 w11 => (bI (f_L_isBroken z3 w11) (fun r12 w12 => (f_L_sum_104 n (((((31 * z1) + (1009 * (Int32.toInt64 r9))) + (101 * (Int32.toInt64 r10))) + (7 * (Int32.toInt64 r11))) + (Int32.toInt64 r12)) (z3 + 1) w12))))))))))))
set_option maxRecDepth 100000 in
theorem S_L_sum_104 {g : GC} (hl : g.1.stackTraces = false) : ∀ (n : Nat) (z1 : Int64) (z3 : Int32) (w : XW) (kc ks : Nat), kc + (4 * n + 0) ≤ 372 → ks + (24 * n + 0) ≤ 2232 → VE g cL_sum 5 RL (some .long) [] (rmL 8 372 2232) 372 2232 oL kc ks 104 [(0, .ref (g.2.1 + 0)), (1, .long z1), (3, .int z3)] [] w (f_L_sum_104  n z1 z3 w) := by
  intro n
  induction n with
  | zero => intro z1 z3 w kc ks hk hks; exact v_none
  | succ n ih =>
    intro z1 z3 w kc ks hk hks
    rw [f_L_sum_104]
    refine v_iload_n dL_sum_104 rfl 2 rfl ?_
    refine v_aload_n dL_sum_105 rfl 0 rfl ?_
    refine v_callVi (As := []) cv_L_212 (S_X10_pipeCount hl) tt_0 rfl rfl rfl (Nat.le_of_ble_eq_true rfl) dL_sum_106 (CR_rm (by decide) (by decide) (by omega) (by omega)) (fun r7 w7 => ?_)
    refine v_icmp_ge (tgt := 164) dL_sum_109 (by decide) ?_ ?_
    · refine v_lload_n dL_sum_164 rfl 1 rfl ?_
      refine v_ldc2 gw_1361 dL_sum_165 ?_
      refine v_aload_n dL_sum_168 rfl 0 rfl ?_
      refine v_callVi (As := []) cv_L_206 (S_X10_sectionCount hl) tt_0 rfl rfl rfl (Nat.le_of_ble_eq_true rfl) dL_sum_169 (CR_rm (by decide) (by decide) (by omega) (by omega)) (fun r8 w8 => ?_)
      refine v_i2l dL_sum_172 ?_
      refine v_lmul dL_sum_173 ?_
      refine v_ladd dL_sum_174 ?_
      exact v_lret dL_sum_175 rfl rfl (by omega) (by omega)
    · refine v_ldc2 gw_1361 dL_sum_112 ?_
      refine v_lload_n dL_sum_115 rfl 1 rfl ?_
      refine v_lmul dL_sum_116 ?_
      refine v_ldc2 gw_1356 dL_sum_117 ?_
      refine v_aload_n dL_sum_120 rfl 0 rfl ?_
      refine v_iload_n dL_sum_121 rfl 2 rfl ?_
      refine v_callSh (As := [.ref (g.2.1 + 0), .int z3]) ch_L_239 (S_L_capacity hl) rfl rfl (Nat.le_of_ble_eq_true rfl) dL_sum_122 (CR_rm (by decide) (by decide) (by omega) (by omega)) (fun r9 w9 => ?_)
      refine v_i2l dL_sum_125 ?_
      refine v_lmul dL_sum_126 ?_
      refine v_ladd dL_sum_127 ?_
      refine v_ldc2 gw_1376 dL_sum_128 ?_
      refine v_aload_n dL_sum_131 rfl 0 rfl ?_
      refine v_iload_n dL_sum_132 rfl 2 rfl ?_
      refine v_callSh (As := [.ref (g.2.1 + 0), .int z3]) ch_L_330 (S_L_pipeFrom hl) rfl rfl (Nat.le_of_ble_eq_true rfl) dL_sum_133 (CR_rm (by decide) (by decide) (by omega) (by omega)) (fun r10 w10 => ?_)
      refine v_i2l dL_sum_136 ?_
      refine v_lmul dL_sum_137 ?_
      refine v_ladd dL_sum_138 ?_
      refine v_ldc2 gw_1385 dL_sum_139 ?_
      refine v_aload_n dL_sum_142 rfl 0 rfl ?_
      refine v_iload_n dL_sum_143 rfl 2 rfl ?_
      refine v_callSh (As := [.ref (g.2.1 + 0), .int z3]) ch_L_334 (S_L_pipeTo hl) rfl rfl (Nat.le_of_ble_eq_true rfl) dL_sum_144 (CR_rm (by decide) (by decide) (by omega) (by omega)) (fun r11 w11 => ?_)
      refine v_i2l dL_sum_147 ?_
      refine v_lmul dL_sum_148 ?_
      refine v_ladd dL_sum_149 ?_
      refine v_aload_n dL_sum_150 rfl 0 rfl ?_
      refine v_iload_n dL_sum_151 rfl 2 rfl ?_
      refine v_callSh (As := [.ref (g.2.1 + 0), .int z3]) ch_L_223 (S_L_isBroken hl) rfl rfl (Nat.le_of_ble_eq_true rfl) dL_sum_152 (CR_rm (by decide) (by decide) (by omega) (by omega)) (fun r12 w12 => ?_)
      refine v_i2l dL_sum_155 ?_
      refine v_ladd dL_sum_156 ?_
      refine v_lstore_n dL_sum_157 rfl (Nat.le_of_ble_eq_true rfl) rfl ?_
      refine v_iinc (v := (z3 + 1)) dL_sum_158 (q := 2) rfl rfl (Nat.le_of_ble_eq_true rfl) rfl ?_
      refine v_goto (tgt := 104) dL_sum_161 (by decide) ?_
      refine v_sub [2, 1, 0] rfl ?_
      exact ih _ _ _ _ _ (by omega) (by omega)
def f_L_sum_64 (K28 : Int64 → Int32 → XW → Option (Int64 × XW)) (y3 : Int32) : Nat → Int64 → Int32 → XW → Option (Int64 × XW)
  | 0, _, _, _ => none
  | n + 1, z1, z4, w => (if 104 < z4 then (K28 z1 (y3 + 1) w) else (bI (f_L_hasTerm y3 z4 w) (fun r13 w13 => (f_L_sum_64 K28 y3 n ((2 * z1) + (Int32.toInt64 r13)) (((Int32.toUInt32 (z4 + 1)) % 65536).toInt32) w13))))
set_option maxRecDepth 100000 in
theorem S_L_sum_64 {g : GC} (hl : g.1.stackTraces = false) {y3 : Int32} {B Bs : Nat} (hB : B ≤ 372) (hBs : Bs ≤ 2232) {K28 : Int64 → Int32 → XW → Option (Int64 × XW)} (hK28 : ∀ (z1 : Int64) (z3 : Int32) (w : XW) (kc ks : Nat), kc ≤ B → ks ≤ Bs → VE g cL_sum 5 RL (some .long) [] (rmL 8 372 2232) 372 2232 oL kc ks 28 [(0, .ref (g.2.1 + 0)), (1, .long z1), (3, .int z3)] [] w (K28 z1 z3 w)) : ∀ (n : Nat) (z1 : Int64) (z4 : Int32) (w : XW) (kc ks : Nat), kc + (2 * n + 0) ≤ B → ks + (12 * n + 0) ≤ Bs → VE g cL_sum 5 RL (some .long) [] (rmL 8 372 2232) 372 2232 oL kc ks 64 [(0, .ref (g.2.1 + 0)), (1, .long z1), (3, .int y3), (4, .int z4)] [] w (f_L_sum_64 K28 y3 n z1 z4 w) := by
  intro n
  induction n with
  | zero => intro z1 z4 w kc ks hk hks; exact v_none
  | succ n ih =>
    intro z1 z4 w kc ks hk hks
    rw [f_L_sum_64]
    refine v_iload dL_sum_64 3 rfl ?_
    refine v_bipush (v := 104) dL_sum_66 (by decide) ?_
    refine v_icmp_gt (tgt := 96) dL_sum_68 (by decide) ?_ ?_
    · refine v_iinc (v := (y3 + 1)) dL_sum_96 (q := 2) rfl rfl (Nat.le_of_ble_eq_true rfl) rfl ?_
      refine v_goto (tgt := 28) dL_sum_99 (by decide) ?_
      refine v_sub [1, 2, 0] rfl ?_
      exact hK28 _ _ _ _ _ (by omega) (by omega)
    · refine v_ldc2 gw_1362 dL_sum_71 ?_
      refine v_lload_n dL_sum_74 rfl 1 rfl ?_
      refine v_lmul dL_sum_75 ?_
      refine v_aload_n dL_sum_76 rfl 0 rfl ?_
      refine v_iload_n dL_sum_77 rfl 2 rfl ?_
      refine v_iload dL_sum_78 3 rfl ?_
      refine v_callSh (As := [.ref (g.2.1 + 0), .int y3, .int z4]) ch_L_326 (S_L_hasTerm hl) rfl rfl (Nat.le_of_ble_eq_true rfl) dL_sum_80 (CR_rm (by decide) (by decide) (by omega) (by omega)) (fun r13 w13 => ?_)
      refine v_i2l dL_sum_83 ?_
      refine v_ladd dL_sum_84 ?_
      refine v_lstore_n dL_sum_85 rfl (Nat.le_of_ble_eq_true rfl) rfl ?_
      refine v_iload dL_sum_86 3 rfl ?_
      refine v_iconst (v := 1) dL_sum_88 (by decide) ?_
      refine v_iadd dL_sum_89 ?_
      refine v_i2c dL_sum_90 ?_
      refine v_istore dL_sum_91 (Nat.le_of_ble_eq_true rfl) rfl ?_
      refine v_goto (tgt := 64) dL_sum_93 (by decide) ?_
      refine v_sub [2, 1, 3, 0] rfl ?_
      exact ih _ _ _ _ _ (by omega) (by omega)
def f_L_sum_28 : Nat → Int64 → Int32 → XW → Option (Int64 × XW)
  | 0, _, _, _ => none
  | n + 1, z1, z3, w => (bI (f_X10_sectionCount w) (fun r4 w4 => (if r4 ≤ z3 then (f_L_sum_104 12 z1 0 w4) else (bI (f_L_water z3 w4) (fun r5 w5 => (bI (f_L_layerOf z3 w5) (fun r6 w6 => (f_L_sum_64 (fun a0 a1 w9 => f_L_sum_28 n a0 a1 w9) z3 12 (((31 * z1) + (1009 * (Int32.toInt64 r5))) + (Int32.toInt64 r6)) 97 w6))))))))
set_option maxRecDepth 100000 in
theorem S_L_sum_28 {g : GC} (hl : g.1.stackTraces = false) : ∀ (n : Nat) (z1 : Int64) (z3 : Int32) (w : XW) (kc ks : Nat), kc + (27 * n + 48) ≤ 372 → ks + (162 * n + 288) ≤ 2232 → VE g cL_sum 5 RL (some .long) [] (rmL 8 372 2232) 372 2232 oL kc ks 28 [(0, .ref (g.2.1 + 0)), (1, .long z1), (3, .int z3)] [] w (f_L_sum_28  n z1 z3 w) := by
  intro n
  induction n with
  | zero => intro z1 z3 w kc ks hk hks; exact v_none
  | succ n ih =>
    intro z1 z3 w kc ks hk hks
    rw [f_L_sum_28]
    obtain ⟨b0, hb0⟩ : ∃ b0 : Nat, b0 = 372 - (27 * n + 48) := ⟨_, rfl⟩
    obtain ⟨b1, hb1⟩ : ∃ b1 : Nat, b1 = 2232 - (162 * n + 288) := ⟨_, rfl⟩
    refine v_iload_n dL_sum_28 rfl 2 rfl ?_
    refine v_aload_n dL_sum_29 rfl 0 rfl ?_
    refine v_callVi (As := []) cv_L_206 (S_X10_sectionCount hl) tt_0 rfl rfl rfl (Nat.le_of_ble_eq_true rfl) dL_sum_30 (CR_rm (by decide) (by decide) (by omega) (by omega)) (fun r4 w4 => ?_)
    refine v_icmp_ge (tgt := 102) dL_sum_33 (by decide) ?_ ?_
    · refine v_iconst (v := 0) dL_sum_102 (by decide) ?_
      refine v_istore_n dL_sum_103 rfl (Nat.le_of_ble_eq_true rfl) rfl ?_
      refine v_sub [1, 2, 0] rfl ?_
      exact S_L_sum_104 hl _ _ _ _ _ _ (by omega) (by omega)
    · refine v_ldc2 gw_1361 dL_sum_36 ?_
      refine v_lload_n dL_sum_39 rfl 1 rfl ?_
      refine v_lmul dL_sum_40 ?_
      refine v_ldc2 gw_1356 dL_sum_41 ?_
      refine v_aload_n dL_sum_44 rfl 0 rfl ?_
      refine v_iload_n dL_sum_45 rfl 2 rfl ?_
      refine v_callSh (As := [.ref (g.2.1 + 0), .int z3]) ch_L_217 (S_L_water hl) rfl rfl (Nat.le_of_ble_eq_true rfl) dL_sum_46 (CR_rm (by decide) (by decide) (by omega) (by omega)) (fun r5 w5 => ?_)
      refine v_i2l dL_sum_49 ?_
      refine v_lmul dL_sum_50 ?_
      refine v_ladd dL_sum_51 ?_
      refine v_aload_n dL_sum_52 rfl 0 rfl ?_
      refine v_iload_n dL_sum_53 rfl 2 rfl ?_
      refine v_callSh (As := [.ref (g.2.1 + 0), .int z3]) ch_L_237 (S_L_layerOf hl) rfl rfl (Nat.le_of_ble_eq_true rfl) dL_sum_54 (CR_rm (by decide) (by decide) (by omega) (by omega)) (fun r6 w6 => ?_)
      refine v_i2l dL_sum_57 ?_
      refine v_ladd dL_sum_58 ?_
      refine v_lstore_n dL_sum_59 rfl (Nat.le_of_ble_eq_true rfl) rfl ?_
      refine v_bipush (v := 97) dL_sum_60 (by decide) ?_
      refine v_istore dL_sum_62 (Nat.le_of_ble_eq_true rfl) rfl ?_
      refine v_sub [2, 1, 3, 0] rfl ?_
      exact S_L_sum_64 hl (B := b0) (Bs := b1) (by omega) (by omega) (fun a0 a1 a2 kc1 ks1 h1 h2 => ih a0 a1 a2 _ _ (by omega) (by omega)) _ _ _ _ _ _ (by omega) (by omega)
def f_L_sum (w : XW) : Option (Int64 × XW) := (bI (f_X10_poured w) (fun r1 w1 => (bI (f_X10_leaked w1) (fun r2 w2 => (bI (f_X10_foldedCount w2) (fun r3 w3 => (f_L_sum_28 12 (((1009 * (Int32.toInt64 r1)) + (31 * (Int32.toInt64 r2))) + (Int32.toInt64 r3)) 0 w3)))))))
set_option maxRecDepth 100000 in
theorem W_L_sum {g : GC} (hl : g.1.stackTraces = false) {w : XW} : VE g cL_sum 5 RL (some .long) [] (rmL 8 372 2232) 372 2232 oL 0 0 0 [(0, .ref (g.2.1 + 0))] [] w (f_L_sum  w) := by
  unfold f_L_sum
  refine v_ldc2 gw_1356 dL_sum_0 ?_
  refine v_aload_n dL_sum_3 rfl 0 rfl ?_
  refine v_callVi (As := []) cv_L_319 (S_X10_poured hl) tt_0 rfl rfl rfl (Nat.le_of_ble_eq_true rfl) dL_sum_4 (CR_rm (by decide) (by decide) (by omega) (by omega)) (fun r1 w1 => ?_)
  refine v_i2l dL_sum_7 ?_
  refine v_lmul dL_sum_8 ?_
  refine v_ldc2 gw_1361 dL_sum_9 ?_
  refine v_aload_n dL_sum_12 rfl 0 rfl ?_
  refine v_callVi (As := []) cv_L_225 (S_X10_leaked hl) tt_0 rfl rfl rfl (Nat.le_of_ble_eq_true rfl) dL_sum_13 (CR_rm (by decide) (by decide) (by omega) (by omega)) (fun r2 w2 => ?_)
  refine v_i2l dL_sum_16 ?_
  refine v_lmul dL_sum_17 ?_
  refine v_ladd dL_sum_18 ?_
  refine v_aload_n dL_sum_19 rfl 0 rfl ?_
  refine v_callVi (As := []) cv_L_209 (S_X10_foldedCount hl) tt_0 rfl rfl rfl (Nat.le_of_ble_eq_true rfl) dL_sum_20 (CR_rm (by decide) (by decide) (by omega) (by omega)) (fun r3 w3 => ?_)
  refine v_i2l dL_sum_23 ?_
  refine v_ladd dL_sum_24 ?_
  refine v_lstore_n dL_sum_25 rfl (Nat.le_of_ble_eq_true rfl) rfl ?_
  refine v_iconst (v := 0) dL_sum_26 (by decide) ?_
  refine v_istore_n dL_sum_27 rfl (Nat.le_of_ble_eq_true rfl) rfl ?_
  refine v_sub [2, 1, 0] rfl ?_
  exact S_L_sum_28 hl _ _ _ _ _ _ (by omega) (by omega)
theorem S_L_sum {g : GC} (hl : g.1.stackTraces = false) {w : XW} : ∀ q, f_L_sum  w = some q → MM g (.code yL_sum cL_sum 5 (some .long)) yL_sum (rmL 8 372 2232) 372 2232 [.ref (g.2.1 + 0)] w (oL q) := fun q hq => MM_of (own := RL) hl (by decide) gw_1355 rfl (Nat.le_of_ble_eq_true rfl) (W_L_sum hl q hq) ⟨rfl, rfl⟩

theorem dL_isPile_0 : decode cL_isPile 0 = .ok (.aload_n 0, 1) := by decide +kernel
theorem dL_isPile_1 : decode cL_isPile 1 = .ok (.invokevirtual 209, 3) := by decide +kernel
theorem dL_isPile_4 : decode cL_isPile 4 = .ok (.istore_n 1, 1) := by decide +kernel
theorem dL_isPile_5 : decode cL_isPile 5 = .ok (.iconst 0, 1) := by decide +kernel
theorem dL_isPile_6 : decode cL_isPile 6 = .ok (.istore_n 2, 1) := by decide +kernel
theorem dL_isPile_7 : decode cL_isPile 7 = .ok (.iconst 0, 1) := by decide +kernel
theorem dL_isPile_8 : decode cL_isPile 8 = .ok (.istore_n 3, 1) := by decide +kernel
theorem dL_isPile_9 : decode cL_isPile 9 = .ok (.iload_n 3, 1) := by decide +kernel
theorem dL_isPile_10 : decode cL_isPile 10 = .ok (.iload_n 1, 1) := by decide +kernel
theorem dL_isPile_11 : decode cL_isPile 11 = .ok (.if_icmp .ge 35, 3) := by decide +kernel
theorem dL_isPile_14 : decode cL_isPile 14 = .ok (.aload_n 0, 1) := by decide +kernel
theorem dL_isPile_15 : decode cL_isPile 15 = .ok (.iload_n 3, 1) := by decide +kernel
theorem dL_isPile_16 : decode cL_isPile 16 = .ok (.invokestatic 235, 3) := by decide +kernel
theorem dL_isPile_19 : decode cL_isPile 19 = .ok (.istore 4, 2) := by decide +kernel
theorem dL_isPile_21 : decode cL_isPile 21 = .ok (.iload_n 2, 1) := by decide +kernel
theorem dL_isPile_22 : decode cL_isPile 22 = .ok (.iconst 1, 1) := by decide +kernel
theorem dL_isPile_23 : decode cL_isPile 23 = .ok (.iload 4, 2) := by decide +kernel
theorem dL_isPile_25 : decode cL_isPile 25 = .ok (.ishl, 1) := by decide +kernel
theorem dL_isPile_26 : decode cL_isPile 26 = .ok (.ior, 1) := by decide +kernel
theorem dL_isPile_27 : decode cL_isPile 27 = .ok (.istore_n 2, 1) := by decide +kernel
theorem dL_isPile_28 : decode cL_isPile 28 = .ok (.aload_n 0, 1) := by decide +kernel
theorem dL_isPile_29 : decode cL_isPile 29 = .ok (.iload 4, 2) := by decide +kernel
theorem dL_isPile_31 : decode cL_isPile 31 = .ok (.invokestatic 237, 3) := by decide +kernel
theorem dL_isPile_34 : decode cL_isPile 34 = .ok (.iload_n 3, 1) := by decide +kernel
theorem dL_isPile_35 : decode cL_isPile 35 = .ok (.if_icmp .eq 5, 3) := by decide +kernel
theorem dL_isPile_38 : decode cL_isPile 38 = .ok (.iconst 0, 1) := by decide +kernel
theorem dL_isPile_39 : decode cL_isPile 39 = .ok (.ireturn, 1) := by decide +kernel
theorem dL_isPile_40 : decode cL_isPile 40 = .ok (.iinc 3 1, 3) := by decide +kernel
theorem dL_isPile_43 : decode cL_isPile 43 = .ok (.goto (-34), 3) := by decide +kernel
theorem dL_isPile_46 : decode cL_isPile 46 = .ok (.iconst 0, 1) := by decide +kernel
theorem dL_isPile_47 : decode cL_isPile 47 = .ok (.istore_n 3, 1) := by decide +kernel
theorem dL_isPile_48 : decode cL_isPile 48 = .ok (.iload_n 3, 1) := by decide +kernel
theorem dL_isPile_49 : decode cL_isPile 49 = .ok (.iconst 1, 1) := by decide +kernel
theorem dL_isPile_50 : decode cL_isPile 50 = .ok (.iadd, 1) := by decide +kernel
theorem dL_isPile_51 : decode cL_isPile 51 = .ok (.iload_n 1, 1) := by decide +kernel
theorem dL_isPile_52 : decode cL_isPile 52 = .ok (.if_icmp .ge 144, 3) := by decide +kernel
theorem dL_isPile_55 : decode cL_isPile 55 = .ok (.iload_n 3, 1) := by decide +kernel
theorem dL_isPile_56 : decode cL_isPile 56 = .ok (.iconst 2, 1) := by decide +kernel
theorem dL_isPile_57 : decode cL_isPile 57 = .ok (.iadd, 1) := by decide +kernel
theorem dL_isPile_58 : decode cL_isPile 58 = .ok (.istore 4, 2) := by decide +kernel
theorem dL_isPile_60 : decode cL_isPile 60 = .ok (.iload 4, 2) := by decide +kernel
theorem dL_isPile_62 : decode cL_isPile 62 = .ok (.iconst 1, 1) := by decide +kernel
theorem dL_isPile_63 : decode cL_isPile 63 = .ok (.iadd, 1) := by decide +kernel
theorem dL_isPile_64 : decode cL_isPile 64 = .ok (.iload_n 1, 1) := by decide +kernel
theorem dL_isPile_65 : decode cL_isPile 65 = .ok (.if_icmp .ge 125, 3) := by decide +kernel
theorem dL_isPile_68 : decode cL_isPile 68 = .ok (.aload_n 0, 1) := by decide +kernel
theorem dL_isPile_69 : decode cL_isPile 69 = .ok (.iload_n 3, 1) := by decide +kernel
theorem dL_isPile_70 : decode cL_isPile 70 = .ok (.invokestatic 237, 3) := by decide +kernel
theorem dL_isPile_73 : decode cL_isPile 73 = .ok (.aload_n 0, 1) := by decide +kernel
theorem dL_isPile_74 : decode cL_isPile 74 = .ok (.iload_n 3, 1) := by decide +kernel
theorem dL_isPile_75 : decode cL_isPile 75 = .ok (.iconst 1, 1) := by decide +kernel
theorem dL_isPile_76 : decode cL_isPile 76 = .ok (.iadd, 1) := by decide +kernel
theorem dL_isPile_77 : decode cL_isPile 77 = .ok (.invokestatic 237, 3) := by decide +kernel
theorem dL_isPile_80 : decode cL_isPile 80 = .ok (.invokestatic 241, 3) := by decide +kernel
theorem dL_isPile_83 : decode cL_isPile 83 = .ok (.istore 5, 2) := by decide +kernel
theorem dL_isPile_85 : decode cL_isPile 85 = .ok (.aload_n 0, 1) := by decide +kernel
theorem dL_isPile_86 : decode cL_isPile 86 = .ok (.iload_n 3, 1) := by decide +kernel
theorem dL_isPile_87 : decode cL_isPile 87 = .ok (.invokestatic 237, 3) := by decide +kernel
theorem dL_isPile_90 : decode cL_isPile 90 = .ok (.aload_n 0, 1) := by decide +kernel
theorem dL_isPile_91 : decode cL_isPile 91 = .ok (.iload_n 3, 1) := by decide +kernel
theorem dL_isPile_92 : decode cL_isPile 92 = .ok (.iconst 1, 1) := by decide +kernel
theorem dL_isPile_93 : decode cL_isPile 93 = .ok (.iadd, 1) := by decide +kernel
theorem dL_isPile_94 : decode cL_isPile 94 = .ok (.invokestatic 237, 3) := by decide +kernel
theorem dL_isPile_97 : decode cL_isPile 97 = .ok (.invokestatic 254, 3) := by decide +kernel
theorem dL_isPile_100 : decode cL_isPile 100 = .ok (.istore 6, 2) := by decide +kernel
theorem dL_isPile_102 : decode cL_isPile 102 = .ok (.aload_n 0, 1) := by decide +kernel
theorem dL_isPile_103 : decode cL_isPile 103 = .ok (.iload 4, 2) := by decide +kernel
theorem dL_isPile_105 : decode cL_isPile 105 = .ok (.invokestatic 237, 3) := by decide +kernel
theorem dL_isPile_108 : decode cL_isPile 108 = .ok (.aload_n 0, 1) := by decide +kernel
theorem dL_isPile_109 : decode cL_isPile 109 = .ok (.iload 4, 2) := by decide +kernel
theorem dL_isPile_111 : decode cL_isPile 111 = .ok (.iconst 1, 1) := by decide +kernel
theorem dL_isPile_112 : decode cL_isPile 112 = .ok (.iadd, 1) := by decide +kernel
theorem dL_isPile_113 : decode cL_isPile 113 = .ok (.invokestatic 237, 3) := by decide +kernel
theorem dL_isPile_116 : decode cL_isPile 116 = .ok (.invokestatic 241, 3) := by decide +kernel
theorem dL_isPile_119 : decode cL_isPile 119 = .ok (.istore 7, 2) := by decide +kernel
theorem dL_isPile_121 : decode cL_isPile 121 = .ok (.aload_n 0, 1) := by decide +kernel
theorem dL_isPile_122 : decode cL_isPile 122 = .ok (.iload 4, 2) := by decide +kernel
theorem dL_isPile_124 : decode cL_isPile 124 = .ok (.invokestatic 237, 3) := by decide +kernel
theorem dL_isPile_127 : decode cL_isPile 127 = .ok (.aload_n 0, 1) := by decide +kernel
theorem dL_isPile_128 : decode cL_isPile 128 = .ok (.iload 4, 2) := by decide +kernel
theorem dL_isPile_130 : decode cL_isPile 130 = .ok (.iconst 1, 1) := by decide +kernel
theorem dL_isPile_131 : decode cL_isPile 131 = .ok (.iadd, 1) := by decide +kernel
theorem dL_isPile_132 : decode cL_isPile 132 = .ok (.invokestatic 237, 3) := by decide +kernel
theorem dL_isPile_135 : decode cL_isPile 135 = .ok (.invokestatic 254, 3) := by decide +kernel
theorem dL_isPile_138 : decode cL_isPile 138 = .ok (.istore 8, 2) := by decide +kernel
theorem dL_isPile_140 : decode cL_isPile 140 = .ok (.iload 5, 2) := by decide +kernel
theorem dL_isPile_142 : decode cL_isPile 142 = .ok (.iload 7, 2) := by decide +kernel
theorem dL_isPile_144 : decode cL_isPile 144 = .ok (.if_icmp .ge 17, 3) := by decide +kernel
theorem dL_isPile_147 : decode cL_isPile 147 = .ok (.iload 7, 2) := by decide +kernel
theorem dL_isPile_149 : decode cL_isPile 149 = .ok (.iload 6, 2) := by decide +kernel
theorem dL_isPile_151 : decode cL_isPile 151 = .ok (.if_icmp .ge 10, 3) := by decide +kernel
theorem dL_isPile_154 : decode cL_isPile 154 = .ok (.iload 6, 2) := by decide +kernel
theorem dL_isPile_156 : decode cL_isPile 156 = .ok (.iload 8, 2) := by decide +kernel
theorem dL_isPile_158 : decode cL_isPile 158 = .ok (.if_icmp .lt 24, 3) := by decide +kernel
theorem dL_isPile_161 : decode cL_isPile 161 = .ok (.iload 7, 2) := by decide +kernel
theorem dL_isPile_163 : decode cL_isPile 163 = .ok (.iload 5, 2) := by decide +kernel
theorem dL_isPile_165 : decode cL_isPile 165 = .ok (.if_icmp .ge 19, 3) := by decide +kernel
theorem dL_isPile_168 : decode cL_isPile 168 = .ok (.iload 5, 2) := by decide +kernel
theorem dL_isPile_170 : decode cL_isPile 170 = .ok (.iload 8, 2) := by decide +kernel
theorem dL_isPile_172 : decode cL_isPile 172 = .ok (.if_icmp .ge 12, 3) := by decide +kernel
theorem dL_isPile_175 : decode cL_isPile 175 = .ok (.iload 8, 2) := by decide +kernel
theorem dL_isPile_177 : decode cL_isPile 177 = .ok (.iload 6, 2) := by decide +kernel
theorem dL_isPile_179 : decode cL_isPile 179 = .ok (.if_icmp .ge 5, 3) := by decide +kernel
theorem dL_isPile_182 : decode cL_isPile 182 = .ok (.iconst 0, 1) := by decide +kernel
theorem dL_isPile_183 : decode cL_isPile 183 = .ok (.ireturn, 1) := by decide +kernel
theorem dL_isPile_184 : decode cL_isPile 184 = .ok (.iinc 4 2, 3) := by decide +kernel
theorem dL_isPile_187 : decode cL_isPile 187 = .ok (.goto (-127), 3) := by decide +kernel
theorem dL_isPile_190 : decode cL_isPile 190 = .ok (.iinc 3 1, 3) := by decide +kernel
theorem dL_isPile_193 : decode cL_isPile 193 = .ok (.goto (-145), 3) := by decide +kernel
theorem dL_isPile_196 : decode cL_isPile 196 = .ok (.iload_n 2, 1) := by decide +kernel
theorem dL_isPile_197 : decode cL_isPile 197 = .ok (.iconst 1, 1) := by decide +kernel
theorem dL_isPile_198 : decode cL_isPile 198 = .ok (.iload_n 1, 1) := by decide +kernel
theorem dL_isPile_199 : decode cL_isPile 199 = .ok (.ishl, 1) := by decide +kernel
theorem dL_isPile_200 : decode cL_isPile 200 = .ok (.iconst 1, 1) := by decide +kernel
theorem dL_isPile_201 : decode cL_isPile 201 = .ok (.isub, 1) := by decide +kernel
theorem dL_isPile_202 : decode cL_isPile 202 = .ok (.if_icmp .ne 15, 3) := by decide +kernel
theorem dL_isPile_205 : decode cL_isPile 205 = .ok (.iload_n 1, 1) := by decide +kernel
theorem dL_isPile_206 : decode cL_isPile 206 = .ok (.aload_n 0, 1) := by decide +kernel
theorem dL_isPile_207 : decode cL_isPile 207 = .ok (.invokevirtual 206, 3) := by decide +kernel
theorem dL_isPile_210 : decode cL_isPile 210 = .ok (.if_icmp .gt 7, 3) := by decide +kernel
theorem dL_isPile_213 : decode cL_isPile 213 = .ok (.iconst 1, 1) := by decide +kernel
theorem dL_isPile_214 : decode cL_isPile 214 = .ok (.goto 4, 3) := by decide +kernel
theorem dL_isPile_217 : decode cL_isPile 217 = .ok (.iconst 0, 1) := by decide +kernel
theorem dL_isPile_218 : decode cL_isPile 218 = .ok (.ireturn, 1) := by decide +kernel
def f_L_isPile_218 (u0 : Int32) (w : XW) : Option (Int32 × XW) := (if vp_nar .boolean u0 = u0 then (some (u0, w)) else none)
set_option maxRecDepth 100000 in
theorem S_L_isPile_218 {g : GC} (hl : g.1.stackTraces = false) : ∀ (u0 : Int32) (w : XW) (kc ks : Nat), kc + 0 ≤ 2740 → ks + 0 ≤ 16440 → VE g cL_isPile 9 RL (some .boolean) [] (rmL 7 2740 16440) 2740 16440 oI kc ks 218 [] [.int u0] w (f_L_isPile_218  u0 w) := by
  intro u0 w kc ks hk hks
  unfold f_L_isPile_218
  refine v_guard (fun h5 => ?_)
  exact v_zret dL_isPile_218 rfl (narB_ok h5) rfl (by omega) (by omega)
def f_L_isPile_217 (w : XW) : Option (Int32 × XW) := (f_L_isPile_218 0 w)
set_option maxRecDepth 100000 in
theorem S_L_isPile_217 {g : GC} (hl : g.1.stackTraces = false) : ∀ (w : XW) (kc ks : Nat), kc + 0 ≤ 2740 → ks + 0 ≤ 16440 → VE g cL_isPile 9 RL (some .boolean) [] (rmL 7 2740 16440) 2740 16440 oI kc ks 217 [] [] w (f_L_isPile_217   w) := by
  intro  w kc ks hk hks
  unfold f_L_isPile_217
  refine v_iconst (v := 0) dL_isPile_217 (by decide) ?_
  refine v_sub [] rfl ?_
  exact S_L_isPile_218 hl _ _ _ _ (by omega) (by omega)
def f_L_isPile_184 (K48 : Int32 → XW → Option (Int32 × XW)) (K60 : Int32 → XW → Option (Int32 × XW)) (y1 : Int32) (y2 : Int32) (y3 : Int32) (z4 : Int32) (w : XW) : Option (Int32 × XW) := (K60 (z4 + 2) w)
set_option maxRecDepth 100000 in
theorem S_L_isPile_184 {g : GC} (hl : g.1.stackTraces = false) {y1 : Int32} {y2 : Int32} {y3 : Int32} {B Bs : Nat} (hB : B ≤ 2740) (hBs : Bs ≤ 16440) {K48 : Int32 → XW → Option (Int32 × XW)} (hK48 : ∀ (z3 : Int32) (w : XW) (kc ks : Nat), kc ≤ B → ks ≤ Bs → VE g cL_isPile 9 RL (some .boolean) [] (rmL 7 2740 16440) 2740 16440 oI kc ks 48 [(0, .ref (g.2.1 + 0)), (1, .int y1), (2, .int y2), (3, .int z3)] [] w (K48 z3 w)) {K60 : Int32 → XW → Option (Int32 × XW)} (hK60 : ∀ (z4 : Int32) (w : XW) (kc ks : Nat), kc ≤ B → ks ≤ Bs → VE g cL_isPile 9 RL (some .boolean) [] (rmL 7 2740 16440) 2740 16440 oI kc ks 60 [(0, .ref (g.2.1 + 0)), (1, .int y1), (2, .int y2), (3, .int y3), (4, .int z4)] [] w (K60 z4 w)) : ∀ (z4 : Int32) (w : XW) (kc ks : Nat), kc + 0 ≤ B → ks + 0 ≤ Bs → VE g cL_isPile 9 RL (some .boolean) [] (rmL 7 2740 16440) 2740 16440 oI kc ks 184 [(0, .ref (g.2.1 + 0)), (1, .int y1), (2, .int y2), (3, .int y3), (4, .int z4)] [] w (f_L_isPile_184 K48 K60 y1 y2 y3 z4 w) := by
  intro z4 w kc ks hk hks
  unfold f_L_isPile_184
  refine v_iinc (v := (z4 + 2)) dL_isPile_184 (q := 4) rfl rfl (Nat.le_of_ble_eq_true rfl) rfl ?_
  refine v_goto (tgt := 60) dL_isPile_187 (by decide) ?_
  refine v_sub [1, 2, 3, 4, 0] rfl ?_
  exact hK60 _ _ _ _ (by omega) (by omega)
def f_L_isPile_182 (w : XW) : Option (Int32 × XW) := (some (0, w))
set_option maxRecDepth 100000 in
theorem S_L_isPile_182 {g : GC} (hl : g.1.stackTraces = false) : ∀ (w : XW) (kc ks : Nat), kc + 0 ≤ 2740 → ks + 0 ≤ 16440 → VE g cL_isPile 9 RL (some .boolean) [] (rmL 7 2740 16440) 2740 16440 oI kc ks 182 [] [] w (f_L_isPile_182   w) := by
  intro  w kc ks hk hks
  unfold f_L_isPile_182
  refine v_iconst (v := 0) dL_isPile_182 (by decide) ?_
  exact v_zret dL_isPile_183 rfl rfl rfl (by omega) (by omega)
def f_L_isPile_161 (K48 : Int32 → XW → Option (Int32 × XW)) (K60 : Int32 → XW → Option (Int32 × XW)) (y1 : Int32) (y2 : Int32) (y3 : Int32) (z4 : Int32) (z5 : Int32) (z6 : Int32) (z7 : Int32) (z8 : Int32) (w : XW) : Option (Int32 × XW) := (if z5 ≤ z7 then (f_L_isPile_184 K48 K60 y1 y2 y3 z4 w) else (if z8 ≤ z5 then (f_L_isPile_184 K48 K60 y1 y2 y3 z4 w) else (if z6 ≤ z8 then (f_L_isPile_184 K48 K60 y1 y2 y3 z4 w) else (f_L_isPile_182 w))))
set_option maxRecDepth 100000 in
theorem S_L_isPile_161 {g : GC} (hl : g.1.stackTraces = false) {y1 : Int32} {y2 : Int32} {y3 : Int32} {B Bs : Nat} (hB : B ≤ 2740) (hBs : Bs ≤ 16440) {K48 : Int32 → XW → Option (Int32 × XW)} (hK48 : ∀ (z3 : Int32) (w : XW) (kc ks : Nat), kc ≤ B → ks ≤ Bs → VE g cL_isPile 9 RL (some .boolean) [] (rmL 7 2740 16440) 2740 16440 oI kc ks 48 [(0, .ref (g.2.1 + 0)), (1, .int y1), (2, .int y2), (3, .int z3)] [] w (K48 z3 w)) {K60 : Int32 → XW → Option (Int32 × XW)} (hK60 : ∀ (z4 : Int32) (w : XW) (kc ks : Nat), kc ≤ B → ks ≤ Bs → VE g cL_isPile 9 RL (some .boolean) [] (rmL 7 2740 16440) 2740 16440 oI kc ks 60 [(0, .ref (g.2.1 + 0)), (1, .int y1), (2, .int y2), (3, .int y3), (4, .int z4)] [] w (K60 z4 w)) : ∀ (z4 : Int32) (z5 : Int32) (z6 : Int32) (z7 : Int32) (z8 : Int32) (w : XW) (kc ks : Nat), kc + 0 ≤ B → ks + 0 ≤ Bs → VE g cL_isPile 9 RL (some .boolean) [] (rmL 7 2740 16440) 2740 16440 oI kc ks 161 [(0, .ref (g.2.1 + 0)), (1, .int y1), (2, .int y2), (3, .int y3), (4, .int z4), (5, .int z5), (6, .int z6), (7, .int z7), (8, .int z8)] [] w (f_L_isPile_161 K48 K60 y1 y2 y3 z4 z5 z6 z7 z8 w) := by
  intro z4 z5 z6 z7 z8 w kc ks hk hks
  unfold f_L_isPile_161
  refine v_iload dL_isPile_161 7 rfl ?_
  refine v_iload dL_isPile_163 5 rfl ?_
  refine v_icmp_ge (tgt := 184) dL_isPile_165 (by decide) ?_ ?_
  · refine v_sub [0, 1, 2, 3, 4] rfl ?_
    exact S_L_isPile_184 hl hB hBs hK48 hK60 _ _ _ _ (by omega) (by omega)
  · refine v_iload dL_isPile_168 5 rfl ?_
    refine v_iload dL_isPile_170 8 rfl ?_
    refine v_icmp_ge (tgt := 184) dL_isPile_172 (by decide) ?_ ?_
    · refine v_sub [0, 1, 2, 3, 4] rfl ?_
      exact S_L_isPile_184 hl hB hBs hK48 hK60 _ _ _ _ (by omega) (by omega)
    · refine v_iload dL_isPile_175 8 rfl ?_
      refine v_iload dL_isPile_177 6 rfl ?_
      refine v_icmp_ge (tgt := 184) dL_isPile_179 (by decide) ?_ ?_
      · refine v_sub [0, 1, 2, 3, 4] rfl ?_
        exact S_L_isPile_184 hl hB hBs hK48 hK60 _ _ _ _ (by omega) (by omega)
      · refine v_sub [] rfl ?_
        exact S_L_isPile_182 hl _ _ _ (by omega) (by omega)
def f_L_isPile_60 (K48 : Int32 → XW → Option (Int32 × XW)) (y1 : Int32) (y2 : Int32) (y3 : Int32) : Nat → Int32 → XW → Option (Int32 × XW)
  | 0, _, _ => none
  | n + 1, z4, w => (if y1 ≤ (z4 + 1) then (K48 (y3 + 1) w) else (bI (f_L_layerOf y3 w) (fun r6 w6 => (bI (f_L_layerOf (y3 + 1) w6) (fun r7 w7 => (bI (f_L_layerOf y3 w7) (fun r8 w8 => (bI (f_L_layerOf (y3 + 1) w8) (fun r9 w9 => (bI (f_L_layerOf z4 w9) (fun r10 w10 => (bI (f_L_layerOf (z4 + 1) w10) (fun r11 w11 => (bI (f_L_layerOf z4 w11) (fun r12 w12 => (bI (f_L_layerOf (z4 + 1) w12) (fun r13 w13 => (if (if r11 < r10 then r11 else r10) ≤ (if r7 < r6 then r7 else r6) then (f_L_isPile_161 K48 (fun a0 w9 => f_L_isPile_60 K48 y1 y2 y3 n a0 w9) y1 y2 y3 z4 (if r7 < r6 then r7 else r6) (if r8 < r9 then r9 else r8) (if r11 < r10 then r11 else r10) (if r12 < r13 then r13 else r12) w13) else (if (if r8 < r9 then r9 else r8) ≤ (if r11 < r10 then r11 else r10) then (f_L_isPile_161 K48 (fun a0 w9 => f_L_isPile_60 K48 y1 y2 y3 n a0 w9) y1 y2 y3 z4 (if r7 < r6 then r7 else r6) (if r8 < r9 then r9 else r8) (if r11 < r10 then r11 else r10) (if r12 < r13 then r13 else r12) w13) else (if (if r8 < r9 then r9 else r8) < (if r12 < r13 then r13 else r12) then (f_L_isPile_182 w13) else (f_L_isPile_161 K48 (fun a0 w9 => f_L_isPile_60 K48 y1 y2 y3 n a0 w9) y1 y2 y3 z4 (if r7 < r6 then r7 else r6) (if r8 < r9 then r9 else r8) (if r11 < r10 then r11 else r10) (if r12 < r13 then r13 else r12) w13)))))))))))))))))))))
set_option maxRecDepth 100000 in
theorem S_L_isPile_60 {g : GC} (hl : g.1.stackTraces = false) {y1 : Int32} {y2 : Int32} {y3 : Int32} {B Bs : Nat} (hB : B ≤ 2740) (hBs : Bs ≤ 16440) {K48 : Int32 → XW → Option (Int32 × XW)} (hK48 : ∀ (z3 : Int32) (w : XW) (kc ks : Nat), kc ≤ B → ks ≤ Bs → VE g cL_isPile 9 RL (some .boolean) [] (rmL 7 2740 16440) 2740 16440 oI kc ks 48 [(0, .ref (g.2.1 + 0)), (1, .int y1), (2, .int y2), (3, .int z3)] [] w (K48 z3 w)) : ∀ (n : Nat) (z4 : Int32) (w : XW) (kc ks : Nat), kc + (16 * n + 16) ≤ B → ks + (96 * n + 96) ≤ Bs → VE g cL_isPile 9 RL (some .boolean) [] (rmL 7 2740 16440) 2740 16440 oI kc ks 60 [(0, .ref (g.2.1 + 0)), (1, .int y1), (2, .int y2), (3, .int y3), (4, .int z4)] [] w (f_L_isPile_60 K48 y1 y2 y3 n z4 w) := by
  intro n
  induction n with
  | zero => intro z4 w kc ks hk hks; exact v_none
  | succ n ih =>
    intro z4 w kc ks hk hks
    rw [f_L_isPile_60]
    obtain ⟨b0, hb0⟩ : ∃ b0 : Nat, b0 = B - (16 * n + 16) := ⟨_, rfl⟩
    obtain ⟨b1, hb1⟩ : ∃ b1 : Nat, b1 = Bs - (96 * n + 96) := ⟨_, rfl⟩
    refine v_iload dL_isPile_60 4 rfl ?_
    refine v_iconst (v := 1) dL_isPile_62 (by decide) ?_
    refine v_iadd dL_isPile_63 ?_
    refine v_iload_n dL_isPile_64 rfl 1 rfl ?_
    refine v_icmp_ge (tgt := 190) dL_isPile_65 (by decide) ?_ ?_
    · refine v_iinc (v := (y3 + 1)) dL_isPile_190 (q := 3) rfl rfl (Nat.le_of_ble_eq_true rfl) rfl ?_
      refine v_goto (tgt := 48) dL_isPile_193 (by decide) ?_
      refine v_sub [1, 2, 3, 0] rfl ?_
      exact hK48 _ _ _ _ (by omega) (by omega)
    · refine v_aload_n dL_isPile_68 rfl 0 rfl ?_
      refine v_iload_n dL_isPile_69 rfl 3 rfl ?_
      refine v_callSh (As := [.ref (g.2.1 + 0), .int y3]) ch_L_237 (S_L_layerOf hl) rfl rfl (Nat.le_of_ble_eq_true rfl) dL_isPile_70 (CR_rm (by decide) (by decide) (by omega) (by omega)) (fun r6 w6 => ?_)
      refine v_aload_n dL_isPile_73 rfl 0 rfl ?_
      refine v_iload_n dL_isPile_74 rfl 3 rfl ?_
      refine v_iconst (v := 1) dL_isPile_75 (by decide) ?_
      refine v_iadd dL_isPile_76 ?_
      refine v_callSh (As := [.ref (g.2.1 + 0), .int (y3 + 1)]) ch_L_237 (S_L_layerOf hl) rfl rfl (Nat.le_of_ble_eq_true rfl) dL_isPile_77 (CR_rm (by decide) (by decide) (by omega) (by omega)) (fun r7 w7 => ?_)
      refine v_min gw_1416 gw_552 gw_54 gw_553 dL_isPile_80 (CR_f1 _ _ _) (CR_f2 (Nat.le_of_ble_eq_true rfl) _ _ _) (CR_k1 (by omega)) (CR_k2 (by omega)) ?_
      refine v_istore dL_isPile_83 (Nat.le_of_ble_eq_true rfl) rfl ?_
      refine v_aload_n dL_isPile_85 rfl 1 rfl ?_
      refine v_iload_n dL_isPile_86 rfl 4 rfl ?_
      refine v_callSh (As := [.ref (g.2.1 + 0), .int y3]) ch_L_237 (S_L_layerOf hl) rfl rfl (Nat.le_of_ble_eq_true rfl) dL_isPile_87 (CR_rm (by decide) (by decide) (by omega) (by omega)) (fun r8 w8 => ?_)
      refine v_aload_n dL_isPile_90 rfl 1 rfl ?_
      refine v_iload_n dL_isPile_91 rfl 4 rfl ?_
      refine v_iconst (v := 1) dL_isPile_92 (by decide) ?_
      refine v_iadd dL_isPile_93 ?_
      refine v_callSh (As := [.ref (g.2.1 + 0), .int (y3 + 1)]) ch_L_237 (S_L_layerOf hl) rfl rfl (Nat.le_of_ble_eq_true rfl) dL_isPile_94 (CR_rm (by decide) (by decide) (by omega) (by omega)) (fun r9 w9 => ?_)
      refine v_max gw_702 gw_233 gw_54 gw_234 dL_isPile_97 (CR_f1 _ _ _) (CR_f2 (Nat.le_of_ble_eq_true rfl) _ _ _) (CR_k1 (by omega)) (CR_k2 (by omega)) ?_
      refine v_istore dL_isPile_100 (Nat.le_of_ble_eq_true rfl) rfl ?_
      refine v_aload_n dL_isPile_102 rfl 2 rfl ?_
      refine v_iload dL_isPile_103 6 rfl ?_
      refine v_callSh (As := [.ref (g.2.1 + 0), .int z4]) ch_L_237 (S_L_layerOf hl) rfl rfl (Nat.le_of_ble_eq_true rfl) dL_isPile_105 (CR_rm (by decide) (by decide) (by omega) (by omega)) (fun r10 w10 => ?_)
      refine v_aload_n dL_isPile_108 rfl 2 rfl ?_
      refine v_iload dL_isPile_109 6 rfl ?_
      refine v_iconst (v := 1) dL_isPile_111 (by decide) ?_
      refine v_iadd dL_isPile_112 ?_
      refine v_callSh (As := [.ref (g.2.1 + 0), .int (z4 + 1)]) ch_L_237 (S_L_layerOf hl) rfl rfl (Nat.le_of_ble_eq_true rfl) dL_isPile_113 (CR_rm (by decide) (by decide) (by omega) (by omega)) (fun r11 w11 => ?_)
      refine v_min gw_1416 gw_552 gw_54 gw_553 dL_isPile_116 (CR_f1 _ _ _) (CR_f2 (Nat.le_of_ble_eq_true rfl) _ _ _) (CR_k1 (by omega)) (CR_k2 (by omega)) ?_
      refine v_istore dL_isPile_119 (Nat.le_of_ble_eq_true rfl) rfl ?_
      refine v_aload_n dL_isPile_121 rfl 3 rfl ?_
      refine v_iload dL_isPile_122 7 rfl ?_
      refine v_callSh (As := [.ref (g.2.1 + 0), .int z4]) ch_L_237 (S_L_layerOf hl) rfl rfl (Nat.le_of_ble_eq_true rfl) dL_isPile_124 (CR_rm (by decide) (by decide) (by omega) (by omega)) (fun r12 w12 => ?_)
      refine v_aload_n dL_isPile_127 rfl 3 rfl ?_
      refine v_iload dL_isPile_128 7 rfl ?_
      refine v_iconst (v := 1) dL_isPile_130 (by decide) ?_
      refine v_iadd dL_isPile_131 ?_
      refine v_callSh (As := [.ref (g.2.1 + 0), .int (z4 + 1)]) ch_L_237 (S_L_layerOf hl) rfl rfl (Nat.le_of_ble_eq_true rfl) dL_isPile_132 (CR_rm (by decide) (by decide) (by omega) (by omega)) (fun r13 w13 => ?_)
      refine v_max gw_702 gw_233 gw_54 gw_234 dL_isPile_135 (CR_f1 _ _ _) (CR_f2 (Nat.le_of_ble_eq_true rfl) _ _ _) (CR_k1 (by omega)) (CR_k2 (by omega)) ?_
      refine v_istore dL_isPile_138 (Nat.le_of_ble_eq_true rfl) rfl ?_
      refine v_iload dL_isPile_140 3 rfl ?_
      refine v_iload dL_isPile_142 1 rfl ?_
      refine v_icmp_ge (tgt := 161) dL_isPile_144 (by decide) ?_ ?_
      · refine v_sub [4, 5, 6, 7, 8, 3, 2, 1, 0] rfl ?_
        exact S_L_isPile_161 hl (B := b0) (Bs := b1) (by omega) (by omega) (fun a0 a1 kc1 ks1 h1 h2 => hK48 a0 a1 _ _ (by omega) (by omega)) (fun a0 a1 kc1 ks1 h1 h2 => ih a0 a1 _ _ (by omega) (by omega)) _ _ _ _ _ _ _ _ (by omega) (by omega)
      · refine v_iload dL_isPile_147 1 rfl ?_
        refine v_iload dL_isPile_149 2 rfl ?_
        refine v_icmp_ge (tgt := 161) dL_isPile_151 (by decide) ?_ ?_
        · refine v_sub [4, 5, 6, 7, 8, 3, 2, 1, 0] rfl ?_
          exact S_L_isPile_161 hl (B := b0) (Bs := b1) (by omega) (by omega) (fun a0 a1 kc1 ks1 h1 h2 => hK48 a0 a1 _ _ (by omega) (by omega)) (fun a0 a1 kc1 ks1 h1 h2 => ih a0 a1 _ _ (by omega) (by omega)) _ _ _ _ _ _ _ _ (by omega) (by omega)
        · refine v_iload dL_isPile_154 2 rfl ?_
          refine v_iload dL_isPile_156 0 rfl ?_
          refine v_icmp_lt (tgt := 182) dL_isPile_158 (by decide) ?_ ?_
          · refine v_sub [] rfl ?_
            exact S_L_isPile_182 hl _ _ _ (by omega) (by omega)
          · refine v_sub [4, 5, 6, 7, 8, 3, 2, 1, 0] rfl ?_
            exact S_L_isPile_161 hl (B := b0) (Bs := b1) (by omega) (by omega) (fun a0 a1 kc1 ks1 h1 h2 => hK48 a0 a1 _ _ (by omega) (by omega)) (fun a0 a1 kc1 ks1 h1 h2 => ih a0 a1 _ _ (by omega) (by omega)) _ _ _ _ _ _ _ _ (by omega) (by omega)
def f_L_isPile_48 (y1 : Int32) (y2 : Int32) : Nat → Int32 → XW → Option (Int32 × XW)
  | 0, _, _ => none
  | n + 1, z3, w => (if y1 ≤ (z3 + 1) then (if y2 = ((1 <<< (y1 &&& 31)) - 1) then (bI (f_X10_sectionCount w) (fun r4 w4 => (if r4 < y1 then (f_L_isPile_217 w4) else (f_L_isPile_218 1 w4)))) else (f_L_isPile_217 w)) else (f_L_isPile_60 (fun a0 w9 => f_L_isPile_48 y1 y2 n a0 w9) y1 y2 z3 12 (z3 + 2) w))
set_option maxRecDepth 100000 in
theorem S_L_isPile_48 {g : GC} (hl : g.1.stackTraces = false) {y1 : Int32} {y2 : Int32} : ∀ (n : Nat) (z3 : Int32) (w : XW) (kc ks : Nat), kc + (208 * n + 208) ≤ 2740 → ks + (1248 * n + 1248) ≤ 16440 → VE g cL_isPile 9 RL (some .boolean) [] (rmL 7 2740 16440) 2740 16440 oI kc ks 48 [(0, .ref (g.2.1 + 0)), (1, .int y1), (2, .int y2), (3, .int z3)] [] w (f_L_isPile_48 y1 y2 n z3 w) := by
  intro n
  induction n with
  | zero => intro z3 w kc ks hk hks; exact v_none
  | succ n ih =>
    intro z3 w kc ks hk hks
    rw [f_L_isPile_48]
    obtain ⟨b0, hb0⟩ : ∃ b0 : Nat, b0 = 2740 - (208 * n + 208) := ⟨_, rfl⟩
    obtain ⟨b1, hb1⟩ : ∃ b1 : Nat, b1 = 16440 - (1248 * n + 1248) := ⟨_, rfl⟩
    refine v_iload_n dL_isPile_48 rfl 3 rfl ?_
    refine v_iconst (v := 1) dL_isPile_49 (by decide) ?_
    refine v_iadd dL_isPile_50 ?_
    refine v_iload_n dL_isPile_51 rfl 1 rfl ?_
    refine v_icmp_ge (tgt := 196) dL_isPile_52 (by decide) ?_ ?_
    · refine v_iload_n dL_isPile_196 rfl 2 rfl ?_
      refine v_iconst (v := 1) dL_isPile_197 (by decide) ?_
      refine v_iload_n dL_isPile_198 rfl 1 rfl ?_
      refine v_ishl dL_isPile_199 ?_
      refine v_iconst (v := 1) dL_isPile_200 (by decide) ?_
      refine v_isub dL_isPile_201 ?_
      refine v_icmp_ne (tgt := 217) dL_isPile_202 (by decide) ?_ ?_
      · refine v_sub [] rfl ?_
        exact S_L_isPile_217 hl _ _ _ (by omega) (by omega)
      · refine v_iload_n dL_isPile_205 rfl 1 rfl ?_
        refine v_aload_n dL_isPile_206 rfl 0 rfl ?_
        refine v_callVi (As := []) cv_L_206 (S_X10_sectionCount hl) tt_0 rfl rfl rfl (Nat.le_of_ble_eq_true rfl) dL_isPile_207 (CR_rm (by decide) (by decide) (by omega) (by omega)) (fun r4 w4 => ?_)
        refine v_icmp_gt (tgt := 217) dL_isPile_210 (by decide) ?_ ?_
        · refine v_sub [] rfl ?_
          exact S_L_isPile_217 hl _ _ _ (by omega) (by omega)
        · refine v_iconst (v := 1) dL_isPile_213 (by decide) ?_
          refine v_goto (tgt := 218) dL_isPile_214 (by decide) ?_
          refine v_sub [] rfl ?_
          exact S_L_isPile_218 hl _ _ _ _ (by omega) (by omega)
    · refine v_iload_n dL_isPile_55 rfl 3 rfl ?_
      refine v_iconst (v := 2) dL_isPile_56 (by decide) ?_
      refine v_iadd dL_isPile_57 ?_
      refine v_istore dL_isPile_58 (Nat.le_of_ble_eq_true rfl) rfl ?_
      refine v_sub [1, 2, 3, 4, 0] rfl ?_
      exact S_L_isPile_60 hl (B := b0) (Bs := b1) (by omega) (by omega) (fun a0 a1 kc1 ks1 h1 h2 => ih a0 a1 _ _ (by omega) (by omega)) _ _ _ _ _ (by omega) (by omega)
def f_L_isPile_9 (y1 : Int32) : Nat → Int32 → Int32 → XW → Option (Int32 × XW)
  | 0, _, _, _ => none
  | n + 1, z2, z3, w => (if y1 ≤ z3 then (f_L_isPile_48 y1 z2 12 0 w) else (bI (f_L_sectionIn z3 w) (fun r2 w2 => (bI (f_L_layerOf r2 w2) (fun r3 w3 => (if r3 = z3 then (f_L_isPile_9 y1 n (z2 ||| (1 <<< (r2 &&& 31))) (z3 + 1) w3) else (some (0, w3))))))))
set_option maxRecDepth 100000 in
theorem S_L_isPile_9 {g : GC} (hl : g.1.stackTraces = false) {y1 : Int32} : ∀ (n : Nat) (z2 : Int32) (z3 : Int32) (w : XW) (kc ks : Nat), kc + (3 * n + 2704) ≤ 2740 → ks + (18 * n + 16224) ≤ 16440 → VE g cL_isPile 9 RL (some .boolean) [] (rmL 7 2740 16440) 2740 16440 oI kc ks 9 [(0, .ref (g.2.1 + 0)), (1, .int y1), (2, .int z2), (3, .int z3)] [] w (f_L_isPile_9 y1 n z2 z3 w) := by
  intro n
  induction n with
  | zero => intro z2 z3 w kc ks hk hks; exact v_none
  | succ n ih =>
    intro z2 z3 w kc ks hk hks
    rw [f_L_isPile_9]
    refine v_iload_n dL_isPile_9 rfl 3 rfl ?_
    refine v_iload_n dL_isPile_10 rfl 1 rfl ?_
    refine v_icmp_ge (tgt := 46) dL_isPile_11 (by decide) ?_ ?_
    · refine v_iconst (v := 0) dL_isPile_46 (by decide) ?_
      refine v_istore_n dL_isPile_47 rfl (Nat.le_of_ble_eq_true rfl) rfl ?_
      refine v_sub [1, 2, 3, 0] rfl ?_
      exact S_L_isPile_48 hl _ _ _ _ _ (by omega) (by omega)
    · refine v_aload_n dL_isPile_14 rfl 0 rfl ?_
      refine v_iload_n dL_isPile_15 rfl 3 rfl ?_
      refine v_callSh (As := [.ref (g.2.1 + 0), .int z3]) ch_L_235 (S_L_sectionIn hl) rfl rfl (Nat.le_of_ble_eq_true rfl) dL_isPile_16 (CR_rm (by decide) (by decide) (by omega) (by omega)) (fun r2 w2 => ?_)
      refine v_istore dL_isPile_19 (Nat.le_of_ble_eq_true rfl) rfl ?_
      refine v_iload_n dL_isPile_21 rfl 3 rfl ?_
      refine v_iconst (v := 1) dL_isPile_22 (by decide) ?_
      refine v_iload dL_isPile_23 0 rfl ?_
      refine v_ishl dL_isPile_25 ?_
      refine v_ior dL_isPile_26 ?_
      refine v_istore_n dL_isPile_27 rfl (Nat.le_of_ble_eq_true rfl) rfl ?_
      refine v_aload_n dL_isPile_28 rfl 2 rfl ?_
      refine v_iload dL_isPile_29 1 rfl ?_
      refine v_callSh (As := [.ref (g.2.1 + 0), .int r2]) ch_L_237 (S_L_layerOf hl) rfl rfl (Nat.le_of_ble_eq_true rfl) dL_isPile_31 (CR_rm (by decide) (by decide) (by omega) (by omega)) (fun r3 w3 => ?_)
      refine v_iload_n dL_isPile_34 rfl 4 rfl ?_
      refine v_icmp_eq (tgt := 40) dL_isPile_35 (by decide) ?_ ?_
      · refine v_iinc (v := (z3 + 1)) dL_isPile_40 (q := 4) rfl rfl (Nat.le_of_ble_eq_true rfl) rfl ?_
        refine v_goto (tgt := 9) dL_isPile_43 (by decide) ?_
        refine v_sub [3, 4, 1, 0] rfl ?_
        exact ih _ _ _ _ _ (by omega) (by omega)
      · refine v_iconst (v := 0) dL_isPile_38 (by decide) ?_
        exact v_zret dL_isPile_39 rfl rfl rfl (by omega) (by omega)
def f_L_isPile (w : XW) : Option (Int32 × XW) := (bI (f_X10_foldedCount w) (fun r1 w1 => (f_L_isPile_9 r1 12 0 0 w1)))
set_option maxRecDepth 100000 in
theorem W_L_isPile {g : GC} (hl : g.1.stackTraces = false) {w : XW} : VE g cL_isPile 9 RL (some .boolean) [] (rmL 7 2740 16440) 2740 16440 oI 0 0 0 [(0, .ref (g.2.1 + 0))] [] w (f_L_isPile  w) := by
  unfold f_L_isPile
  refine v_aload_n dL_isPile_0 rfl 0 rfl ?_
  refine v_callVi (As := []) cv_L_209 (S_X10_foldedCount hl) tt_0 rfl rfl rfl (Nat.le_of_ble_eq_true rfl) dL_isPile_1 (CR_rm (by decide) (by decide) (by omega) (by omega)) (fun r1 w1 => ?_)
  refine v_istore_n dL_isPile_4 rfl (Nat.le_of_ble_eq_true rfl) rfl ?_
  refine v_iconst (v := 0) dL_isPile_5 (by decide) ?_
  refine v_istore_n dL_isPile_6 rfl (Nat.le_of_ble_eq_true rfl) rfl ?_
  refine v_iconst (v := 0) dL_isPile_7 (by decide) ?_
  refine v_istore_n dL_isPile_8 rfl (Nat.le_of_ble_eq_true rfl) rfl ?_
  refine v_sub [3, 2, 1, 0] rfl ?_
  exact S_L_isPile_9 hl _ _ _ _ _ _ (by omega) (by omega)
theorem S_L_isPile {g : GC} (hl : g.1.stackTraces = false) {w : XW} : ∀ q, f_L_isPile  w = some q → MM g (.code yL_isPile cL_isPile 9 (some .boolean)) yL_isPile (rmL 7 2740 16440) 2740 16440 [.ref (g.2.1 + 0)] w (oI q) := fun q hq => MM_of (own := RL) hl (by decide) gw_1483 rfl (Nat.le_of_ble_eq_true rfl) (W_L_isPile hl q hq) ⟨rfl, rfl⟩

theorem dL_areFoldings_0 : decode cL_areFoldings 0 = .ok (.aload_n 0, 1) := by decide +kernel
theorem dL_areFoldings_1 : decode cL_areFoldings 1 = .ok (.invokevirtual 336, 3) := by decide +kernel
theorem dL_areFoldings_4 : decode cL_areFoldings 4 = .ok (.istore_n 1, 1) := by decide +kernel
theorem dL_areFoldings_5 : decode cL_areFoldings 5 = .ok (.aload_n 0, 1) := by decide +kernel
theorem dL_areFoldings_6 : decode cL_areFoldings 6 = .ok (.invokevirtual 209, 3) := by decide +kernel
theorem dL_areFoldings_9 : decode cL_areFoldings 9 = .ok (.istore_n 2, 1) := by decide +kernel
theorem dL_areFoldings_10 : decode cL_areFoldings 10 = .ok (.iload_n 2, 1) := by decide +kernel
theorem dL_areFoldings_11 : decode cL_areFoldings 11 = .ok (.aload_n 0, 1) := by decide +kernel
theorem dL_areFoldings_12 : decode cL_areFoldings 12 = .ok (.invokevirtual 206, 3) := by decide +kernel
theorem dL_areFoldings_15 : decode cL_areFoldings 15 = .ok (.if_icmp .ne 22, 3) := by decide +kernel
theorem dL_areFoldings_18 : decode cL_areFoldings 18 = .ok (.iload_n 1, 1) := by decide +kernel
theorem dL_areFoldings_19 : decode cL_areFoldings 19 = .ok (.iconst 1, 1) := by decide +kernel
theorem dL_areFoldings_20 : decode cL_areFoldings 20 = .ok (.if_icmp .ne 15, 3) := by decide +kernel
theorem dL_areFoldings_23 : decode cL_areFoldings 23 = .ok (.aload_n 0, 1) := by decide +kernel
theorem dL_areFoldings_24 : decode cL_areFoldings 24 = .ok (.invokevirtual 339, 3) := by decide +kernel
theorem dL_areFoldings_27 : decode cL_areFoldings 27 = .ok (.iconst 1, 1) := by decide +kernel
theorem dL_areFoldings_28 : decode cL_areFoldings 28 = .ok (.if_icmp .ne 7, 3) := by decide +kernel
theorem dL_areFoldings_31 : decode cL_areFoldings 31 = .ok (.iconst 1, 1) := by decide +kernel
theorem dL_areFoldings_32 : decode cL_areFoldings 32 = .ok (.goto 4, 3) := by decide +kernel
theorem dL_areFoldings_35 : decode cL_areFoldings 35 = .ok (.iconst 0, 1) := by decide +kernel
theorem dL_areFoldings_36 : decode cL_areFoldings 36 = .ok (.ireturn, 1) := by decide +kernel
theorem dL_areFoldings_37 : decode cL_areFoldings 37 = .ok (.iconst 0, 1) := by decide +kernel
theorem dL_areFoldings_38 : decode cL_areFoldings 38 = .ok (.istore_n 3, 1) := by decide +kernel
theorem dL_areFoldings_39 : decode cL_areFoldings 39 = .ok (.iconst 0, 1) := by decide +kernel
theorem dL_areFoldings_40 : decode cL_areFoldings 40 = .ok (.istore 4, 2) := by decide +kernel
theorem dL_areFoldings_42 : decode cL_areFoldings 42 = .ok (.iload 4, 2) := by decide +kernel
theorem dL_areFoldings_44 : decode cL_areFoldings 44 = .ok (.iload_n 2, 1) := by decide +kernel
theorem dL_areFoldings_45 : decode cL_areFoldings 45 = .ok (.if_icmp .gt 61, 3) := by decide +kernel
theorem dL_areFoldings_48 : decode cL_areFoldings 48 = .ok (.aload_n 0, 1) := by decide +kernel
theorem dL_areFoldings_49 : decode cL_areFoldings 49 = .ok (.iload 4, 2) := by decide +kernel
theorem dL_areFoldings_51 : decode cL_areFoldings 51 = .ok (.invokestatic 215, 3) := by decide +kernel
theorem dL_areFoldings_54 : decode cL_areFoldings 54 = .ok (.istore 5, 2) := by decide +kernel
theorem dL_areFoldings_56 : decode cL_areFoldings 56 = .ok (.iload 5, 2) := by decide +kernel
theorem dL_areFoldings_58 : decode cL_areFoldings 58 = .ok (.iconst 1, 1) := by decide +kernel
theorem dL_areFoldings_59 : decode cL_areFoldings 59 = .ok (.if_icmp .ne 41, 3) := by decide +kernel
theorem dL_areFoldings_62 : decode cL_areFoldings 62 = .ok (.aload_n 0, 1) := by decide +kernel
theorem dL_areFoldings_63 : decode cL_areFoldings 63 = .ok (.iload 4, 2) := by decide +kernel
theorem dL_areFoldings_65 : decode cL_areFoldings 65 = .ok (.invokestatic 267, 3) := by decide +kernel
theorem dL_areFoldings_68 : decode cL_areFoldings 68 = .ok (.istore 6, 2) := by decide +kernel
theorem dL_areFoldings_70 : decode cL_areFoldings 70 = .ok (.iload_n 3, 1) := by decide +kernel
theorem dL_areFoldings_71 : decode cL_areFoldings 71 = .ok (.aload_n 0, 1) := by decide +kernel
theorem dL_areFoldings_72 : decode cL_areFoldings 72 = .ok (.invokevirtual 336, 3) := by decide +kernel
theorem dL_areFoldings_75 : decode cL_areFoldings 75 = .ok (.iadd, 1) := by decide +kernel
theorem dL_areFoldings_76 : decode cL_areFoldings 76 = .ok (.istore_n 3, 1) := by decide +kernel
theorem dL_areFoldings_77 : decode cL_areFoldings 77 = .ok (.aload_n 0, 1) := by decide +kernel
theorem dL_areFoldings_78 : decode cL_areFoldings 78 = .ok (.invokestatic 269, 3) := by decide +kernel
theorem dL_areFoldings_81 : decode cL_areFoldings 81 = .ok (.istore 7, 2) := by decide +kernel
theorem dL_areFoldings_83 : decode cL_areFoldings 83 = .ok (.iload 6, 2) := by decide +kernel
theorem dL_areFoldings_85 : decode cL_areFoldings 85 = .ok (.iload_n 2, 1) := by decide +kernel
theorem dL_areFoldings_86 : decode cL_areFoldings 86 = .ok (.iconst 1, 1) := by decide +kernel
theorem dL_areFoldings_87 : decode cL_areFoldings 87 = .ok (.iadd, 1) := by decide +kernel
theorem dL_areFoldings_88 : decode cL_areFoldings 88 = .ok (.if_icmp .ne 10, 3) := by decide +kernel
theorem dL_areFoldings_91 : decode cL_areFoldings 91 = .ok (.iload 7, 2) := by decide +kernel
theorem dL_areFoldings_93 : decode cL_areFoldings 93 = .ok (.iload 4, 2) := by decide +kernel
theorem dL_areFoldings_95 : decode cL_areFoldings 95 = .ok (.if_icmp .eq 5, 3) := by decide +kernel
theorem dL_areFoldings_98 : decode cL_areFoldings 98 = .ok (.iconst 0, 1) := by decide +kernel
theorem dL_areFoldings_99 : decode cL_areFoldings 99 = .ok (.ireturn, 1) := by decide +kernel
theorem dL_areFoldings_100 : decode cL_areFoldings 100 = .ok (.iinc 4 1, 3) := by decide +kernel
theorem dL_areFoldings_103 : decode cL_areFoldings 103 = .ok (.goto (-61), 3) := by decide +kernel
theorem dL_areFoldings_106 : decode cL_areFoldings 106 = .ok (.iload_n 3, 1) := by decide +kernel
theorem dL_areFoldings_107 : decode cL_areFoldings 107 = .ok (.iload_n 1, 1) := by decide +kernel
theorem dL_areFoldings_108 : decode cL_areFoldings 108 = .ok (.if_icmp .ne 23, 3) := by decide +kernel
theorem dL_areFoldings_111 : decode cL_areFoldings 111 = .ok (.aload_n 0, 1) := by decide +kernel
theorem dL_areFoldings_112 : decode cL_areFoldings 112 = .ok (.invokevirtual 339, 3) := by decide +kernel
theorem dL_areFoldings_115 : decode cL_areFoldings 115 = .ok (.iload_n 1, 1) := by decide +kernel
theorem dL_areFoldings_116 : decode cL_areFoldings 116 = .ok (.if_icmp .ne 15, 3) := by decide +kernel
theorem dL_areFoldings_119 : decode cL_areFoldings 119 = .ok (.aload_n 0, 1) := by decide +kernel
theorem dL_areFoldings_120 : decode cL_areFoldings 120 = .ok (.invokevirtual 336, 3) := by decide +kernel
theorem dL_areFoldings_123 : decode cL_areFoldings 123 = .ok (.iload_n 1, 1) := by decide +kernel
theorem dL_areFoldings_124 : decode cL_areFoldings 124 = .ok (.if_icmp .ne 7, 3) := by decide +kernel
theorem dL_areFoldings_127 : decode cL_areFoldings 127 = .ok (.iconst 1, 1) := by decide +kernel
theorem dL_areFoldings_128 : decode cL_areFoldings 128 = .ok (.goto 4, 3) := by decide +kernel
theorem dL_areFoldings_131 : decode cL_areFoldings 131 = .ok (.iconst 0, 1) := by decide +kernel
theorem dL_areFoldings_132 : decode cL_areFoldings 132 = .ok (.ireturn, 1) := by decide +kernel
def f_L_areFoldings_132 (u0 : Int32) (w : XW) : Option (Int32 × XW) := (if vp_nar .boolean u0 = u0 then (some (u0, w)) else none)
set_option maxRecDepth 100000 in
theorem S_L_areFoldings_132 {g : GC} (hl : g.1.stackTraces = false) : ∀ (u0 : Int32) (w : XW) (kc ks : Nat), kc + 0 ≤ 39 → ks + 0 ≤ 234 → VE g cL_areFoldings 8 RL (some .boolean) [] (rmL 28 39 234) 39 234 oI kc ks 132 [] [.int u0] w (f_L_areFoldings_132  u0 w) := by
  intro u0 w kc ks hk hks
  unfold f_L_areFoldings_132
  refine v_guard (fun h12 => ?_)
  exact v_zret dL_areFoldings_132 rfl (narB_ok h12) rfl (by omega) (by omega)
def f_L_areFoldings_131 (w : XW) : Option (Int32 × XW) := (f_L_areFoldings_132 0 w)
set_option maxRecDepth 100000 in
theorem S_L_areFoldings_131 {g : GC} (hl : g.1.stackTraces = false) : ∀ (w : XW) (kc ks : Nat), kc + 0 ≤ 39 → ks + 0 ≤ 234 → VE g cL_areFoldings 8 RL (some .boolean) [] (rmL 28 39 234) 39 234 oI kc ks 131 [] [] w (f_L_areFoldings_131   w) := by
  intro  w kc ks hk hks
  unfold f_L_areFoldings_131
  refine v_iconst (v := 0) dL_areFoldings_131 (by decide) ?_
  refine v_sub [] rfl ?_
  exact S_L_areFoldings_132 hl _ _ _ _ (by omega) (by omega)
def f_L_areFoldings_100 (K42 : Int32 → Int32 → XW → Option (Int32 × XW)) (y1 : Int32) (y2 : Int32) (z3 : Int32) (z4 : Int32) (w : XW) : Option (Int32 × XW) := (K42 z3 (z4 + 1) w)
set_option maxRecDepth 100000 in
theorem S_L_areFoldings_100 {g : GC} (hl : g.1.stackTraces = false) {y1 : Int32} {y2 : Int32} {B Bs : Nat} (hB : B ≤ 39) (hBs : Bs ≤ 234) {K42 : Int32 → Int32 → XW → Option (Int32 × XW)} (hK42 : ∀ (z3 : Int32) (z4 : Int32) (w : XW) (kc ks : Nat), kc ≤ B → ks ≤ Bs → VE g cL_areFoldings 8 RL (some .boolean) [] (rmL 28 39 234) 39 234 oI kc ks 42 [(0, .ref (g.2.1 + 0)), (1, .int y1), (2, .int y2), (3, .int z3), (4, .int z4)] [] w (K42 z3 z4 w)) : ∀ (z3 : Int32) (z4 : Int32) (w : XW) (kc ks : Nat), kc + 0 ≤ B → ks + 0 ≤ Bs → VE g cL_areFoldings 8 RL (some .boolean) [] (rmL 28 39 234) 39 234 oI kc ks 100 [(0, .ref (g.2.1 + 0)), (1, .int y1), (2, .int y2), (3, .int z3), (4, .int z4)] [] w (f_L_areFoldings_100 K42 y1 y2 z3 z4 w) := by
  intro z3 z4 w kc ks hk hks
  unfold f_L_areFoldings_100
  refine v_iinc (v := (z4 + 1)) dL_areFoldings_100 (q := 4) rfl rfl (Nat.le_of_ble_eq_true rfl) rfl ?_
  refine v_goto (tgt := 42) dL_areFoldings_103 (by decide) ?_
  refine v_sub [1, 2, 3, 4, 0] rfl ?_
  exact hK42 _ _ _ _ _ (by omega) (by omega)
def f_L_areFoldings_98 (w : XW) : Option (Int32 × XW) := (some (0, w))
set_option maxRecDepth 100000 in
theorem S_L_areFoldings_98 {g : GC} (hl : g.1.stackTraces = false) : ∀ (w : XW) (kc ks : Nat), kc + 0 ≤ 39 → ks + 0 ≤ 234 → VE g cL_areFoldings 8 RL (some .boolean) [] (rmL 28 39 234) 39 234 oI kc ks 98 [] [] w (f_L_areFoldings_98   w) := by
  intro  w kc ks hk hks
  unfold f_L_areFoldings_98
  refine v_iconst (v := 0) dL_areFoldings_98 (by decide) ?_
  exact v_zret dL_areFoldings_99 rfl rfl rfl (by omega) (by omega)
def f_L_areFoldings_42 (y1 : Int32) (y2 : Int32) : Nat → Int32 → Int32 → XW → Option (Int32 × XW)
  | 0, _, _, _ => none
  | n + 1, z3, z4, w => (if y2 < z4 then (if z3 = y1 then (bI (f_X10_completionsByOrders w) (fun r5 w5 => (if r5 = y1 then (bI (f_X10_completions w5) (fun r6 w6 => (if r6 = y1 then (f_L_areFoldings_132 1 w6) else (f_L_areFoldings_131 w6)))) else (f_L_areFoldings_131 w5)))) else (f_L_areFoldings_131 w)) else (bI (f_L_canFold z4 w) (fun r7 w7 => (if r7 = 1 then (bI (f_L_fold z4 w7) (fun r8 w8 => (bI (f_X10_completions w8) (fun r9 w9 => (bI (f_L_unfold w9) (fun r10 w10 => (if r8 = (y2 + 1) then (if r10 = z4 then (f_L_areFoldings_100 (fun a0 a1 w9 => f_L_areFoldings_42 y1 y2 n a0 a1 w9) y1 y2 (z3 + r9) z4 w10) else (f_L_areFoldings_98 w10)) else (f_L_areFoldings_98 w10)))))))) else (f_L_areFoldings_100 (fun a0 a1 w9 => f_L_areFoldings_42 y1 y2 n a0 a1 w9) y1 y2 z3 z4 w7)))))
set_option maxRecDepth 100000 in
theorem S_L_areFoldings_42 {g : GC} (hl : g.1.stackTraces = false) {y1 : Int32} {y2 : Int32} : ∀ (n : Nat) (z3 : Int32) (z4 : Int32) (w : XW) (kc ks : Nat), kc + (3 * n + 3) ≤ 39 → ks + (18 * n + 18) ≤ 234 → VE g cL_areFoldings 8 RL (some .boolean) [] (rmL 28 39 234) 39 234 oI kc ks 42 [(0, .ref (g.2.1 + 0)), (1, .int y1), (2, .int y2), (3, .int z3), (4, .int z4)] [] w (f_L_areFoldings_42 y1 y2 n z3 z4 w) := by
  intro n
  induction n with
  | zero => intro z3 z4 w kc ks hk hks; exact v_none
  | succ n ih =>
    intro z3 z4 w kc ks hk hks
    rw [f_L_areFoldings_42]
    obtain ⟨b0, hb0⟩ : ∃ b0 : Nat, b0 = 39 - (3 * n + 3) := ⟨_, rfl⟩
    obtain ⟨b1, hb1⟩ : ∃ b1 : Nat, b1 = 234 - (18 * n + 18) := ⟨_, rfl⟩
    refine v_iload dL_areFoldings_42 4 rfl ?_
    refine v_iload_n dL_areFoldings_44 rfl 2 rfl ?_
    refine v_icmp_gt (tgt := 106) dL_areFoldings_45 (by decide) ?_ ?_
    · refine v_iload_n dL_areFoldings_106 rfl 3 rfl ?_
      refine v_iload_n dL_areFoldings_107 rfl 1 rfl ?_
      refine v_icmp_ne (tgt := 131) dL_areFoldings_108 (by decide) ?_ ?_
      · refine v_sub [] rfl ?_
        exact S_L_areFoldings_131 hl _ _ _ (by omega) (by omega)
      · refine v_aload_n dL_areFoldings_111 rfl 0 rfl ?_
        refine v_callVi (As := []) cv_L_339 (S_X10_completionsByOrders hl) tt_0 rfl rfl rfl (Nat.le_of_ble_eq_true rfl) dL_areFoldings_112 (CR_rm (by decide) (by decide) (by omega) (by omega)) (fun r5 w5 => ?_)
        refine v_iload_n dL_areFoldings_115 rfl 1 rfl ?_
        refine v_icmp_ne (tgt := 131) dL_areFoldings_116 (by decide) ?_ ?_
        · refine v_sub [] rfl ?_
          exact S_L_areFoldings_131 hl _ _ _ (by omega) (by omega)
        · refine v_aload_n dL_areFoldings_119 rfl 0 rfl ?_
          refine v_callVi (As := []) cv_L_336 (S_X10_completions hl) tt_0 rfl rfl rfl (Nat.le_of_ble_eq_true rfl) dL_areFoldings_120 (CR_rm (by decide) (by decide) (by omega) (by omega)) (fun r6 w6 => ?_)
          refine v_iload_n dL_areFoldings_123 rfl 1 rfl ?_
          refine v_icmp_ne (tgt := 131) dL_areFoldings_124 (by decide) ?_ ?_
          · refine v_sub [] rfl ?_
            exact S_L_areFoldings_131 hl _ _ _ (by omega) (by omega)
          · refine v_iconst (v := 1) dL_areFoldings_127 (by decide) ?_
            refine v_goto (tgt := 132) dL_areFoldings_128 (by decide) ?_
            refine v_sub [] rfl ?_
            exact S_L_areFoldings_132 hl _ _ _ _ (by omega) (by omega)
    · refine v_aload_n dL_areFoldings_48 rfl 0 rfl ?_
      refine v_iload dL_areFoldings_49 4 rfl ?_
      refine v_callSh (As := [.ref (g.2.1 + 0), .int z4]) ch_L_215 (S_L_canFold hl) rfl rfl (Nat.le_of_ble_eq_true rfl) dL_areFoldings_51 (CR_rm (by decide) (by decide) (by omega) (by omega)) (fun r7 w7 => ?_)
      refine v_istore dL_areFoldings_54 (Nat.le_of_ble_eq_true rfl) rfl ?_
      refine v_iload dL_areFoldings_56 0 rfl ?_
      refine v_iconst (v := 1) dL_areFoldings_58 (by decide) ?_
      refine v_icmp_ne (tgt := 100) dL_areFoldings_59 (by decide) ?_ ?_
      · refine v_sub [1, 2, 3, 4, 5] rfl ?_
        exact S_L_areFoldings_100 hl (B := b0) (Bs := b1) (by omega) (by omega) (fun a0 a1 a2 kc1 ks1 h1 h2 => ih a0 a1 a2 _ _ (by omega) (by omega)) _ _ _ _ _ (by omega) (by omega)
      · refine v_aload_n dL_areFoldings_62 rfl 1 rfl ?_
        refine v_iload dL_areFoldings_63 5 rfl ?_
        refine v_callSh (As := [.ref (g.2.1 + 0), .int z4]) ch_L_267 (S_L_fold hl) rfl rfl (Nat.le_of_ble_eq_true rfl) dL_areFoldings_65 (CR_rm (by decide) (by decide) (by omega) (by omega)) (fun r8 w8 => ?_)
        refine v_istore dL_areFoldings_68 (Nat.le_of_ble_eq_true rfl) rfl ?_
        refine v_iload_n dL_areFoldings_70 rfl 5 rfl ?_
        refine v_aload_n dL_areFoldings_71 rfl 2 rfl ?_
        refine v_callVi (As := []) cv_L_336 (S_X10_completions hl) tt_0 rfl rfl rfl (Nat.le_of_ble_eq_true rfl) dL_areFoldings_72 (CR_rm (by decide) (by decide) (by omega) (by omega)) (fun r9 w9 => ?_)
        refine v_iadd dL_areFoldings_75 ?_
        refine v_istore_n dL_areFoldings_76 rfl (Nat.le_of_ble_eq_true rfl) rfl ?_
        refine v_aload_n dL_areFoldings_77 rfl 3 rfl ?_
        refine v_callSh (As := [.ref (g.2.1 + 0)]) ch_L_269 (S_L_unfold hl) rfl rfl (Nat.le_of_ble_eq_true rfl) dL_areFoldings_78 (CR_rm (by decide) (by decide) (by omega) (by omega)) (fun r10 w10 => ?_)
        refine v_istore dL_areFoldings_81 (Nat.le_of_ble_eq_true rfl) rfl ?_
        refine v_iload dL_areFoldings_83 2 rfl ?_
        refine v_iload_n dL_areFoldings_85 rfl 6 rfl ?_
        refine v_iconst (v := 1) dL_areFoldings_86 (by decide) ?_
        refine v_iadd dL_areFoldings_87 ?_
        refine v_icmp_ne (tgt := 98) dL_areFoldings_88 (by decide) ?_ ?_
        · refine v_sub [] rfl ?_
          exact S_L_areFoldings_98 hl _ _ _ (by omega) (by omega)
        · refine v_iload dL_areFoldings_91 0 rfl ?_
          refine v_iload dL_areFoldings_93 7 rfl ?_
          refine v_icmp_eq (tgt := 100) dL_areFoldings_95 (by decide) ?_ ?_
          · refine v_sub [4, 5, 6, 1, 7] rfl ?_
            exact S_L_areFoldings_100 hl (B := b0) (Bs := b1) (by omega) (by omega) (fun a0 a1 a2 kc1 ks1 h1 h2 => ih a0 a1 a2 _ _ (by omega) (by omega)) _ _ _ _ _ (by omega) (by omega)
          · refine v_sub [] rfl ?_
            exact S_L_areFoldings_98 hl _ _ _ (by omega) (by omega)
def f_L_areFoldings_36 (u0 : Int32) (w : XW) : Option (Int32 × XW) := (if vp_nar .boolean u0 = u0 then (some (u0, w)) else none)
set_option maxRecDepth 100000 in
theorem S_L_areFoldings_36 {g : GC} (hl : g.1.stackTraces = false) : ∀ (u0 : Int32) (w : XW) (kc ks : Nat), kc + 0 ≤ 39 → ks + 0 ≤ 234 → VE g cL_areFoldings 8 RL (some .boolean) [] (rmL 28 39 234) 39 234 oI kc ks 36 [] [.int u0] w (f_L_areFoldings_36  u0 w) := by
  intro u0 w kc ks hk hks
  unfold f_L_areFoldings_36
  refine v_guard (fun h11 => ?_)
  exact v_zret dL_areFoldings_36 rfl (narB_ok h11) rfl (by omega) (by omega)
def f_L_areFoldings_35 (w : XW) : Option (Int32 × XW) := (f_L_areFoldings_36 0 w)
set_option maxRecDepth 100000 in
theorem S_L_areFoldings_35 {g : GC} (hl : g.1.stackTraces = false) : ∀ (w : XW) (kc ks : Nat), kc + 0 ≤ 39 → ks + 0 ≤ 234 → VE g cL_areFoldings 8 RL (some .boolean) [] (rmL 28 39 234) 39 234 oI kc ks 35 [] [] w (f_L_areFoldings_35   w) := by
  intro  w kc ks hk hks
  unfold f_L_areFoldings_35
  refine v_iconst (v := 0) dL_areFoldings_35 (by decide) ?_
  refine v_sub [] rfl ?_
  exact S_L_areFoldings_36 hl _ _ _ _ (by omega) (by omega)
def f_L_areFoldings (w : XW) : Option (Int32 × XW) := (bI (f_X10_completions w) (fun r1 w1 => (bI (f_X10_foldedCount w1) (fun r2 w2 => (bI (f_X10_sectionCount w2) (fun r3 w3 => (if r2 = r3 then (if r1 = 1 then (bI (f_X10_completionsByOrders w3) (fun r4 w4 => (if r4 = 1 then (f_L_areFoldings_36 1 w4) else (f_L_areFoldings_35 w4)))) else (f_L_areFoldings_35 w3)) else (f_L_areFoldings_42 r1 r2 12 0 0 w3))))))))
set_option maxRecDepth 100000 in
theorem W_L_areFoldings {g : GC} (hl : g.1.stackTraces = false) {w : XW} : VE g cL_areFoldings 8 RL (some .boolean) [] (rmL 28 39 234) 39 234 oI 0 0 0 [(0, .ref (g.2.1 + 0))] [] w (f_L_areFoldings  w) := by
  unfold f_L_areFoldings
  refine v_aload_n dL_areFoldings_0 rfl 0 rfl ?_
  refine v_callVi (As := []) cv_L_336 (S_X10_completions hl) tt_0 rfl rfl rfl (Nat.le_of_ble_eq_true rfl) dL_areFoldings_1 (CR_rm (by decide) (by decide) (by omega) (by omega)) (fun r1 w1 => ?_)
  refine v_istore_n dL_areFoldings_4 rfl (Nat.le_of_ble_eq_true rfl) rfl ?_
  refine v_aload_n dL_areFoldings_5 rfl 1 rfl ?_
  refine v_callVi (As := []) cv_L_209 (S_X10_foldedCount hl) tt_0 rfl rfl rfl (Nat.le_of_ble_eq_true rfl) dL_areFoldings_6 (CR_rm (by decide) (by decide) (by omega) (by omega)) (fun r2 w2 => ?_)
  refine v_istore_n dL_areFoldings_9 rfl (Nat.le_of_ble_eq_true rfl) rfl ?_
  refine v_iload_n dL_areFoldings_10 rfl 0 rfl ?_
  refine v_aload_n dL_areFoldings_11 rfl 2 rfl ?_
  refine v_callVi (As := []) cv_L_206 (S_X10_sectionCount hl) tt_0 rfl rfl rfl (Nat.le_of_ble_eq_true rfl) dL_areFoldings_12 (CR_rm (by decide) (by decide) (by omega) (by omega)) (fun r3 w3 => ?_)
  refine v_icmp_ne (tgt := 37) dL_areFoldings_15 (by decide) ?_ ?_
  · refine v_iconst (v := 0) dL_areFoldings_37 (by decide) ?_
    refine v_istore_n dL_areFoldings_38 rfl (Nat.le_of_ble_eq_true rfl) rfl ?_
    refine v_iconst (v := 0) dL_areFoldings_39 (by decide) ?_
    refine v_istore dL_areFoldings_40 (Nat.le_of_ble_eq_true rfl) rfl ?_
    refine v_sub [4, 3, 2, 1, 0] rfl ?_
    exact S_L_areFoldings_42 hl _ _ _ _ _ _ (by omega) (by omega)
  · refine v_iload_n dL_areFoldings_18 rfl 1 rfl ?_
    refine v_iconst (v := 1) dL_areFoldings_19 (by decide) ?_
    refine v_icmp_ne (tgt := 35) dL_areFoldings_20 (by decide) ?_ ?_
    · refine v_sub [] rfl ?_
      exact S_L_areFoldings_35 hl _ _ _ (by omega) (by omega)
    · refine v_aload_n dL_areFoldings_23 rfl 2 rfl ?_
      refine v_callVi (As := []) cv_L_339 (S_X10_completionsByOrders hl) tt_0 rfl rfl rfl (Nat.le_of_ble_eq_true rfl) dL_areFoldings_24 (CR_rm (by decide) (by decide) (by omega) (by omega)) (fun r4 w4 => ?_)
      refine v_iconst (v := 1) dL_areFoldings_27 (by decide) ?_
      refine v_icmp_ne (tgt := 35) dL_areFoldings_28 (by decide) ?_ ?_
      · refine v_sub [] rfl ?_
        exact S_L_areFoldings_35 hl _ _ _ (by omega) (by omega)
      · refine v_iconst (v := 1) dL_areFoldings_31 (by decide) ?_
        refine v_goto (tgt := 36) dL_areFoldings_32 (by decide) ?_
        refine v_sub [] rfl ?_
        exact S_L_areFoldings_36 hl _ _ _ _ (by omega) (by omega)
theorem S_L_areFoldings {g : GC} (hl : g.1.stackTraces = false) {w : XW} : ∀ q, f_L_areFoldings  w = some q → MM g (.code yL_areFoldings cL_areFoldings 8 (some .boolean)) yL_areFoldings (rmL 28 39 234) 39 234 [.ref (g.2.1 + 0)] w (oI q) := fun q hq => MM_of (own := RL) hl (by decide) gw_1598 rfl (Nat.le_of_ble_eq_true rfl) (W_L_areFoldings hl q hq) ⟨rfl, rfl⟩

theorem dL_isKept_0 : decode cL_isKept 0 = .ok (.aload_n 0, 1) := by decide +kernel
theorem dL_isKept_1 : decode cL_isKept 1 = .ok (.invokevirtual 387, 3) := by decide +kernel
theorem dL_isKept_4 : decode cL_isKept 4 = .ok (.istore_n 3, 1) := by decide +kernel
theorem dL_isKept_5 : decode cL_isKept 5 = .ok (.bipush 8, 2) := by decide +kernel
theorem dL_isKept_7 : decode cL_isKept 7 = .ok (.iload_n 2, 1) := by decide +kernel
theorem dL_isKept_8 : decode cL_isKept 8 = .ok (.invokestatic 241, 3) := by decide +kernel
theorem dL_isKept_11 : decode cL_isKept 11 = .ok (.istore 4, 2) := by decide +kernel
theorem dL_isKept_13 : decode cL_isKept 13 = .ok (.aload_n 0, 1) := by decide +kernel
theorem dL_isKept_14 : decode cL_isKept 14 = .ok (.invokevirtual 199, 3) := by decide +kernel
theorem dL_isKept_17 : decode cL_isKept 17 = .ok (.iload 4, 2) := by decide +kernel
theorem dL_isKept_19 : decode cL_isKept 19 = .ok (.if_icmp .eq 5, 3) := by decide +kernel
theorem dL_isKept_22 : decode cL_isKept 22 = .ok (.iconst 0, 1) := by decide +kernel
theorem dL_isKept_23 : decode cL_isKept 23 = .ok (.ireturn, 1) := by decide +kernel
theorem dL_isKept_24 : decode cL_isKept 24 = .ok (.iload_n 2, 1) := by decide +kernel
theorem dL_isKept_25 : decode cL_isKept 25 = .ok (.iconst 1, 1) := by decide +kernel
theorem dL_isKept_26 : decode cL_isKept 26 = .ok (.isub, 1) := by decide +kernel
theorem dL_isKept_27 : decode cL_isKept 27 = .ok (.istore 5, 2) := by decide +kernel
theorem dL_isKept_29 : decode cL_isKept 29 = .ok (.iload 4, 2) := by decide +kernel
theorem dL_isKept_31 : decode cL_isKept 31 = .ok (.ifCond .le 35, 3) := by decide +kernel
theorem dL_isKept_34 : decode cL_isKept 34 = .ok (.iinc 4 (-1), 3) := by decide +kernel
theorem dL_isKept_37 : decode cL_isKept 37 = .ok (.aload_n 0, 1) := by decide +kernel
theorem dL_isKept_38 : decode cL_isKept 38 = .ok (.invokestatic 390, 3) := by decide +kernel
theorem dL_isKept_41 : decode cL_isKept 41 = .ok (.iload 4, 2) := by decide +kernel
theorem dL_isKept_43 : decode cL_isKept 43 = .ok (.if_icmp .ne 15, 3) := by decide +kernel
theorem dL_isKept_46 : decode cL_isKept 46 = .ok (.aload_n 0, 1) := by decide +kernel
theorem dL_isKept_47 : decode cL_isKept 47 = .ok (.invokestatic 195, 3) := by decide +kernel
theorem dL_isKept_50 : decode cL_isKept 50 = .ok (.aload_n 1, 1) := by decide +kernel
theorem dL_isKept_51 : decode cL_isKept 51 = .ok (.iload 5, 2) := by decide +kernel
theorem dL_isKept_53 : decode cL_isKept 53 = .ok (.laload, 1) := by decide +kernel
theorem dL_isKept_54 : decode cL_isKept 54 = .ok (.lcmp, 1) := by decide +kernel
theorem dL_isKept_55 : decode cL_isKept 55 = .ok (.ifCond .eq 5, 3) := by decide +kernel
theorem dL_isKept_58 : decode cL_isKept 58 = .ok (.iconst 0, 1) := by decide +kernel
theorem dL_isKept_59 : decode cL_isKept 59 = .ok (.ireturn, 1) := by decide +kernel
theorem dL_isKept_60 : decode cL_isKept 60 = .ok (.iinc 5 (-1), 3) := by decide +kernel
theorem dL_isKept_63 : decode cL_isKept 63 = .ok (.goto (-34), 3) := by decide +kernel
theorem dL_isKept_66 : decode cL_isKept 66 = .ok (.aload_n 0, 1) := by decide +kernel
theorem dL_isKept_67 : decode cL_isKept 67 = .ok (.invokestatic 390, 3) := by decide +kernel
theorem dL_isKept_70 : decode cL_isKept 70 = .ok (.bipush (-79), 2) := by decide +kernel
theorem dL_isKept_72 : decode cL_isKept 72 = .ok (.if_icmp .ne 44, 3) := by decide +kernel
theorem dL_isKept_75 : decode cL_isKept 75 = .ok (.aload_n 0, 1) := by decide +kernel
theorem dL_isKept_76 : decode cL_isKept 76 = .ok (.invokestatic 392, 3) := by decide +kernel
theorem dL_isKept_79 : decode cL_isKept 79 = .ok (.iload_n 3, 1) := by decide +kernel
theorem dL_isKept_80 : decode cL_isKept 80 = .ok (.if_icmp .ne 36, 3) := by decide +kernel
theorem dL_isKept_83 : decode cL_isKept 83 = .ok (.aload_n 0, 1) := by decide +kernel
theorem dL_isKept_84 : decode cL_isKept 84 = .ok (.invokestatic 195, 3) := by decide +kernel
theorem dL_isKept_87 : decode cL_isKept 87 = .ok (.aload_n 1, 1) := by decide +kernel
theorem dL_isKept_88 : decode cL_isKept 88 = .ok (.iload_n 2, 1) := by decide +kernel
theorem dL_isKept_89 : decode cL_isKept 89 = .ok (.laload, 1) := by decide +kernel
theorem dL_isKept_90 : decode cL_isKept 90 = .ok (.lcmp, 1) := by decide +kernel
theorem dL_isKept_91 : decode cL_isKept 91 = .ok (.ifCond .ne 25, 3) := by decide +kernel
theorem dL_isKept_94 : decode cL_isKept 94 = .ok (.aload_n 0, 1) := by decide +kernel
theorem dL_isKept_95 : decode cL_isKept 95 = .ok (.invokestatic 394, 3) := by decide +kernel
theorem dL_isKept_98 : decode cL_isKept 98 = .ok (.ifCond .eq 18, 3) := by decide +kernel
theorem dL_isKept_101 : decode cL_isKept 101 = .ok (.aload_n 0, 1) := by decide +kernel
theorem dL_isKept_102 : decode cL_isKept 102 = .ok (.invokestatic 195, 3) := by decide +kernel
theorem dL_isKept_105 : decode cL_isKept 105 = .ok (.aload_n 1, 1) := by decide +kernel
theorem dL_isKept_106 : decode cL_isKept 106 = .ok (.iload_n 2, 1) := by decide +kernel
theorem dL_isKept_107 : decode cL_isKept 107 = .ok (.laload, 1) := by decide +kernel
theorem dL_isKept_108 : decode cL_isKept 108 = .ok (.lcmp, 1) := by decide +kernel
theorem dL_isKept_109 : decode cL_isKept 109 = .ok (.ifCond .ne 7, 3) := by decide +kernel
theorem dL_isKept_112 : decode cL_isKept 112 = .ok (.iconst 1, 1) := by decide +kernel
theorem dL_isKept_113 : decode cL_isKept 113 = .ok (.goto 4, 3) := by decide +kernel
theorem dL_isKept_116 : decode cL_isKept 116 = .ok (.iconst 0, 1) := by decide +kernel
theorem dL_isKept_117 : decode cL_isKept 117 = .ok (.ireturn, 1) := by decide +kernel
def f_L_isKept_117 (u0 : Int32) (w : XW) : Option (Int32 × XW) := (if vp_nar .boolean u0 = u0 then (some (u0, w)) else none)
set_option maxRecDepth 100000 in
theorem S_L_isKept_117 {g : GC} (hl : g.1.stackTraces = false) : ∀ (u0 : Int32) (w : XW) (kc ks : Nat), kc + 0 ≤ 5261 → ks + 0 ≤ 31566 → VE g cL_isKept 6 RL (some .boolean) [] (rmL 29 5261 31566) 5261 31566 oI kc ks 117 [] [.int u0] w (f_L_isKept_117  u0 w) := by
  intro u0 w kc ks hk hks
  unfold f_L_isKept_117
  refine v_guard (fun h13 => ?_)
  exact v_zret dL_isKept_117 rfl (narB_ok h13) rfl (by omega) (by omega)
def f_L_isKept_116 (w : XW) : Option (Int32 × XW) := (f_L_isKept_117 0 w)
set_option maxRecDepth 100000 in
theorem S_L_isKept_116 {g : GC} (hl : g.1.stackTraces = false) : ∀ (w : XW) (kc ks : Nat), kc + 0 ≤ 5261 → ks + 0 ≤ 31566 → VE g cL_isKept 6 RL (some .boolean) [] (rmL 29 5261 31566) 5261 31566 oI kc ks 116 [] [] w (f_L_isKept_116   w) := by
  intro  w kc ks hk hks
  unfold f_L_isKept_116
  refine v_iconst (v := 0) dL_isKept_116 (by decide) ?_
  refine v_sub [] rfl ?_
  exact S_L_isKept_117 hl _ _ _ _ (by omega) (by omega)
def f_L_isKept_58 (w : XW) : Option (Int32 × XW) := (some (0, w))
set_option maxRecDepth 100000 in
theorem S_L_isKept_58 {g : GC} (hl : g.1.stackTraces = false) : ∀ (w : XW) (kc ks : Nat), kc + 0 ≤ 5261 → ks + 0 ≤ 31566 → VE g cL_isKept 6 RL (some .boolean) [] (rmL 29 5261 31566) 5261 31566 oI kc ks 58 [] [] w (f_L_isKept_58   w) := by
  intro  w kc ks hk hks
  unfold f_L_isKept_58
  refine v_iconst (v := 0) dL_isKept_58 (by decide) ?_
  exact v_zret dL_isKept_59 rfl rfl rfl (by omega) (by omega)
def f_L_isKept_29 (y2 : Int32) (y3 : Int32) : Nat → Int32 → Int32 → XW → Option (Int32 × XW)
  | 0, _, _, _ => none
  | n + 1, z4, z5, w => (if z4 ≤ 0 then (bI (f_L_undo w) (fun r3 w3 => (if r3 = (-79) then (bI (f_L_restoreSnapshot w3) (fun r4 w4 => (if r4 = y3 then (bL (f_L_sum w4) (fun r5 w5 => (if inB y2 70 then (if (lg_cmp r5 (w5.2 (Int32.toNatClampNeg y2))) = 0 then (bI (f_L_areFoldings w5) (fun r7 w7 => (if r7 = 0 then (f_L_isKept_116 w7) else (bL (f_L_sum w7) (fun r8 w8 => (if inB y2 70 then (if (lg_cmp r8 (w8.2 (Int32.toNatClampNeg y2))) = 0 then (f_L_isKept_117 1 w8) else (f_L_isKept_116 w8)) else none)))))) else (f_L_isKept_116 w5)) else none))) else (f_L_isKept_116 w4)))) else (f_L_isKept_116 w3)))) else (bI (f_L_undo w) (fun r10 w10 => (if r10 = (z4 + (-1)) then (bL (f_L_sum w10) (fun r11 w11 => (if inB z5 70 then (if (lg_cmp r11 (w11.2 (Int32.toNatClampNeg z5))) = 0 then (f_L_isKept_29 y2 y3 n (z4 + (-1)) (z5 + (-1)) w11) else (f_L_isKept_58 w11)) else none))) else (f_L_isKept_58 w10)))))
set_option maxRecDepth 100000 in
theorem S_L_isKept_29 {g : GC} (hl : g.1.stackTraces = false) {y2 : Int32} {y3 : Int32} : ∀ (n : Nat) (z4 : Int32) (z5 : Int32) (w : XW) (kc ks : Nat), kc + (373 * n + 785) ≤ 5261 → ks + (2238 * n + 4710) ≤ 31566 → VE g cL_isKept 6 RL (some .boolean) [] (rmL 29 5261 31566) 5261 31566 oI kc ks 29 [(0, .ref (g.2.1 + 0)), (1, .ref (g.2.1 + 141)), (2, .int y2), (3, .int y3), (4, .int z4), (5, .int z5)] [] w (f_L_isKept_29 y2 y3 n z4 z5 w) := by
  intro n
  induction n with
  | zero => intro z4 z5 w kc ks hk hks; exact v_none
  | succ n ih =>
    intro z4 z5 w kc ks hk hks
    rw [f_L_isKept_29]
    refine v_iload dL_isKept_29 4 rfl ?_
    refine v_if_le (tgt := 66) dL_isKept_31 (by decide) ?_ ?_
    · refine v_aload_n dL_isKept_66 rfl 0 rfl ?_
      refine v_callSh (As := [.ref (g.2.1 + 0)]) ch_L_390 (S_L_undo hl) rfl rfl (Nat.le_of_ble_eq_true rfl) dL_isKept_67 (CR_rm (by decide) (by decide) (by omega) (by omega)) (fun r3 w3 => ?_)
      refine v_bipush (v := (-79)) dL_isKept_70 (by decide) ?_
      refine v_icmp_ne (tgt := 116) dL_isKept_72 (by decide) ?_ ?_
      · refine v_sub [] rfl ?_
        exact S_L_isKept_116 hl _ _ _ (by omega) (by omega)
      · refine v_aload_n dL_isKept_75 rfl 0 rfl ?_
        refine v_callSh (As := [.ref (g.2.1 + 0)]) ch_L_392 (S_L_restoreSnapshot hl) rfl rfl (Nat.le_of_ble_eq_true rfl) dL_isKept_76 (CR_rm (by decide) (by decide) (by omega) (by omega)) (fun r4 w4 => ?_)
        refine v_iload_n dL_isKept_79 rfl 3 rfl ?_
        refine v_icmp_ne (tgt := 116) dL_isKept_80 (by decide) ?_ ?_
        · refine v_sub [] rfl ?_
          exact S_L_isKept_116 hl _ _ _ (by omega) (by omega)
        · refine v_aload_n dL_isKept_83 rfl 0 rfl ?_
          refine v_callSl (As := [.ref (g.2.1 + 0)]) cs_L_195 (S_L_sum hl) rfl rfl (Nat.le_of_ble_eq_true rfl) dL_isKept_84 (CR_rm (by decide) (by decide) (by omega) (by omega)) (fun r5 w5 => ?_)
          refine v_aload_n dL_isKept_87 rfl 1 rfl ?_
          refine v_iload_n dL_isKept_88 rfl 2 rfl ?_
          refine v_guard (fun h6 => ?_)
          refine v_lald h6 dL_isKept_89 ?_
          refine v_lcmp dL_isKept_90 ?_
          refine v_if_ne (tgt := 116) dL_isKept_91 (by decide) ?_ ?_
          · refine v_sub [] rfl ?_
            exact S_L_isKept_116 hl _ _ _ (by omega) (by omega)
          · refine v_aload_n dL_isKept_94 rfl 0 rfl ?_
            refine v_callSi (As := [.ref (g.2.1 + 0)]) cs_L_394 (S_L_areFoldings hl) rfl rfl (Nat.le_of_ble_eq_true rfl) dL_isKept_95 (CR_rm (by decide) (by decide) (by omega) (by omega)) (fun r7 w7 => ?_)
            refine v_if_eq (tgt := 116) dL_isKept_98 (by decide) ?_ ?_
            · refine v_sub [] rfl ?_
              exact S_L_isKept_116 hl _ _ _ (by omega) (by omega)
            · refine v_aload_n dL_isKept_101 rfl 0 rfl ?_
              refine v_callSl (As := [.ref (g.2.1 + 0)]) cs_L_195 (S_L_sum hl) rfl rfl (Nat.le_of_ble_eq_true rfl) dL_isKept_102 (CR_rm (by decide) (by decide) (by omega) (by omega)) (fun r8 w8 => ?_)
              refine v_aload_n dL_isKept_105 rfl 1 rfl ?_
              refine v_iload_n dL_isKept_106 rfl 2 rfl ?_
              refine v_guard (fun h9 => ?_)
              refine v_lald h9 dL_isKept_107 ?_
              refine v_lcmp dL_isKept_108 ?_
              refine v_if_ne (tgt := 116) dL_isKept_109 (by decide) ?_ ?_
              · refine v_sub [] rfl ?_
                exact S_L_isKept_116 hl _ _ _ (by omega) (by omega)
              · refine v_iconst (v := 1) dL_isKept_112 (by decide) ?_
                refine v_goto (tgt := 117) dL_isKept_113 (by decide) ?_
                refine v_sub [] rfl ?_
                exact S_L_isKept_117 hl _ _ _ _ (by omega) (by omega)
    · refine v_iinc (v := (z4 + (-1))) dL_isKept_34 (q := 4) rfl rfl (Nat.le_of_ble_eq_true rfl) rfl ?_
      refine v_aload_n dL_isKept_37 rfl 1 rfl ?_
      refine v_callSh (As := [.ref (g.2.1 + 0)]) ch_L_390 (S_L_undo hl) rfl rfl (Nat.le_of_ble_eq_true rfl) dL_isKept_38 (CR_rm (by decide) (by decide) (by omega) (by omega)) (fun r10 w10 => ?_)
      refine v_iload dL_isKept_41 0 rfl ?_
      refine v_icmp_ne (tgt := 58) dL_isKept_43 (by decide) ?_ ?_
      · refine v_sub [] rfl ?_
        exact S_L_isKept_58 hl _ _ _ (by omega) (by omega)
      · refine v_aload_n dL_isKept_46 rfl 1 rfl ?_
        refine v_callSl (As := [.ref (g.2.1 + 0)]) cs_L_195 (S_L_sum hl) rfl rfl (Nat.le_of_ble_eq_true rfl) dL_isKept_47 (CR_rm (by decide) (by decide) (by omega) (by omega)) (fun r11 w11 => ?_)
        refine v_aload_n dL_isKept_50 rfl 2 rfl ?_
        refine v_iload dL_isKept_51 5 rfl ?_
        refine v_guard (fun h12 => ?_)
        refine v_lald h12 dL_isKept_53 ?_
        refine v_lcmp dL_isKept_54 ?_
        refine v_if_eq (tgt := 60) dL_isKept_55 (by decide) ?_ ?_
        · refine v_iinc (v := (z5 + (-1))) dL_isKept_60 (q := 5) rfl rfl (Nat.le_of_ble_eq_true rfl) rfl ?_
          refine v_goto (tgt := 29) dL_isKept_63 (by decide) ?_
          refine v_sub [2, 3, 4, 5, 1, 0] rfl ?_
          exact ih _ _ _ _ _ (by omega) (by omega)
        · refine v_sub [] rfl ?_
          exact S_L_isKept_58 hl _ _ _ (by omega) (by omega)
def f_L_isKept (x2 : Int32) (w : XW) : Option (Int32 × XW) := (bI (f_X10_saveSnapshot w) (fun r1 w1 => (bI (f_X10_undoCount w1) (fun r2 w2 => (if r2 = (if x2 < 8 then x2 else 8) then (f_L_isKept_29 x2 r1 12 (if x2 < 8 then x2 else 8) (x2 - 1) w2) else (some (0, w2)))))))
set_option maxRecDepth 100000 in
theorem W_L_isKept {g : GC} (hl : g.1.stackTraces = false) {x2 : Int32} {w : XW} : VE g cL_isKept 6 RL (some .boolean) [] (rmL 29 5261 31566) 5261 31566 oI 0 0 0 [(0, .ref (g.2.1 + 0)), (1, .ref (g.2.1 + 141)), (2, .int x2)] [] w (f_L_isKept x2 w) := by
  unfold f_L_isKept
  refine v_aload_n dL_isKept_0 rfl 0 rfl ?_
  refine v_callVi (As := []) cv_L_387 (S_X10_saveSnapshot hl) tt_0 rfl rfl rfl (Nat.le_of_ble_eq_true rfl) dL_isKept_1 (CR_rm (by decide) (by decide) (by omega) (by omega)) (fun r1 w1 => ?_)
  refine v_istore_n dL_isKept_4 rfl (Nat.le_of_ble_eq_true rfl) rfl ?_
  refine v_bipush (v := 8) dL_isKept_5 (by decide) ?_
  refine v_iload_n dL_isKept_7 rfl 3 rfl ?_
  refine v_min gw_1416 gw_552 gw_54 gw_553 dL_isKept_8 (CR_f1 _ _ _) (CR_f2 (Nat.le_of_ble_eq_true rfl) _ _ _) (CR_k1 (by omega)) (CR_k2 (by omega)) ?_
  refine v_istore dL_isKept_11 (Nat.le_of_ble_eq_true rfl) rfl ?_
  refine v_aload_n dL_isKept_13 rfl 2 rfl ?_
  refine v_callVi (As := []) cv_L_199 (S_X10_undoCount hl) tt_0 rfl rfl rfl (Nat.le_of_ble_eq_true rfl) dL_isKept_14 (CR_rm (by decide) (by decide) (by omega) (by omega)) (fun r2 w2 => ?_)
  refine v_iload dL_isKept_17 0 rfl ?_
  refine v_icmp_eq (tgt := 24) dL_isKept_19 (by decide) ?_ ?_
  · refine v_iload_n dL_isKept_24 rfl 4 rfl ?_
    refine v_iconst (v := 1) dL_isKept_25 (by decide) ?_
    refine v_isub dL_isKept_26 ?_
    refine v_istore dL_isKept_27 (Nat.le_of_ble_eq_true rfl) rfl ?_
    refine v_sub [3, 4, 5, 2, 1, 0] rfl ?_
    exact S_L_isKept_29 hl _ _ _ _ _ _ (by omega) (by omega)
  · refine v_iconst (v := 0) dL_isKept_22 (by decide) ?_
    exact v_zret dL_isKept_23 rfl rfl rfl (by omega) (by omega)
theorem S_L_isKept {g : GC} (hl : g.1.stackTraces = false) {x2 : Int32} {w : XW} : ∀ q, f_L_isKept x2 w = some q → MM g (.code yL_isKept cL_isKept 6 (some .boolean)) yL_isKept (rmL 29 5261 31566) 5261 31566 [.ref (g.2.1 + 0), .ref (g.2.1 + 141), .int x2] w (oI q) := fun q hq => MM_of (own := RL) hl (by decide) gw_1569 rfl (Nat.le_of_ble_eq_true rfl) (W_L_isKept hl q hq) ⟨rfl, rfl⟩
