theorem dX5_has_0 : decode cX5_has 0 = .ok (.iload_n 1, 1) := by decide +kernel
theorem dX5_has_1 : decode cX5_has 1 = .ok (.ifCond .lt 15, 3) := by decide +kernel
theorem dX5_has_4 : decode cX5_has 4 = .ok (.iload_n 1, 1) := by decide +kernel
theorem dX5_has_5 : decode cX5_has 5 = .ok (.aload_n 0, 1) := by decide +kernel
theorem dX5_has_6 : decode cX5_has 6 = .ok (.getfield 25, 3) := by decide +kernel
theorem dX5_has_9 : decode cX5_has 9 = .ok (.if_icmp .ge 7, 3) := by decide +kernel
theorem dX5_has_12 : decode cX5_has 12 = .ok (.iconst 1, 1) := by decide +kernel
theorem dX5_has_13 : decode cX5_has 13 = .ok (.goto 4, 3) := by decide +kernel
theorem dX5_has_16 : decode cX5_has 16 = .ok (.iconst 0, 1) := by decide +kernel
theorem dX5_has_17 : decode cX5_has 17 = .ok (.ireturn, 1) := by decide +kernel
def f_X5_has (k : Nat) (x1 : Int32) (w : XW) : Option (Int32 × XW) := (if x1 < 0 then (some (0, w)) else (if (w.1 k 0) ≤ x1 then (some (0, w)) else (some (1, w))))
set_option maxRecDepth 100000 in
theorem W_X5_has {g : GC} (hl : g.1.stackTraces = false) {k : Nat} (hk : isX5 k) {x1 : Int32} {w : XW} : VE g cX5_has 2 RX5 (some .boolean) [] (rmL 3 0 0) 0 0 oI 0 0 0 [(0, .ref (g.2.1 + k)), (1, .int x1)] [] w (f_X5_has k x1 w) := by
  unfold f_X5_has
  refine v_iload_n dX5_has_0 rfl 1 rfl ?_
  refine v_if_lt (tgt := 16) dX5_has_1 (by decide) ?_ ?_
  · refine v_iconst (v := 0) dX5_has_16 (by decide) ?_
    exact v_zret dX5_has_17 rfl rfl rfl (by decide) (by decide)
  · refine v_iload_n dX5_has_4 rfl 1 rfl ?_
    refine v_aload_n dX5_has_5 rfl 0 rfl ?_
    refine v_getI fl_X5_25 hk.1 rfl dX5_has_6 ?_
    refine v_icmp_ge (tgt := 16) dX5_has_9 (by decide) ?_ ?_
    · refine v_iconst (v := 0) dX5_has_16 (by decide) ?_
      exact v_zret dX5_has_17 rfl rfl rfl (by decide) (by decide)
    · refine v_iconst (v := 1) dX5_has_12 (by decide) ?_
      refine v_goto (tgt := 17) dX5_has_13 (by decide) ?_
      exact v_zret dX5_has_17 rfl rfl rfl (by decide) (by decide)
theorem S_X5_has {g : GC} (hl : g.1.stackTraces = false) {k : Nat} (hk : isX5 k) {x1 : Int32} {w : XW} : ∀ q, f_X5_has k x1 w = some q → MM g (.code yX5_has cX5_has 2 (some .boolean)) yX5_has (rmL 3 0 0) 0 0 [.ref (g.2.1 + k), .int x1] w (oI q) := fun q hq => MM_of (own := RX5) hl (by decide) gw_569 rfl (Nat.le_of_ble_eq_true rfl) (W_X5_has hl hk q hq) ⟨rfl, rfl⟩

theorem dX5_brokenAt_0 : decode cX5_brokenAt 0 = .ok (.aload_n 0, 1) := by decide +kernel
theorem dX5_brokenAt_1 : decode cX5_brokenAt 1 = .ok (.iload_n 1, 1) := by decide +kernel
theorem dX5_brokenAt_2 : decode cX5_brokenAt 2 = .ok (.invokevirtual 35, 3) := by decide +kernel
theorem dX5_brokenAt_5 : decode cX5_brokenAt 5 = .ok (.ifCond .eq 16, 3) := by decide +kernel
theorem dX5_brokenAt_8 : decode cX5_brokenAt 8 = .ok (.aload_n 0, 1) := by decide +kernel
theorem dX5_brokenAt_9 : decode cX5_brokenAt 9 = .ok (.getfield 21, 3) := by decide +kernel
theorem dX5_brokenAt_12 : decode cX5_brokenAt 12 = .ok (.iload_n 1, 1) := by decide +kernel
theorem dX5_brokenAt_13 : decode cX5_brokenAt 13 = .ok (.baload, 1) := by decide +kernel
theorem dX5_brokenAt_14 : decode cX5_brokenAt 14 = .ok (.ifCond .eq 7, 3) := by decide +kernel
theorem dX5_brokenAt_17 : decode cX5_brokenAt 17 = .ok (.iconst 1, 1) := by decide +kernel
theorem dX5_brokenAt_18 : decode cX5_brokenAt 18 = .ok (.goto 4, 3) := by decide +kernel
theorem dX5_brokenAt_21 : decode cX5_brokenAt 21 = .ok (.iconst 0, 1) := by decide +kernel
theorem dX5_brokenAt_22 : decode cX5_brokenAt 22 = .ok (.ireturn, 1) := by decide +kernel
def f_X5_brokenAt (k : Nat) (x1 : Int32) (w : XW) : Option (Int32 × XW) := (bI (f_X5_has k x1 w) (fun r1 w1 => (if r1 = 0 then (some (0, w1)) else (if inB x1 10 then (if (w1.1 (k + 4) (Int32.toNatClampNeg x1)) = 0 then (some (0, w1)) else (some (1, w1))) else none))))
set_option maxRecDepth 100000 in
theorem W_X5_brokenAt {g : GC} (hl : g.1.stackTraces = false) {k : Nat} (hk : isX5 k) {x1 : Int32} {w : XW} : VE g cX5_brokenAt 2 RX5 (some .boolean) [] (rmL 4 0 0) 0 0 oI 0 0 0 [(0, .ref (g.2.1 + k)), (1, .int x1)] [] w (f_X5_brokenAt k x1 w) := by
  unfold f_X5_brokenAt
  refine v_aload_n dX5_brokenAt_0 rfl 0 rfl ?_
  refine v_iload_n dX5_brokenAt_1 rfl 1 rfl ?_
  refine v_callVi (As := [.int x1]) cv_X5_35 (S_X5_has hl hk) hk.1 rfl rfl rfl (Nat.le_of_ble_eq_true rfl) dX5_brokenAt_2 (CR_rm (by decide) (by decide) (by decide) (by decide)) (fun r1 w1 => ?_)
  refine v_if_eq (tgt := 21) dX5_brokenAt_5 (by decide) ?_ ?_
  · refine v_iconst (v := 0) dX5_brokenAt_21 (by decide) ?_
    exact v_zret dX5_brokenAt_22 rfl rfl rfl (by decide) (by decide)
  · refine v_aload_n dX5_brokenAt_8 rfl 0 rfl ?_
    refine v_getR fl_X5_21 hk.1 rfl dX5_brokenAt_9 ?_
    refine v_iload_n dX5_brokenAt_12 rfl 1 rfl ?_
    refine v_guard (fun h2 => ?_)
    refine v_zald hk.2.2.2.2 h2 dX5_brokenAt_13 ?_
    refine v_if_eq (tgt := 21) dX5_brokenAt_14 (by decide) ?_ ?_
    · refine v_iconst (v := 0) dX5_brokenAt_21 (by decide) ?_
      exact v_zret dX5_brokenAt_22 rfl rfl rfl (by decide) (by decide)
    · refine v_iconst (v := 1) dX5_brokenAt_17 (by decide) ?_
      refine v_goto (tgt := 22) dX5_brokenAt_18 (by decide) ?_
      exact v_zret dX5_brokenAt_22 rfl rfl rfl (by decide) (by decide)
theorem S_X5_brokenAt {g : GC} (hl : g.1.stackTraces = false) {k : Nat} (hk : isX5 k) {x1 : Int32} {w : XW} : ∀ q, f_X5_brokenAt k x1 w = some q → MM g (.code yX5_brokenAt cX5_brokenAt 2 (some .boolean)) yX5_brokenAt (rmL 4 0 0) 0 0 [.ref (g.2.1 + k), .int x1] w (oI q) := fun q hq => MM_of (own := RX5) hl (by decide) gw_585 rfl (Nat.le_of_ble_eq_true rfl) (W_X5_brokenAt hl hk q hq) ⟨rfl, rfl⟩

theorem dX5_startOf_0 : decode cX5_startOf 0 = .ok (.aload_n 0, 1) := by decide +kernel
theorem dX5_startOf_1 : decode cX5_startOf 1 = .ok (.iload_n 1, 1) := by decide +kernel
theorem dX5_startOf_2 : decode cX5_startOf 2 = .ok (.invokevirtual 35, 3) := by decide +kernel
theorem dX5_startOf_5 : decode cX5_startOf 5 = .ok (.ifCond .eq 12, 3) := by decide +kernel
theorem dX5_startOf_8 : decode cX5_startOf 8 = .ok (.aload_n 0, 1) := by decide +kernel
theorem dX5_startOf_9 : decode cX5_startOf 9 = .ok (.getfield 9, 3) := by decide +kernel
theorem dX5_startOf_12 : decode cX5_startOf 12 = .ok (.iload_n 1, 1) := by decide +kernel
theorem dX5_startOf_13 : decode cX5_startOf 13 = .ok (.iaload, 1) := by decide +kernel
theorem dX5_startOf_14 : decode cX5_startOf 14 = .ok (.goto 4, 3) := by decide +kernel
theorem dX5_startOf_17 : decode cX5_startOf 17 = .ok (.iconst (-1), 1) := by decide +kernel
theorem dX5_startOf_18 : decode cX5_startOf 18 = .ok (.ireturn, 1) := by decide +kernel
def f_X5_startOf (k : Nat) (x1 : Int32) (w : XW) : Option (Int32 × XW) := (bI (f_X5_has k x1 w) (fun r1 w1 => (if r1 = 0 then (some ((-1), w1)) else (if inB x1 10 then (some ((w1.1 (k + 1) (Int32.toNatClampNeg x1)), w1)) else none))))
set_option maxRecDepth 100000 in
theorem W_X5_startOf {g : GC} (hl : g.1.stackTraces = false) {k : Nat} (hk : isX5 k) {x1 : Int32} {w : XW} : VE g cX5_startOf 2 RX5 (some .int) [] (rmL 4 0 0) 0 0 oI 0 0 0 [(0, .ref (g.2.1 + k)), (1, .int x1)] [] w (f_X5_startOf k x1 w) := by
  unfold f_X5_startOf
  refine v_aload_n dX5_startOf_0 rfl 0 rfl ?_
  refine v_iload_n dX5_startOf_1 rfl 1 rfl ?_
  refine v_callVi (As := [.int x1]) cv_X5_35 (S_X5_has hl hk) hk.1 rfl rfl rfl (Nat.le_of_ble_eq_true rfl) dX5_startOf_2 (CR_rm (by decide) (by decide) (by decide) (by decide)) (fun r1 w1 => ?_)
  refine v_if_eq (tgt := 17) dX5_startOf_5 (by decide) ?_ ?_
  · refine v_iconst (v := (-1)) dX5_startOf_17 (by decide) ?_
    exact v_iret dX5_startOf_18 rfl rfl (by decide) (by decide)
  · refine v_aload_n dX5_startOf_8 rfl 0 rfl ?_
    refine v_getR fl_X5_9 hk.1 rfl dX5_startOf_9 ?_
    refine v_iload_n dX5_startOf_12 rfl 1 rfl ?_
    refine v_guard (fun h2 => ?_)
    refine v_iald hk.2.1 h2 dX5_startOf_13 ?_
    refine v_goto (tgt := 18) dX5_startOf_14 (by decide) ?_
    exact v_iret dX5_startOf_18 rfl rfl (by decide) (by decide)
theorem S_X5_startOf {g : GC} (hl : g.1.stackTraces = false) {k : Nat} (hk : isX5 k) {x1 : Int32} {w : XW} : ∀ q, f_X5_startOf k x1 w = some q → MM g (.code yX5_startOf cX5_startOf 2 (some .int)) yX5_startOf (rmL 4 0 0) 0 0 [.ref (g.2.1 + k), .int x1] w (oI q) := fun q hq => MM_of (own := RX5) hl (by decide) gw_648 rfl (Nat.le_of_ble_eq_true rfl) (W_X5_startOf hl hk q hq) ⟨rfl, rfl⟩

theorem dX5_endOf_0 : decode cX5_endOf 0 = .ok (.aload_n 0, 1) := by decide +kernel
theorem dX5_endOf_1 : decode cX5_endOf 1 = .ok (.iload_n 1, 1) := by decide +kernel
theorem dX5_endOf_2 : decode cX5_endOf 2 = .ok (.invokevirtual 35, 3) := by decide +kernel
theorem dX5_endOf_5 : decode cX5_endOf 5 = .ok (.ifCond .eq 12, 3) := by decide +kernel
theorem dX5_endOf_8 : decode cX5_endOf 8 = .ok (.aload_n 0, 1) := by decide +kernel
theorem dX5_endOf_9 : decode cX5_endOf 9 = .ok (.getfield 15, 3) := by decide +kernel
theorem dX5_endOf_12 : decode cX5_endOf 12 = .ok (.iload_n 1, 1) := by decide +kernel
theorem dX5_endOf_13 : decode cX5_endOf 13 = .ok (.iaload, 1) := by decide +kernel
theorem dX5_endOf_14 : decode cX5_endOf 14 = .ok (.goto 4, 3) := by decide +kernel
theorem dX5_endOf_17 : decode cX5_endOf 17 = .ok (.iconst (-1), 1) := by decide +kernel
theorem dX5_endOf_18 : decode cX5_endOf 18 = .ok (.ireturn, 1) := by decide +kernel
def f_X5_endOf (k : Nat) (x1 : Int32) (w : XW) : Option (Int32 × XW) := (bI (f_X5_has k x1 w) (fun r1 w1 => (if r1 = 0 then (some ((-1), w1)) else (if inB x1 10 then (some ((w1.1 (k + 2) (Int32.toNatClampNeg x1)), w1)) else none))))
set_option maxRecDepth 100000 in
theorem W_X5_endOf {g : GC} (hl : g.1.stackTraces = false) {k : Nat} (hk : isX5 k) {x1 : Int32} {w : XW} : VE g cX5_endOf 2 RX5 (some .int) [] (rmL 4 0 0) 0 0 oI 0 0 0 [(0, .ref (g.2.1 + k)), (1, .int x1)] [] w (f_X5_endOf k x1 w) := by
  unfold f_X5_endOf
  refine v_aload_n dX5_endOf_0 rfl 0 rfl ?_
  refine v_iload_n dX5_endOf_1 rfl 1 rfl ?_
  refine v_callVi (As := [.int x1]) cv_X5_35 (S_X5_has hl hk) hk.1 rfl rfl rfl (Nat.le_of_ble_eq_true rfl) dX5_endOf_2 (CR_rm (by decide) (by decide) (by decide) (by decide)) (fun r1 w1 => ?_)
  refine v_if_eq (tgt := 17) dX5_endOf_5 (by decide) ?_ ?_
  · refine v_iconst (v := (-1)) dX5_endOf_17 (by decide) ?_
    exact v_iret dX5_endOf_18 rfl rfl (by decide) (by decide)
  · refine v_aload_n dX5_endOf_8 rfl 0 rfl ?_
    refine v_getR fl_X5_15 hk.1 rfl dX5_endOf_9 ?_
    refine v_iload_n dX5_endOf_12 rfl 1 rfl ?_
    refine v_guard (fun h2 => ?_)
    refine v_iald hk.2.2.1 h2 dX5_endOf_13 ?_
    refine v_goto (tgt := 18) dX5_endOf_14 (by decide) ?_
    exact v_iret dX5_endOf_18 rfl rfl (by decide) (by decide)
theorem S_X5_endOf {g : GC} (hl : g.1.stackTraces = false) {k : Nat} (hk : isX5 k) {x1 : Int32} {w : XW} : ∀ q, f_X5_endOf k x1 w = some q → MM g (.code yX5_endOf cX5_endOf 2 (some .int)) yX5_endOf (rmL 4 0 0) 0 0 [.ref (g.2.1 + k), .int x1] w (oI q) := fun q hq => MM_of (own := RX5) hl (by decide) gw_652 rfl (Nat.le_of_ble_eq_true rfl) (W_X5_endOf hl hk q hq) ⟨rfl, rfl⟩

theorem dX5_widthOf_0 : decode cX5_widthOf 0 = .ok (.aload_n 0, 1) := by decide +kernel
theorem dX5_widthOf_1 : decode cX5_widthOf 1 = .ok (.iload_n 1, 1) := by decide +kernel
theorem dX5_widthOf_2 : decode cX5_widthOf 2 = .ok (.invokevirtual 35, 3) := by decide +kernel
theorem dX5_widthOf_5 : decode cX5_widthOf 5 = .ok (.ifCond .eq 12, 3) := by decide +kernel
theorem dX5_widthOf_8 : decode cX5_widthOf 8 = .ok (.aload_n 0, 1) := by decide +kernel
theorem dX5_widthOf_9 : decode cX5_widthOf 9 = .ok (.getfield 18, 3) := by decide +kernel
theorem dX5_widthOf_12 : decode cX5_widthOf 12 = .ok (.iload_n 1, 1) := by decide +kernel
theorem dX5_widthOf_13 : decode cX5_widthOf 13 = .ok (.iaload, 1) := by decide +kernel
theorem dX5_widthOf_14 : decode cX5_widthOf 14 = .ok (.goto 4, 3) := by decide +kernel
theorem dX5_widthOf_17 : decode cX5_widthOf 17 = .ok (.iconst 0, 1) := by decide +kernel
theorem dX5_widthOf_18 : decode cX5_widthOf 18 = .ok (.ireturn, 1) := by decide +kernel
def f_X5_widthOf (k : Nat) (x1 : Int32) (w : XW) : Option (Int32 × XW) := (bI (f_X5_has k x1 w) (fun r1 w1 => (if r1 = 0 then (some (0, w1)) else (if inB x1 10 then (some ((w1.1 (k + 3) (Int32.toNatClampNeg x1)), w1)) else none))))
set_option maxRecDepth 100000 in
theorem W_X5_widthOf {g : GC} (hl : g.1.stackTraces = false) {k : Nat} (hk : isX5 k) {x1 : Int32} {w : XW} : VE g cX5_widthOf 2 RX5 (some .int) [] (rmL 4 0 0) 0 0 oI 0 0 0 [(0, .ref (g.2.1 + k)), (1, .int x1)] [] w (f_X5_widthOf k x1 w) := by
  unfold f_X5_widthOf
  refine v_aload_n dX5_widthOf_0 rfl 0 rfl ?_
  refine v_iload_n dX5_widthOf_1 rfl 1 rfl ?_
  refine v_callVi (As := [.int x1]) cv_X5_35 (S_X5_has hl hk) hk.1 rfl rfl rfl (Nat.le_of_ble_eq_true rfl) dX5_widthOf_2 (CR_rm (by decide) (by decide) (by decide) (by decide)) (fun r1 w1 => ?_)
  refine v_if_eq (tgt := 17) dX5_widthOf_5 (by decide) ?_ ?_
  · refine v_iconst (v := 0) dX5_widthOf_17 (by decide) ?_
    exact v_iret dX5_widthOf_18 rfl rfl (by decide) (by decide)
  · refine v_aload_n dX5_widthOf_8 rfl 0 rfl ?_
    refine v_getR fl_X5_18 hk.1 rfl dX5_widthOf_9 ?_
    refine v_iload_n dX5_widthOf_12 rfl 1 rfl ?_
    refine v_guard (fun h2 => ?_)
    refine v_iald hk.2.2.2.1 h2 dX5_widthOf_13 ?_
    refine v_goto (tgt := 18) dX5_widthOf_14 (by decide) ?_
    exact v_iret dX5_widthOf_18 rfl rfl (by decide) (by decide)
theorem S_X5_widthOf {g : GC} (hl : g.1.stackTraces = false) {k : Nat} (hk : isX5 k) {x1 : Int32} {w : XW} : ∀ q, f_X5_widthOf k x1 w = some q → MM g (.code yX5_widthOf cX5_widthOf 2 (some .int)) yX5_widthOf (rmL 4 0 0) 0 0 [.ref (g.2.1 + k), .int x1] w (oI q) := fun q hq => MM_of (own := RX5) hl (by decide) gw_573 rfl (Nat.le_of_ble_eq_true rfl) (W_X5_widthOf hl hk q hq) ⟨rfl, rfl⟩

theorem dX5_copyFrom_0 : decode cX5_copyFrom 0 = .ok (.aload_n 0, 1) := by decide +kernel
theorem dX5_copyFrom_1 : decode cX5_copyFrom 1 = .ok (.aload_n 1, 1) := by decide +kernel
theorem dX5_copyFrom_2 : decode cX5_copyFrom 2 = .ok (.getfield 25, 3) := by decide +kernel
theorem dX5_copyFrom_5 : decode cX5_copyFrom 5 = .ok (.putfield 25, 3) := by decide +kernel
theorem dX5_copyFrom_8 : decode cX5_copyFrom 8 = .ok (.aload_n 1, 1) := by decide +kernel
theorem dX5_copyFrom_9 : decode cX5_copyFrom 9 = .ok (.getfield 9, 3) := by decide +kernel
theorem dX5_copyFrom_12 : decode cX5_copyFrom 12 = .ok (.iconst 0, 1) := by decide +kernel
theorem dX5_copyFrom_13 : decode cX5_copyFrom 13 = .ok (.aload_n 0, 1) := by decide +kernel
theorem dX5_copyFrom_14 : decode cX5_copyFrom 14 = .ok (.getfield 9, 3) := by decide +kernel
theorem dX5_copyFrom_17 : decode cX5_copyFrom 17 = .ok (.iconst 0, 1) := by decide +kernel
theorem dX5_copyFrom_18 : decode cX5_copyFrom 18 = .ok (.bipush 10, 2) := by decide +kernel
theorem dX5_copyFrom_20 : decode cX5_copyFrom 20 = .ok (.invokestatic 29, 3) := by decide +kernel
theorem dX5_copyFrom_23 : decode cX5_copyFrom 23 = .ok (.aload_n 1, 1) := by decide +kernel
theorem dX5_copyFrom_24 : decode cX5_copyFrom 24 = .ok (.getfield 15, 3) := by decide +kernel
theorem dX5_copyFrom_27 : decode cX5_copyFrom 27 = .ok (.iconst 0, 1) := by decide +kernel
theorem dX5_copyFrom_28 : decode cX5_copyFrom 28 = .ok (.aload_n 0, 1) := by decide +kernel
theorem dX5_copyFrom_29 : decode cX5_copyFrom 29 = .ok (.getfield 15, 3) := by decide +kernel
theorem dX5_copyFrom_32 : decode cX5_copyFrom 32 = .ok (.iconst 0, 1) := by decide +kernel
theorem dX5_copyFrom_33 : decode cX5_copyFrom 33 = .ok (.bipush 10, 2) := by decide +kernel
theorem dX5_copyFrom_35 : decode cX5_copyFrom 35 = .ok (.invokestatic 29, 3) := by decide +kernel
theorem dX5_copyFrom_38 : decode cX5_copyFrom 38 = .ok (.aload_n 1, 1) := by decide +kernel
theorem dX5_copyFrom_39 : decode cX5_copyFrom 39 = .ok (.getfield 18, 3) := by decide +kernel
theorem dX5_copyFrom_42 : decode cX5_copyFrom 42 = .ok (.iconst 0, 1) := by decide +kernel
theorem dX5_copyFrom_43 : decode cX5_copyFrom 43 = .ok (.aload_n 0, 1) := by decide +kernel
theorem dX5_copyFrom_44 : decode cX5_copyFrom 44 = .ok (.getfield 18, 3) := by decide +kernel
theorem dX5_copyFrom_47 : decode cX5_copyFrom 47 = .ok (.iconst 0, 1) := by decide +kernel
theorem dX5_copyFrom_48 : decode cX5_copyFrom 48 = .ok (.bipush 10, 2) := by decide +kernel
theorem dX5_copyFrom_50 : decode cX5_copyFrom 50 = .ok (.invokestatic 29, 3) := by decide +kernel
theorem dX5_copyFrom_53 : decode cX5_copyFrom 53 = .ok (.iconst 0, 1) := by decide +kernel
theorem dX5_copyFrom_54 : decode cX5_copyFrom 54 = .ok (.istore_n 2, 1) := by decide +kernel
theorem dX5_copyFrom_55 : decode cX5_copyFrom 55 = .ok (.iload_n 2, 1) := by decide +kernel
theorem dX5_copyFrom_56 : decode cX5_copyFrom 56 = .ok (.bipush 10, 2) := by decide +kernel
theorem dX5_copyFrom_58 : decode cX5_copyFrom 58 = .ok (.if_icmp .ge 21, 3) := by decide +kernel
theorem dX5_copyFrom_61 : decode cX5_copyFrom 61 = .ok (.aload_n 0, 1) := by decide +kernel
theorem dX5_copyFrom_62 : decode cX5_copyFrom 62 = .ok (.getfield 21, 3) := by decide +kernel
theorem dX5_copyFrom_65 : decode cX5_copyFrom 65 = .ok (.iload_n 2, 1) := by decide +kernel
theorem dX5_copyFrom_66 : decode cX5_copyFrom 66 = .ok (.aload_n 1, 1) := by decide +kernel
theorem dX5_copyFrom_67 : decode cX5_copyFrom 67 = .ok (.getfield 21, 3) := by decide +kernel
theorem dX5_copyFrom_70 : decode cX5_copyFrom 70 = .ok (.iload_n 2, 1) := by decide +kernel
theorem dX5_copyFrom_71 : decode cX5_copyFrom 71 = .ok (.baload, 1) := by decide +kernel
theorem dX5_copyFrom_72 : decode cX5_copyFrom 72 = .ok (.bastore, 1) := by decide +kernel
theorem dX5_copyFrom_73 : decode cX5_copyFrom 73 = .ok (.iinc 2 1, 3) := by decide +kernel
theorem dX5_copyFrom_76 : decode cX5_copyFrom 76 = .ok (.goto (-21), 3) := by decide +kernel
theorem dX5_copyFrom_79 : decode cX5_copyFrom 79 = .ok (.return_, 1) := by decide +kernel
def f_X5_copyFrom_55 (k : Nat) (k1 : Nat) : Nat → Int32 → XW → Option (XW)
  | 0, _, _ => none
  | n + 1, z2, w => (if 10 ≤ z2 then (some w) else (if inB z2 10 then (if inB z2 10 then (f_X5_copyFrom_55 k k1 n (z2 + 1) (wset w (k + 4) (Int32.toNatClampNeg z2) (vp_nar .boolean (w.1 (k1 + 4) (Int32.toNatClampNeg z2))))) else none) else none))
set_option maxRecDepth 100000 in
theorem S_X5_copyFrom_55 {g : GC} (hl : g.1.stackTraces = false) {k : Nat} (hk : isX5 k) {k1 : Nat} (hk1 : isX5 k1) : ∀ (n : Nat) (z2 : Int32) (w : XW), VE g cX5_copyFrom 3 RX5 none [] (rmL 5 0 0) 0 0 oV 0 0 55 [(0, .ref (g.2.1 + k)), (1, .ref (g.2.1 + k1)), (2, .int z2)] [] w (f_X5_copyFrom_55 k k1 n z2 w) := by
  intro n
  induction n with
  | zero => intro z2 w; exact v_none
  | succ n ih =>
    intro z2 w
    rw [f_X5_copyFrom_55]
    refine v_iload_n dX5_copyFrom_55 rfl 2 rfl ?_
    refine v_bipush (v := 10) dX5_copyFrom_56 (by decide) ?_
    refine v_icmp_ge (tgt := 79) dX5_copyFrom_58 (by decide) ?_ ?_
    · exact v_vret dX5_copyFrom_79 rfl rfl (by decide) (by decide)
    · refine v_aload_n dX5_copyFrom_61 rfl 0 rfl ?_
      refine v_getR fl_X5_21 hk.1 rfl dX5_copyFrom_62 ?_
      refine v_iload_n dX5_copyFrom_65 rfl 2 rfl ?_
      refine v_aload_n dX5_copyFrom_66 rfl 1 rfl ?_
      refine v_getR fl_X5_21 hk1.1 rfl dX5_copyFrom_67 ?_
      refine v_iload_n dX5_copyFrom_70 rfl 2 rfl ?_
      refine v_guard (fun h1 => ?_)
      refine v_zald hk1.2.2.2.2 h1 dX5_copyFrom_71 ?_
      refine v_guard (fun h2 => ?_)
      refine v_zast hk.2.2.2.2 h2 dX5_copyFrom_72 ?_
      refine v_iinc (v := (z2 + 1)) dX5_copyFrom_73 (q := 2) rfl rfl (Nat.le_of_ble_eq_true rfl) rfl ?_
      refine v_goto (tgt := 55) dX5_copyFrom_76 (by decide) ?_
      refine v_sub [1, 2, 0] rfl ?_
      exact ih _ _
def f_X5_copyFrom (k : Nat) (k1 : Nat) (w : XW) : Option (XW) := (f_X5_copyFrom_55 k k1 1000 0 (wcpy (wcpy (wcpy (wset w k 0 (w.1 k1 0)) (k1 + 1) (Int32.toNatClampNeg 0) (k + 1) (Int32.toNatClampNeg 0) (Int32.toNatClampNeg 10)) (k1 + 2) (Int32.toNatClampNeg 0) (k + 2) (Int32.toNatClampNeg 0) (Int32.toNatClampNeg 10)) (k1 + 3) (Int32.toNatClampNeg 0) (k + 3) (Int32.toNatClampNeg 0) (Int32.toNatClampNeg 10)))
set_option maxRecDepth 100000 in
theorem W_X5_copyFrom {g : GC} (hl : g.1.stackTraces = false) {k : Nat} (hk : isX5 k) {k1 : Nat} (hk1 : isX5 k1) {w : XW} : VE g cX5_copyFrom 3 RX5 none [] (rmL 5 0 0) 0 0 oV 0 0 0 [(0, .ref (g.2.1 + k)), (1, .ref (g.2.1 + k1))] [] w (f_X5_copyFrom k k1 w) := by
  unfold f_X5_copyFrom
  refine v_aload_n dX5_copyFrom_0 rfl 0 rfl ?_
  refine v_aload_n dX5_copyFrom_1 rfl 1 rfl ?_
  refine v_getI fl_X5_25 hk1.1 rfl dX5_copyFrom_2 ?_
  refine v_putI fl_X5_25 hk.1 rfl (ty0 := .int) rfl rfl rfl dX5_copyFrom_5 ?_
  refine v_aload_n dX5_copyFrom_8 rfl 1 rfl ?_
  refine v_getR fl_X5_9 hk1.1 rfl dX5_copyFrom_9 ?_
  refine v_iconst (v := 0) dX5_copyFrom_12 (by decide) ?_
  refine v_aload_n dX5_copyFrom_13 rfl 0 rfl ?_
  refine v_getR fl_X5_9 hk.1 rfl dX5_copyFrom_14 ?_
  refine v_iconst (v := 0) dX5_copyFrom_17 (by decide) ?_
  refine v_bipush (v := 10) dX5_copyFrom_18 (by decide) ?_
  refine v_copy (ty := .int) hk1.2.1 hk.2.1 (Or.inl rfl) rfl rfl gw_793 gw_783 gw_782 gw_68 (by decide) (by decide) (by decide) (by decide) (by decide) (fun _ _ => rfl) (CR_f1 _ _ _) (CR_f3 (Nat.le_of_ble_eq_true rfl) _ _ _) dX5_copyFrom_20 ?_
  refine v_aload_n dX5_copyFrom_23 rfl 1 rfl ?_
  refine v_getR fl_X5_15 hk1.1 rfl dX5_copyFrom_24 ?_
  refine v_iconst (v := 0) dX5_copyFrom_27 (by decide) ?_
  refine v_aload_n dX5_copyFrom_28 rfl 0 rfl ?_
  refine v_getR fl_X5_15 hk.1 rfl dX5_copyFrom_29 ?_
  refine v_iconst (v := 0) dX5_copyFrom_32 (by decide) ?_
  refine v_bipush (v := 10) dX5_copyFrom_33 (by decide) ?_
  refine v_copy (ty := .int) hk1.2.2.1 hk.2.2.1 (Or.inl rfl) rfl rfl gw_793 gw_783 gw_782 gw_68 (by decide) (by decide) (by decide) (by decide) (by decide) (fun _ _ => rfl) (CR_f1 _ _ _) (CR_f3 (Nat.le_of_ble_eq_true rfl) _ _ _) dX5_copyFrom_35 ?_
  refine v_aload_n dX5_copyFrom_38 rfl 1 rfl ?_
  refine v_getR fl_X5_18 hk1.1 rfl dX5_copyFrom_39 ?_
  refine v_iconst (v := 0) dX5_copyFrom_42 (by decide) ?_
  refine v_aload_n dX5_copyFrom_43 rfl 0 rfl ?_
  refine v_getR fl_X5_18 hk.1 rfl dX5_copyFrom_44 ?_
  refine v_iconst (v := 0) dX5_copyFrom_47 (by decide) ?_
  refine v_bipush (v := 10) dX5_copyFrom_48 (by decide) ?_
  refine v_copy (ty := .int) hk1.2.2.2.1 hk.2.2.2.1 (Or.inl rfl) rfl rfl gw_793 gw_783 gw_782 gw_68 (by decide) (by decide) (by decide) (by decide) (by decide) (fun _ _ => rfl) (CR_f1 _ _ _) (CR_f3 (Nat.le_of_ble_eq_true rfl) _ _ _) dX5_copyFrom_50 ?_
  refine v_iconst (v := 0) dX5_copyFrom_53 (by decide) ?_
  refine v_istore_n dX5_copyFrom_54 rfl (Nat.le_of_ble_eq_true rfl) rfl ?_
  refine v_sub [1, 2, 0] rfl ?_
  exact S_X5_copyFrom_55 hl hk hk1  _ _ _
theorem S_X5_copyFrom {g : GC} (hl : g.1.stackTraces = false) {k : Nat} (hk : isX5 k) {k1 : Nat} (hk1 : isX5 k1) {w : XW} : ∀ q, f_X5_copyFrom k k1 w = some q → MM g (.code yX5_copyFrom cX5_copyFrom 3 none) yX5_copyFrom (rmL 5 0 0) 0 0 [.ref (g.2.1 + k), .ref (g.2.1 + k1)] w (oV q) := fun q hq => MM_of (own := RX5) hl (by decide) gw_792 rfl (Nat.le_of_ble_eq_true rfl) (W_X5_copyFrom hl hk hk1 q hq) ⟨rfl, rfl⟩

theorem dX5_brokenCount_0 : decode cX5_brokenCount 0 = .ok (.iconst 0, 1) := by decide +kernel
theorem dX5_brokenCount_1 : decode cX5_brokenCount 1 = .ok (.istore_n 1, 1) := by decide +kernel
theorem dX5_brokenCount_2 : decode cX5_brokenCount 2 = .ok (.iconst 0, 1) := by decide +kernel
theorem dX5_brokenCount_3 : decode cX5_brokenCount 3 = .ok (.istore_n 2, 1) := by decide +kernel
theorem dX5_brokenCount_4 : decode cX5_brokenCount 4 = .ok (.iload_n 2, 1) := by decide +kernel
theorem dX5_brokenCount_5 : decode cX5_brokenCount 5 = .ok (.aload_n 0, 1) := by decide +kernel
theorem dX5_brokenCount_6 : decode cX5_brokenCount 6 = .ok (.getfield 25, 3) := by decide +kernel
theorem dX5_brokenCount_9 : decode cX5_brokenCount 9 = .ok (.if_icmp .ge 21, 3) := by decide +kernel
theorem dX5_brokenCount_12 : decode cX5_brokenCount 12 = .ok (.aload_n 0, 1) := by decide +kernel
theorem dX5_brokenCount_13 : decode cX5_brokenCount 13 = .ok (.getfield 21, 3) := by decide +kernel
theorem dX5_brokenCount_16 : decode cX5_brokenCount 16 = .ok (.iload_n 2, 1) := by decide +kernel
theorem dX5_brokenCount_17 : decode cX5_brokenCount 17 = .ok (.baload, 1) := by decide +kernel
theorem dX5_brokenCount_18 : decode cX5_brokenCount 18 = .ok (.ifCond .eq 6, 3) := by decide +kernel
theorem dX5_brokenCount_21 : decode cX5_brokenCount 21 = .ok (.iinc 1 1, 3) := by decide +kernel
theorem dX5_brokenCount_24 : decode cX5_brokenCount 24 = .ok (.iinc 2 1, 3) := by decide +kernel
theorem dX5_brokenCount_27 : decode cX5_brokenCount 27 = .ok (.goto (-23), 3) := by decide +kernel
theorem dX5_brokenCount_30 : decode cX5_brokenCount 30 = .ok (.iload_n 1, 1) := by decide +kernel
theorem dX5_brokenCount_31 : decode cX5_brokenCount 31 = .ok (.ireturn, 1) := by decide +kernel
def f_X5_brokenCount_4 (k : Nat) : Nat → Int32 → Int32 → XW → Option (Int32 × XW)
  | 0, _, _, _ => none
  | n + 1, z1, z2, w => (if (w.1 k 0) ≤ z2 then (some (z1, w)) else (if inB z2 10 then (if (w.1 (k + 4) (Int32.toNatClampNeg z2)) = 0 then (f_X5_brokenCount_4 k n z1 (z2 + 1) w) else (f_X5_brokenCount_4 k n (z1 + 1) (z2 + 1) w)) else none))
set_option maxRecDepth 100000 in
theorem S_X5_brokenCount_4 {g : GC} (hl : g.1.stackTraces = false) {k : Nat} (hk : isX5 k) : ∀ (n : Nat) (z1 : Int32) (z2 : Int32) (w : XW), VE g cX5_brokenCount 3 RX5 (some .int) [] (rmL 3 0 0) 0 0 oI 0 0 4 [(0, .ref (g.2.1 + k)), (1, .int z1), (2, .int z2)] [] w (f_X5_brokenCount_4 k n z1 z2 w) := by
  intro n
  induction n with
  | zero => intro z1 z2 w; exact v_none
  | succ n ih =>
    intro z1 z2 w
    rw [f_X5_brokenCount_4]
    refine v_iload_n dX5_brokenCount_4 rfl 2 rfl ?_
    refine v_aload_n dX5_brokenCount_5 rfl 0 rfl ?_
    refine v_getI fl_X5_25 hk.1 rfl dX5_brokenCount_6 ?_
    refine v_icmp_ge (tgt := 30) dX5_brokenCount_9 (by decide) ?_ ?_
    · refine v_iload_n dX5_brokenCount_30 rfl 1 rfl ?_
      exact v_iret dX5_brokenCount_31 rfl rfl (by decide) (by decide)
    · refine v_aload_n dX5_brokenCount_12 rfl 0 rfl ?_
      refine v_getR fl_X5_21 hk.1 rfl dX5_brokenCount_13 ?_
      refine v_iload_n dX5_brokenCount_16 rfl 2 rfl ?_
      refine v_guard (fun h1 => ?_)
      refine v_zald hk.2.2.2.2 h1 dX5_brokenCount_17 ?_
      refine v_if_eq (tgt := 24) dX5_brokenCount_18 (by decide) ?_ ?_
      · refine v_iinc (v := (z2 + 1)) dX5_brokenCount_24 (q := 2) rfl rfl (Nat.le_of_ble_eq_true rfl) rfl ?_
        refine v_goto (tgt := 4) dX5_brokenCount_27 (by decide) ?_
        refine v_sub [1, 2, 0] rfl ?_
        exact ih _ _ _
      · refine v_iinc (v := (z1 + 1)) dX5_brokenCount_21 (q := 1) rfl rfl (Nat.le_of_ble_eq_true rfl) rfl ?_
        refine v_iinc (v := (z2 + 1)) dX5_brokenCount_24 (q := 2) rfl rfl (Nat.le_of_ble_eq_true rfl) rfl ?_
        refine v_goto (tgt := 4) dX5_brokenCount_27 (by decide) ?_
        refine v_sub [2, 1, 0] rfl ?_
        exact ih _ _ _
def f_X5_brokenCount (k : Nat) (w : XW) : Option (Int32 × XW) := (f_X5_brokenCount_4 k 1000 0 0 w)
set_option maxRecDepth 100000 in
theorem W_X5_brokenCount {g : GC} (hl : g.1.stackTraces = false) {k : Nat} (hk : isX5 k) {w : XW} : VE g cX5_brokenCount 3 RX5 (some .int) [] (rmL 3 0 0) 0 0 oI 0 0 0 [(0, .ref (g.2.1 + k))] [] w (f_X5_brokenCount k w) := by
  unfold f_X5_brokenCount
  refine v_iconst (v := 0) dX5_brokenCount_0 (by decide) ?_
  refine v_istore_n dX5_brokenCount_1 rfl (Nat.le_of_ble_eq_true rfl) rfl ?_
  refine v_iconst (v := 0) dX5_brokenCount_2 (by decide) ?_
  refine v_istore_n dX5_brokenCount_3 rfl (Nat.le_of_ble_eq_true rfl) rfl ?_
  refine v_sub [2, 1, 0] rfl ?_
  exact S_X5_brokenCount_4 hl hk  _ _ _ _
theorem S_X5_brokenCount {g : GC} (hl : g.1.stackTraces = false) {k : Nat} (hk : isX5 k) {w : XW} : ∀ q, f_X5_brokenCount k w = some q → MM g (.code yX5_brokenCount cX5_brokenCount 3 (some .int)) yX5_brokenCount (rmL 3 0 0) 0 0 [.ref (g.2.1 + k)] w (oI q) := fun q hq => MM_of (own := RX5) hl (by decide) gw_844 rfl (Nat.le_of_ble_eq_true rfl) (W_X5_brokenCount hl hk q hq) ⟨rfl, rfl⟩

theorem dX5_append_0 : decode cX5_append 0 = .ok (.aload_n 0, 1) := by decide +kernel
theorem dX5_append_1 : decode cX5_append 1 = .ok (.getfield 25, 3) := by decide +kernel
theorem dX5_append_4 : decode cX5_append 4 = .ok (.bipush 10, 2) := by decide +kernel
theorem dX5_append_6 : decode cX5_append 6 = .ok (.if_icmp .lt 5, 3) := by decide +kernel
theorem dX5_append_9 : decode cX5_append 9 = .ok (.iconst (-1), 1) := by decide +kernel
theorem dX5_append_10 : decode cX5_append 10 = .ok (.ireturn, 1) := by decide +kernel
theorem dX5_append_11 : decode cX5_append 11 = .ok (.aload_n 0, 1) := by decide +kernel
theorem dX5_append_12 : decode cX5_append 12 = .ok (.getfield 9, 3) := by decide +kernel
theorem dX5_append_15 : decode cX5_append 15 = .ok (.aload_n 0, 1) := by decide +kernel
theorem dX5_append_16 : decode cX5_append 16 = .ok (.getfield 25, 3) := by decide +kernel
theorem dX5_append_19 : decode cX5_append 19 = .ok (.iload_n 1, 1) := by decide +kernel
theorem dX5_append_20 : decode cX5_append 20 = .ok (.iastore, 1) := by decide +kernel
theorem dX5_append_21 : decode cX5_append 21 = .ok (.aload_n 0, 1) := by decide +kernel
theorem dX5_append_22 : decode cX5_append 22 = .ok (.getfield 15, 3) := by decide +kernel
theorem dX5_append_25 : decode cX5_append 25 = .ok (.aload_n 0, 1) := by decide +kernel
theorem dX5_append_26 : decode cX5_append 26 = .ok (.getfield 25, 3) := by decide +kernel
theorem dX5_append_29 : decode cX5_append 29 = .ok (.iload_n 2, 1) := by decide +kernel
theorem dX5_append_30 : decode cX5_append 30 = .ok (.iastore, 1) := by decide +kernel
theorem dX5_append_31 : decode cX5_append 31 = .ok (.aload_n 0, 1) := by decide +kernel
theorem dX5_append_32 : decode cX5_append 32 = .ok (.getfield 18, 3) := by decide +kernel
theorem dX5_append_35 : decode cX5_append 35 = .ok (.aload_n 0, 1) := by decide +kernel
theorem dX5_append_36 : decode cX5_append 36 = .ok (.getfield 25, 3) := by decide +kernel
theorem dX5_append_39 : decode cX5_append 39 = .ok (.iload_n 3, 1) := by decide +kernel
theorem dX5_append_40 : decode cX5_append 40 = .ok (.iastore, 1) := by decide +kernel
theorem dX5_append_41 : decode cX5_append 41 = .ok (.aload_n 0, 1) := by decide +kernel
theorem dX5_append_42 : decode cX5_append 42 = .ok (.getfield 21, 3) := by decide +kernel
theorem dX5_append_45 : decode cX5_append 45 = .ok (.aload_n 0, 1) := by decide +kernel
theorem dX5_append_46 : decode cX5_append 46 = .ok (.getfield 25, 3) := by decide +kernel
theorem dX5_append_49 : decode cX5_append 49 = .ok (.iconst 0, 1) := by decide +kernel
theorem dX5_append_50 : decode cX5_append 50 = .ok (.bastore, 1) := by decide +kernel
theorem dX5_append_51 : decode cX5_append 51 = .ok (.aload_n 0, 1) := by decide +kernel
theorem dX5_append_52 : decode cX5_append 52 = .ok (.dup, 1) := by decide +kernel
theorem dX5_append_53 : decode cX5_append 53 = .ok (.getfield 25, 3) := by decide +kernel
theorem dX5_append_56 : decode cX5_append 56 = .ok (.iconst 1, 1) := by decide +kernel
theorem dX5_append_57 : decode cX5_append 57 = .ok (.iadd, 1) := by decide +kernel
theorem dX5_append_58 : decode cX5_append 58 = .ok (.putfield 25, 3) := by decide +kernel
theorem dX5_append_61 : decode cX5_append 61 = .ok (.aload_n 0, 1) := by decide +kernel
theorem dX5_append_62 : decode cX5_append 62 = .ok (.getfield 25, 3) := by decide +kernel
theorem dX5_append_65 : decode cX5_append 65 = .ok (.iconst 1, 1) := by decide +kernel
theorem dX5_append_66 : decode cX5_append 66 = .ok (.isub, 1) := by decide +kernel
theorem dX5_append_67 : decode cX5_append 67 = .ok (.ireturn, 1) := by decide +kernel
def f_X5_append (k : Nat) (x1 : Int32) (x2 : Int32) (x3 : Int32) (w : XW) : Option (Int32 × XW) := (if (w.1 k 0) < 10 then (if inB (w.1 k 0) 10 then (if inB ((wset w (k + 1) (Int32.toNatClampNeg (w.1 k 0)) x1).1 k 0) 10 then (if inB ((wset (wset w (k + 1) (Int32.toNatClampNeg (w.1 k 0)) x1) (k + 2) (Int32.toNatClampNeg ((wset w (k + 1) (Int32.toNatClampNeg (w.1 k 0)) x1).1 k 0)) x2).1 k 0) 10 then (if inB ((wset (wset (wset w (k + 1) (Int32.toNatClampNeg (w.1 k 0)) x1) (k + 2) (Int32.toNatClampNeg ((wset w (k + 1) (Int32.toNatClampNeg (w.1 k 0)) x1).1 k 0)) x2) (k + 3) (Int32.toNatClampNeg ((wset (wset w (k + 1) (Int32.toNatClampNeg (w.1 k 0)) x1) (k + 2) (Int32.toNatClampNeg ((wset w (k + 1) (Int32.toNatClampNeg (w.1 k 0)) x1).1 k 0)) x2).1 k 0)) x3).1 k 0) 10 then (some ((((wset (wset (wset (wset (wset w (k + 1) (Int32.toNatClampNeg (w.1 k 0)) x1) (k + 2) (Int32.toNatClampNeg ((wset w (k + 1) (Int32.toNatClampNeg (w.1 k 0)) x1).1 k 0)) x2) (k + 3) (Int32.toNatClampNeg ((wset (wset w (k + 1) (Int32.toNatClampNeg (w.1 k 0)) x1) (k + 2) (Int32.toNatClampNeg ((wset w (k + 1) (Int32.toNatClampNeg (w.1 k 0)) x1).1 k 0)) x2).1 k 0)) x3) (k + 4) (Int32.toNatClampNeg ((wset (wset (wset w (k + 1) (Int32.toNatClampNeg (w.1 k 0)) x1) (k + 2) (Int32.toNatClampNeg ((wset w (k + 1) (Int32.toNatClampNeg (w.1 k 0)) x1).1 k 0)) x2) (k + 3) (Int32.toNatClampNeg ((wset (wset w (k + 1) (Int32.toNatClampNeg (w.1 k 0)) x1) (k + 2) (Int32.toNatClampNeg ((wset w (k + 1) (Int32.toNatClampNeg (w.1 k 0)) x1).1 k 0)) x2).1 k 0)) x3).1 k 0)) (vp_nar .boolean 0)) k 0 (((wset (wset (wset (wset w (k + 1) (Int32.toNatClampNeg (w.1 k 0)) x1) (k + 2) (Int32.toNatClampNeg ((wset w (k + 1) (Int32.toNatClampNeg (w.1 k 0)) x1).1 k 0)) x2) (k + 3) (Int32.toNatClampNeg ((wset (wset w (k + 1) (Int32.toNatClampNeg (w.1 k 0)) x1) (k + 2) (Int32.toNatClampNeg ((wset w (k + 1) (Int32.toNatClampNeg (w.1 k 0)) x1).1 k 0)) x2).1 k 0)) x3) (k + 4) (Int32.toNatClampNeg ((wset (wset (wset w (k + 1) (Int32.toNatClampNeg (w.1 k 0)) x1) (k + 2) (Int32.toNatClampNeg ((wset w (k + 1) (Int32.toNatClampNeg (w.1 k 0)) x1).1 k 0)) x2) (k + 3) (Int32.toNatClampNeg ((wset (wset w (k + 1) (Int32.toNatClampNeg (w.1 k 0)) x1) (k + 2) (Int32.toNatClampNeg ((wset w (k + 1) (Int32.toNatClampNeg (w.1 k 0)) x1).1 k 0)) x2).1 k 0)) x3).1 k 0)) (vp_nar .boolean 0)).1 k 0) + 1)).1 k 0) - 1), (wset (wset (wset (wset (wset w (k + 1) (Int32.toNatClampNeg (w.1 k 0)) x1) (k + 2) (Int32.toNatClampNeg ((wset w (k + 1) (Int32.toNatClampNeg (w.1 k 0)) x1).1 k 0)) x2) (k + 3) (Int32.toNatClampNeg ((wset (wset w (k + 1) (Int32.toNatClampNeg (w.1 k 0)) x1) (k + 2) (Int32.toNatClampNeg ((wset w (k + 1) (Int32.toNatClampNeg (w.1 k 0)) x1).1 k 0)) x2).1 k 0)) x3) (k + 4) (Int32.toNatClampNeg ((wset (wset (wset w (k + 1) (Int32.toNatClampNeg (w.1 k 0)) x1) (k + 2) (Int32.toNatClampNeg ((wset w (k + 1) (Int32.toNatClampNeg (w.1 k 0)) x1).1 k 0)) x2) (k + 3) (Int32.toNatClampNeg ((wset (wset w (k + 1) (Int32.toNatClampNeg (w.1 k 0)) x1) (k + 2) (Int32.toNatClampNeg ((wset w (k + 1) (Int32.toNatClampNeg (w.1 k 0)) x1).1 k 0)) x2).1 k 0)) x3).1 k 0)) (vp_nar .boolean 0)) k 0 (((wset (wset (wset (wset w (k + 1) (Int32.toNatClampNeg (w.1 k 0)) x1) (k + 2) (Int32.toNatClampNeg ((wset w (k + 1) (Int32.toNatClampNeg (w.1 k 0)) x1).1 k 0)) x2) (k + 3) (Int32.toNatClampNeg ((wset (wset w (k + 1) (Int32.toNatClampNeg (w.1 k 0)) x1) (k + 2) (Int32.toNatClampNeg ((wset w (k + 1) (Int32.toNatClampNeg (w.1 k 0)) x1).1 k 0)) x2).1 k 0)) x3) (k + 4) (Int32.toNatClampNeg ((wset (wset (wset w (k + 1) (Int32.toNatClampNeg (w.1 k 0)) x1) (k + 2) (Int32.toNatClampNeg ((wset w (k + 1) (Int32.toNatClampNeg (w.1 k 0)) x1).1 k 0)) x2) (k + 3) (Int32.toNatClampNeg ((wset (wset w (k + 1) (Int32.toNatClampNeg (w.1 k 0)) x1) (k + 2) (Int32.toNatClampNeg ((wset w (k + 1) (Int32.toNatClampNeg (w.1 k 0)) x1).1 k 0)) x2).1 k 0)) x3).1 k 0)) (vp_nar .boolean 0)).1 k 0) + 1)))) else none) else none) else none) else none) else (some ((-1), w)))
set_option maxRecDepth 100000 in
theorem W_X5_append {g : GC} (hl : g.1.stackTraces = false) {k : Nat} (hk : isX5 k) {x1 : Int32} {x2 : Int32} {x3 : Int32} {w : XW} : VE g cX5_append 4 RX5 (some .int) [] (rmL 3 0 0) 0 0 oI 0 0 0 [(0, .ref (g.2.1 + k)), (1, .int x1), (2, .int x2), (3, .int x3)] [] w (f_X5_append k x1 x2 x3 w) := by
  unfold f_X5_append
  refine v_aload_n dX5_append_0 rfl 0 rfl ?_
  refine v_getI fl_X5_25 hk.1 rfl dX5_append_1 ?_
  refine v_bipush (v := 10) dX5_append_4 (by decide) ?_
  refine v_icmp_lt (tgt := 11) dX5_append_6 (by decide) ?_ ?_
  · refine v_aload_n dX5_append_11 rfl 0 rfl ?_
    refine v_getR fl_X5_9 hk.1 rfl dX5_append_12 ?_
    refine v_aload_n dX5_append_15 rfl 0 rfl ?_
    refine v_getI fl_X5_25 hk.1 rfl dX5_append_16 ?_
    refine v_iload_n dX5_append_19 rfl 1 rfl ?_
    refine v_guard (fun h1 => ?_)
    refine v_iast hk.2.1 h1 dX5_append_20 ?_
    refine v_aload_n dX5_append_21 rfl 0 rfl ?_
    refine v_getR fl_X5_15 hk.1 rfl dX5_append_22 ?_
    refine v_aload_n dX5_append_25 rfl 0 rfl ?_
    refine v_getI fl_X5_25 hk.1 rfl dX5_append_26 ?_
    refine v_iload_n dX5_append_29 rfl 2 rfl ?_
    refine v_guard (fun h2 => ?_)
    refine v_iast hk.2.2.1 h2 dX5_append_30 ?_
    refine v_aload_n dX5_append_31 rfl 0 rfl ?_
    refine v_getR fl_X5_18 hk.1 rfl dX5_append_32 ?_
    refine v_aload_n dX5_append_35 rfl 0 rfl ?_
    refine v_getI fl_X5_25 hk.1 rfl dX5_append_36 ?_
    refine v_iload_n dX5_append_39 rfl 3 rfl ?_
    refine v_guard (fun h3 => ?_)
    refine v_iast hk.2.2.2.1 h3 dX5_append_40 ?_
    refine v_aload_n dX5_append_41 rfl 0 rfl ?_
    refine v_getR fl_X5_21 hk.1 rfl dX5_append_42 ?_
    refine v_aload_n dX5_append_45 rfl 0 rfl ?_
    refine v_getI fl_X5_25 hk.1 rfl dX5_append_46 ?_
    refine v_iconst (v := 0) dX5_append_49 (by decide) ?_
    refine v_guard (fun h4 => ?_)
    refine v_zast hk.2.2.2.2 h4 dX5_append_50 ?_
    refine v_aload_n dX5_append_51 rfl 0 rfl ?_
    refine v_dup dX5_append_52 rfl ?_
    refine v_getI fl_X5_25 hk.1 rfl dX5_append_53 ?_
    refine v_iconst (v := 1) dX5_append_56 (by decide) ?_
    refine v_iadd dX5_append_57 ?_
    refine v_putI fl_X5_25 hk.1 rfl (ty0 := .int) rfl rfl rfl dX5_append_58 ?_
    refine v_aload_n dX5_append_61 rfl 0 rfl ?_
    refine v_getI fl_X5_25 hk.1 rfl dX5_append_62 ?_
    refine v_iconst (v := 1) dX5_append_65 (by decide) ?_
    refine v_isub dX5_append_66 ?_
    exact v_iret dX5_append_67 rfl rfl (by decide) (by decide)
  · refine v_iconst (v := (-1)) dX5_append_9 (by decide) ?_
    exact v_iret dX5_append_10 rfl rfl (by decide) (by decide)
theorem S_X5_append {g : GC} (hl : g.1.stackTraces = false) {k : Nat} (hk : isX5 k) {x1 : Int32} {x2 : Int32} {x3 : Int32} {w : XW} : ∀ q, f_X5_append k x1 x2 x3 w = some q → MM g (.code yX5_append cX5_append 4 (some .int)) yX5_append (rmL 3 0 0) 0 0 [.ref (g.2.1 + k), .int x1, .int x2, .int x3] w (oI q) := fun q hq => MM_of (own := RX5) hl (by decide) gw_832 rfl (Nat.le_of_ble_eq_true rfl) (W_X5_append hl hk q hq) ⟨rfl, rfl⟩

theorem dX5_remove_0 : decode cX5_remove 0 = .ok (.aload_n 0, 1) := by decide +kernel
theorem dX5_remove_1 : decode cX5_remove 1 = .ok (.iload_n 1, 1) := by decide +kernel
theorem dX5_remove_2 : decode cX5_remove 2 = .ok (.invokevirtual 35, 3) := by decide +kernel
theorem dX5_remove_5 : decode cX5_remove 5 = .ok (.ifCond .ne 8, 3) := by decide +kernel
theorem dX5_remove_8 : decode cX5_remove 8 = .ok (.aload_n 0, 1) := by decide +kernel
theorem dX5_remove_9 : decode cX5_remove 9 = .ok (.getfield 25, 3) := by decide +kernel
theorem dX5_remove_12 : decode cX5_remove 12 = .ok (.ireturn, 1) := by decide +kernel
theorem dX5_remove_13 : decode cX5_remove 13 = .ok (.iload_n 1, 1) := by decide +kernel
theorem dX5_remove_14 : decode cX5_remove 14 = .ok (.iconst 1, 1) := by decide +kernel
theorem dX5_remove_15 : decode cX5_remove 15 = .ok (.iadd, 1) := by decide +kernel
theorem dX5_remove_16 : decode cX5_remove 16 = .ok (.istore_n 2, 1) := by decide +kernel
theorem dX5_remove_17 : decode cX5_remove 17 = .ok (.iload_n 2, 1) := by decide +kernel
theorem dX5_remove_18 : decode cX5_remove 18 = .ok (.aload_n 0, 1) := by decide +kernel
theorem dX5_remove_19 : decode cX5_remove 19 = .ok (.getfield 25, 3) := by decide +kernel
theorem dX5_remove_22 : decode cX5_remove 22 = .ok (.if_icmp .ge 65, 3) := by decide +kernel
theorem dX5_remove_25 : decode cX5_remove 25 = .ok (.aload_n 0, 1) := by decide +kernel
theorem dX5_remove_26 : decode cX5_remove 26 = .ok (.getfield 9, 3) := by decide +kernel
theorem dX5_remove_29 : decode cX5_remove 29 = .ok (.iload_n 2, 1) := by decide +kernel
theorem dX5_remove_30 : decode cX5_remove 30 = .ok (.iconst 1, 1) := by decide +kernel
theorem dX5_remove_31 : decode cX5_remove 31 = .ok (.isub, 1) := by decide +kernel
theorem dX5_remove_32 : decode cX5_remove 32 = .ok (.aload_n 0, 1) := by decide +kernel
theorem dX5_remove_33 : decode cX5_remove 33 = .ok (.getfield 9, 3) := by decide +kernel
theorem dX5_remove_36 : decode cX5_remove 36 = .ok (.iload_n 2, 1) := by decide +kernel
theorem dX5_remove_37 : decode cX5_remove 37 = .ok (.iaload, 1) := by decide +kernel
theorem dX5_remove_38 : decode cX5_remove 38 = .ok (.iastore, 1) := by decide +kernel
theorem dX5_remove_39 : decode cX5_remove 39 = .ok (.aload_n 0, 1) := by decide +kernel
theorem dX5_remove_40 : decode cX5_remove 40 = .ok (.getfield 15, 3) := by decide +kernel
theorem dX5_remove_43 : decode cX5_remove 43 = .ok (.iload_n 2, 1) := by decide +kernel
theorem dX5_remove_44 : decode cX5_remove 44 = .ok (.iconst 1, 1) := by decide +kernel
theorem dX5_remove_45 : decode cX5_remove 45 = .ok (.isub, 1) := by decide +kernel
theorem dX5_remove_46 : decode cX5_remove 46 = .ok (.aload_n 0, 1) := by decide +kernel
theorem dX5_remove_47 : decode cX5_remove 47 = .ok (.getfield 15, 3) := by decide +kernel
theorem dX5_remove_50 : decode cX5_remove 50 = .ok (.iload_n 2, 1) := by decide +kernel
theorem dX5_remove_51 : decode cX5_remove 51 = .ok (.iaload, 1) := by decide +kernel
theorem dX5_remove_52 : decode cX5_remove 52 = .ok (.iastore, 1) := by decide +kernel
theorem dX5_remove_53 : decode cX5_remove 53 = .ok (.aload_n 0, 1) := by decide +kernel
theorem dX5_remove_54 : decode cX5_remove 54 = .ok (.getfield 18, 3) := by decide +kernel
theorem dX5_remove_57 : decode cX5_remove 57 = .ok (.iload_n 2, 1) := by decide +kernel
theorem dX5_remove_58 : decode cX5_remove 58 = .ok (.iconst 1, 1) := by decide +kernel
theorem dX5_remove_59 : decode cX5_remove 59 = .ok (.isub, 1) := by decide +kernel
theorem dX5_remove_60 : decode cX5_remove 60 = .ok (.aload_n 0, 1) := by decide +kernel
theorem dX5_remove_61 : decode cX5_remove 61 = .ok (.getfield 18, 3) := by decide +kernel
theorem dX5_remove_64 : decode cX5_remove 64 = .ok (.iload_n 2, 1) := by decide +kernel
theorem dX5_remove_65 : decode cX5_remove 65 = .ok (.iaload, 1) := by decide +kernel
theorem dX5_remove_66 : decode cX5_remove 66 = .ok (.iastore, 1) := by decide +kernel
theorem dX5_remove_67 : decode cX5_remove 67 = .ok (.aload_n 0, 1) := by decide +kernel
theorem dX5_remove_68 : decode cX5_remove 68 = .ok (.getfield 21, 3) := by decide +kernel
theorem dX5_remove_71 : decode cX5_remove 71 = .ok (.iload_n 2, 1) := by decide +kernel
theorem dX5_remove_72 : decode cX5_remove 72 = .ok (.iconst 1, 1) := by decide +kernel
theorem dX5_remove_73 : decode cX5_remove 73 = .ok (.isub, 1) := by decide +kernel
theorem dX5_remove_74 : decode cX5_remove 74 = .ok (.aload_n 0, 1) := by decide +kernel
theorem dX5_remove_75 : decode cX5_remove 75 = .ok (.getfield 21, 3) := by decide +kernel
theorem dX5_remove_78 : decode cX5_remove 78 = .ok (.iload_n 2, 1) := by decide +kernel
theorem dX5_remove_79 : decode cX5_remove 79 = .ok (.baload, 1) := by decide +kernel
theorem dX5_remove_80 : decode cX5_remove 80 = .ok (.bastore, 1) := by decide +kernel
theorem dX5_remove_81 : decode cX5_remove 81 = .ok (.iinc 2 1, 3) := by decide +kernel
theorem dX5_remove_84 : decode cX5_remove 84 = .ok (.goto (-67), 3) := by decide +kernel
theorem dX5_remove_87 : decode cX5_remove 87 = .ok (.aload_n 0, 1) := by decide +kernel
theorem dX5_remove_88 : decode cX5_remove 88 = .ok (.dup, 1) := by decide +kernel
theorem dX5_remove_89 : decode cX5_remove 89 = .ok (.getfield 25, 3) := by decide +kernel
theorem dX5_remove_92 : decode cX5_remove 92 = .ok (.iconst 1, 1) := by decide +kernel
theorem dX5_remove_93 : decode cX5_remove 93 = .ok (.isub, 1) := by decide +kernel
theorem dX5_remove_94 : decode cX5_remove 94 = .ok (.putfield 25, 3) := by decide +kernel
theorem dX5_remove_97 : decode cX5_remove 97 = .ok (.aload_n 0, 1) := by decide +kernel
theorem dX5_remove_98 : decode cX5_remove 98 = .ok (.getfield 25, 3) := by decide +kernel
theorem dX5_remove_101 : decode cX5_remove 101 = .ok (.ireturn, 1) := by decide +kernel
def f_X5_remove_17 (k : Nat) : Nat → Int32 → XW → Option (Int32 × XW)
  | 0, _, _ => none
  | n + 1, z2, w => (if (w.1 k 0) ≤ z2 then (some (((wset w k 0 ((w.1 k 0) - 1)).1 k 0), (wset w k 0 ((w.1 k 0) - 1)))) else (if inB z2 10 then (if inB (z2 - 1) 10 then (if inB z2 10 then (if inB (z2 - 1) 10 then (if inB z2 10 then (if inB (z2 - 1) 10 then (if inB z2 10 then (if inB (z2 - 1) 10 then (f_X5_remove_17 k n (z2 + 1) (wset (wset (wset (wset w (k + 1) (Int32.toNatClampNeg (z2 - 1)) (w.1 (k + 1) (Int32.toNatClampNeg z2))) (k + 2) (Int32.toNatClampNeg (z2 - 1)) ((wset w (k + 1) (Int32.toNatClampNeg (z2 - 1)) (w.1 (k + 1) (Int32.toNatClampNeg z2))).1 (k + 2) (Int32.toNatClampNeg z2))) (k + 3) (Int32.toNatClampNeg (z2 - 1)) ((wset (wset w (k + 1) (Int32.toNatClampNeg (z2 - 1)) (w.1 (k + 1) (Int32.toNatClampNeg z2))) (k + 2) (Int32.toNatClampNeg (z2 - 1)) ((wset w (k + 1) (Int32.toNatClampNeg (z2 - 1)) (w.1 (k + 1) (Int32.toNatClampNeg z2))).1 (k + 2) (Int32.toNatClampNeg z2))).1 (k + 3) (Int32.toNatClampNeg z2))) (k + 4) (Int32.toNatClampNeg (z2 - 1)) (vp_nar .boolean ((wset (wset (wset w (k + 1) (Int32.toNatClampNeg (z2 - 1)) (w.1 (k + 1) (Int32.toNatClampNeg z2))) (k + 2) (Int32.toNatClampNeg (z2 - 1)) ((wset w (k + 1) (Int32.toNatClampNeg (z2 - 1)) (w.1 (k + 1) (Int32.toNatClampNeg z2))).1 (k + 2) (Int32.toNatClampNeg z2))) (k + 3) (Int32.toNatClampNeg (z2 - 1)) ((wset (wset w (k + 1) (Int32.toNatClampNeg (z2 - 1)) (w.1 (k + 1) (Int32.toNatClampNeg z2))) (k + 2) (Int32.toNatClampNeg (z2 - 1)) ((wset w (k + 1) (Int32.toNatClampNeg (z2 - 1)) (w.1 (k + 1) (Int32.toNatClampNeg z2))).1 (k + 2) (Int32.toNatClampNeg z2))).1 (k + 3) (Int32.toNatClampNeg z2))).1 (k + 4) (Int32.toNatClampNeg z2))))) else none) else none) else none) else none) else none) else none) else none) else none))
set_option maxRecDepth 100000 in
theorem S_X5_remove_17 {g : GC} (hl : g.1.stackTraces = false) {k : Nat} (hk : isX5 k) : ∀ (n : Nat) (z2 : Int32) (w : XW), VE g cX5_remove 3 RX5 (some .int) [] (rmL 4 0 0) 0 0 oI 0 0 17 [(0, .ref (g.2.1 + k)), (2, .int z2)] [] w (f_X5_remove_17 k n z2 w) := by
  intro n
  induction n with
  | zero => intro z2 w; exact v_none
  | succ n ih =>
    intro z2 w
    rw [f_X5_remove_17]
    refine v_iload_n dX5_remove_17 rfl 1 rfl ?_
    refine v_aload_n dX5_remove_18 rfl 0 rfl ?_
    refine v_getI fl_X5_25 hk.1 rfl dX5_remove_19 ?_
    refine v_icmp_ge (tgt := 87) dX5_remove_22 (by decide) ?_ ?_
    · refine v_aload_n dX5_remove_87 rfl 0 rfl ?_
      refine v_dup dX5_remove_88 rfl ?_
      refine v_getI fl_X5_25 hk.1 rfl dX5_remove_89 ?_
      refine v_iconst (v := 1) dX5_remove_92 (by decide) ?_
      refine v_isub dX5_remove_93 ?_
      refine v_putI fl_X5_25 hk.1 rfl (ty0 := .int) rfl rfl rfl dX5_remove_94 ?_
      refine v_aload_n dX5_remove_97 rfl 0 rfl ?_
      refine v_getI fl_X5_25 hk.1 rfl dX5_remove_98 ?_
      exact v_iret dX5_remove_101 rfl rfl (by decide) (by decide)
    · refine v_aload_n dX5_remove_25 rfl 0 rfl ?_
      refine v_getR fl_X5_9 hk.1 rfl dX5_remove_26 ?_
      refine v_iload_n dX5_remove_29 rfl 1 rfl ?_
      refine v_iconst (v := 1) dX5_remove_30 (by decide) ?_
      refine v_isub dX5_remove_31 ?_
      refine v_aload_n dX5_remove_32 rfl 0 rfl ?_
      refine v_getR fl_X5_9 hk.1 rfl dX5_remove_33 ?_
      refine v_iload_n dX5_remove_36 rfl 1 rfl ?_
      refine v_guard (fun h2 => ?_)
      refine v_iald hk.2.1 h2 dX5_remove_37 ?_
      refine v_guard (fun h3 => ?_)
      refine v_iast hk.2.1 h3 dX5_remove_38 ?_
      refine v_aload_n dX5_remove_39 rfl 0 rfl ?_
      refine v_getR fl_X5_15 hk.1 rfl dX5_remove_40 ?_
      refine v_iload_n dX5_remove_43 rfl 1 rfl ?_
      refine v_iconst (v := 1) dX5_remove_44 (by decide) ?_
      refine v_isub dX5_remove_45 ?_
      refine v_aload_n dX5_remove_46 rfl 0 rfl ?_
      refine v_getR fl_X5_15 hk.1 rfl dX5_remove_47 ?_
      refine v_iload_n dX5_remove_50 rfl 1 rfl ?_
      refine v_guard (fun h4 => ?_)
      refine v_iald hk.2.2.1 h4 dX5_remove_51 ?_
      refine v_guard (fun h5 => ?_)
      refine v_iast hk.2.2.1 h5 dX5_remove_52 ?_
      refine v_aload_n dX5_remove_53 rfl 0 rfl ?_
      refine v_getR fl_X5_18 hk.1 rfl dX5_remove_54 ?_
      refine v_iload_n dX5_remove_57 rfl 1 rfl ?_
      refine v_iconst (v := 1) dX5_remove_58 (by decide) ?_
      refine v_isub dX5_remove_59 ?_
      refine v_aload_n dX5_remove_60 rfl 0 rfl ?_
      refine v_getR fl_X5_18 hk.1 rfl dX5_remove_61 ?_
      refine v_iload_n dX5_remove_64 rfl 1 rfl ?_
      refine v_guard (fun h6 => ?_)
      refine v_iald hk.2.2.2.1 h6 dX5_remove_65 ?_
      refine v_guard (fun h7 => ?_)
      refine v_iast hk.2.2.2.1 h7 dX5_remove_66 ?_
      refine v_aload_n dX5_remove_67 rfl 0 rfl ?_
      refine v_getR fl_X5_21 hk.1 rfl dX5_remove_68 ?_
      refine v_iload_n dX5_remove_71 rfl 1 rfl ?_
      refine v_iconst (v := 1) dX5_remove_72 (by decide) ?_
      refine v_isub dX5_remove_73 ?_
      refine v_aload_n dX5_remove_74 rfl 0 rfl ?_
      refine v_getR fl_X5_21 hk.1 rfl dX5_remove_75 ?_
      refine v_iload_n dX5_remove_78 rfl 1 rfl ?_
      refine v_guard (fun h8 => ?_)
      refine v_zald hk.2.2.2.2 h8 dX5_remove_79 ?_
      refine v_guard (fun h9 => ?_)
      refine v_zast hk.2.2.2.2 h9 dX5_remove_80 ?_
      refine v_iinc (v := (z2 + 1)) dX5_remove_81 (q := 1) rfl rfl (Nat.le_of_ble_eq_true rfl) rfl ?_
      refine v_goto (tgt := 17) dX5_remove_84 (by decide) ?_
      refine v_sub [1, 0] rfl ?_
      exact ih _ _
def f_X5_remove (k : Nat) (x1 : Int32) (w : XW) : Option (Int32 × XW) := (bI (f_X5_has k x1 w) (fun r1 w1 => (if r1 = 0 then (some ((w1.1 k 0), w1)) else (f_X5_remove_17 k 1000 (x1 + 1) w1))))
set_option maxRecDepth 100000 in
theorem W_X5_remove {g : GC} (hl : g.1.stackTraces = false) {k : Nat} (hk : isX5 k) {x1 : Int32} {w : XW} : VE g cX5_remove 3 RX5 (some .int) [] (rmL 4 0 0) 0 0 oI 0 0 0 [(0, .ref (g.2.1 + k)), (1, .int x1)] [] w (f_X5_remove k x1 w) := by
  unfold f_X5_remove
  refine v_aload_n dX5_remove_0 rfl 0 rfl ?_
  refine v_iload_n dX5_remove_1 rfl 1 rfl ?_
  refine v_callVi (As := [.int x1]) cv_X5_35 (S_X5_has hl hk) hk.1 rfl rfl rfl (Nat.le_of_ble_eq_true rfl) dX5_remove_2 (CR_rm (by decide) (by decide) (by decide) (by decide)) (fun r1 w1 => ?_)
  refine v_if_ne (tgt := 13) dX5_remove_5 (by decide) ?_ ?_
  · refine v_iload_n dX5_remove_13 rfl 1 rfl ?_
    refine v_iconst (v := 1) dX5_remove_14 (by decide) ?_
    refine v_iadd dX5_remove_15 ?_
    refine v_istore_n dX5_remove_16 rfl (Nat.le_of_ble_eq_true rfl) rfl ?_
    refine v_sub [1, 0] rfl ?_
    exact S_X5_remove_17 hl hk  _ _ _
  · refine v_aload_n dX5_remove_8 rfl 0 rfl ?_
    refine v_getI fl_X5_25 hk.1 rfl dX5_remove_9 ?_
    exact v_iret dX5_remove_12 rfl rfl (by decide) (by decide)
theorem S_X5_remove {g : GC} (hl : g.1.stackTraces = false) {k : Nat} (hk : isX5 k) {x1 : Int32} {w : XW} : ∀ q, f_X5_remove k x1 w = some q → MM g (.code yX5_remove cX5_remove 3 (some .int)) yX5_remove (rmL 4 0 0) 0 0 [.ref (g.2.1 + k), .int x1] w (oI q) := fun q hq => MM_of (own := RX5) hl (by decide) gw_836 rfl (Nat.le_of_ble_eq_true rfl) (W_X5_remove hl hk q hq) ⟨rfl, rfl⟩

theorem dX5_setBroken_0 : decode cX5_setBroken 0 = .ok (.aload_n 0, 1) := by decide +kernel
theorem dX5_setBroken_1 : decode cX5_setBroken 1 = .ok (.iload_n 1, 1) := by decide +kernel
theorem dX5_setBroken_2 : decode cX5_setBroken 2 = .ok (.invokevirtual 35, 3) := by decide +kernel
theorem dX5_setBroken_5 : decode cX5_setBroken 5 = .ok (.ifCond .eq 10, 3) := by decide +kernel
theorem dX5_setBroken_8 : decode cX5_setBroken 8 = .ok (.aload_n 0, 1) := by decide +kernel
theorem dX5_setBroken_9 : decode cX5_setBroken 9 = .ok (.getfield 21, 3) := by decide +kernel
theorem dX5_setBroken_12 : decode cX5_setBroken 12 = .ok (.iload_n 1, 1) := by decide +kernel
theorem dX5_setBroken_13 : decode cX5_setBroken 13 = .ok (.iload_n 2, 1) := by decide +kernel
theorem dX5_setBroken_14 : decode cX5_setBroken 14 = .ok (.bastore, 1) := by decide +kernel
theorem dX5_setBroken_15 : decode cX5_setBroken 15 = .ok (.aload_n 0, 1) := by decide +kernel
theorem dX5_setBroken_16 : decode cX5_setBroken 16 = .ok (.invokevirtual 39, 3) := by decide +kernel
theorem dX5_setBroken_19 : decode cX5_setBroken 19 = .ok (.ireturn, 1) := by decide +kernel
def f_X5_setBroken (k : Nat) (x1 : Int32) (x2 : Int32) (w : XW) : Option (Int32 × XW) := (bI (f_X5_has k x1 w) (fun r1 w1 => (if r1 = 0 then (bI (f_X5_brokenCount k w1) (fun r2 w2 => (some (r2, w2)))) else (if inB x1 10 then (bI (f_X5_brokenCount k (wset w1 (k + 4) (Int32.toNatClampNeg x1) (vp_nar .boolean x2))) (fun r4 w4 => (some (r4, w4)))) else none))))
set_option maxRecDepth 100000 in
theorem W_X5_setBroken {g : GC} (hl : g.1.stackTraces = false) {k : Nat} (hk : isX5 k) {x1 : Int32} {x2 : Int32} {w : XW} : VE g cX5_setBroken 3 RX5 (some .int) [] (rmL 4 0 0) 0 0 oI 0 0 0 [(0, .ref (g.2.1 + k)), (1, .int x1), (2, .int x2)] [] w (f_X5_setBroken k x1 x2 w) := by
  unfold f_X5_setBroken
  refine v_aload_n dX5_setBroken_0 rfl 0 rfl ?_
  refine v_iload_n dX5_setBroken_1 rfl 1 rfl ?_
  refine v_callVi (As := [.int x1]) cv_X5_35 (S_X5_has hl hk) hk.1 rfl rfl rfl (Nat.le_of_ble_eq_true rfl) dX5_setBroken_2 (CR_rm (by decide) (by decide) (by decide) (by decide)) (fun r1 w1 => ?_)
  refine v_if_eq (tgt := 15) dX5_setBroken_5 (by decide) ?_ ?_
  · refine v_aload_n dX5_setBroken_15 rfl 0 rfl ?_
    refine v_callVi (As := []) cv_X5_39 (S_X5_brokenCount hl hk) hk.1 rfl rfl rfl (Nat.le_of_ble_eq_true rfl) dX5_setBroken_16 (CR_rm (by decide) (by decide) (by decide) (by decide)) (fun r2 w2 => ?_)
    exact v_iret dX5_setBroken_19 rfl rfl (by decide) (by decide)
  · refine v_aload_n dX5_setBroken_8 rfl 0 rfl ?_
    refine v_getR fl_X5_21 hk.1 rfl dX5_setBroken_9 ?_
    refine v_iload_n dX5_setBroken_12 rfl 1 rfl ?_
    refine v_iload_n dX5_setBroken_13 rfl 2 rfl ?_
    refine v_guard (fun h3 => ?_)
    refine v_zast hk.2.2.2.2 h3 dX5_setBroken_14 ?_
    refine v_aload_n dX5_setBroken_15 rfl 0 rfl ?_
    refine v_callVi (As := []) cv_X5_39 (S_X5_brokenCount hl hk) hk.1 rfl rfl rfl (Nat.le_of_ble_eq_true rfl) dX5_setBroken_16 (CR_rm (by decide) (by decide) (by decide) (by decide)) (fun r4 w4 => ?_)
    exact v_iret dX5_setBroken_19 rfl rfl (by decide) (by decide)
theorem S_X5_setBroken {g : GC} (hl : g.1.stackTraces = false) {k : Nat} (hk : isX5 k) {x1 : Int32} {x2 : Int32} {w : XW} : ∀ q, f_X5_setBroken k x1 x2 w = some q → MM g (.code yX5_setBroken cX5_setBroken 3 (some .int)) yX5_setBroken (rmL 4 0 0) 0 0 [.ref (g.2.1 + k), .int x1, .int x2] w (oI q) := fun q hq => MM_of (own := RX5) hl (by decide) gw_840 rfl (Nat.le_of_ble_eq_true rfl) (W_X5_setBroken hl hk q hq) ⟨rfl, rfl⟩
