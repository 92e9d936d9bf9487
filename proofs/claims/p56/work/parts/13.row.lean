theorem dX6_at_0 : decode cX6_at 0 = .ok (.iload_n 1, 1) := by decide +kernel
theorem dX6_at_1 : decode cX6_at 1 = .ok (.ifCond .lt 20, 3) := by decide +kernel
theorem dX6_at_4 : decode cX6_at 4 = .ok (.iload_n 1, 1) := by decide +kernel
theorem dX6_at_5 : decode cX6_at 5 = .ok (.aload_n 0, 1) := by decide +kernel
theorem dX6_at_6 : decode cX6_at 6 = .ok (.getfield 21, 3) := by decide +kernel
theorem dX6_at_9 : decode cX6_at 9 = .ok (.if_icmp .ge 12, 3) := by decide +kernel
theorem dX6_at_12 : decode cX6_at 12 = .ok (.aload_n 0, 1) := by decide +kernel
theorem dX6_at_13 : decode cX6_at 13 = .ok (.getfield 15, 3) := by decide +kernel
theorem dX6_at_16 : decode cX6_at 16 = .ok (.iload_n 1, 1) := by decide +kernel
theorem dX6_at_17 : decode cX6_at 17 = .ok (.caload, 1) := by decide +kernel
theorem dX6_at_18 : decode cX6_at 18 = .ok (.goto 4, 3) := by decide +kernel
theorem dX6_at_21 : decode cX6_at 21 = .ok (.iconst 0, 1) := by decide +kernel
theorem dX6_at_22 : decode cX6_at 22 = .ok (.ireturn, 1) := by decide +kernel
def f_X6_at (k : Nat) (x1 : Int32) (w : XW) : Option (Int32 × XW) := (if x1 < 0 then (some (0, w)) else (if (w.1 k 1) ≤ x1 then (some (0, w)) else (if inB x1 (rowN k) then (if vp_nar .char (w.1 (k + 1) (Int32.toNatClampNeg x1)) = (w.1 (k + 1) (Int32.toNatClampNeg x1)) then (some ((w.1 (k + 1) (Int32.toNatClampNeg x1)), w)) else none) else none)))
set_option maxRecDepth 100000 in
theorem W_X6_at {g : GC} (hl : g.1.stackTraces = false) {k : Nat} (hk : isX6 k) {x1 : Int32} {w : XW} : VE g cX6_at 2 RX6 (some .char) [] (rmL 3 0 0) 0 0 oI 0 0 0 [(0, .ref (g.2.1 + k)), (1, .int x1)] [] w (f_X6_at k x1 w) := by
  unfold f_X6_at
  refine v_iload_n dX6_at_0 rfl 1 rfl ?_
  refine v_if_lt (tgt := 21) dX6_at_1 (by decide) ?_ ?_
  · refine v_iconst (v := 0) dX6_at_21 (by decide) ?_
    exact v_zret dX6_at_22 rfl rfl rfl (by decide) (by decide)
  · refine v_iload_n dX6_at_4 rfl 1 rfl ?_
    refine v_aload_n dX6_at_5 rfl 0 rfl ?_
    refine v_getI fl_X6_21 hk.1 rfl dX6_at_6 ?_
    refine v_icmp_ge (tgt := 21) dX6_at_9 (by decide) ?_ ?_
    · refine v_iconst (v := 0) dX6_at_21 (by decide) ?_
      exact v_zret dX6_at_22 rfl rfl rfl (by decide) (by decide)
    · refine v_aload_n dX6_at_12 rfl 0 rfl ?_
      refine v_getR fl_X6_15 hk.1 rfl dX6_at_13 ?_
      refine v_iload_n dX6_at_16 rfl 1 rfl ?_
      refine v_guard (fun h1 => ?_)
      refine v_cald hk.2 h1 dX6_at_17 ?_
      refine v_goto (tgt := 22) dX6_at_18 (by decide) ?_
      refine v_guard (fun h2 => ?_)
      exact v_zret dX6_at_22 rfl (narC_ok h2) rfl (by decide) (by decide)
theorem S_X6_at {g : GC} (hl : g.1.stackTraces = false) {k : Nat} (hk : isX6 k) {x1 : Int32} {w : XW} : ∀ q, f_X6_at k x1 w = some q → MM g (.code yX6_at cX6_at 2 (some .char)) yX6_at (rmL 3 0 0) 0 0 [.ref (g.2.1 + k), .int x1] w (oI q) := fun q hq => MM_of (own := RX6) hl (by decide) gw_1308 rfl (Nat.le_of_ble_eq_true rfl) (W_X6_at hl hk q hq) ⟨rfl, rfl⟩

theorem dX6_isFull_0 : decode cX6_isFull 0 = .ok (.aload_n 0, 1) := by decide +kernel
theorem dX6_isFull_1 : decode cX6_isFull 1 = .ok (.getfield 21, 3) := by decide +kernel
theorem dX6_isFull_4 : decode cX6_isFull 4 = .ok (.aload_n 0, 1) := by decide +kernel
theorem dX6_isFull_5 : decode cX6_isFull 5 = .ok (.getfield 15, 3) := by decide +kernel
theorem dX6_isFull_8 : decode cX6_isFull 8 = .ok (.arraylength, 1) := by decide +kernel
theorem dX6_isFull_9 : decode cX6_isFull 9 = .ok (.if_icmp .lt 7, 3) := by decide +kernel
theorem dX6_isFull_12 : decode cX6_isFull 12 = .ok (.iconst 1, 1) := by decide +kernel
theorem dX6_isFull_13 : decode cX6_isFull 13 = .ok (.goto 4, 3) := by decide +kernel
theorem dX6_isFull_16 : decode cX6_isFull 16 = .ok (.iconst 0, 1) := by decide +kernel
theorem dX6_isFull_17 : decode cX6_isFull 17 = .ok (.ireturn, 1) := by decide +kernel
def f_X6_isFull (k : Nat) (w : XW) : Option (Int32 × XW) := (if (w.1 k 1) < (Int32.ofNat (rowN k)) then (some (0, w)) else (some (1, w)))
set_option maxRecDepth 100000 in
theorem W_X6_isFull {g : GC} (hl : g.1.stackTraces = false) {k : Nat} (hk : isX6 k) {w : XW} : VE g cX6_isFull 1 RX6 (some .boolean) [] (rmL 3 0 0) 0 0 oI 0 0 0 [(0, .ref (g.2.1 + k))] [] w (f_X6_isFull k w) := by
  unfold f_X6_isFull
  refine v_aload_n dX6_isFull_0 rfl 0 rfl ?_
  refine v_getI fl_X6_21 hk.1 rfl dX6_isFull_1 ?_
  refine v_aload_n dX6_isFull_4 rfl 0 rfl ?_
  refine v_getR fl_X6_15 hk.1 rfl dX6_isFull_5 ?_
  refine v_alen (v := (Int32.ofNat (rowN k))) hk.2 (by decide) rfl dX6_isFull_8 ?_
  refine v_icmp_lt (tgt := 16) dX6_isFull_9 (by decide) ?_ ?_
  · refine v_iconst (v := 0) dX6_isFull_16 (by decide) ?_
    exact v_zret dX6_isFull_17 rfl rfl rfl (by decide) (by decide)
  · refine v_iconst (v := 1) dX6_isFull_12 (by decide) ?_
    refine v_goto (tgt := 17) dX6_isFull_13 (by decide) ?_
    exact v_zret dX6_isFull_17 rfl rfl rfl (by decide) (by decide)
theorem S_X6_isFull {g : GC} (hl : g.1.stackTraces = false) {k : Nat} (hk : isX6 k) {w : XW} : ∀ q, f_X6_isFull k w = some q → MM g (.code yX6_isFull cX6_isFull 1 (some .boolean)) yX6_isFull (rmL 3 0 0) 0 0 [.ref (g.2.1 + k)] w (oI q) := fun q hq => MM_of (own := RX6) hl (by decide) gw_1245 rfl (Nat.le_of_ble_eq_true rfl) (W_X6_isFull hl hk q hq) ⟨rfl, rfl⟩

theorem dX6_put_0 : decode cX6_put 0 = .ok (.aload_n 0, 1) := by decide +kernel
theorem dX6_put_1 : decode cX6_put 1 = .ok (.getfield 21, 3) := by decide +kernel
theorem dX6_put_4 : decode cX6_put 4 = .ok (.aload_n 0, 1) := by decide +kernel
theorem dX6_put_5 : decode cX6_put 5 = .ok (.getfield 15, 3) := by decide +kernel
theorem dX6_put_8 : decode cX6_put 8 = .ok (.arraylength, 1) := by decide +kernel
theorem dX6_put_9 : decode cX6_put 9 = .ok (.if_icmp .ge 23, 3) := by decide +kernel
theorem dX6_put_12 : decode cX6_put 12 = .ok (.aload_n 0, 1) := by decide +kernel
theorem dX6_put_13 : decode cX6_put 13 = .ok (.getfield 15, 3) := by decide +kernel
theorem dX6_put_16 : decode cX6_put 16 = .ok (.aload_n 0, 1) := by decide +kernel
theorem dX6_put_17 : decode cX6_put 17 = .ok (.getfield 21, 3) := by decide +kernel
theorem dX6_put_20 : decode cX6_put 20 = .ok (.iload_n 1, 1) := by decide +kernel
theorem dX6_put_21 : decode cX6_put 21 = .ok (.castore, 1) := by decide +kernel
theorem dX6_put_22 : decode cX6_put 22 = .ok (.aload_n 0, 1) := by decide +kernel
theorem dX6_put_23 : decode cX6_put 23 = .ok (.dup, 1) := by decide +kernel
theorem dX6_put_24 : decode cX6_put 24 = .ok (.getfield 21, 3) := by decide +kernel
theorem dX6_put_27 : decode cX6_put 27 = .ok (.iconst 1, 1) := by decide +kernel
theorem dX6_put_28 : decode cX6_put 28 = .ok (.iadd, 1) := by decide +kernel
theorem dX6_put_29 : decode cX6_put 29 = .ok (.putfield 21, 3) := by decide +kernel
theorem dX6_put_32 : decode cX6_put 32 = .ok (.return_, 1) := by decide +kernel
def f_X6_put (k : Nat) (x1 : Int32) (w : XW) : Option (XW) := (if (Int32.ofNat (rowN k)) ≤ (w.1 k 1) then (some w) else (if inB (w.1 k 1) (rowN k) then (some (wset (wset w (k + 1) (Int32.toNatClampNeg (w.1 k 1)) (vp_nar .char x1)) k 1 (((wset w (k + 1) (Int32.toNatClampNeg (w.1 k 1)) (vp_nar .char x1)).1 k 1) + 1))) else none))
set_option maxRecDepth 100000 in
theorem W_X6_put {g : GC} (hl : g.1.stackTraces = false) {k : Nat} (hk : isX6 k) {x1 : Int32} {w : XW} : VE g cX6_put 2 RX6 none [] (rmL 3 0 0) 0 0 oV 0 0 0 [(0, .ref (g.2.1 + k)), (1, .int x1)] [] w (f_X6_put k x1 w) := by
  unfold f_X6_put
  refine v_aload_n dX6_put_0 rfl 0 rfl ?_
  refine v_getI fl_X6_21 hk.1 rfl dX6_put_1 ?_
  refine v_aload_n dX6_put_4 rfl 0 rfl ?_
  refine v_getR fl_X6_15 hk.1 rfl dX6_put_5 ?_
  refine v_alen (v := (Int32.ofNat (rowN k))) hk.2 (by decide) rfl dX6_put_8 ?_
  refine v_icmp_ge (tgt := 32) dX6_put_9 (by decide) ?_ ?_
  · exact v_vret dX6_put_32 rfl rfl (by decide) (by decide)
  · refine v_aload_n dX6_put_12 rfl 0 rfl ?_
    refine v_getR fl_X6_15 hk.1 rfl dX6_put_13 ?_
    refine v_aload_n dX6_put_16 rfl 0 rfl ?_
    refine v_getI fl_X6_21 hk.1 rfl dX6_put_17 ?_
    refine v_iload_n dX6_put_20 rfl 1 rfl ?_
    refine v_guard (fun h1 => ?_)
    refine v_cast hk.2 h1 dX6_put_21 ?_
    refine v_aload_n dX6_put_22 rfl 0 rfl ?_
    refine v_dup dX6_put_23 rfl ?_
    refine v_getI fl_X6_21 hk.1 rfl dX6_put_24 ?_
    refine v_iconst (v := 1) dX6_put_27 (by decide) ?_
    refine v_iadd dX6_put_28 ?_
    refine v_putI fl_X6_21 hk.1 rfl (ty0 := .int) rfl rfl rfl dX6_put_29 ?_
    exact v_vret dX6_put_32 rfl rfl (by decide) (by decide)
theorem S_X6_put {g : GC} (hl : g.1.stackTraces = false) {k : Nat} (hk : isX6 k) {x1 : Int32} {w : XW} : ∀ q, f_X6_put k x1 w = some q → MM g (.code yX6_put cX6_put 2 none) yX6_put (rmL 3 0 0) 0 0 [.ref (g.2.1 + k), .int x1] w (oV q) := fun q hq => MM_of (own := RX6) hl (by decide) gw_1264 rfl (Nat.le_of_ble_eq_true rfl) (W_X6_put hl hk q hq) ⟨rfl, rfl⟩

theorem dX6_empty_0 : decode cX6_empty 0 = .ok (.aload_n 0, 1) := by decide +kernel
theorem dX6_empty_1 : decode cX6_empty 1 = .ok (.iconst 0, 1) := by decide +kernel
theorem dX6_empty_2 : decode cX6_empty 2 = .ok (.putfield 21, 3) := by decide +kernel
theorem dX6_empty_5 : decode cX6_empty 5 = .ok (.return_, 1) := by decide +kernel
def f_X6_empty (k : Nat) (w : XW) : Option (XW) := (some (wset w k 1 0))
set_option maxRecDepth 100000 in
theorem W_X6_empty {g : GC} (hl : g.1.stackTraces = false) {k : Nat} (hk : isX6 k) {w : XW} : VE g cX6_empty 1 RX6 none [] (rmL 3 0 0) 0 0 oV 0 0 0 [(0, .ref (g.2.1 + k))] [] w (f_X6_empty k w) := by
  unfold f_X6_empty
  refine v_aload_n dX6_empty_0 rfl 0 rfl ?_
  refine v_iconst (v := 0) dX6_empty_1 (by decide) ?_
  refine v_putI fl_X6_21 hk.1 rfl (ty0 := .int) rfl rfl rfl dX6_empty_2 ?_
  exact v_vret dX6_empty_5 rfl rfl (by decide) (by decide)
theorem S_X6_empty {g : GC} (hl : g.1.stackTraces = false) {k : Nat} (hk : isX6 k) {w : XW} : ∀ q, f_X6_empty k w = some q → MM g (.code yX6_empty cX6_empty 1 none) yX6_empty (rmL 3 0 0) 0 0 [.ref (g.2.1 + k)] w (oV q) := fun q hq => MM_of (own := RX6) hl (by decide) gw_1332 rfl (Nat.le_of_ble_eq_true rfl) (W_X6_empty hl hk q hq) ⟨rfl, rfl⟩
