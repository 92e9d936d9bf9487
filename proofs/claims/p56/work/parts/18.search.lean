theorem dX7_askForAll_0 : decode cX7_askForAll 0 = .ok (.aload_n 0, 1) := by decide +kernel
theorem dX7_askForAll_1 : decode cX7_askForAll 1 = .ok (.iconst 1, 1) := by decide +kernel
theorem dX7_askForAll_2 : decode cX7_askForAll 2 = .ok (.aload_n 1, 1) := by decide +kernel
theorem dX7_askForAll_3 : decode cX7_askForAll 3 = .ok (.getfield 15, 3) := by decide +kernel
theorem dX7_askForAll_6 : decode cX7_askForAll 6 = .ok (.ishl, 1) := by decide +kernel
theorem dX7_askForAll_7 : decode cX7_askForAll 7 = .ok (.iconst 1, 1) := by decide +kernel
theorem dX7_askForAll_8 : decode cX7_askForAll 8 = .ok (.isub, 1) := by decide +kernel
theorem dX7_askForAll_9 : decode cX7_askForAll 9 = .ok (.putfield 21, 3) := by decide +kernel
theorem dX7_askForAll_12 : decode cX7_askForAll 12 = .ok (.iconst 0, 1) := by decide +kernel
theorem dX7_askForAll_13 : decode cX7_askForAll 13 = .ok (.istore_n 2, 1) := by decide +kernel
theorem dX7_askForAll_14 : decode cX7_askForAll 14 = .ok (.iload_n 2, 1) := by decide +kernel
theorem dX7_askForAll_15 : decode cX7_askForAll 15 = .ok (.bipush 8, 2) := by decide +kernel
theorem dX7_askForAll_17 : decode cX7_askForAll 17 = .ok (.if_icmp .ge 23, 3) := by decide +kernel
theorem dX7_askForAll_20 : decode cX7_askForAll 20 = .ok (.aload_n 0, 1) := by decide +kernel
theorem dX7_askForAll_21 : decode cX7_askForAll 21 = .ok (.getfield 9, 3) := by decide +kernel
theorem dX7_askForAll_24 : decode cX7_askForAll 24 = .ok (.iload_n 2, 1) := by decide +kernel
theorem dX7_askForAll_25 : decode cX7_askForAll 25 = .ok (.aload_n 1, 1) := by decide +kernel
theorem dX7_askForAll_26 : decode cX7_askForAll 26 = .ok (.bipush 97, 2) := by decide +kernel
theorem dX7_askForAll_28 : decode cX7_askForAll 28 = .ok (.iload_n 2, 1) := by decide +kernel
theorem dX7_askForAll_29 : decode cX7_askForAll 29 = .ok (.iadd, 1) := by decide +kernel
theorem dX7_askForAll_30 : decode cX7_askForAll 30 = .ok (.invokevirtual 24, 3) := by decide +kernel
theorem dX7_askForAll_33 : decode cX7_askForAll 33 = .ok (.iastore, 1) := by decide +kernel
theorem dX7_askForAll_34 : decode cX7_askForAll 34 = .ok (.iinc 2 1, 3) := by decide +kernel
theorem dX7_askForAll_37 : decode cX7_askForAll 37 = .ok (.goto (-23), 3) := by decide +kernel
theorem dX7_askForAll_40 : decode cX7_askForAll 40 = .ok (.return_, 1) := by decide +kernel
def f_X7_askForAll_14 (k1 : Nat) : Nat → Int32 → XW → Option (XW)
  | 0, _, _ => none
  | n + 1, z2, w => (if 8 ≤ z2 then (some w) else (bI (f_X9_bearersOf k1 (97 + z2) w) (fun r1 w1 => (if inB z2 8 then (f_X7_askForAll_14 k1 n (z2 + 1) (wset w1 137 (Int32.toNatClampNeg z2) r1)) else none))))
set_option maxRecDepth 100000 in
theorem S_X7_askForAll_14 {g : GC} (hl : g.1.stackTraces = false) {k1 : Nat} (hk1 : isX9 k1) : ∀ (n : Nat) (z2 : Int32) (w : XW), VE g cX7_askForAll 3 RX7 none [] (rmL 7 0 0) 0 0 oV 0 0 14 [(0, .ref (g.2.1 + 136)), (1, .ref (g.2.1 + k1)), (2, .int z2)] [] w (f_X7_askForAll_14 k1 n z2 w) := by
  intro n
  induction n with
  | zero => intro z2 w; exact v_none
  | succ n ih =>
    intro z2 w
    rw [f_X7_askForAll_14]
    refine v_iload_n dX7_askForAll_14 rfl 2 rfl ?_
    refine v_bipush (v := 8) dX7_askForAll_15 (by decide) ?_
    refine v_icmp_ge (tgt := 40) dX7_askForAll_17 (by decide) ?_ ?_
    · exact v_vret dX7_askForAll_40 rfl rfl (by decide) (by decide)
    · refine v_aload_n dX7_askForAll_20 rfl 0 rfl ?_
      refine v_getR fl_X7_9 tt_136 rfl dX7_askForAll_21 ?_
      refine v_iload_n dX7_askForAll_24 rfl 2 rfl ?_
      refine v_aload_n dX7_askForAll_25 rfl 1 rfl ?_
      refine v_bipush (v := 97) dX7_askForAll_26 (by decide) ?_
      refine v_iload_n dX7_askForAll_28 rfl 2 rfl ?_
      refine v_iadd dX7_askForAll_29 ?_
      refine v_callVi (As := [.int (97 + z2)]) cv_X7_24 (S_X9_bearersOf hl hk1) hk1.1 rfl rfl rfl (Nat.le_of_ble_eq_true rfl) dX7_askForAll_30 (CR_rm (by decide) (by decide) (by decide) (by decide)) (fun r1 w1 => ?_)
      refine v_guard (fun h2 => ?_)
      refine v_iast tt_137 h2 dX7_askForAll_33 ?_
      refine v_iinc (v := (z2 + 1)) dX7_askForAll_34 (q := 2) rfl rfl (Nat.le_of_ble_eq_true rfl) rfl ?_
      refine v_goto (tgt := 14) dX7_askForAll_37 (by decide) ?_
      refine v_sub [1, 2, 0] rfl ?_
      exact ih _ _
def f_X7_askForAll (k1 : Nat) (w : XW) : Option (XW) := (f_X7_askForAll_14 k1 1000 0 (wset w 136 1 ((1 <<< ((w.1 k1 0) &&& 31)) - 1)))
set_option maxRecDepth 100000 in
theorem W_X7_askForAll {g : GC} (hl : g.1.stackTraces = false) {k1 : Nat} (hk1 : isX9 k1) {w : XW} : VE g cX7_askForAll 3 RX7 none [] (rmL 7 0 0) 0 0 oV 0 0 0 [(0, .ref (g.2.1 + 136)), (1, .ref (g.2.1 + k1))] [] w (f_X7_askForAll k1 w) := by
  unfold f_X7_askForAll
  refine v_aload_n dX7_askForAll_0 rfl 0 rfl ?_
  refine v_iconst (v := 1) dX7_askForAll_1 (by decide) ?_
  refine v_aload_n dX7_askForAll_2 rfl 1 rfl ?_
  refine v_getI fl_X7_15 hk1.1 rfl dX7_askForAll_3 ?_
  refine v_ishl dX7_askForAll_6 ?_
  refine v_iconst (v := 1) dX7_askForAll_7 (by decide) ?_
  refine v_isub dX7_askForAll_8 ?_
  refine v_putI fl_X7_21 tt_136 rfl (ty0 := .int) rfl rfl rfl dX7_askForAll_9 ?_
  refine v_iconst (v := 0) dX7_askForAll_12 (by decide) ?_
  refine v_istore_n dX7_askForAll_13 rfl (Nat.le_of_ble_eq_true rfl) rfl ?_
  refine v_sub [1, 2, 0] rfl ?_
  exact S_X7_askForAll_14 hl hk1  _ _ _
theorem S_X7_askForAll {g : GC} (hl : g.1.stackTraces = false) {k1 : Nat} (hk1 : isX9 k1) {w : XW} : ∀ q, f_X7_askForAll k1 w = some q → MM g (.code yX7_askForAll cX7_askForAll 3 none) yX7_askForAll (rmL 7 0 0) 0 0 [.ref (g.2.1 + 136), .ref (g.2.1 + k1)] w (oV q) := fun q hq => MM_of (own := RX7) hl (by decide) gw_1501 rfl (Nat.le_of_ble_eq_true rfl) (W_X7_askForAll hl hk1 q hq) ⟨rfl, rfl⟩

theorem dX7_askForOne_0 : decode cX7_askForOne 0 = .ok (.aload_n 0, 1) := by decide +kernel
theorem dX7_askForOne_1 : decode cX7_askForOne 1 = .ok (.iconst 1, 1) := by decide +kernel
theorem dX7_askForOne_2 : decode cX7_askForOne 2 = .ok (.putfield 21, 3) := by decide +kernel
theorem dX7_askForOne_5 : decode cX7_askForOne 5 = .ok (.iconst 0, 1) := by decide +kernel
theorem dX7_askForOne_6 : decode cX7_askForOne 6 = .ok (.istore_n 3, 1) := by decide +kernel
theorem dX7_askForOne_7 : decode cX7_askForOne 7 = .ok (.iload_n 3, 1) := by decide +kernel
theorem dX7_askForOne_8 : decode cX7_askForOne 8 = .ok (.bipush 8, 2) := by decide +kernel
theorem dX7_askForOne_10 : decode cX7_askForOne 10 = .ok (.if_icmp .ge 32, 3) := by decide +kernel
theorem dX7_askForOne_13 : decode cX7_askForOne 13 = .ok (.aload_n 0, 1) := by decide +kernel
theorem dX7_askForOne_14 : decode cX7_askForOne 14 = .ok (.getfield 9, 3) := by decide +kernel
theorem dX7_askForOne_17 : decode cX7_askForOne 17 = .ok (.iload_n 3, 1) := by decide +kernel
theorem dX7_askForOne_18 : decode cX7_askForOne 18 = .ok (.aload_n 1, 1) := by decide +kernel
theorem dX7_askForOne_19 : decode cX7_askForOne 19 = .ok (.iload_n 2, 1) := by decide +kernel
theorem dX7_askForOne_20 : decode cX7_askForOne 20 = .ok (.bipush 97, 2) := by decide +kernel
theorem dX7_askForOne_22 : decode cX7_askForOne 22 = .ok (.iload_n 3, 1) := by decide +kernel
theorem dX7_askForOne_23 : decode cX7_askForOne 23 = .ok (.iadd, 1) := by decide +kernel
theorem dX7_askForOne_24 : decode cX7_askForOne 24 = .ok (.invokevirtual 28, 3) := by decide +kernel
theorem dX7_askForOne_27 : decode cX7_askForOne 27 = .ok (.ifCond .eq 7, 3) := by decide +kernel
theorem dX7_askForOne_30 : decode cX7_askForOne 30 = .ok (.iconst 1, 1) := by decide +kernel
theorem dX7_askForOne_31 : decode cX7_askForOne 31 = .ok (.goto 4, 3) := by decide +kernel
theorem dX7_askForOne_34 : decode cX7_askForOne 34 = .ok (.iconst 0, 1) := by decide +kernel
theorem dX7_askForOne_35 : decode cX7_askForOne 35 = .ok (.iastore, 1) := by decide +kernel
theorem dX7_askForOne_36 : decode cX7_askForOne 36 = .ok (.iinc 3 1, 3) := by decide +kernel
theorem dX7_askForOne_39 : decode cX7_askForOne 39 = .ok (.goto (-32), 3) := by decide +kernel
theorem dX7_askForOne_42 : decode cX7_askForOne 42 = .ok (.return_, 1) := by decide +kernel
def f_X7_askForOne_7 (k1 : Nat) (y2 : Int32) : Nat → Int32 → XW → Option (XW)
  | 0, _, _ => none
  | n + 1, z3, w => (if 8 ≤ z3 then (some w) else (bI (f_X9_bears k1 y2 (97 + z3) w) (fun r1 w1 => (if r1 = 0 then (if inB z3 8 then (f_X7_askForOne_7 k1 y2 n (z3 + 1) (wset w1 137 (Int32.toNatClampNeg z3) 0)) else none) else (if inB z3 8 then (f_X7_askForOne_7 k1 y2 n (z3 + 1) (wset w1 137 (Int32.toNatClampNeg z3) 1)) else none)))))
set_option maxRecDepth 100000 in
theorem S_X7_askForOne_7 {g : GC} (hl : g.1.stackTraces = false) {k1 : Nat} (hk1 : isX9 k1) {y2 : Int32} : ∀ (n : Nat) (z3 : Int32) (w : XW), VE g cX7_askForOne 4 RX7 none [] (rmL 6 0 0) 0 0 oV 0 0 7 [(0, .ref (g.2.1 + 136)), (1, .ref (g.2.1 + k1)), (2, .int y2), (3, .int z3)] [] w (f_X7_askForOne_7 k1 y2 n z3 w) := by
  intro n
  induction n with
  | zero => intro z3 w; exact v_none
  | succ n ih =>
    intro z3 w
    rw [f_X7_askForOne_7]
    refine v_iload_n dX7_askForOne_7 rfl 3 rfl ?_
    refine v_bipush (v := 8) dX7_askForOne_8 (by decide) ?_
    refine v_icmp_ge (tgt := 42) dX7_askForOne_10 (by decide) ?_ ?_
    · exact v_vret dX7_askForOne_42 rfl rfl (by decide) (by decide)
    · refine v_aload_n dX7_askForOne_13 rfl 0 rfl ?_
      refine v_getR fl_X7_9 tt_136 rfl dX7_askForOne_14 ?_
      refine v_iload_n dX7_askForOne_17 rfl 3 rfl ?_
      refine v_aload_n dX7_askForOne_18 rfl 1 rfl ?_
      refine v_iload_n dX7_askForOne_19 rfl 2 rfl ?_
      refine v_bipush (v := 97) dX7_askForOne_20 (by decide) ?_
      refine v_iload_n dX7_askForOne_22 rfl 3 rfl ?_
      refine v_iadd dX7_askForOne_23 ?_
      refine v_callVi (As := [.int y2, .int (97 + z3)]) cv_X7_28 (S_X9_bears hl hk1) hk1.1 rfl rfl rfl (Nat.le_of_ble_eq_true rfl) dX7_askForOne_24 (CR_rm (by decide) (by decide) (by decide) (by decide)) (fun r1 w1 => ?_)
      refine v_if_eq (tgt := 34) dX7_askForOne_27 (by decide) ?_ ?_
      · refine v_iconst (v := 0) dX7_askForOne_34 (by decide) ?_
        refine v_guard (fun h2 => ?_)
        refine v_iast tt_137 h2 dX7_askForOne_35 ?_
        refine v_iinc (v := (z3 + 1)) dX7_askForOne_36 (q := 3) rfl rfl (Nat.le_of_ble_eq_true rfl) rfl ?_
        refine v_goto (tgt := 7) dX7_askForOne_39 (by decide) ?_
        refine v_sub [1, 2, 3, 0] rfl ?_
        exact ih _ _
      · refine v_iconst (v := 1) dX7_askForOne_30 (by decide) ?_
        refine v_goto (tgt := 35) dX7_askForOne_31 (by decide) ?_
        refine v_guard (fun h3 => ?_)
        refine v_iast tt_137 h3 dX7_askForOne_35 ?_
        refine v_iinc (v := (z3 + 1)) dX7_askForOne_36 (q := 3) rfl rfl (Nat.le_of_ble_eq_true rfl) rfl ?_
        refine v_goto (tgt := 7) dX7_askForOne_39 (by decide) ?_
        refine v_sub [1, 2, 3, 0] rfl ?_
        exact ih _ _
def f_X7_askForOne (k1 : Nat) (x2 : Int32) (w : XW) : Option (XW) := (f_X7_askForOne_7 k1 x2 1000 0 (wset w 136 1 1))
set_option maxRecDepth 100000 in
theorem W_X7_askForOne {g : GC} (hl : g.1.stackTraces = false) {k1 : Nat} (hk1 : isX9 k1) {x2 : Int32} {w : XW} : VE g cX7_askForOne 4 RX7 none [] (rmL 6 0 0) 0 0 oV 0 0 0 [(0, .ref (g.2.1 + 136)), (1, .ref (g.2.1 + k1)), (2, .int x2)] [] w (f_X7_askForOne k1 x2 w) := by
  unfold f_X7_askForOne
  refine v_aload_n dX7_askForOne_0 rfl 0 rfl ?_
  refine v_iconst (v := 1) dX7_askForOne_1 (by decide) ?_
  refine v_putI fl_X7_21 tt_136 rfl (ty0 := .int) rfl rfl rfl dX7_askForOne_2 ?_
  refine v_iconst (v := 0) dX7_askForOne_5 (by decide) ?_
  refine v_istore_n dX7_askForOne_6 rfl (Nat.le_of_ble_eq_true rfl) rfl ?_
  refine v_sub [1, 2, 3, 0] rfl ?_
  exact S_X7_askForOne_7 hl hk1  _ _ _
theorem S_X7_askForOne {g : GC} (hl : g.1.stackTraces = false) {k1 : Nat} (hk1 : isX9 k1) {x2 : Int32} {w : XW} : ∀ q, f_X7_askForOne k1 x2 w = some q → MM g (.code yX7_askForOne cX7_askForOne 4 none) yX7_askForOne (rmL 6 0 0) 0 0 [.ref (g.2.1 + 136), .ref (g.2.1 + k1), .int x2] w (oV q) := fun q hq => MM_of (own := RX7) hl (by decide) gw_1565 rfl (Nat.le_of_ble_eq_true rfl) (W_X7_askForOne hl hk1 q hq) ⟨rfl, rfl⟩

theorem dX7_bearersOf_0 : decode cX7_bearersOf 0 = .ok (.iload_n 1, 1) := by decide +kernel
theorem dX7_bearersOf_1 : decode cX7_bearersOf 1 = .ok (.bipush 97, 2) := by decide +kernel
theorem dX7_bearersOf_3 : decode cX7_bearersOf 3 = .ok (.isub, 1) := by decide +kernel
theorem dX7_bearersOf_4 : decode cX7_bearersOf 4 = .ok (.istore_n 2, 1) := by decide +kernel
theorem dX7_bearersOf_5 : decode cX7_bearersOf 5 = .ok (.iload_n 2, 1) := by decide +kernel
theorem dX7_bearersOf_6 : decode cX7_bearersOf 6 = .ok (.ifCond .lt 21, 3) := by decide +kernel
theorem dX7_bearersOf_9 : decode cX7_bearersOf 9 = .ok (.iload_n 2, 1) := by decide +kernel
theorem dX7_bearersOf_10 : decode cX7_bearersOf 10 = .ok (.aload_n 0, 1) := by decide +kernel
theorem dX7_bearersOf_11 : decode cX7_bearersOf 11 = .ok (.getfield 9, 3) := by decide +kernel
theorem dX7_bearersOf_14 : decode cX7_bearersOf 14 = .ok (.arraylength, 1) := by decide +kernel
theorem dX7_bearersOf_15 : decode cX7_bearersOf 15 = .ok (.if_icmp .ge 12, 3) := by decide +kernel
theorem dX7_bearersOf_18 : decode cX7_bearersOf 18 = .ok (.aload_n 0, 1) := by decide +kernel
theorem dX7_bearersOf_19 : decode cX7_bearersOf 19 = .ok (.getfield 9, 3) := by decide +kernel
theorem dX7_bearersOf_22 : decode cX7_bearersOf 22 = .ok (.iload_n 2, 1) := by decide +kernel
theorem dX7_bearersOf_23 : decode cX7_bearersOf 23 = .ok (.iaload, 1) := by decide +kernel
theorem dX7_bearersOf_24 : decode cX7_bearersOf 24 = .ok (.goto 4, 3) := by decide +kernel
theorem dX7_bearersOf_27 : decode cX7_bearersOf 27 = .ok (.iconst 0, 1) := by decide +kernel
theorem dX7_bearersOf_28 : decode cX7_bearersOf 28 = .ok (.ireturn, 1) := by decide +kernel
def f_X7_bearersOf (x1 : Int32) (w : XW) : Option (Int32 × XW) := (if (x1 - 97) < 0 then (some (0, w)) else (if 8 ≤ (x1 - 97) then (some (0, w)) else (if inB (x1 - 97) 8 then (some ((w.1 137 (Int32.toNatClampNeg (x1 - 97))), w)) else none)))
set_option maxRecDepth 100000 in
theorem W_X7_bearersOf {g : GC} (hl : g.1.stackTraces = false) {x1 : Int32} {w : XW} : VE g cX7_bearersOf 3 RX7 (some .int) [] (rmL 3 0 0) 0 0 oI 0 0 0 [(0, .ref (g.2.1 + 136)), (1, .int x1)] [] w (f_X7_bearersOf x1 w) := by
  unfold f_X7_bearersOf
  refine v_iload_n dX7_bearersOf_0 rfl 1 rfl ?_
  refine v_bipush (v := 97) dX7_bearersOf_1 (by decide) ?_
  refine v_isub dX7_bearersOf_3 ?_
  refine v_istore_n dX7_bearersOf_4 rfl (Nat.le_of_ble_eq_true rfl) rfl ?_
  refine v_iload_n dX7_bearersOf_5 rfl 0 rfl ?_
  refine v_if_lt (tgt := 27) dX7_bearersOf_6 (by decide) ?_ ?_
  · refine v_iconst (v := 0) dX7_bearersOf_27 (by decide) ?_
    exact v_iret dX7_bearersOf_28 rfl rfl (by decide) (by decide)
  · refine v_iload_n dX7_bearersOf_9 rfl 0 rfl ?_
    refine v_aload_n dX7_bearersOf_10 rfl 1 rfl ?_
    refine v_getR fl_X7_9 tt_136 rfl dX7_bearersOf_11 ?_
    refine v_alen (v := 8) tt_137 (by decide) rfl dX7_bearersOf_14 ?_
    refine v_icmp_ge (tgt := 27) dX7_bearersOf_15 (by decide) ?_ ?_
    · refine v_iconst (v := 0) dX7_bearersOf_27 (by decide) ?_
      exact v_iret dX7_bearersOf_28 rfl rfl (by decide) (by decide)
    · refine v_aload_n dX7_bearersOf_18 rfl 1 rfl ?_
      refine v_getR fl_X7_9 tt_136 rfl dX7_bearersOf_19 ?_
      refine v_iload_n dX7_bearersOf_22 rfl 0 rfl ?_
      refine v_guard (fun h1 => ?_)
      refine v_iald tt_137 h1 dX7_bearersOf_23 ?_
      refine v_goto (tgt := 28) dX7_bearersOf_24 (by decide) ?_
      exact v_iret dX7_bearersOf_28 rfl rfl (by decide) (by decide)
theorem S_X7_bearersOf {g : GC} (hl : g.1.stackTraces = false) {x1 : Int32} {w : XW} : ∀ q, f_X7_bearersOf x1 w = some q → MM g (.code yX7_bearersOf cX7_bearersOf 3 (some .int)) yX7_bearersOf (rmL 3 0 0) 0 0 [.ref (g.2.1 + 136), .int x1] w (oI q) := fun q hq => MM_of (own := RX7) hl (by decide) gw_1532 rfl (Nat.le_of_ble_eq_true rfl) (W_X7_bearersOf hl q hq) ⟨rfl, rfl⟩

theorem dX7_readPlainFactor_0 : decode cX7_readPlainFactor 0 = .ok (.aload_n 1, 1) := by decide +kernel
theorem dX7_readPlainFactor_1 : decode cX7_readPlainFactor 1 = .ok (.aload_n 0, 1) := by decide +kernel
theorem dX7_readPlainFactor_2 : decode cX7_readPlainFactor 2 = .ok (.getfield 32, 3) := by decide +kernel
theorem dX7_readPlainFactor_5 : decode cX7_readPlainFactor 5 = .ok (.invokevirtual 50, 3) := by decide +kernel
theorem dX7_readPlainFactor_8 : decode cX7_readPlainFactor 8 = .ok (.istore_n 3, 1) := by decide +kernel
theorem dX7_readPlainFactor_9 : decode cX7_readPlainFactor 9 = .ok (.iload_n 3, 1) := by decide +kernel
theorem dX7_readPlainFactor_10 : decode cX7_readPlainFactor 10 = .ok (.invokestatic 61, 3) := by decide +kernel
theorem dX7_readPlainFactor_13 : decode cX7_readPlainFactor 13 = .ok (.ifCond .eq 19, 3) := by decide +kernel
theorem dX7_readPlainFactor_16 : decode cX7_readPlainFactor 16 = .ok (.aload_n 0, 1) := by decide +kernel
theorem dX7_readPlainFactor_17 : decode cX7_readPlainFactor 17 = .ok (.dup, 1) := by decide +kernel
theorem dX7_readPlainFactor_18 : decode cX7_readPlainFactor 18 = .ok (.getfield 32, 3) := by decide +kernel
theorem dX7_readPlainFactor_21 : decode cX7_readPlainFactor 21 = .ok (.iconst 1, 1) := by decide +kernel
theorem dX7_readPlainFactor_22 : decode cX7_readPlainFactor 22 = .ok (.iadd, 1) := by decide +kernel
theorem dX7_readPlainFactor_23 : decode cX7_readPlainFactor 23 = .ok (.putfield 32, 3) := by decide +kernel
theorem dX7_readPlainFactor_26 : decode cX7_readPlainFactor 26 = .ok (.aload_n 0, 1) := by decide +kernel
theorem dX7_readPlainFactor_27 : decode cX7_readPlainFactor 27 = .ok (.iload_n 3, 1) := by decide +kernel
theorem dX7_readPlainFactor_28 : decode cX7_readPlainFactor 28 = .ok (.invokevirtual 68, 3) := by decide +kernel
theorem dX7_readPlainFactor_31 : decode cX7_readPlainFactor 31 = .ok (.ireturn, 1) := by decide +kernel
theorem dX7_readPlainFactor_32 : decode cX7_readPlainFactor 32 = .ok (.iload_n 3, 1) := by decide +kernel
theorem dX7_readPlainFactor_33 : decode cX7_readPlainFactor 33 = .ok (.bipush 40, 2) := by decide +kernel
theorem dX7_readPlainFactor_35 : decode cX7_readPlainFactor 35 = .ok (.if_icmp .ne 8, 3) := by decide +kernel
theorem dX7_readPlainFactor_38 : decode cX7_readPlainFactor 38 = .ok (.iload_n 2, 1) := by decide +kernel
theorem dX7_readPlainFactor_39 : decode cX7_readPlainFactor 39 = .ok (.iconst 4, 1) := by decide +kernel
theorem dX7_readPlainFactor_40 : decode cX7_readPlainFactor 40 = .ok (.if_icmp .lt 13, 3) := by decide +kernel
theorem dX7_readPlainFactor_43 : decode cX7_readPlainFactor 43 = .ok (.aload_n 0, 1) := by decide +kernel
theorem dX7_readPlainFactor_44 : decode cX7_readPlainFactor 44 = .ok (.aload_n 0, 1) := by decide +kernel
theorem dX7_readPlainFactor_45 : decode cX7_readPlainFactor 45 = .ok (.getfield 32, 3) := by decide +kernel
theorem dX7_readPlainFactor_48 : decode cX7_readPlainFactor 48 = .ok (.putfield 35, 3) := by decide +kernel
theorem dX7_readPlainFactor_51 : decode cX7_readPlainFactor 51 = .ok (.iconst 0, 1) := by decide +kernel
theorem dX7_readPlainFactor_52 : decode cX7_readPlainFactor 52 = .ok (.ireturn, 1) := by decide +kernel
theorem dX7_readPlainFactor_53 : decode cX7_readPlainFactor 53 = .ok (.aload_n 0, 1) := by decide +kernel
theorem dX7_readPlainFactor_54 : decode cX7_readPlainFactor 54 = .ok (.dup, 1) := by decide +kernel
theorem dX7_readPlainFactor_55 : decode cX7_readPlainFactor 55 = .ok (.getfield 32, 3) := by decide +kernel
theorem dX7_readPlainFactor_58 : decode cX7_readPlainFactor 58 = .ok (.iconst 1, 1) := by decide +kernel
theorem dX7_readPlainFactor_59 : decode cX7_readPlainFactor 59 = .ok (.iadd, 1) := by decide +kernel
theorem dX7_readPlainFactor_60 : decode cX7_readPlainFactor 60 = .ok (.putfield 32, 3) := by decide +kernel
theorem dX7_readPlainFactor_63 : decode cX7_readPlainFactor 63 = .ok (.aload_n 0, 1) := by decide +kernel
theorem dX7_readPlainFactor_64 : decode cX7_readPlainFactor 64 = .ok (.aload_n 1, 1) := by decide +kernel
theorem dX7_readPlainFactor_65 : decode cX7_readPlainFactor 65 = .ok (.iload_n 2, 1) := by decide +kernel
theorem dX7_readPlainFactor_66 : decode cX7_readPlainFactor 66 = .ok (.iconst 1, 1) := by decide +kernel
theorem dX7_readPlainFactor_67 : decode cX7_readPlainFactor 67 = .ok (.iadd, 1) := by decide +kernel
theorem dX7_readPlainFactor_68 : decode cX7_readPlainFactor 68 = .ok (.invokevirtual 38, 3) := by decide +kernel
theorem dX7_readPlainFactor_71 : decode cX7_readPlainFactor 71 = .ok (.istore 4, 2) := by decide +kernel
theorem dX7_readPlainFactor_73 : decode cX7_readPlainFactor 73 = .ok (.aload_n 0, 1) := by decide +kernel
theorem dX7_readPlainFactor_74 : decode cX7_readPlainFactor 74 = .ok (.getfield 35, 3) := by decide +kernel
theorem dX7_readPlainFactor_77 : decode cX7_readPlainFactor 77 = .ok (.iconst (-1), 1) := by decide +kernel
theorem dX7_readPlainFactor_78 : decode cX7_readPlainFactor 78 = .ok (.if_icmp .ne 24, 3) := by decide +kernel
theorem dX7_readPlainFactor_81 : decode cX7_readPlainFactor 81 = .ok (.aload_n 1, 1) := by decide +kernel
theorem dX7_readPlainFactor_82 : decode cX7_readPlainFactor 82 = .ok (.aload_n 0, 1) := by decide +kernel
theorem dX7_readPlainFactor_83 : decode cX7_readPlainFactor 83 = .ok (.getfield 32, 3) := by decide +kernel
theorem dX7_readPlainFactor_86 : decode cX7_readPlainFactor 86 = .ok (.invokevirtual 50, 3) := by decide +kernel
theorem dX7_readPlainFactor_89 : decode cX7_readPlainFactor 89 = .ok (.bipush 41, 2) := by decide +kernel
theorem dX7_readPlainFactor_91 : decode cX7_readPlainFactor 91 = .ok (.if_icmp .eq 11, 3) := by decide +kernel
theorem dX7_readPlainFactor_94 : decode cX7_readPlainFactor 94 = .ok (.aload_n 0, 1) := by decide +kernel
theorem dX7_readPlainFactor_95 : decode cX7_readPlainFactor 95 = .ok (.aload_n 0, 1) := by decide +kernel
theorem dX7_readPlainFactor_96 : decode cX7_readPlainFactor 96 = .ok (.getfield 32, 3) := by decide +kernel
theorem dX7_readPlainFactor_99 : decode cX7_readPlainFactor 99 = .ok (.putfield 35, 3) := by decide +kernel
theorem dX7_readPlainFactor_102 : decode cX7_readPlainFactor 102 = .ok (.aload_n 0, 1) := by decide +kernel
theorem dX7_readPlainFactor_103 : decode cX7_readPlainFactor 103 = .ok (.dup, 1) := by decide +kernel
theorem dX7_readPlainFactor_104 : decode cX7_readPlainFactor 104 = .ok (.getfield 32, 3) := by decide +kernel
theorem dX7_readPlainFactor_107 : decode cX7_readPlainFactor 107 = .ok (.iconst 1, 1) := by decide +kernel
theorem dX7_readPlainFactor_108 : decode cX7_readPlainFactor 108 = .ok (.iadd, 1) := by decide +kernel
theorem dX7_readPlainFactor_109 : decode cX7_readPlainFactor 109 = .ok (.putfield 32, 3) := by decide +kernel
theorem dX7_readPlainFactor_112 : decode cX7_readPlainFactor 112 = .ok (.iload 4, 2) := by decide +kernel
theorem dX7_readPlainFactor_114 : decode cX7_readPlainFactor 114 = .ok (.ireturn, 1) := by decide +kernel
def f_X7_readPlainFactor (RC : Int32 → XW → Option (Int32 × XW)) (x2 : Int32) (w : XW) : Option (Int32 × XW) := (bI (f_X6_at 132 (w.1 136 2) w) (fun r1 w1 => (bI (f_X9_isTerm r1 w1) (fun r2 w2 => (if r2 = 0 then (if r1 = 40 then (if x2 < 4 then (bI (RC (x2 + 1) (wset w2 136 2 ((w2.1 136 2) + 1))) (fun r3 w3 => (if (w3.1 136 3) = (-1) then (bI (f_X6_at 132 (w3.1 136 2) w3) (fun r4 w4 => (if r4 = 41 then (some (r3, (wset w4 136 2 ((w4.1 136 2) + 1)))) else (some (r3, (wset (wset w4 136 3 (w4.1 136 2)) 136 2 (((wset w4 136 3 (w4.1 136 2)).1 136 2) + 1))))))) else (some (r3, (wset w3 136 2 ((w3.1 136 2) + 1))))))) else (some (0, (wset w2 136 3 (w2.1 136 2))))) else (some (0, (wset w2 136 3 (w2.1 136 2))))) else (bI (f_X7_bearersOf r1 (wset w2 136 2 ((w2.1 136 2) + 1))) (fun r5 w5 => (some (r5, w5)))))))))
set_option maxRecDepth 100000 in
theorem W_X7_readPlainFactor {g : GC} (hl : g.1.stackTraces = false) {n0 : Nat} (hn0 : 5 ≤ n0) {RC : Int32 → XW → Option (Int32 × XW)} (hRC : ∀ (x2 : Int32) (w : XW) q, RC x2 w = some q → MM g (.code yX7_readSum cX7_readSum 5 (some .int)) yX7_readSum (rmL n0 0 0) 0 0 [.ref (g.2.1 + 136), .ref (g.2.1 + 132), .int x2] w (oI q)) {x2 : Int32} {w : XW} : VE g cX7_readPlainFactor 5 RX7 (some .int) [] (rmL (n0 + 1) 0 0) 0 0 oI 0 0 0 [(0, .ref (g.2.1 + 136)), (1, .ref (g.2.1 + 132)), (2, .int x2)] [] w (f_X7_readPlainFactor RC x2 w) := by
  unfold f_X7_readPlainFactor
  refine v_aload_n dX7_readPlainFactor_0 rfl 1 rfl ?_
  refine v_aload_n dX7_readPlainFactor_1 rfl 0 rfl ?_
  refine v_getI fl_X7_32 tt_136 rfl dX7_readPlainFactor_2 ?_
  refine v_callVi (As := [.int (w.1 136 2)]) cv_X7_50 (S_X6_at hl is6_132) tt_132 rfl rfl rfl (Nat.le_of_ble_eq_true rfl) dX7_readPlainFactor_5 (CR_rm (by omega) (by decide) (by decide) (by decide)) (fun r1 w1 => ?_)
  refine v_istore_n dX7_readPlainFactor_8 rfl (Nat.le_of_ble_eq_true rfl) rfl ?_
  refine v_iload_n dX7_readPlainFactor_9 rfl 0 rfl ?_
  refine v_callSi (As := [.int r1]) cs_X7_61 (S_X9_isTerm hl) rfl rfl (Nat.le_of_ble_eq_true rfl) dX7_readPlainFactor_10 (CR_rm (by omega) (by decide) (by decide) (by decide)) (fun r2 w2 => ?_)
  refine v_if_eq (tgt := 32) dX7_readPlainFactor_13 (by decide) ?_ ?_
  · refine v_iload_n dX7_readPlainFactor_32 rfl 0 rfl ?_
    refine v_bipush (v := 40) dX7_readPlainFactor_33 (by decide) ?_
    refine v_icmp_ne (tgt := 43) dX7_readPlainFactor_35 (by decide) ?_ ?_
    · refine v_aload_n dX7_readPlainFactor_43 rfl 1 rfl ?_
      refine v_aload_n dX7_readPlainFactor_44 rfl 1 rfl ?_
      refine v_getI fl_X7_32 tt_136 rfl dX7_readPlainFactor_45 ?_
      refine v_putI fl_X7_35 tt_136 rfl (ty0 := .int) rfl rfl rfl dX7_readPlainFactor_48 ?_
      refine v_iconst (v := 0) dX7_readPlainFactor_51 (by decide) ?_
      exact v_iret dX7_readPlainFactor_52 rfl rfl (by decide) (by decide)
    · refine v_iload_n dX7_readPlainFactor_38 rfl 3 rfl ?_
      refine v_iconst (v := 4) dX7_readPlainFactor_39 (by decide) ?_
      refine v_icmp_lt (tgt := 53) dX7_readPlainFactor_40 (by decide) ?_ ?_
      · refine v_aload_n dX7_readPlainFactor_53 rfl 1 rfl ?_
        refine v_dup dX7_readPlainFactor_54 rfl ?_
        refine v_getI fl_X7_32 tt_136 rfl dX7_readPlainFactor_55 ?_
        refine v_iconst (v := 1) dX7_readPlainFactor_58 (by decide) ?_
        refine v_iadd dX7_readPlainFactor_59 ?_
        refine v_putI fl_X7_32 tt_136 rfl (ty0 := .int) rfl rfl rfl dX7_readPlainFactor_60 ?_
        refine v_aload_n dX7_readPlainFactor_63 rfl 1 rfl ?_
        refine v_aload_n dX7_readPlainFactor_64 rfl 2 rfl ?_
        refine v_iload_n dX7_readPlainFactor_65 rfl 3 rfl ?_
        refine v_iconst (v := 1) dX7_readPlainFactor_66 (by decide) ?_
        refine v_iadd dX7_readPlainFactor_67 ?_
        refine v_callVi (As := [.ref (g.2.1 + 132), .int (x2 + 1)]) cv_X7_38 (hRC _ _) tt_136 rfl rfl rfl (Nat.le_of_ble_eq_true rfl) dX7_readPlainFactor_68 (CR_rm (by omega) (by decide) (by decide) (by decide)) (fun r3 w3 => ?_)
        refine v_istore dX7_readPlainFactor_71 (Nat.le_of_ble_eq_true rfl) rfl ?_
        refine v_aload_n dX7_readPlainFactor_73 rfl 2 rfl ?_
        refine v_getI fl_X7_35 tt_136 rfl dX7_readPlainFactor_74 ?_
        refine v_iconst (v := (-1)) dX7_readPlainFactor_77 (by decide) ?_
        refine v_icmp_ne (tgt := 102) dX7_readPlainFactor_78 (by decide) ?_ ?_
        · refine v_aload_n dX7_readPlainFactor_102 rfl 2 rfl ?_
          refine v_dup dX7_readPlainFactor_103 rfl ?_
          refine v_getI fl_X7_32 tt_136 rfl dX7_readPlainFactor_104 ?_
          refine v_iconst (v := 1) dX7_readPlainFactor_107 (by decide) ?_
          refine v_iadd dX7_readPlainFactor_108 ?_
          refine v_putI fl_X7_32 tt_136 rfl (ty0 := .int) rfl rfl rfl dX7_readPlainFactor_109 ?_
          refine v_iload dX7_readPlainFactor_112 0 rfl ?_
          exact v_iret dX7_readPlainFactor_114 rfl rfl (by decide) (by decide)
        · refine v_aload_n dX7_readPlainFactor_81 rfl 3 rfl ?_
          refine v_aload_n dX7_readPlainFactor_82 rfl 2 rfl ?_
          refine v_getI fl_X7_32 tt_136 rfl dX7_readPlainFactor_83 ?_
          refine v_callVi (As := [.int (w3.1 136 2)]) cv_X7_50 (S_X6_at hl is6_132) tt_132 rfl rfl rfl (Nat.le_of_ble_eq_true rfl) dX7_readPlainFactor_86 (CR_rm (by omega) (by decide) (by decide) (by decide)) (fun r4 w4 => ?_)
          refine v_bipush (v := 41) dX7_readPlainFactor_89 (by decide) ?_
          refine v_icmp_eq (tgt := 102) dX7_readPlainFactor_91 (by decide) ?_ ?_
          · refine v_aload_n dX7_readPlainFactor_102 rfl 2 rfl ?_
            refine v_dup dX7_readPlainFactor_103 rfl ?_
            refine v_getI fl_X7_32 tt_136 rfl dX7_readPlainFactor_104 ?_
            refine v_iconst (v := 1) dX7_readPlainFactor_107 (by decide) ?_
            refine v_iadd dX7_readPlainFactor_108 ?_
            refine v_putI fl_X7_32 tt_136 rfl (ty0 := .int) rfl rfl rfl dX7_readPlainFactor_109 ?_
            refine v_iload dX7_readPlainFactor_112 0 rfl ?_
            exact v_iret dX7_readPlainFactor_114 rfl rfl (by decide) (by decide)
          · refine v_aload_n dX7_readPlainFactor_94 rfl 2 rfl ?_
            refine v_aload_n dX7_readPlainFactor_95 rfl 2 rfl ?_
            refine v_getI fl_X7_32 tt_136 rfl dX7_readPlainFactor_96 ?_
            refine v_putI fl_X7_35 tt_136 rfl (ty0 := .int) rfl rfl rfl dX7_readPlainFactor_99 ?_
            refine v_aload_n dX7_readPlainFactor_102 rfl 2 rfl ?_
            refine v_dup dX7_readPlainFactor_103 rfl ?_
            refine v_getI fl_X7_32 tt_136 rfl dX7_readPlainFactor_104 ?_
            refine v_iconst (v := 1) dX7_readPlainFactor_107 (by decide) ?_
            refine v_iadd dX7_readPlainFactor_108 ?_
            refine v_putI fl_X7_32 tt_136 rfl (ty0 := .int) rfl rfl rfl dX7_readPlainFactor_109 ?_
            refine v_iload dX7_readPlainFactor_112 0 rfl ?_
            exact v_iret dX7_readPlainFactor_114 rfl rfl (by decide) (by decide)
      · refine v_aload_n dX7_readPlainFactor_43 rfl 1 rfl ?_
        refine v_aload_n dX7_readPlainFactor_44 rfl 1 rfl ?_
        refine v_getI fl_X7_32 tt_136 rfl dX7_readPlainFactor_45 ?_
        refine v_putI fl_X7_35 tt_136 rfl (ty0 := .int) rfl rfl rfl dX7_readPlainFactor_48 ?_
        refine v_iconst (v := 0) dX7_readPlainFactor_51 (by decide) ?_
        exact v_iret dX7_readPlainFactor_52 rfl rfl (by decide) (by decide)
  · refine v_aload_n dX7_readPlainFactor_16 rfl 1 rfl ?_
    refine v_dup dX7_readPlainFactor_17 rfl ?_
    refine v_getI fl_X7_32 tt_136 rfl dX7_readPlainFactor_18 ?_
    refine v_iconst (v := 1) dX7_readPlainFactor_21 (by decide) ?_
    refine v_iadd dX7_readPlainFactor_22 ?_
    refine v_putI fl_X7_32 tt_136 rfl (ty0 := .int) rfl rfl rfl dX7_readPlainFactor_23 ?_
    refine v_aload_n dX7_readPlainFactor_26 rfl 1 rfl ?_
    refine v_iload_n dX7_readPlainFactor_27 rfl 0 rfl ?_
    refine v_callVi (As := [.int r1]) cv_X7_68 (S_X7_bearersOf hl) tt_136 rfl rfl rfl (Nat.le_of_ble_eq_true rfl) dX7_readPlainFactor_28 (CR_rm (by omega) (by decide) (by decide) (by decide)) (fun r5 w5 => ?_)
    exact v_iret dX7_readPlainFactor_31 rfl rfl (by decide) (by decide)
theorem S_X7_readPlainFactor {g : GC} (hl : g.1.stackTraces = false) {n0 : Nat} (hn0 : 5 ≤ n0) {RC : Int32 → XW → Option (Int32 × XW)} (hRC : ∀ (x2 : Int32) (w : XW) q, RC x2 w = some q → MM g (.code yX7_readSum cX7_readSum 5 (some .int)) yX7_readSum (rmL n0 0 0) 0 0 [.ref (g.2.1 + 136), .ref (g.2.1 + 132), .int x2] w (oI q)) {x2 : Int32} {w : XW} : ∀ q, f_X7_readPlainFactor RC x2 w = some q → MM g (.code yX7_readPlainFactor cX7_readPlainFactor 5 (some .int)) yX7_readPlainFactor (rmL (n0 + 1) 0 0) 0 0 [.ref (g.2.1 + 136), .ref (g.2.1 + 132), .int x2] w (oI q) := fun q hq => MM_of (own := RX7) hl (by decide) gw_1527 rfl (Nat.le_of_ble_eq_true rfl) (W_X7_readPlainFactor hl hn0 hRC q hq) ⟨rfl, rfl⟩

theorem dX7_readFactor_0 : decode cX7_readFactor 0 = .ok (.iconst 0, 1) := by decide +kernel
theorem dX7_readFactor_1 : decode cX7_readFactor 1 = .ok (.istore_n 3, 1) := by decide +kernel
theorem dX7_readFactor_2 : decode cX7_readFactor 2 = .ok (.iconst 0, 1) := by decide +kernel
theorem dX7_readFactor_3 : decode cX7_readFactor 3 = .ok (.istore 4, 2) := by decide +kernel
theorem dX7_readFactor_5 : decode cX7_readFactor 5 = .ok (.iload 4, 2) := by decide +kernel
theorem dX7_readFactor_7 : decode cX7_readFactor 7 = .ok (.bipush 60, 2) := by decide +kernel
theorem dX7_readFactor_9 : decode cX7_readFactor 9 = .ok (.if_icmp .ge 42, 3) := by decide +kernel
theorem dX7_readFactor_12 : decode cX7_readFactor 12 = .ok (.aload_n 1, 1) := by decide +kernel
theorem dX7_readFactor_13 : decode cX7_readFactor 13 = .ok (.aload_n 0, 1) := by decide +kernel
theorem dX7_readFactor_14 : decode cX7_readFactor 14 = .ok (.getfield 32, 3) := by decide +kernel
theorem dX7_readFactor_17 : decode cX7_readFactor 17 = .ok (.invokevirtual 50, 3) := by decide +kernel
theorem dX7_readFactor_20 : decode cX7_readFactor 20 = .ok (.bipush 45, 2) := by decide +kernel
theorem dX7_readFactor_22 : decode cX7_readFactor 22 = .ok (.if_icmp .ne 29, 3) := by decide +kernel
theorem dX7_readFactor_25 : decode cX7_readFactor 25 = .ok (.iload_n 3, 1) := by decide +kernel
theorem dX7_readFactor_26 : decode cX7_readFactor 26 = .ok (.ifCond .ne 7, 3) := by decide +kernel
theorem dX7_readFactor_29 : decode cX7_readFactor 29 = .ok (.iconst 1, 1) := by decide +kernel
theorem dX7_readFactor_30 : decode cX7_readFactor 30 = .ok (.goto 4, 3) := by decide +kernel
theorem dX7_readFactor_33 : decode cX7_readFactor 33 = .ok (.iconst 0, 1) := by decide +kernel
theorem dX7_readFactor_34 : decode cX7_readFactor 34 = .ok (.istore_n 3, 1) := by decide +kernel
theorem dX7_readFactor_35 : decode cX7_readFactor 35 = .ok (.aload_n 0, 1) := by decide +kernel
theorem dX7_readFactor_36 : decode cX7_readFactor 36 = .ok (.dup, 1) := by decide +kernel
theorem dX7_readFactor_37 : decode cX7_readFactor 37 = .ok (.getfield 32, 3) := by decide +kernel
theorem dX7_readFactor_40 : decode cX7_readFactor 40 = .ok (.iconst 1, 1) := by decide +kernel
theorem dX7_readFactor_41 : decode cX7_readFactor 41 = .ok (.iadd, 1) := by decide +kernel
theorem dX7_readFactor_42 : decode cX7_readFactor 42 = .ok (.putfield 32, 3) := by decide +kernel
theorem dX7_readFactor_45 : decode cX7_readFactor 45 = .ok (.iinc 4 1, 3) := by decide +kernel
theorem dX7_readFactor_48 : decode cX7_readFactor 48 = .ok (.goto (-43), 3) := by decide +kernel
theorem dX7_readFactor_51 : decode cX7_readFactor 51 = .ok (.aload_n 0, 1) := by decide +kernel
theorem dX7_readFactor_52 : decode cX7_readFactor 52 = .ok (.aload_n 1, 1) := by decide +kernel
theorem dX7_readFactor_53 : decode cX7_readFactor 53 = .ok (.iload_n 2, 1) := by decide +kernel
theorem dX7_readFactor_54 : decode cX7_readFactor 54 = .ok (.invokevirtual 65, 3) := by decide +kernel
theorem dX7_readFactor_57 : decode cX7_readFactor 57 = .ok (.istore 4, 2) := by decide +kernel
theorem dX7_readFactor_59 : decode cX7_readFactor 59 = .ok (.iload_n 3, 1) := by decide +kernel
theorem dX7_readFactor_60 : decode cX7_readFactor 60 = .ok (.ifCond .eq 15, 3) := by decide +kernel
theorem dX7_readFactor_63 : decode cX7_readFactor 63 = .ok (.aload_n 0, 1) := by decide +kernel
theorem dX7_readFactor_64 : decode cX7_readFactor 64 = .ok (.getfield 21, 3) := by decide +kernel
theorem dX7_readFactor_67 : decode cX7_readFactor 67 = .ok (.iload 4, 2) := by decide +kernel
theorem dX7_readFactor_69 : decode cX7_readFactor 69 = .ok (.iconst (-1), 1) := by decide +kernel
theorem dX7_readFactor_70 : decode cX7_readFactor 70 = .ok (.ixor, 1) := by decide +kernel
theorem dX7_readFactor_71 : decode cX7_readFactor 71 = .ok (.iand, 1) := by decide +kernel
theorem dX7_readFactor_72 : decode cX7_readFactor 72 = .ok (.goto 5, 3) := by decide +kernel
theorem dX7_readFactor_75 : decode cX7_readFactor 75 = .ok (.iload 4, 2) := by decide +kernel
theorem dX7_readFactor_77 : decode cX7_readFactor 77 = .ok (.ireturn, 1) := by decide +kernel
def f_X7_readFactor_5 (RC : Int32 → XW → Option (Int32 × XW)) (y2 : Int32) : Nat → Int32 → Int32 → XW → Option (Int32 × XW)
  | 0, _, _, _ => none
  | n + 1, z3, z4, w => (if 60 ≤ z4 then (bI (f_X7_readPlainFactor RC y2 w) (fun r1 w1 => (if z3 = 0 then (some (r1, w1)) else (some (((w1.1 136 1) &&& (r1 ^^^ (-1))), w1))))) else (bI (f_X6_at 132 (w.1 136 2) w) (fun r2 w2 => (if r2 = 45 then (if z3 = 0 then (f_X7_readFactor_5 RC y2 n 1 (z4 + 1) (wset w2 136 2 ((w2.1 136 2) + 1))) else (f_X7_readFactor_5 RC y2 n 0 (z4 + 1) (wset w2 136 2 ((w2.1 136 2) + 1)))) else (bI (f_X7_readPlainFactor RC y2 w2) (fun r3 w3 => (if z3 = 0 then (some (r3, w3)) else (some (((w3.1 136 1) &&& (r3 ^^^ (-1))), w3)))))))))
set_option maxRecDepth 100000 in
theorem S_X7_readFactor_5 {g : GC} (hl : g.1.stackTraces = false) {n0 : Nat} (hn0 : 5 ≤ n0) {RC : Int32 → XW → Option (Int32 × XW)} (hRC : ∀ (x2 : Int32) (w : XW) q, RC x2 w = some q → MM g (.code yX7_readSum cX7_readSum 5 (some .int)) yX7_readSum (rmL n0 0 0) 0 0 [.ref (g.2.1 + 136), .ref (g.2.1 + 132), .int x2] w (oI q)) {y2 : Int32} : ∀ (n : Nat) (z3 : Int32) (z4 : Int32) (w : XW), VE g cX7_readFactor 5 RX7 (some .int) [] (rmL (n0 + 2) 0 0) 0 0 oI 0 0 5 [(0, .ref (g.2.1 + 136)), (1, .ref (g.2.1 + 132)), (2, .int y2), (3, .int z3), (4, .int z4)] [] w (f_X7_readFactor_5 RC y2 n z3 z4 w) := by
  intro n
  induction n with
  | zero => intro z3 z4 w; exact v_none
  | succ n ih =>
    intro z3 z4 w
    rw [f_X7_readFactor_5]
    refine v_iload dX7_readFactor_5 4 rfl ?_
    refine v_bipush (v := 60) dX7_readFactor_7 (by decide) ?_
    refine v_icmp_ge (tgt := 51) dX7_readFactor_9 (by decide) ?_ ?_
    · refine v_aload_n dX7_readFactor_51 rfl 0 rfl ?_
      refine v_aload_n dX7_readFactor_52 rfl 1 rfl ?_
      refine v_iload_n dX7_readFactor_53 rfl 2 rfl ?_
      refine v_callVi (As := [.ref (g.2.1 + 132), .int y2]) cv_X7_65 (S_X7_readPlainFactor hl hn0 hRC) tt_136 rfl rfl rfl (Nat.le_of_ble_eq_true rfl) dX7_readFactor_54 (CR_rm (by omega) (by decide) (by decide) (by decide)) (fun r1 w1 => ?_)
      refine v_istore dX7_readFactor_57 (Nat.le_of_ble_eq_true rfl) rfl ?_
      refine v_iload_n dX7_readFactor_59 rfl 4 rfl ?_
      refine v_if_eq (tgt := 75) dX7_readFactor_60 (by decide) ?_ ?_
      · refine v_iload dX7_readFactor_75 0 rfl ?_
        exact v_iret dX7_readFactor_77 rfl rfl (by decide) (by decide)
      · refine v_aload_n dX7_readFactor_63 rfl 1 rfl ?_
        refine v_getI fl_X7_21 tt_136 rfl dX7_readFactor_64 ?_
        refine v_iload dX7_readFactor_67 0 rfl ?_
        refine v_iconst (v := (-1)) dX7_readFactor_69 (by decide) ?_
        refine v_ixor dX7_readFactor_70 ?_
        refine v_iand dX7_readFactor_71 ?_
        refine v_goto (tgt := 77) dX7_readFactor_72 (by decide) ?_
        exact v_iret dX7_readFactor_77 rfl rfl (by decide) (by decide)
    · refine v_aload_n dX7_readFactor_12 rfl 1 rfl ?_
      refine v_aload_n dX7_readFactor_13 rfl 0 rfl ?_
      refine v_getI fl_X7_32 tt_136 rfl dX7_readFactor_14 ?_
      refine v_callVi (As := [.int (w.1 136 2)]) cv_X7_50 (S_X6_at hl is6_132) tt_132 rfl rfl rfl (Nat.le_of_ble_eq_true rfl) dX7_readFactor_17 (CR_rm (by omega) (by decide) (by decide) (by decide)) (fun r2 w2 => ?_)
      refine v_bipush (v := 45) dX7_readFactor_20 (by decide) ?_
      refine v_icmp_ne (tgt := 51) dX7_readFactor_22 (by decide) ?_ ?_
      · refine v_aload_n dX7_readFactor_51 rfl 0 rfl ?_
        refine v_aload_n dX7_readFactor_52 rfl 1 rfl ?_
        refine v_iload_n dX7_readFactor_53 rfl 2 rfl ?_
        refine v_callVi (As := [.ref (g.2.1 + 132), .int y2]) cv_X7_65 (S_X7_readPlainFactor hl hn0 hRC) tt_136 rfl rfl rfl (Nat.le_of_ble_eq_true rfl) dX7_readFactor_54 (CR_rm (by omega) (by decide) (by decide) (by decide)) (fun r3 w3 => ?_)
        refine v_istore dX7_readFactor_57 (Nat.le_of_ble_eq_true rfl) rfl ?_
        refine v_iload_n dX7_readFactor_59 rfl 4 rfl ?_
        refine v_if_eq (tgt := 75) dX7_readFactor_60 (by decide) ?_ ?_
        · refine v_iload dX7_readFactor_75 0 rfl ?_
          exact v_iret dX7_readFactor_77 rfl rfl (by decide) (by decide)
        · refine v_aload_n dX7_readFactor_63 rfl 1 rfl ?_
          refine v_getI fl_X7_21 tt_136 rfl dX7_readFactor_64 ?_
          refine v_iload dX7_readFactor_67 0 rfl ?_
          refine v_iconst (v := (-1)) dX7_readFactor_69 (by decide) ?_
          refine v_ixor dX7_readFactor_70 ?_
          refine v_iand dX7_readFactor_71 ?_
          refine v_goto (tgt := 77) dX7_readFactor_72 (by decide) ?_
          exact v_iret dX7_readFactor_77 rfl rfl (by decide) (by decide)
      · refine v_iload_n dX7_readFactor_25 rfl 3 rfl ?_
        refine v_if_ne (tgt := 33) dX7_readFactor_26 (by decide) ?_ ?_
        · refine v_iconst (v := 0) dX7_readFactor_33 (by decide) ?_
          refine v_istore_n dX7_readFactor_34 rfl (Nat.le_of_ble_eq_true rfl) rfl ?_
          refine v_aload_n dX7_readFactor_35 rfl 1 rfl ?_
          refine v_dup dX7_readFactor_36 rfl ?_
          refine v_getI fl_X7_32 tt_136 rfl dX7_readFactor_37 ?_
          refine v_iconst (v := 1) dX7_readFactor_40 (by decide) ?_
          refine v_iadd dX7_readFactor_41 ?_
          refine v_putI fl_X7_32 tt_136 rfl (ty0 := .int) rfl rfl rfl dX7_readFactor_42 ?_
          refine v_iinc (v := (z4 + 1)) dX7_readFactor_45 (q := 4) rfl rfl (Nat.le_of_ble_eq_true rfl) rfl ?_
          refine v_goto (tgt := 5) dX7_readFactor_48 (by decide) ?_
          refine v_sub [2, 3, 4, 1, 0] rfl ?_
          exact ih _ _ _
        · refine v_iconst (v := 1) dX7_readFactor_29 (by decide) ?_
          refine v_goto (tgt := 34) dX7_readFactor_30 (by decide) ?_
          refine v_istore_n dX7_readFactor_34 rfl (Nat.le_of_ble_eq_true rfl) rfl ?_
          refine v_aload_n dX7_readFactor_35 rfl 1 rfl ?_
          refine v_dup dX7_readFactor_36 rfl ?_
          refine v_getI fl_X7_32 tt_136 rfl dX7_readFactor_37 ?_
          refine v_iconst (v := 1) dX7_readFactor_40 (by decide) ?_
          refine v_iadd dX7_readFactor_41 ?_
          refine v_putI fl_X7_32 tt_136 rfl (ty0 := .int) rfl rfl rfl dX7_readFactor_42 ?_
          refine v_iinc (v := (z4 + 1)) dX7_readFactor_45 (q := 4) rfl rfl (Nat.le_of_ble_eq_true rfl) rfl ?_
          refine v_goto (tgt := 5) dX7_readFactor_48 (by decide) ?_
          refine v_sub [2, 3, 4, 1, 0] rfl ?_
          exact ih _ _ _
def f_X7_readFactor (RC : Int32 → XW → Option (Int32 × XW)) (x2 : Int32) (w : XW) : Option (Int32 × XW) := (f_X7_readFactor_5 RC x2 1000 0 0 w)
set_option maxRecDepth 100000 in
theorem W_X7_readFactor {g : GC} (hl : g.1.stackTraces = false) {n0 : Nat} (hn0 : 5 ≤ n0) {RC : Int32 → XW → Option (Int32 × XW)} (hRC : ∀ (x2 : Int32) (w : XW) q, RC x2 w = some q → MM g (.code yX7_readSum cX7_readSum 5 (some .int)) yX7_readSum (rmL n0 0 0) 0 0 [.ref (g.2.1 + 136), .ref (g.2.1 + 132), .int x2] w (oI q)) {x2 : Int32} {w : XW} : VE g cX7_readFactor 5 RX7 (some .int) [] (rmL (n0 + 2) 0 0) 0 0 oI 0 0 0 [(0, .ref (g.2.1 + 136)), (1, .ref (g.2.1 + 132)), (2, .int x2)] [] w (f_X7_readFactor RC x2 w) := by
  unfold f_X7_readFactor
  refine v_iconst (v := 0) dX7_readFactor_0 (by decide) ?_
  refine v_istore_n dX7_readFactor_1 rfl (Nat.le_of_ble_eq_true rfl) rfl ?_
  refine v_iconst (v := 0) dX7_readFactor_2 (by decide) ?_
  refine v_istore dX7_readFactor_3 (Nat.le_of_ble_eq_true rfl) rfl ?_
  refine v_sub [2, 3, 4, 1, 0] rfl ?_
  exact S_X7_readFactor_5 hl hn0 hRC  _ _ _ _
theorem S_X7_readFactor {g : GC} (hl : g.1.stackTraces = false) {n0 : Nat} (hn0 : 5 ≤ n0) {RC : Int32 → XW → Option (Int32 × XW)} (hRC : ∀ (x2 : Int32) (w : XW) q, RC x2 w = some q → MM g (.code yX7_readSum cX7_readSum 5 (some .int)) yX7_readSum (rmL n0 0 0) 0 0 [.ref (g.2.1 + 136), .ref (g.2.1 + 132), .int x2] w (oI q)) {x2 : Int32} {w : XW} : ∀ q, f_X7_readFactor RC x2 w = some q → MM g (.code yX7_readFactor cX7_readFactor 5 (some .int)) yX7_readFactor (rmL (n0 + 2) 0 0) 0 0 [.ref (g.2.1 + 136), .ref (g.2.1 + 132), .int x2] w (oI q) := fun q hq => MM_of (own := RX7) hl (by decide) gw_1522 rfl (Nat.le_of_ble_eq_true rfl) (W_X7_readFactor hl hn0 hRC q hq) ⟨rfl, rfl⟩

theorem dX7_startsFactor_0 : decode cX7_startsFactor 0 = .ok (.iload_n 0, 1) := by decide +kernel
theorem dX7_startsFactor_1 : decode cX7_startsFactor 1 = .ok (.bipush 45, 2) := by decide +kernel
theorem dX7_startsFactor_3 : decode cX7_startsFactor 3 = .ok (.if_icmp .eq 16, 3) := by decide +kernel
theorem dX7_startsFactor_6 : decode cX7_startsFactor 6 = .ok (.iload_n 0, 1) := by decide +kernel
theorem dX7_startsFactor_7 : decode cX7_startsFactor 7 = .ok (.bipush 40, 2) := by decide +kernel
theorem dX7_startsFactor_9 : decode cX7_startsFactor 9 = .ok (.if_icmp .eq 10, 3) := by decide +kernel
theorem dX7_startsFactor_12 : decode cX7_startsFactor 12 = .ok (.iload_n 0, 1) := by decide +kernel
theorem dX7_startsFactor_13 : decode cX7_startsFactor 13 = .ok (.invokestatic 61, 3) := by decide +kernel
theorem dX7_startsFactor_16 : decode cX7_startsFactor 16 = .ok (.ifCond .eq 7, 3) := by decide +kernel
theorem dX7_startsFactor_19 : decode cX7_startsFactor 19 = .ok (.iconst 1, 1) := by decide +kernel
theorem dX7_startsFactor_20 : decode cX7_startsFactor 20 = .ok (.goto 4, 3) := by decide +kernel
theorem dX7_startsFactor_23 : decode cX7_startsFactor 23 = .ok (.iconst 0, 1) := by decide +kernel
theorem dX7_startsFactor_24 : decode cX7_startsFactor 24 = .ok (.ireturn, 1) := by decide +kernel
def f_X7_startsFactor (x0 : Int32) (w : XW) : Option (Int32 × XW) := (if x0 = 45 then (some (1, w)) else (if x0 = 40 then (some (1, w)) else (bI (f_X9_isTerm x0 w) (fun r1 w1 => (if r1 = 0 then (some (0, w1)) else (some (1, w1)))))))
set_option maxRecDepth 100000 in
theorem W_X7_startsFactor {g : GC} (hl : g.1.stackTraces = false) {x0 : Int32} {w : XW} : VE g cX7_startsFactor 1 RX7 (some .boolean) [] (rmL 4 0 0) 0 0 oI 0 0 0 [(0, .int x0)] [] w (f_X7_startsFactor x0 w) := by
  unfold f_X7_startsFactor
  refine v_iload_n dX7_startsFactor_0 rfl 0 rfl ?_
  refine v_bipush (v := 45) dX7_startsFactor_1 (by decide) ?_
  refine v_icmp_eq (tgt := 19) dX7_startsFactor_3 (by decide) ?_ ?_
  · refine v_iconst (v := 1) dX7_startsFactor_19 (by decide) ?_
    refine v_goto (tgt := 24) dX7_startsFactor_20 (by decide) ?_
    exact v_zret dX7_startsFactor_24 rfl rfl rfl (by decide) (by decide)
  · refine v_iload_n dX7_startsFactor_6 rfl 0 rfl ?_
    refine v_bipush (v := 40) dX7_startsFactor_7 (by decide) ?_
    refine v_icmp_eq (tgt := 19) dX7_startsFactor_9 (by decide) ?_ ?_
    · refine v_iconst (v := 1) dX7_startsFactor_19 (by decide) ?_
      refine v_goto (tgt := 24) dX7_startsFactor_20 (by decide) ?_
      exact v_zret dX7_startsFactor_24 rfl rfl rfl (by decide) (by decide)
    · refine v_iload_n dX7_startsFactor_12 rfl 0 rfl ?_
      refine v_callSi (As := [.int x0]) cs_X7_61 (S_X9_isTerm hl) rfl rfl (Nat.le_of_ble_eq_true rfl) dX7_startsFactor_13 (CR_rm (by decide) (by decide) (by decide) (by decide)) (fun r1 w1 => ?_)
      refine v_if_eq (tgt := 23) dX7_startsFactor_16 (by decide) ?_ ?_
      · refine v_iconst (v := 0) dX7_startsFactor_23 (by decide) ?_
        exact v_zret dX7_startsFactor_24 rfl rfl rfl (by decide) (by decide)
      · refine v_iconst (v := 1) dX7_startsFactor_19 (by decide) ?_
        refine v_goto (tgt := 24) dX7_startsFactor_20 (by decide) ?_
        exact v_zret dX7_startsFactor_24 rfl rfl rfl (by decide) (by decide)
theorem S_X7_startsFactor {g : GC} (hl : g.1.stackTraces = false) {x0 : Int32} {w : XW} : ∀ q, f_X7_startsFactor x0 w = some q → MM g (.code yX7_startsFactor cX7_startsFactor 1 (some .boolean)) yX7_startsFactor (rmL 4 0 0) 0 0 [.int x0] w (oI q) := fun q hq => MM_of (own := RX7) hl (by decide) gw_1535 rfl (Nat.le_of_ble_eq_true rfl) (W_X7_startsFactor hl q hq) ⟨rfl, rfl⟩

theorem dX7_readProduct_0 : decode cX7_readProduct 0 = .ok (.aload_n 0, 1) := by decide +kernel
theorem dX7_readProduct_1 : decode cX7_readProduct 1 = .ok (.aload_n 1, 1) := by decide +kernel
theorem dX7_readProduct_2 : decode cX7_readProduct 2 = .ok (.iload_n 2, 1) := by decide +kernel
theorem dX7_readProduct_3 : decode cX7_readProduct 3 = .ok (.invokevirtual 54, 3) := by decide +kernel
theorem dX7_readProduct_6 : decode cX7_readProduct 6 = .ok (.istore_n 3, 1) := by decide +kernel
theorem dX7_readProduct_7 : decode cX7_readProduct 7 = .ok (.iconst 0, 1) := by decide +kernel
theorem dX7_readProduct_8 : decode cX7_readProduct 8 = .ok (.istore 4, 2) := by decide +kernel
theorem dX7_readProduct_10 : decode cX7_readProduct 10 = .ok (.iload 4, 2) := by decide +kernel
theorem dX7_readProduct_12 : decode cX7_readProduct 12 = .ok (.bipush 60, 2) := by decide +kernel
theorem dX7_readProduct_14 : decode cX7_readProduct 14 = .ok (.if_icmp .ge 43, 3) := by decide +kernel
theorem dX7_readProduct_17 : decode cX7_readProduct 17 = .ok (.aload_n 0, 1) := by decide +kernel
theorem dX7_readProduct_18 : decode cX7_readProduct 18 = .ok (.getfield 35, 3) := by decide +kernel
theorem dX7_readProduct_21 : decode cX7_readProduct 21 = .ok (.iconst (-1), 1) := by decide +kernel
theorem dX7_readProduct_22 : decode cX7_readProduct 22 = .ok (.if_icmp .ne 35, 3) := by decide +kernel
theorem dX7_readProduct_25 : decode cX7_readProduct 25 = .ok (.aload_n 1, 1) := by decide +kernel
theorem dX7_readProduct_26 : decode cX7_readProduct 26 = .ok (.aload_n 0, 1) := by decide +kernel
theorem dX7_readProduct_27 : decode cX7_readProduct 27 = .ok (.getfield 32, 3) := by decide +kernel
theorem dX7_readProduct_30 : decode cX7_readProduct 30 = .ok (.invokevirtual 50, 3) := by decide +kernel
theorem dX7_readProduct_33 : decode cX7_readProduct 33 = .ok (.invokestatic 57, 3) := by decide +kernel
theorem dX7_readProduct_36 : decode cX7_readProduct 36 = .ok (.ifCond .ne 6, 3) := by decide +kernel
theorem dX7_readProduct_39 : decode cX7_readProduct 39 = .ok (.goto 18, 3) := by decide +kernel
theorem dX7_readProduct_42 : decode cX7_readProduct 42 = .ok (.iload_n 3, 1) := by decide +kernel
theorem dX7_readProduct_43 : decode cX7_readProduct 43 = .ok (.aload_n 0, 1) := by decide +kernel
theorem dX7_readProduct_44 : decode cX7_readProduct 44 = .ok (.aload_n 1, 1) := by decide +kernel
theorem dX7_readProduct_45 : decode cX7_readProduct 45 = .ok (.iload_n 2, 1) := by decide +kernel
theorem dX7_readProduct_46 : decode cX7_readProduct 46 = .ok (.invokevirtual 54, 3) := by decide +kernel
theorem dX7_readProduct_49 : decode cX7_readProduct 49 = .ok (.iand, 1) := by decide +kernel
theorem dX7_readProduct_50 : decode cX7_readProduct 50 = .ok (.istore_n 3, 1) := by decide +kernel
theorem dX7_readProduct_51 : decode cX7_readProduct 51 = .ok (.iinc 4 1, 3) := by decide +kernel
theorem dX7_readProduct_54 : decode cX7_readProduct 54 = .ok (.goto (-44), 3) := by decide +kernel
theorem dX7_readProduct_57 : decode cX7_readProduct 57 = .ok (.iload_n 3, 1) := by decide +kernel
theorem dX7_readProduct_58 : decode cX7_readProduct 58 = .ok (.ireturn, 1) := by decide +kernel
def f_X7_readProduct_10 (RC : Int32 → XW → Option (Int32 × XW)) (y2 : Int32) : Nat → Int32 → Int32 → XW → Option (Int32 × XW)
  | 0, _, _, _ => none
  | n + 1, z3, z4, w => (if 60 ≤ z4 then (some (z3, w)) else (if (w.1 136 3) = (-1) then (bI (f_X6_at 132 (w.1 136 2) w) (fun r2 w2 => (bI (f_X7_startsFactor r2 w2) (fun r3 w3 => (if r3 = 0 then (some (z3, w3)) else (bI (f_X7_readFactor RC y2 w3) (fun r4 w4 => (f_X7_readProduct_10 RC y2 n (z3 &&& r4) (z4 + 1) w4)))))))) else (some (z3, w))))
set_option maxRecDepth 100000 in
theorem S_X7_readProduct_10 {g : GC} (hl : g.1.stackTraces = false) {n0 : Nat} (hn0 : 5 ≤ n0) {RC : Int32 → XW → Option (Int32 × XW)} (hRC : ∀ (x2 : Int32) (w : XW) q, RC x2 w = some q → MM g (.code yX7_readSum cX7_readSum 5 (some .int)) yX7_readSum (rmL n0 0 0) 0 0 [.ref (g.2.1 + 136), .ref (g.2.1 + 132), .int x2] w (oI q)) {y2 : Int32} : ∀ (n : Nat) (z3 : Int32) (z4 : Int32) (w : XW), VE g cX7_readProduct 5 RX7 (some .int) [] (rmL (n0 + 3) 0 0) 0 0 oI 0 0 10 [(0, .ref (g.2.1 + 136)), (1, .ref (g.2.1 + 132)), (2, .int y2), (3, .int z3), (4, .int z4)] [] w (f_X7_readProduct_10 RC y2 n z3 z4 w) := by
  intro n
  induction n with
  | zero => intro z3 z4 w; exact v_none
  | succ n ih =>
    intro z3 z4 w
    rw [f_X7_readProduct_10]
    refine v_iload dX7_readProduct_10 4 rfl ?_
    refine v_bipush (v := 60) dX7_readProduct_12 (by decide) ?_
    refine v_icmp_ge (tgt := 57) dX7_readProduct_14 (by decide) ?_ ?_
    · refine v_iload_n dX7_readProduct_57 rfl 3 rfl ?_
      exact v_iret dX7_readProduct_58 rfl rfl (by decide) (by decide)
    · refine v_aload_n dX7_readProduct_17 rfl 0 rfl ?_
      refine v_getI fl_X7_35 tt_136 rfl dX7_readProduct_18 ?_
      refine v_iconst (v := (-1)) dX7_readProduct_21 (by decide) ?_
      refine v_icmp_ne (tgt := 57) dX7_readProduct_22 (by decide) ?_ ?_
      · refine v_iload_n dX7_readProduct_57 rfl 3 rfl ?_
        exact v_iret dX7_readProduct_58 rfl rfl (by decide) (by decide)
      · refine v_aload_n dX7_readProduct_25 rfl 1 rfl ?_
        refine v_aload_n dX7_readProduct_26 rfl 0 rfl ?_
        refine v_getI fl_X7_32 tt_136 rfl dX7_readProduct_27 ?_
        refine v_callVi (As := [.int (w.1 136 2)]) cv_X7_50 (S_X6_at hl is6_132) tt_132 rfl rfl rfl (Nat.le_of_ble_eq_true rfl) dX7_readProduct_30 (CR_rm (by omega) (by decide) (by decide) (by decide)) (fun r2 w2 => ?_)
        refine v_callSi (As := [.int r2]) cs_X7_57 (S_X7_startsFactor hl) rfl rfl (Nat.le_of_ble_eq_true rfl) dX7_readProduct_33 (CR_rm (by omega) (by decide) (by decide) (by decide)) (fun r3 w3 => ?_)
        refine v_if_ne (tgt := 42) dX7_readProduct_36 (by decide) ?_ ?_
        · refine v_iload_n dX7_readProduct_42 rfl 3 rfl ?_
          refine v_aload_n dX7_readProduct_43 rfl 0 rfl ?_
          refine v_aload_n dX7_readProduct_44 rfl 1 rfl ?_
          refine v_iload_n dX7_readProduct_45 rfl 2 rfl ?_
          refine v_callVi (As := [.ref (g.2.1 + 132), .int y2]) cv_X7_54 (S_X7_readFactor hl hn0 hRC) tt_136 rfl rfl rfl (Nat.le_of_ble_eq_true rfl) dX7_readProduct_46 (CR_rm (by omega) (by decide) (by decide) (by decide)) (fun r4 w4 => ?_)
          refine v_iand dX7_readProduct_49 ?_
          refine v_istore_n dX7_readProduct_50 rfl (Nat.le_of_ble_eq_true rfl) rfl ?_
          refine v_iinc (v := (z4 + 1)) dX7_readProduct_51 (q := 4) rfl rfl (Nat.le_of_ble_eq_true rfl) rfl ?_
          refine v_goto (tgt := 10) dX7_readProduct_54 (by decide) ?_
          refine v_sub [2, 3, 4, 1, 0] rfl ?_
          exact ih _ _ _
        · refine v_goto (tgt := 57) dX7_readProduct_39 (by decide) ?_
          refine v_iload_n dX7_readProduct_57 rfl 3 rfl ?_
          exact v_iret dX7_readProduct_58 rfl rfl (by decide) (by decide)
def f_X7_readProduct (RC : Int32 → XW → Option (Int32 × XW)) (x2 : Int32) (w : XW) : Option (Int32 × XW) := (bI (f_X7_readFactor RC x2 w) (fun r1 w1 => (f_X7_readProduct_10 RC x2 1000 r1 0 w1)))
set_option maxRecDepth 100000 in
theorem W_X7_readProduct {g : GC} (hl : g.1.stackTraces = false) {n0 : Nat} (hn0 : 5 ≤ n0) {RC : Int32 → XW → Option (Int32 × XW)} (hRC : ∀ (x2 : Int32) (w : XW) q, RC x2 w = some q → MM g (.code yX7_readSum cX7_readSum 5 (some .int)) yX7_readSum (rmL n0 0 0) 0 0 [.ref (g.2.1 + 136), .ref (g.2.1 + 132), .int x2] w (oI q)) {x2 : Int32} {w : XW} : VE g cX7_readProduct 5 RX7 (some .int) [] (rmL (n0 + 3) 0 0) 0 0 oI 0 0 0 [(0, .ref (g.2.1 + 136)), (1, .ref (g.2.1 + 132)), (2, .int x2)] [] w (f_X7_readProduct RC x2 w) := by
  unfold f_X7_readProduct
  refine v_aload_n dX7_readProduct_0 rfl 0 rfl ?_
  refine v_aload_n dX7_readProduct_1 rfl 1 rfl ?_
  refine v_iload_n dX7_readProduct_2 rfl 2 rfl ?_
  refine v_callVi (As := [.ref (g.2.1 + 132), .int x2]) cv_X7_54 (S_X7_readFactor hl hn0 hRC) tt_136 rfl rfl rfl (Nat.le_of_ble_eq_true rfl) dX7_readProduct_3 (CR_rm (by omega) (by decide) (by decide) (by decide)) (fun r1 w1 => ?_)
  refine v_istore_n dX7_readProduct_6 rfl (Nat.le_of_ble_eq_true rfl) rfl ?_
  refine v_iconst (v := 0) dX7_readProduct_7 (by decide) ?_
  refine v_istore dX7_readProduct_8 (Nat.le_of_ble_eq_true rfl) rfl ?_
  refine v_sub [2, 3, 4, 1, 0] rfl ?_
  exact S_X7_readProduct_10 hl hn0 hRC  _ _ _ _
theorem S_X7_readProduct {g : GC} (hl : g.1.stackTraces = false) {n0 : Nat} (hn0 : 5 ≤ n0) {RC : Int32 → XW → Option (Int32 × XW)} (hRC : ∀ (x2 : Int32) (w : XW) q, RC x2 w = some q → MM g (.code yX7_readSum cX7_readSum 5 (some .int)) yX7_readSum (rmL n0 0 0) 0 0 [.ref (g.2.1 + 136), .ref (g.2.1 + 132), .int x2] w (oI q)) {x2 : Int32} {w : XW} : ∀ q, f_X7_readProduct RC x2 w = some q → MM g (.code yX7_readProduct cX7_readProduct 5 (some .int)) yX7_readProduct (rmL (n0 + 3) 0 0) 0 0 [.ref (g.2.1 + 136), .ref (g.2.1 + 132), .int x2] w (oI q) := fun q hq => MM_of (own := RX7) hl (by decide) gw_1518 rfl (Nat.le_of_ble_eq_true rfl) (W_X7_readProduct hl hn0 hRC q hq) ⟨rfl, rfl⟩

theorem dX7_readSum_0 : decode cX7_readSum 0 = .ok (.aload_n 0, 1) := by decide +kernel
theorem dX7_readSum_1 : decode cX7_readSum 1 = .ok (.aload_n 1, 1) := by decide +kernel
theorem dX7_readSum_2 : decode cX7_readSum 2 = .ok (.iload_n 2, 1) := by decide +kernel
theorem dX7_readSum_3 : decode cX7_readSum 3 = .ok (.invokevirtual 47, 3) := by decide +kernel
theorem dX7_readSum_6 : decode cX7_readSum 6 = .ok (.istore_n 3, 1) := by decide +kernel
theorem dX7_readSum_7 : decode cX7_readSum 7 = .ok (.iconst 0, 1) := by decide +kernel
theorem dX7_readSum_8 : decode cX7_readSum 8 = .ok (.istore 4, 2) := by decide +kernel
theorem dX7_readSum_10 : decode cX7_readSum 10 = .ok (.iload 4, 2) := by decide +kernel
theorem dX7_readSum_12 : decode cX7_readSum 12 = .ok (.bipush 60, 2) := by decide +kernel
theorem dX7_readSum_14 : decode cX7_readSum 14 = .ok (.if_icmp .ge 52, 3) := by decide +kernel
theorem dX7_readSum_17 : decode cX7_readSum 17 = .ok (.aload_n 0, 1) := by decide +kernel
theorem dX7_readSum_18 : decode cX7_readSum 18 = .ok (.getfield 35, 3) := by decide +kernel
theorem dX7_readSum_21 : decode cX7_readSum 21 = .ok (.iconst (-1), 1) := by decide +kernel
theorem dX7_readSum_22 : decode cX7_readSum 22 = .ok (.if_icmp .ne 44, 3) := by decide +kernel
theorem dX7_readSum_25 : decode cX7_readSum 25 = .ok (.aload_n 1, 1) := by decide +kernel
theorem dX7_readSum_26 : decode cX7_readSum 26 = .ok (.aload_n 0, 1) := by decide +kernel
theorem dX7_readSum_27 : decode cX7_readSum 27 = .ok (.getfield 32, 3) := by decide +kernel
theorem dX7_readSum_30 : decode cX7_readSum 30 = .ok (.invokevirtual 50, 3) := by decide +kernel
theorem dX7_readSum_33 : decode cX7_readSum 33 = .ok (.bipush 43, 2) := by decide +kernel
theorem dX7_readSum_35 : decode cX7_readSum 35 = .ok (.if_icmp .eq 6, 3) := by decide +kernel
theorem dX7_readSum_38 : decode cX7_readSum 38 = .ok (.goto 28, 3) := by decide +kernel
theorem dX7_readSum_41 : decode cX7_readSum 41 = .ok (.aload_n 0, 1) := by decide +kernel
theorem dX7_readSum_42 : decode cX7_readSum 42 = .ok (.dup, 1) := by decide +kernel
theorem dX7_readSum_43 : decode cX7_readSum 43 = .ok (.getfield 32, 3) := by decide +kernel
theorem dX7_readSum_46 : decode cX7_readSum 46 = .ok (.iconst 1, 1) := by decide +kernel
theorem dX7_readSum_47 : decode cX7_readSum 47 = .ok (.iadd, 1) := by decide +kernel
theorem dX7_readSum_48 : decode cX7_readSum 48 = .ok (.putfield 32, 3) := by decide +kernel
theorem dX7_readSum_51 : decode cX7_readSum 51 = .ok (.iload_n 3, 1) := by decide +kernel
theorem dX7_readSum_52 : decode cX7_readSum 52 = .ok (.aload_n 0, 1) := by decide +kernel
theorem dX7_readSum_53 : decode cX7_readSum 53 = .ok (.aload_n 1, 1) := by decide +kernel
theorem dX7_readSum_54 : decode cX7_readSum 54 = .ok (.iload_n 2, 1) := by decide +kernel
theorem dX7_readSum_55 : decode cX7_readSum 55 = .ok (.invokevirtual 47, 3) := by decide +kernel
theorem dX7_readSum_58 : decode cX7_readSum 58 = .ok (.ior, 1) := by decide +kernel
theorem dX7_readSum_59 : decode cX7_readSum 59 = .ok (.istore_n 3, 1) := by decide +kernel
theorem dX7_readSum_60 : decode cX7_readSum 60 = .ok (.iinc 4 1, 3) := by decide +kernel
theorem dX7_readSum_63 : decode cX7_readSum 63 = .ok (.goto (-53), 3) := by decide +kernel
theorem dX7_readSum_66 : decode cX7_readSum 66 = .ok (.iload_n 3, 1) := by decide +kernel
theorem dX7_readSum_67 : decode cX7_readSum 67 = .ok (.ireturn, 1) := by decide +kernel
def f_X7_readSum_10 (RC : Int32 → XW → Option (Int32 × XW)) (y2 : Int32) : Nat → Int32 → Int32 → XW → Option (Int32 × XW)
  | 0, _, _, _ => none
  | n + 1, z3, z4, w => (if 60 ≤ z4 then (some (z3, w)) else (if (w.1 136 3) = (-1) then (bI (f_X6_at 132 (w.1 136 2) w) (fun r2 w2 => (if r2 = 43 then (bI (f_X7_readProduct RC y2 (wset w2 136 2 ((w2.1 136 2) + 1))) (fun r3 w3 => (f_X7_readSum_10 RC y2 n (z3 ||| r3) (z4 + 1) w3))) else (some (z3, w2))))) else (some (z3, w))))
set_option maxRecDepth 100000 in
theorem S_X7_readSum_10 {g : GC} (hl : g.1.stackTraces = false) {n0 : Nat} (hn0 : 5 ≤ n0) {RC : Int32 → XW → Option (Int32 × XW)} (hRC : ∀ (x2 : Int32) (w : XW) q, RC x2 w = some q → MM g (.code yX7_readSum cX7_readSum 5 (some .int)) yX7_readSum (rmL n0 0 0) 0 0 [.ref (g.2.1 + 136), .ref (g.2.1 + 132), .int x2] w (oI q)) {y2 : Int32} : ∀ (n : Nat) (z3 : Int32) (z4 : Int32) (w : XW), VE g cX7_readSum 5 RX7 (some .int) [] (rmL (n0 + 4) 0 0) 0 0 oI 0 0 10 [(0, .ref (g.2.1 + 136)), (1, .ref (g.2.1 + 132)), (2, .int y2), (3, .int z3), (4, .int z4)] [] w (f_X7_readSum_10 RC y2 n z3 z4 w) := by
  intro n
  induction n with
  | zero => intro z3 z4 w; exact v_none
  | succ n ih =>
    intro z3 z4 w
    rw [f_X7_readSum_10]
    refine v_iload dX7_readSum_10 4 rfl ?_
    refine v_bipush (v := 60) dX7_readSum_12 (by decide) ?_
    refine v_icmp_ge (tgt := 66) dX7_readSum_14 (by decide) ?_ ?_
    · refine v_iload_n dX7_readSum_66 rfl 3 rfl ?_
      exact v_iret dX7_readSum_67 rfl rfl (by decide) (by decide)
    · refine v_aload_n dX7_readSum_17 rfl 0 rfl ?_
      refine v_getI fl_X7_35 tt_136 rfl dX7_readSum_18 ?_
      refine v_iconst (v := (-1)) dX7_readSum_21 (by decide) ?_
      refine v_icmp_ne (tgt := 66) dX7_readSum_22 (by decide) ?_ ?_
      · refine v_iload_n dX7_readSum_66 rfl 3 rfl ?_
        exact v_iret dX7_readSum_67 rfl rfl (by decide) (by decide)
      · refine v_aload_n dX7_readSum_25 rfl 1 rfl ?_
        refine v_aload_n dX7_readSum_26 rfl 0 rfl ?_
        refine v_getI fl_X7_32 tt_136 rfl dX7_readSum_27 ?_
        refine v_callVi (As := [.int (w.1 136 2)]) cv_X7_50 (S_X6_at hl is6_132) tt_132 rfl rfl rfl (Nat.le_of_ble_eq_true rfl) dX7_readSum_30 (CR_rm (by omega) (by decide) (by decide) (by decide)) (fun r2 w2 => ?_)
        refine v_bipush (v := 43) dX7_readSum_33 (by decide) ?_
        refine v_icmp_eq (tgt := 41) dX7_readSum_35 (by decide) ?_ ?_
        · refine v_aload_n dX7_readSum_41 rfl 0 rfl ?_
          refine v_dup dX7_readSum_42 rfl ?_
          refine v_getI fl_X7_32 tt_136 rfl dX7_readSum_43 ?_
          refine v_iconst (v := 1) dX7_readSum_46 (by decide) ?_
          refine v_iadd dX7_readSum_47 ?_
          refine v_putI fl_X7_32 tt_136 rfl (ty0 := .int) rfl rfl rfl dX7_readSum_48 ?_
          refine v_iload_n dX7_readSum_51 rfl 3 rfl ?_
          refine v_aload_n dX7_readSum_52 rfl 0 rfl ?_
          refine v_aload_n dX7_readSum_53 rfl 1 rfl ?_
          refine v_iload_n dX7_readSum_54 rfl 2 rfl ?_
          refine v_callVi (As := [.ref (g.2.1 + 132), .int y2]) cv_X7_47 (S_X7_readProduct hl hn0 hRC) tt_136 rfl rfl rfl (Nat.le_of_ble_eq_true rfl) dX7_readSum_55 (CR_rm (by omega) (by decide) (by decide) (by decide)) (fun r3 w3 => ?_)
          refine v_ior dX7_readSum_58 ?_
          refine v_istore_n dX7_readSum_59 rfl (Nat.le_of_ble_eq_true rfl) rfl ?_
          refine v_iinc (v := (z4 + 1)) dX7_readSum_60 (q := 4) rfl rfl (Nat.le_of_ble_eq_true rfl) rfl ?_
          refine v_goto (tgt := 10) dX7_readSum_63 (by decide) ?_
          refine v_sub [2, 3, 4, 1, 0] rfl ?_
          exact ih _ _ _
        · refine v_goto (tgt := 66) dX7_readSum_38 (by decide) ?_
          refine v_iload_n dX7_readSum_66 rfl 3 rfl ?_
          exact v_iret dX7_readSum_67 rfl rfl (by decide) (by decide)
def f_X7_readSumO (RC : Int32 → XW → Option (Int32 × XW)) (x2 : Int32) (w : XW) : Option (Int32 × XW) := (bI (f_X7_readProduct RC x2 w) (fun r1 w1 => (f_X7_readSum_10 RC x2 1000 r1 0 w1)))
set_option maxRecDepth 100000 in
theorem W_X7_readSumO {g : GC} (hl : g.1.stackTraces = false) {n0 : Nat} (hn0 : 5 ≤ n0) {RC : Int32 → XW → Option (Int32 × XW)} (hRC : ∀ (x2 : Int32) (w : XW) q, RC x2 w = some q → MM g (.code yX7_readSum cX7_readSum 5 (some .int)) yX7_readSum (rmL n0 0 0) 0 0 [.ref (g.2.1 + 136), .ref (g.2.1 + 132), .int x2] w (oI q)) {x2 : Int32} {w : XW} : VE g cX7_readSum 5 RX7 (some .int) [] (rmL (n0 + 4) 0 0) 0 0 oI 0 0 0 [(0, .ref (g.2.1 + 136)), (1, .ref (g.2.1 + 132)), (2, .int x2)] [] w (f_X7_readSumO RC x2 w) := by
  unfold f_X7_readSumO
  refine v_aload_n dX7_readSum_0 rfl 0 rfl ?_
  refine v_aload_n dX7_readSum_1 rfl 1 rfl ?_
  refine v_iload_n dX7_readSum_2 rfl 2 rfl ?_
  refine v_callVi (As := [.ref (g.2.1 + 132), .int x2]) cv_X7_47 (S_X7_readProduct hl hn0 hRC) tt_136 rfl rfl rfl (Nat.le_of_ble_eq_true rfl) dX7_readSum_3 (CR_rm (by omega) (by decide) (by decide) (by decide)) (fun r1 w1 => ?_)
  refine v_istore_n dX7_readSum_6 rfl (Nat.le_of_ble_eq_true rfl) rfl ?_
  refine v_iconst (v := 0) dX7_readSum_7 (by decide) ?_
  refine v_istore dX7_readSum_8 (Nat.le_of_ble_eq_true rfl) rfl ?_
  refine v_sub [2, 3, 4, 1, 0] rfl ?_
  exact S_X7_readSum_10 hl hn0 hRC  _ _ _ _
theorem S_X7_readSumO {g : GC} (hl : g.1.stackTraces = false) {n0 : Nat} (hn0 : 5 ≤ n0) {RC : Int32 → XW → Option (Int32 × XW)} (hRC : ∀ (x2 : Int32) (w : XW) q, RC x2 w = some q → MM g (.code yX7_readSum cX7_readSum 5 (some .int)) yX7_readSum (rmL n0 0 0) 0 0 [.ref (g.2.1 + 136), .ref (g.2.1 + 132), .int x2] w (oI q)) {x2 : Int32} {w : XW} : ∀ q, f_X7_readSumO RC x2 w = some q → MM g (.code yX7_readSum cX7_readSum 5 (some .int)) yX7_readSum (rmL (n0 + 4) 0 0) 0 0 [.ref (g.2.1 + 136), .ref (g.2.1 + 132), .int x2] w (oI q) := fun q hq => MM_of (own := RX7) hl (by decide) gw_1514 rfl (Nat.le_of_ble_eq_true rfl) (W_X7_readSumO hl hn0 hRC q hq) ⟨rfl, rfl⟩
def f_X7_readSum : Nat → Int32 → XW → Option (Int32 × XW)
  | 0, _, _ => none
  | n + 1, x2, w => f_X7_readSumO (f_X7_readSum n) x2 w
theorem S_X7_readSum {g : GC} (hl : g.1.stackTraces = false) : ∀ (n : Nat) (x2 : Int32) (w : XW) q, f_X7_readSum n x2 w = some q → MM g (.code yX7_readSum cX7_readSum 5 (some .int)) yX7_readSum (rmL (5 + 4 * n) 0 0) 0 0 [.ref (g.2.1 + 136), .ref (g.2.1 + 132), .int x2] w (oI q) := by
  intro n
  induction n with
  | zero => intro x2 w q h; cases h
  | succ n ih =>
    intro x2 w q h
    exact S_X7_readSumO hl (n0 := 5 + 4 * n) (by omega) ih q h

theorem dX7_read_0 : decode cX7_read 0 = .ok (.aload_n 0, 1) := by decide +kernel
theorem dX7_read_1 : decode cX7_read 1 = .ok (.iconst 0, 1) := by decide +kernel
theorem dX7_read_2 : decode cX7_read 2 = .ok (.putfield 32, 3) := by decide +kernel
theorem dX7_read_5 : decode cX7_read 5 = .ok (.aload_n 0, 1) := by decide +kernel
theorem dX7_read_6 : decode cX7_read 6 = .ok (.iconst (-1), 1) := by decide +kernel
theorem dX7_read_7 : decode cX7_read 7 = .ok (.putfield 35, 3) := by decide +kernel
theorem dX7_read_10 : decode cX7_read 10 = .ok (.aload_n 0, 1) := by decide +kernel
theorem dX7_read_11 : decode cX7_read 11 = .ok (.aload_n 1, 1) := by decide +kernel
theorem dX7_read_12 : decode cX7_read 12 = .ok (.iconst 0, 1) := by decide +kernel
theorem dX7_read_13 : decode cX7_read 13 = .ok (.invokevirtual 38, 3) := by decide +kernel
theorem dX7_read_16 : decode cX7_read 16 = .ok (.istore_n 2, 1) := by decide +kernel
theorem dX7_read_17 : decode cX7_read 17 = .ok (.aload_n 0, 1) := by decide +kernel
theorem dX7_read_18 : decode cX7_read 18 = .ok (.getfield 35, 3) := by decide +kernel
theorem dX7_read_21 : decode cX7_read 21 = .ok (.iconst (-1), 1) := by decide +kernel
theorem dX7_read_22 : decode cX7_read 22 = .ok (.if_icmp .ne 22, 3) := by decide +kernel
theorem dX7_read_25 : decode cX7_read 25 = .ok (.aload_n 0, 1) := by decide +kernel
theorem dX7_read_26 : decode cX7_read 26 = .ok (.getfield 32, 3) := by decide +kernel
theorem dX7_read_29 : decode cX7_read 29 = .ok (.aload_n 1, 1) := by decide +kernel
theorem dX7_read_30 : decode cX7_read 30 = .ok (.getfield 42, 3) := by decide +kernel
theorem dX7_read_33 : decode cX7_read 33 = .ok (.if_icmp .ge 11, 3) := by decide +kernel
theorem dX7_read_36 : decode cX7_read 36 = .ok (.aload_n 0, 1) := by decide +kernel
theorem dX7_read_37 : decode cX7_read 37 = .ok (.aload_n 0, 1) := by decide +kernel
theorem dX7_read_38 : decode cX7_read 38 = .ok (.getfield 32, 3) := by decide +kernel
theorem dX7_read_41 : decode cX7_read 41 = .ok (.putfield 35, 3) := by decide +kernel
theorem dX7_read_44 : decode cX7_read 44 = .ok (.iload_n 2, 1) := by decide +kernel
theorem dX7_read_45 : decode cX7_read 45 = .ok (.ireturn, 1) := by decide +kernel
def f_X7_read (w : XW) : Option (Int32 × XW) := (bI (f_X7_readSum 6 0 (wset (wset w 136 2 0) 136 3 (-1))) (fun r1 w1 => (if (w1.1 136 3) = (-1) then (if (w1.1 132 1) ≤ (w1.1 136 2) then (some (r1, w1)) else (some (r1, (wset w1 136 3 (w1.1 136 2))))) else (some (r1, w1)))))
set_option maxRecDepth 100000 in
theorem W_X7_read {g : GC} (hl : g.1.stackTraces = false) {w : XW} : VE g cX7_read 3 RX7 (some .int) [] (rmL 30 0 0) 0 0 oI 0 0 0 [(0, .ref (g.2.1 + 136)), (1, .ref (g.2.1 + 132))] [] w (f_X7_read  w) := by
  unfold f_X7_read
  refine v_aload_n dX7_read_0 rfl 0 rfl ?_
  refine v_iconst (v := 0) dX7_read_1 (by decide) ?_
  refine v_putI fl_X7_32 tt_136 rfl (ty0 := .int) rfl rfl rfl dX7_read_2 ?_
  refine v_aload_n dX7_read_5 rfl 0 rfl ?_
  refine v_iconst (v := (-1)) dX7_read_6 (by decide) ?_
  refine v_putI fl_X7_35 tt_136 rfl (ty0 := .int) rfl rfl rfl dX7_read_7 ?_
  refine v_aload_n dX7_read_10 rfl 0 rfl ?_
  refine v_aload_n dX7_read_11 rfl 1 rfl ?_
  refine v_iconst (v := 0) dX7_read_12 (by decide) ?_
  refine v_callVi (As := [.ref (g.2.1 + 132), .int 0]) cv_X7_38 (S_X7_readSum hl 6 _ _) tt_136 rfl rfl rfl (Nat.le_of_ble_eq_true rfl) dX7_read_13 (CR_rm (by decide) (by decide) (by decide) (by decide)) (fun r1 w1 => ?_)
  refine v_istore_n dX7_read_16 rfl (Nat.le_of_ble_eq_true rfl) rfl ?_
  refine v_aload_n dX7_read_17 rfl 1 rfl ?_
  refine v_getI fl_X7_35 tt_136 rfl dX7_read_18 ?_
  refine v_iconst (v := (-1)) dX7_read_21 (by decide) ?_
  refine v_icmp_ne (tgt := 44) dX7_read_22 (by decide) ?_ ?_
  · refine v_iload_n dX7_read_44 rfl 0 rfl ?_
    exact v_iret dX7_read_45 rfl rfl (by decide) (by decide)
  · refine v_aload_n dX7_read_25 rfl 1 rfl ?_
    refine v_getI fl_X7_32 tt_136 rfl dX7_read_26 ?_
    refine v_aload_n dX7_read_29 rfl 2 rfl ?_
    refine v_getI fl_X7_42 tt_132 rfl dX7_read_30 ?_
    refine v_icmp_ge (tgt := 44) dX7_read_33 (by decide) ?_ ?_
    · refine v_iload_n dX7_read_44 rfl 0 rfl ?_
      exact v_iret dX7_read_45 rfl rfl (by decide) (by decide)
    · refine v_aload_n dX7_read_36 rfl 1 rfl ?_
      refine v_aload_n dX7_read_37 rfl 1 rfl ?_
      refine v_getI fl_X7_32 tt_136 rfl dX7_read_38 ?_
      refine v_putI fl_X7_35 tt_136 rfl (ty0 := .int) rfl rfl rfl dX7_read_41 ?_
      refine v_iload_n dX7_read_44 rfl 0 rfl ?_
      exact v_iret dX7_read_45 rfl rfl (by decide) (by decide)
theorem S_X7_read {g : GC} (hl : g.1.stackTraces = false) {w : XW} : ∀ q, f_X7_read  w = some q → MM g (.code yX7_read cX7_read 3 (some .int)) yX7_read (rmL 30 0 0) 0 0 [.ref (g.2.1 + 136), .ref (g.2.1 + 132)] w (oI q) := fun q hq => MM_of (own := RX7) hl (by decide) gw_1510 rfl (Nat.le_of_ble_eq_true rfl) (W_X7_read hl q hq) ⟨rfl, rfl⟩
