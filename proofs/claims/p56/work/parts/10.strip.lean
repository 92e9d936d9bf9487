theorem dX9_isTerm_0 : decode cX9_isTerm 0 = .ok (.iload_n 0, 1) := by decide +kernel
theorem dX9_isTerm_1 : decode cX9_isTerm 1 = .ok (.bipush 97, 2) := by decide +kernel
theorem dX9_isTerm_3 : decode cX9_isTerm 3 = .ok (.if_icmp .lt 13, 3) := by decide +kernel
theorem dX9_isTerm_6 : decode cX9_isTerm 6 = .ok (.iload_n 0, 1) := by decide +kernel
theorem dX9_isTerm_7 : decode cX9_isTerm 7 = .ok (.bipush 104, 2) := by decide +kernel
theorem dX9_isTerm_9 : decode cX9_isTerm 9 = .ok (.if_icmp .gt 7, 3) := by decide +kernel
theorem dX9_isTerm_12 : decode cX9_isTerm 12 = .ok (.iconst 1, 1) := by decide +kernel
theorem dX9_isTerm_13 : decode cX9_isTerm 13 = .ok (.goto 4, 3) := by decide +kernel
theorem dX9_isTerm_16 : decode cX9_isTerm 16 = .ok (.iconst 0, 1) := by decide +kernel
theorem dX9_isTerm_17 : decode cX9_isTerm 17 = .ok (.ireturn, 1) := by decide +kernel
def f_X9_isTerm (x0 : Int32) (w : XW) : Option (Int32 × XW) := (if x0 < 97 then (some (0, w)) else (if 104 < x0 then (some (0, w)) else (some (1, w))))
set_option maxRecDepth 100000 in
theorem W_X9_isTerm {g : GC} (hl : g.1.stackTraces = false) {x0 : Int32} {w : XW} : VE g cX9_isTerm 1 RX9 (some .boolean) [] (rmL 3 0 0) 0 0 oI 0 0 0 [(0, .int x0)] [] w (f_X9_isTerm x0 w) := by
  unfold f_X9_isTerm
  refine v_iload_n dX9_isTerm_0 rfl 0 rfl ?_
  refine v_bipush (v := 97) dX9_isTerm_1 (by decide) ?_
  refine v_icmp_lt (tgt := 16) dX9_isTerm_3 (by decide) ?_ ?_
  · refine v_iconst (v := 0) dX9_isTerm_16 (by decide) ?_
    exact v_zret dX9_isTerm_17 rfl rfl rfl (by decide) (by decide)
  · refine v_iload_n dX9_isTerm_6 rfl 0 rfl ?_
    refine v_bipush (v := 104) dX9_isTerm_7 (by decide) ?_
    refine v_icmp_gt (tgt := 16) dX9_isTerm_9 (by decide) ?_ ?_
    · refine v_iconst (v := 0) dX9_isTerm_16 (by decide) ?_
      exact v_zret dX9_isTerm_17 rfl rfl rfl (by decide) (by decide)
    · refine v_iconst (v := 1) dX9_isTerm_12 (by decide) ?_
      refine v_goto (tgt := 17) dX9_isTerm_13 (by decide) ?_
      exact v_zret dX9_isTerm_17 rfl rfl rfl (by decide) (by decide)
theorem S_X9_isTerm {g : GC} (hl : g.1.stackTraces = false) {x0 : Int32} {w : XW} : ∀ q, f_X9_isTerm x0 w = some q → MM g (.code yX9_isTerm cX9_isTerm 1 (some .boolean)) yX9_isTerm (rmL 3 0 0) 0 0 [.int x0] w (oI q) := fun q hq => MM_of (own := RX9) hl (by decide) gw_733 rfl (Nat.le_of_ble_eq_true rfl) (W_X9_isTerm hl q hq) ⟨rfl, rfl⟩

theorem dX9_copyFrom_0 : decode cX9_copyFrom 0 = .ok (.aload_n 0, 1) := by decide +kernel
theorem dX9_copyFrom_1 : decode cX9_copyFrom 1 = .ok (.aload_n 1, 1) := by decide +kernel
theorem dX9_copyFrom_2 : decode cX9_copyFrom 2 = .ok (.getfield 18, 3) := by decide +kernel
theorem dX9_copyFrom_5 : decode cX9_copyFrom 5 = .ok (.putfield 18, 3) := by decide +kernel
theorem dX9_copyFrom_8 : decode cX9_copyFrom 8 = .ok (.aload_n 0, 1) := by decide +kernel
theorem dX9_copyFrom_9 : decode cX9_copyFrom 9 = .ok (.aload_n 1, 1) := by decide +kernel
theorem dX9_copyFrom_10 : decode cX9_copyFrom 10 = .ok (.getfield 22, 3) := by decide +kernel
theorem dX9_copyFrom_13 : decode cX9_copyFrom 13 = .ok (.putfield 22, 3) := by decide +kernel
theorem dX9_copyFrom_16 : decode cX9_copyFrom 16 = .ok (.aload_n 0, 1) := by decide +kernel
theorem dX9_copyFrom_17 : decode cX9_copyFrom 17 = .ok (.aload_n 1, 1) := by decide +kernel
theorem dX9_copyFrom_18 : decode cX9_copyFrom 18 = .ok (.getfield 25, 3) := by decide +kernel
theorem dX9_copyFrom_21 : decode cX9_copyFrom 21 = .ok (.putfield 25, 3) := by decide +kernel
theorem dX9_copyFrom_24 : decode cX9_copyFrom 24 = .ok (.aload_n 1, 1) := by decide +kernel
theorem dX9_copyFrom_25 : decode cX9_copyFrom 25 = .ok (.getfield 9, 3) := by decide +kernel
theorem dX9_copyFrom_28 : decode cX9_copyFrom 28 = .ok (.iconst 0, 1) := by decide +kernel
theorem dX9_copyFrom_29 : decode cX9_copyFrom 29 = .ok (.aload_n 0, 1) := by decide +kernel
theorem dX9_copyFrom_30 : decode cX9_copyFrom 30 = .ok (.getfield 9, 3) := by decide +kernel
theorem dX9_copyFrom_33 : decode cX9_copyFrom 33 = .ok (.iconst 0, 1) := by decide +kernel
theorem dX9_copyFrom_34 : decode cX9_copyFrom 34 = .ok (.bipush 7, 2) := by decide +kernel
theorem dX9_copyFrom_36 : decode cX9_copyFrom 36 = .ok (.invokestatic 28, 3) := by decide +kernel
theorem dX9_copyFrom_39 : decode cX9_copyFrom 39 = .ok (.aload_n 1, 1) := by decide +kernel
theorem dX9_copyFrom_40 : decode cX9_copyFrom 40 = .ok (.getfield 15, 3) := by decide +kernel
theorem dX9_copyFrom_43 : decode cX9_copyFrom 43 = .ok (.iconst 0, 1) := by decide +kernel
theorem dX9_copyFrom_44 : decode cX9_copyFrom 44 = .ok (.aload_n 0, 1) := by decide +kernel
theorem dX9_copyFrom_45 : decode cX9_copyFrom 45 = .ok (.getfield 15, 3) := by decide +kernel
theorem dX9_copyFrom_48 : decode cX9_copyFrom 48 = .ok (.iconst 0, 1) := by decide +kernel
theorem dX9_copyFrom_49 : decode cX9_copyFrom 49 = .ok (.bipush 7, 2) := by decide +kernel
theorem dX9_copyFrom_51 : decode cX9_copyFrom 51 = .ok (.invokestatic 28, 3) := by decide +kernel
theorem dX9_copyFrom_54 : decode cX9_copyFrom 54 = .ok (.return_, 1) := by decide +kernel
def f_X9_copyFrom (k : Nat) (k1 : Nat) (w : XW) : Option (XW) := (some (wcpy (wcpy (wset (wset (wset w k 0 (w.1 k1 0)) k 1 ((wset w k 0 (w.1 k1 0)).1 k1 1)) k 2 ((wset (wset w k 0 (w.1 k1 0)) k 1 ((wset w k 0 (w.1 k1 0)).1 k1 1)).1 k1 2)) (k1 + 1) (Int32.toNatClampNeg 0) (k + 1) (Int32.toNatClampNeg 0) (Int32.toNatClampNeg 7)) (k1 + 2) (Int32.toNatClampNeg 0) (k + 2) (Int32.toNatClampNeg 0) (Int32.toNatClampNeg 7)))
set_option maxRecDepth 100000 in
theorem W_X9_copyFrom {g : GC} (hl : g.1.stackTraces = false) {k : Nat} (hk : isX9 k) {k1 : Nat} (hk1 : isX9 k1) {w : XW} : VE g cX9_copyFrom 2 RX9 none [] (rmL 5 0 0) 0 0 oV 0 0 0 [(0, .ref (g.2.1 + k)), (1, .ref (g.2.1 + k1))] [] w (f_X9_copyFrom k k1 w) := by
  unfold f_X9_copyFrom
  refine v_aload_n dX9_copyFrom_0 rfl 0 rfl ?_
  refine v_aload_n dX9_copyFrom_1 rfl 1 rfl ?_
  refine v_getI fl_X9_18 hk1.1 rfl dX9_copyFrom_2 ?_
  refine v_putI fl_X9_18 hk.1 rfl (ty0 := .int) rfl rfl rfl dX9_copyFrom_5 ?_
  refine v_aload_n dX9_copyFrom_8 rfl 0 rfl ?_
  refine v_aload_n dX9_copyFrom_9 rfl 1 rfl ?_
  refine v_getI fl_X9_22 hk1.1 rfl dX9_copyFrom_10 ?_
  refine v_putI fl_X9_22 hk.1 rfl (ty0 := .int) rfl rfl rfl dX9_copyFrom_13 ?_
  refine v_aload_n dX9_copyFrom_16 rfl 0 rfl ?_
  refine v_aload_n dX9_copyFrom_17 rfl 1 rfl ?_
  refine v_getI fl_X9_25 hk1.1 rfl dX9_copyFrom_18 ?_
  refine v_putI fl_X9_25 hk.1 rfl (ty0 := .int) rfl rfl rfl dX9_copyFrom_21 ?_
  refine v_aload_n dX9_copyFrom_24 rfl 1 rfl ?_
  refine v_getR fl_X9_9 hk1.1 rfl dX9_copyFrom_25 ?_
  refine v_iconst (v := 0) dX9_copyFrom_28 (by decide) ?_
  refine v_aload_n dX9_copyFrom_29 rfl 0 rfl ?_
  refine v_getR fl_X9_9 hk.1 rfl dX9_copyFrom_30 ?_
  refine v_iconst (v := 0) dX9_copyFrom_33 (by decide) ?_
  refine v_bipush (v := 7) dX9_copyFrom_34 (by decide) ?_
  refine v_copy (ty := .int) hk1.2.1 hk.2.1 (Or.inl rfl) rfl rfl gw_781 gw_783 gw_782 gw_68 (by decide) (by decide) (by decide) (by decide) (by decide) (fun _ _ => rfl) (CR_f1 _ _ _) (CR_f3 (Nat.le_of_ble_eq_true rfl) _ _ _) dX9_copyFrom_36 ?_
  refine v_aload_n dX9_copyFrom_39 rfl 1 rfl ?_
  refine v_getR fl_X9_15 hk1.1 rfl dX9_copyFrom_40 ?_
  refine v_iconst (v := 0) dX9_copyFrom_43 (by decide) ?_
  refine v_aload_n dX9_copyFrom_44 rfl 0 rfl ?_
  refine v_getR fl_X9_15 hk.1 rfl dX9_copyFrom_45 ?_
  refine v_iconst (v := 0) dX9_copyFrom_48 (by decide) ?_
  refine v_bipush (v := 7) dX9_copyFrom_49 (by decide) ?_
  refine v_copy (ty := .int) hk1.2.2 hk.2.2 (Or.inl rfl) rfl rfl gw_781 gw_783 gw_782 gw_68 (by decide) (by decide) (by decide) (by decide) (by decide) (fun _ _ => rfl) (CR_f1 _ _ _) (CR_f3 (Nat.le_of_ble_eq_true rfl) _ _ _) dX9_copyFrom_51 ?_
  exact v_vret dX9_copyFrom_54 rfl rfl (by decide) (by decide)
theorem S_X9_copyFrom {g : GC} (hl : g.1.stackTraces = false) {k : Nat} (hk : isX9 k) {k1 : Nat} (hk1 : isX9 k1) {w : XW} : ∀ q, f_X9_copyFrom k k1 w = some q → MM g (.code yX9_copyFrom cX9_copyFrom 2 none) yX9_copyFrom (rmL 5 0 0) 0 0 [.ref (g.2.1 + k), .ref (g.2.1 + k1)] w (oV q) := fun q hq => MM_of (own := RX9) hl (by decide) gw_780 rfl (Nat.le_of_ble_eq_true rfl) (W_X9_copyFrom hl hk hk1 q hq) ⟨rfl, rfl⟩

theorem dX9_has_0 : decode cX9_has 0 = .ok (.iload_n 1, 1) := by decide +kernel
theorem dX9_has_1 : decode cX9_has 1 = .ok (.ifCond .lt 15, 3) := by decide +kernel
theorem dX9_has_4 : decode cX9_has 4 = .ok (.iload_n 1, 1) := by decide +kernel
theorem dX9_has_5 : decode cX9_has 5 = .ok (.aload_n 0, 1) := by decide +kernel
theorem dX9_has_6 : decode cX9_has 6 = .ok (.getfield 18, 3) := by decide +kernel
theorem dX9_has_9 : decode cX9_has 9 = .ok (.if_icmp .ge 7, 3) := by decide +kernel
theorem dX9_has_12 : decode cX9_has 12 = .ok (.iconst 1, 1) := by decide +kernel
theorem dX9_has_13 : decode cX9_has 13 = .ok (.goto 4, 3) := by decide +kernel
theorem dX9_has_16 : decode cX9_has 16 = .ok (.iconst 0, 1) := by decide +kernel
theorem dX9_has_17 : decode cX9_has 17 = .ok (.ireturn, 1) := by decide +kernel
def f_X9_has (k : Nat) (x1 : Int32) (w : XW) : Option (Int32 × XW) := (if x1 < 0 then (some (0, w)) else (if (w.1 k 0) ≤ x1 then (some (0, w)) else (some (1, w))))
set_option maxRecDepth 100000 in
theorem W_X9_has {g : GC} (hl : g.1.stackTraces = false) {k : Nat} (hk : isX9 k) {x1 : Int32} {w : XW} : VE g cX9_has 2 RX9 (some .boolean) [] (rmL 3 0 0) 0 0 oI 0 0 0 [(0, .ref (g.2.1 + k)), (1, .int x1)] [] w (f_X9_has k x1 w) := by
  unfold f_X9_has
  refine v_iload_n dX9_has_0 rfl 1 rfl ?_
  refine v_if_lt (tgt := 16) dX9_has_1 (by decide) ?_ ?_
  · refine v_iconst (v := 0) dX9_has_16 (by decide) ?_
    exact v_zret dX9_has_17 rfl rfl rfl (by decide) (by decide)
  · refine v_iload_n dX9_has_4 rfl 1 rfl ?_
    refine v_aload_n dX9_has_5 rfl 0 rfl ?_
    refine v_getI fl_X9_18 hk.1 rfl dX9_has_6 ?_
    refine v_icmp_ge (tgt := 16) dX9_has_9 (by decide) ?_ ?_
    · refine v_iconst (v := 0) dX9_has_16 (by decide) ?_
      exact v_zret dX9_has_17 rfl rfl rfl (by decide) (by decide)
    · refine v_iconst (v := 1) dX9_has_12 (by decide) ?_
      refine v_goto (tgt := 17) dX9_has_13 (by decide) ?_
      exact v_zret dX9_has_17 rfl rfl rfl (by decide) (by decide)
theorem S_X9_has {g : GC} (hl : g.1.stackTraces = false) {k : Nat} (hk : isX9 k) {x1 : Int32} {w : XW} : ∀ q, f_X9_has k x1 w = some q → MM g (.code yX9_has cX9_has 2 (some .boolean)) yX9_has (rmL 3 0 0) 0 0 [.ref (g.2.1 + k), .int x1] w (oI q) := fun q hq => MM_of (own := RX9) hl (by decide) gw_460 rfl (Nat.le_of_ble_eq_true rfl) (W_X9_has hl hk q hq) ⟨rfl, rfl⟩

theorem dX9_bitOf_0 : decode cX9_bitOf 0 = .ok (.iload_n 0, 1) := by decide +kernel
theorem dX9_bitOf_1 : decode cX9_bitOf 1 = .ok (.invokestatic 34, 3) := by decide +kernel
theorem dX9_bitOf_4 : decode cX9_bitOf 4 = .ok (.ifCond .eq 12, 3) := by decide +kernel
theorem dX9_bitOf_7 : decode cX9_bitOf 7 = .ok (.iconst 1, 1) := by decide +kernel
theorem dX9_bitOf_8 : decode cX9_bitOf 8 = .ok (.iload_n 0, 1) := by decide +kernel
theorem dX9_bitOf_9 : decode cX9_bitOf 9 = .ok (.bipush 97, 2) := by decide +kernel
theorem dX9_bitOf_11 : decode cX9_bitOf 11 = .ok (.isub, 1) := by decide +kernel
theorem dX9_bitOf_12 : decode cX9_bitOf 12 = .ok (.ishl, 1) := by decide +kernel
theorem dX9_bitOf_13 : decode cX9_bitOf 13 = .ok (.goto 4, 3) := by decide +kernel
theorem dX9_bitOf_16 : decode cX9_bitOf 16 = .ok (.iconst 0, 1) := by decide +kernel
theorem dX9_bitOf_17 : decode cX9_bitOf 17 = .ok (.ireturn, 1) := by decide +kernel
def f_X9_bitOf (x0 : Int32) (w : XW) : Option (Int32 × XW) := (bI (f_X9_isTerm x0 w) (fun r1 w1 => (if r1 = 0 then (some (0, w1)) else (some ((1 <<< ((x0 - 97) &&& 31)), w1)))))
set_option maxRecDepth 100000 in
theorem W_X9_bitOf {g : GC} (hl : g.1.stackTraces = false) {x0 : Int32} {w : XW} : VE g cX9_bitOf 1 RX9 (some .int) [] (rmL 4 0 0) 0 0 oI 0 0 0 [(0, .int x0)] [] w (f_X9_bitOf x0 w) := by
  unfold f_X9_bitOf
  refine v_iload_n dX9_bitOf_0 rfl 0 rfl ?_
  refine v_callSi (As := [.int x0]) cs_X9_34 (S_X9_isTerm hl) rfl rfl (Nat.le_of_ble_eq_true rfl) dX9_bitOf_1 (CR_rm (by decide) (by decide) (by decide) (by decide)) (fun r1 w1 => ?_)
  refine v_if_eq (tgt := 16) dX9_bitOf_4 (by decide) ?_ ?_
  · refine v_iconst (v := 0) dX9_bitOf_16 (by decide) ?_
    exact v_iret dX9_bitOf_17 rfl rfl (by decide) (by decide)
  · refine v_iconst (v := 1) dX9_bitOf_7 (by decide) ?_
    refine v_iload_n dX9_bitOf_8 rfl 0 rfl ?_
    refine v_bipush (v := 97) dX9_bitOf_9 (by decide) ?_
    refine v_isub dX9_bitOf_11 ?_
    refine v_ishl dX9_bitOf_12 ?_
    refine v_goto (tgt := 17) dX9_bitOf_13 (by decide) ?_
    exact v_iret dX9_bitOf_17 rfl rfl (by decide) (by decide)
theorem S_X9_bitOf {g : GC} (hl : g.1.stackTraces = false) {x0 : Int32} {w : XW} : ∀ q, f_X9_bitOf x0 w = some q → MM g (.code yX9_bitOf cX9_bitOf 1 (some .int)) yX9_bitOf (rmL 4 0 0) 0 0 [.int x0] w (oI q) := fun q hq => MM_of (own := RX9) hl (by decide) gw_740 rfl (Nat.le_of_ble_eq_true rfl) (W_X9_bitOf hl q hq) ⟨rfl, rfl⟩

theorem dX9_bears_0 : decode cX9_bears 0 = .ok (.aload_n 0, 1) := by decide +kernel
theorem dX9_bears_1 : decode cX9_bears 1 = .ok (.iload_n 1, 1) := by decide +kernel
theorem dX9_bears_2 : decode cX9_bears 2 = .ok (.invokevirtual 38, 3) := by decide +kernel
theorem dX9_bears_5 : decode cX9_bears 5 = .ok (.ifCond .eq 21, 3) := by decide +kernel
theorem dX9_bears_8 : decode cX9_bears 8 = .ok (.aload_n 0, 1) := by decide +kernel
theorem dX9_bears_9 : decode cX9_bears 9 = .ok (.getfield 15, 3) := by decide +kernel
theorem dX9_bears_12 : decode cX9_bears 12 = .ok (.iload_n 1, 1) := by decide +kernel
theorem dX9_bears_13 : decode cX9_bears 13 = .ok (.iaload, 1) := by decide +kernel
theorem dX9_bears_14 : decode cX9_bears 14 = .ok (.iload_n 2, 1) := by decide +kernel
theorem dX9_bears_15 : decode cX9_bears 15 = .ok (.invokestatic 47, 3) := by decide +kernel
theorem dX9_bears_18 : decode cX9_bears 18 = .ok (.iand, 1) := by decide +kernel
theorem dX9_bears_19 : decode cX9_bears 19 = .ok (.ifCond .eq 7, 3) := by decide +kernel
theorem dX9_bears_22 : decode cX9_bears 22 = .ok (.iconst 1, 1) := by decide +kernel
theorem dX9_bears_23 : decode cX9_bears 23 = .ok (.goto 4, 3) := by decide +kernel
theorem dX9_bears_26 : decode cX9_bears 26 = .ok (.iconst 0, 1) := by decide +kernel
theorem dX9_bears_27 : decode cX9_bears 27 = .ok (.ireturn, 1) := by decide +kernel
def f_X9_bears (k : Nat) (x1 : Int32) (x2 : Int32) (w : XW) : Option (Int32 × XW) := (bI (f_X9_has k x1 w) (fun r1 w1 => (if r1 = 0 then (some (0, w1)) else (if inB x1 7 then (bI (f_X9_bitOf x2 w1) (fun r3 w3 => (if ((w1.1 (k + 2) (Int32.toNatClampNeg x1)) &&& r3) = 0 then (some (0, w3)) else (some (1, w3))))) else none))))
set_option maxRecDepth 100000 in
theorem W_X9_bears {g : GC} (hl : g.1.stackTraces = false) {k : Nat} (hk : isX9 k) {x1 : Int32} {x2 : Int32} {w : XW} : VE g cX9_bears 3 RX9 (some .boolean) [] (rmL 5 0 0) 0 0 oI 0 0 0 [(0, .ref (g.2.1 + k)), (1, .int x1), (2, .int x2)] [] w (f_X9_bears k x1 x2 w) := by
  unfold f_X9_bears
  refine v_aload_n dX9_bears_0 rfl 0 rfl ?_
  refine v_iload_n dX9_bears_1 rfl 1 rfl ?_
  refine v_callVi (As := [.int x1]) cv_X9_38 (S_X9_has hl hk) hk.1 rfl rfl rfl (Nat.le_of_ble_eq_true rfl) dX9_bears_2 (CR_rm (by decide) (by decide) (by decide) (by decide)) (fun r1 w1 => ?_)
  refine v_if_eq (tgt := 26) dX9_bears_5 (by decide) ?_ ?_
  · refine v_iconst (v := 0) dX9_bears_26 (by decide) ?_
    exact v_zret dX9_bears_27 rfl rfl rfl (by decide) (by decide)
  · refine v_aload_n dX9_bears_8 rfl 0 rfl ?_
    refine v_getR fl_X9_15 hk.1 rfl dX9_bears_9 ?_
    refine v_iload_n dX9_bears_12 rfl 1 rfl ?_
    refine v_guard (fun h2 => ?_)
    refine v_iald hk.2.2 h2 dX9_bears_13 ?_
    refine v_iload_n dX9_bears_14 rfl 2 rfl ?_
    refine v_callSi (As := [.int x2]) cs_X9_47 (S_X9_bitOf hl) rfl rfl (Nat.le_of_ble_eq_true rfl) dX9_bears_15 (CR_rm (by decide) (by decide) (by decide) (by decide)) (fun r3 w3 => ?_)
    refine v_iand dX9_bears_18 ?_
    refine v_if_eq (tgt := 26) dX9_bears_19 (by decide) ?_ ?_
    · refine v_iconst (v := 0) dX9_bears_26 (by decide) ?_
      exact v_zret dX9_bears_27 rfl rfl rfl (by decide) (by decide)
    · refine v_iconst (v := 1) dX9_bears_22 (by decide) ?_
      refine v_goto (tgt := 27) dX9_bears_23 (by decide) ?_
      exact v_zret dX9_bears_27 rfl rfl rfl (by decide) (by decide)
theorem S_X9_bears {g : GC} (hl : g.1.stackTraces = false) {k : Nat} (hk : isX9 k) {x1 : Int32} {x2 : Int32} {w : XW} : ∀ q, f_X9_bears k x1 x2 w = some q → MM g (.code yX9_bears cX9_bears 3 (some .boolean)) yX9_bears (rmL 5 0 0) 0 0 [.ref (g.2.1 + k), .int x1, .int x2] w (oI q) := fun q hq => MM_of (own := RX9) hl (by decide) gw_737 rfl (Nat.le_of_ble_eq_true rfl) (W_X9_bears hl hk q hq) ⟨rfl, rfl⟩

theorem dX9_bearersOf_0 : decode cX9_bearersOf 0 = .ok (.iconst 0, 1) := by decide +kernel
theorem dX9_bearersOf_1 : decode cX9_bearersOf 1 = .ok (.istore_n 2, 1) := by decide +kernel
theorem dX9_bearersOf_2 : decode cX9_bearersOf 2 = .ok (.iconst 0, 1) := by decide +kernel
theorem dX9_bearersOf_3 : decode cX9_bearersOf 3 = .ok (.istore_n 3, 1) := by decide +kernel
theorem dX9_bearersOf_4 : decode cX9_bearersOf 4 = .ok (.iload_n 3, 1) := by decide +kernel
theorem dX9_bearersOf_5 : decode cX9_bearersOf 5 = .ok (.aload_n 0, 1) := by decide +kernel
theorem dX9_bearersOf_6 : decode cX9_bearersOf 6 = .ok (.getfield 18, 3) := by decide +kernel
theorem dX9_bearersOf_9 : decode cX9_bearersOf 9 = .ok (.if_icmp .ge 24, 3) := by decide +kernel
theorem dX9_bearersOf_12 : decode cX9_bearersOf 12 = .ok (.aload_n 0, 1) := by decide +kernel
theorem dX9_bearersOf_13 : decode cX9_bearersOf 13 = .ok (.iload_n 3, 1) := by decide +kernel
theorem dX9_bearersOf_14 : decode cX9_bearersOf 14 = .ok (.iload_n 1, 1) := by decide +kernel
theorem dX9_bearersOf_15 : decode cX9_bearersOf 15 = .ok (.invokevirtual 50, 3) := by decide +kernel
theorem dX9_bearersOf_18 : decode cX9_bearersOf 18 = .ok (.ifCond .eq 9, 3) := by decide +kernel
theorem dX9_bearersOf_21 : decode cX9_bearersOf 21 = .ok (.iload_n 2, 1) := by decide +kernel
theorem dX9_bearersOf_22 : decode cX9_bearersOf 22 = .ok (.iconst 1, 1) := by decide +kernel
theorem dX9_bearersOf_23 : decode cX9_bearersOf 23 = .ok (.iload_n 3, 1) := by decide +kernel
theorem dX9_bearersOf_24 : decode cX9_bearersOf 24 = .ok (.ishl, 1) := by decide +kernel
theorem dX9_bearersOf_25 : decode cX9_bearersOf 25 = .ok (.ior, 1) := by decide +kernel
theorem dX9_bearersOf_26 : decode cX9_bearersOf 26 = .ok (.istore_n 2, 1) := by decide +kernel
theorem dX9_bearersOf_27 : decode cX9_bearersOf 27 = .ok (.iinc 3 1, 3) := by decide +kernel
theorem dX9_bearersOf_30 : decode cX9_bearersOf 30 = .ok (.goto (-26), 3) := by decide +kernel
theorem dX9_bearersOf_33 : decode cX9_bearersOf 33 = .ok (.iload_n 2, 1) := by decide +kernel
theorem dX9_bearersOf_34 : decode cX9_bearersOf 34 = .ok (.ireturn, 1) := by decide +kernel
def f_X9_bearersOf_4 (k : Nat) (y1 : Int32) : Nat → Int32 → Int32 → XW → Option (Int32 × XW)
  | 0, _, _, _ => none
  | n + 1, z2, z3, w => (if (w.1 k 0) ≤ z3 then (some (z2, w)) else (bI (f_X9_bears k z3 y1 w) (fun r1 w1 => (if r1 = 0 then (f_X9_bearersOf_4 k y1 n z2 (z3 + 1) w1) else (f_X9_bearersOf_4 k y1 n (z2 ||| (1 <<< (z3 &&& 31))) (z3 + 1) w1)))))
set_option maxRecDepth 100000 in
theorem S_X9_bearersOf_4 {g : GC} (hl : g.1.stackTraces = false) {k : Nat} (hk : isX9 k) {y1 : Int32} : ∀ (n : Nat) (z2 : Int32) (z3 : Int32) (w : XW), VE g cX9_bearersOf 4 RX9 (some .int) [] (rmL 6 0 0) 0 0 oI 0 0 4 [(0, .ref (g.2.1 + k)), (1, .int y1), (2, .int z2), (3, .int z3)] [] w (f_X9_bearersOf_4 k y1 n z2 z3 w) := by
  intro n
  induction n with
  | zero => intro z2 z3 w; exact v_none
  | succ n ih =>
    intro z2 z3 w
    rw [f_X9_bearersOf_4]
    refine v_iload_n dX9_bearersOf_4 rfl 3 rfl ?_
    refine v_aload_n dX9_bearersOf_5 rfl 0 rfl ?_
    refine v_getI fl_X9_18 hk.1 rfl dX9_bearersOf_6 ?_
    refine v_icmp_ge (tgt := 33) dX9_bearersOf_9 (by decide) ?_ ?_
    · refine v_iload_n dX9_bearersOf_33 rfl 2 rfl ?_
      exact v_iret dX9_bearersOf_34 rfl rfl (by decide) (by decide)
    · refine v_aload_n dX9_bearersOf_12 rfl 0 rfl ?_
      refine v_iload_n dX9_bearersOf_13 rfl 3 rfl ?_
      refine v_iload_n dX9_bearersOf_14 rfl 1 rfl ?_
      refine v_callVi (As := [.int z3, .int y1]) cv_X9_50 (S_X9_bears hl hk) hk.1 rfl rfl rfl (Nat.le_of_ble_eq_true rfl) dX9_bearersOf_15 (CR_rm (by decide) (by decide) (by decide) (by decide)) (fun r1 w1 => ?_)
      refine v_if_eq (tgt := 27) dX9_bearersOf_18 (by decide) ?_ ?_
      · refine v_iinc (v := (z3 + 1)) dX9_bearersOf_27 (q := 3) rfl rfl (Nat.le_of_ble_eq_true rfl) rfl ?_
        refine v_goto (tgt := 4) dX9_bearersOf_30 (by decide) ?_
        refine v_sub [1, 2, 3, 0] rfl ?_
        exact ih _ _ _
      · refine v_iload_n dX9_bearersOf_21 rfl 2 rfl ?_
        refine v_iconst (v := 1) dX9_bearersOf_22 (by decide) ?_
        refine v_iload_n dX9_bearersOf_23 rfl 3 rfl ?_
        refine v_ishl dX9_bearersOf_24 ?_
        refine v_ior dX9_bearersOf_25 ?_
        refine v_istore_n dX9_bearersOf_26 rfl (Nat.le_of_ble_eq_true rfl) rfl ?_
        refine v_iinc (v := (z3 + 1)) dX9_bearersOf_27 (q := 3) rfl rfl (Nat.le_of_ble_eq_true rfl) rfl ?_
        refine v_goto (tgt := 4) dX9_bearersOf_30 (by decide) ?_
        refine v_sub [2, 3, 1, 0] rfl ?_
        exact ih _ _ _
def f_X9_bearersOf (k : Nat) (x1 : Int32) (w : XW) : Option (Int32 × XW) := (f_X9_bearersOf_4 k x1 1000 0 0 w)
set_option maxRecDepth 100000 in
theorem W_X9_bearersOf {g : GC} (hl : g.1.stackTraces = false) {k : Nat} (hk : isX9 k) {x1 : Int32} {w : XW} : VE g cX9_bearersOf 4 RX9 (some .int) [] (rmL 6 0 0) 0 0 oI 0 0 0 [(0, .ref (g.2.1 + k)), (1, .int x1)] [] w (f_X9_bearersOf k x1 w) := by
  unfold f_X9_bearersOf
  refine v_iconst (v := 0) dX9_bearersOf_0 (by decide) ?_
  refine v_istore_n dX9_bearersOf_1 rfl (Nat.le_of_ble_eq_true rfl) rfl ?_
  refine v_iconst (v := 0) dX9_bearersOf_2 (by decide) ?_
  refine v_istore_n dX9_bearersOf_3 rfl (Nat.le_of_ble_eq_true rfl) rfl ?_
  refine v_sub [2, 3, 1, 0] rfl ?_
  exact S_X9_bearersOf_4 hl hk  _ _ _ _
theorem S_X9_bearersOf {g : GC} (hl : g.1.stackTraces = false) {k : Nat} (hk : isX9 k) {x1 : Int32} {w : XW} : ∀ q, f_X9_bearersOf k x1 w = some q → MM g (.code yX9_bearersOf cX9_bearersOf 4 (some .int)) yX9_bearersOf (rmL 6 0 0) 0 0 [.ref (g.2.1 + k), .int x1] w (oI q) := fun q hq => MM_of (own := RX9) hl (by decide) gw_1505 rfl (Nat.le_of_ble_eq_true rfl) (W_X9_bearersOf hl hk q hq) ⟨rfl, rfl⟩

theorem dX9_waterOf_0 : decode cX9_waterOf 0 = .ok (.aload_n 0, 1) := by decide +kernel
theorem dX9_waterOf_1 : decode cX9_waterOf 1 = .ok (.iload_n 1, 1) := by decide +kernel
theorem dX9_waterOf_2 : decode cX9_waterOf 2 = .ok (.invokevirtual 38, 3) := by decide +kernel
theorem dX9_waterOf_5 : decode cX9_waterOf 5 = .ok (.ifCond .eq 12, 3) := by decide +kernel
theorem dX9_waterOf_8 : decode cX9_waterOf 8 = .ok (.aload_n 0, 1) := by decide +kernel
theorem dX9_waterOf_9 : decode cX9_waterOf 9 = .ok (.getfield 9, 3) := by decide +kernel
theorem dX9_waterOf_12 : decode cX9_waterOf 12 = .ok (.iload_n 1, 1) := by decide +kernel
theorem dX9_waterOf_13 : decode cX9_waterOf 13 = .ok (.iaload, 1) := by decide +kernel
theorem dX9_waterOf_14 : decode cX9_waterOf 14 = .ok (.goto 4, 3) := by decide +kernel
theorem dX9_waterOf_17 : decode cX9_waterOf 17 = .ok (.iconst 0, 1) := by decide +kernel
theorem dX9_waterOf_18 : decode cX9_waterOf 18 = .ok (.ireturn, 1) := by decide +kernel
def f_X9_waterOf (k : Nat) (x1 : Int32) (w : XW) : Option (Int32 × XW) := (bI (f_X9_has k x1 w) (fun r1 w1 => (if r1 = 0 then (some (0, w1)) else (if inB x1 7 then (some ((w1.1 (k + 1) (Int32.toNatClampNeg x1)), w1)) else none))))
set_option maxRecDepth 100000 in
theorem W_X9_waterOf {g : GC} (hl : g.1.stackTraces = false) {k : Nat} (hk : isX9 k) {x1 : Int32} {w : XW} : VE g cX9_waterOf 2 RX9 (some .int) [] (rmL 4 0 0) 0 0 oI 0 0 0 [(0, .ref (g.2.1 + k)), (1, .int x1)] [] w (f_X9_waterOf k x1 w) := by
  unfold f_X9_waterOf
  refine v_aload_n dX9_waterOf_0 rfl 0 rfl ?_
  refine v_iload_n dX9_waterOf_1 rfl 1 rfl ?_
  refine v_callVi (As := [.int x1]) cv_X9_38 (S_X9_has hl hk) hk.1 rfl rfl rfl (Nat.le_of_ble_eq_true rfl) dX9_waterOf_2 (CR_rm (by decide) (by decide) (by decide) (by decide)) (fun r1 w1 => ?_)
  refine v_if_eq (tgt := 17) dX9_waterOf_5 (by decide) ?_ ?_
  · refine v_iconst (v := 0) dX9_waterOf_17 (by decide) ?_
    exact v_iret dX9_waterOf_18 rfl rfl (by decide) (by decide)
  · refine v_aload_n dX9_waterOf_8 rfl 0 rfl ?_
    refine v_getR fl_X9_9 hk.1 rfl dX9_waterOf_9 ?_
    refine v_iload_n dX9_waterOf_12 rfl 1 rfl ?_
    refine v_guard (fun h2 => ?_)
    refine v_iald hk.2.1 h2 dX9_waterOf_13 ?_
    refine v_goto (tgt := 18) dX9_waterOf_14 (by decide) ?_
    exact v_iret dX9_waterOf_18 rfl rfl (by decide) (by decide)
theorem S_X9_waterOf {g : GC} (hl : g.1.stackTraces = false) {k : Nat} (hk : isX9 k) {x1 : Int32} {w : XW} : ∀ q, f_X9_waterOf k x1 w = some q → MM g (.code yX9_waterOf cX9_waterOf 2 (some .int)) yX9_waterOf (rmL 4 0 0) 0 0 [.ref (g.2.1 + k), .int x1] w (oI q) := fun q hq => MM_of (own := RX9) hl (by decide) gw_485 rfl (Nat.le_of_ble_eq_true rfl) (W_X9_waterOf hl hk q hq) ⟨rfl, rfl⟩

theorem dJ6_bitCount_0f7a4_0 : decode cJ6_bitCount_0f7a4 0 = .ok (.iload_n 0, 1) := by decide +kernel
theorem dJ6_bitCount_0f7a4_1 : decode cJ6_bitCount_0f7a4 1 = .ok (.iload_n 0, 1) := by decide +kernel
theorem dJ6_bitCount_0f7a4_2 : decode cJ6_bitCount_0f7a4 2 = .ok (.iconst 1, 1) := by decide +kernel
theorem dJ6_bitCount_0f7a4_3 : decode cJ6_bitCount_0f7a4 3 = .ok (.iushr, 1) := by decide +kernel
theorem dJ6_bitCount_0f7a4_4 : decode cJ6_bitCount_0f7a4 4 = .ok (.ldc_w 265, 3) := by decide +kernel
theorem dJ6_bitCount_0f7a4_7 : decode cJ6_bitCount_0f7a4 7 = .ok (.iand, 1) := by decide +kernel
theorem dJ6_bitCount_0f7a4_8 : decode cJ6_bitCount_0f7a4 8 = .ok (.isub, 1) := by decide +kernel
theorem dJ6_bitCount_0f7a4_9 : decode cJ6_bitCount_0f7a4 9 = .ok (.istore_n 0, 1) := by decide +kernel
theorem dJ6_bitCount_0f7a4_10 : decode cJ6_bitCount_0f7a4 10 = .ok (.iload_n 0, 1) := by decide +kernel
theorem dJ6_bitCount_0f7a4_11 : decode cJ6_bitCount_0f7a4 11 = .ok (.ldc_w 266, 3) := by decide +kernel
theorem dJ6_bitCount_0f7a4_14 : decode cJ6_bitCount_0f7a4 14 = .ok (.iand, 1) := by decide +kernel
theorem dJ6_bitCount_0f7a4_15 : decode cJ6_bitCount_0f7a4 15 = .ok (.iload_n 0, 1) := by decide +kernel
theorem dJ6_bitCount_0f7a4_16 : decode cJ6_bitCount_0f7a4 16 = .ok (.iconst 2, 1) := by decide +kernel
theorem dJ6_bitCount_0f7a4_17 : decode cJ6_bitCount_0f7a4 17 = .ok (.iushr, 1) := by decide +kernel
theorem dJ6_bitCount_0f7a4_18 : decode cJ6_bitCount_0f7a4 18 = .ok (.ldc_w 266, 3) := by decide +kernel
theorem dJ6_bitCount_0f7a4_21 : decode cJ6_bitCount_0f7a4 21 = .ok (.iand, 1) := by decide +kernel
theorem dJ6_bitCount_0f7a4_22 : decode cJ6_bitCount_0f7a4 22 = .ok (.iadd, 1) := by decide +kernel
theorem dJ6_bitCount_0f7a4_23 : decode cJ6_bitCount_0f7a4 23 = .ok (.istore_n 0, 1) := by decide +kernel
theorem dJ6_bitCount_0f7a4_24 : decode cJ6_bitCount_0f7a4 24 = .ok (.iload_n 0, 1) := by decide +kernel
theorem dJ6_bitCount_0f7a4_25 : decode cJ6_bitCount_0f7a4 25 = .ok (.iload_n 0, 1) := by decide +kernel
theorem dJ6_bitCount_0f7a4_26 : decode cJ6_bitCount_0f7a4 26 = .ok (.iconst 4, 1) := by decide +kernel
theorem dJ6_bitCount_0f7a4_27 : decode cJ6_bitCount_0f7a4 27 = .ok (.iushr, 1) := by decide +kernel
theorem dJ6_bitCount_0f7a4_28 : decode cJ6_bitCount_0f7a4 28 = .ok (.iadd, 1) := by decide +kernel
theorem dJ6_bitCount_0f7a4_29 : decode cJ6_bitCount_0f7a4 29 = .ok (.ldc_w 267, 3) := by decide +kernel
theorem dJ6_bitCount_0f7a4_32 : decode cJ6_bitCount_0f7a4 32 = .ok (.iand, 1) := by decide +kernel
theorem dJ6_bitCount_0f7a4_33 : decode cJ6_bitCount_0f7a4 33 = .ok (.istore_n 0, 1) := by decide +kernel
theorem dJ6_bitCount_0f7a4_34 : decode cJ6_bitCount_0f7a4 34 = .ok (.iload_n 0, 1) := by decide +kernel
theorem dJ6_bitCount_0f7a4_35 : decode cJ6_bitCount_0f7a4 35 = .ok (.iload_n 0, 1) := by decide +kernel
theorem dJ6_bitCount_0f7a4_36 : decode cJ6_bitCount_0f7a4 36 = .ok (.bipush 8, 2) := by decide +kernel
theorem dJ6_bitCount_0f7a4_38 : decode cJ6_bitCount_0f7a4 38 = .ok (.iushr, 1) := by decide +kernel
theorem dJ6_bitCount_0f7a4_39 : decode cJ6_bitCount_0f7a4 39 = .ok (.iadd, 1) := by decide +kernel
theorem dJ6_bitCount_0f7a4_40 : decode cJ6_bitCount_0f7a4 40 = .ok (.istore_n 0, 1) := by decide +kernel
theorem dJ6_bitCount_0f7a4_41 : decode cJ6_bitCount_0f7a4 41 = .ok (.iload_n 0, 1) := by decide +kernel
theorem dJ6_bitCount_0f7a4_42 : decode cJ6_bitCount_0f7a4 42 = .ok (.iload_n 0, 1) := by decide +kernel
theorem dJ6_bitCount_0f7a4_43 : decode cJ6_bitCount_0f7a4 43 = .ok (.bipush 16, 2) := by decide +kernel
theorem dJ6_bitCount_0f7a4_45 : decode cJ6_bitCount_0f7a4 45 = .ok (.iushr, 1) := by decide +kernel
theorem dJ6_bitCount_0f7a4_46 : decode cJ6_bitCount_0f7a4 46 = .ok (.iadd, 1) := by decide +kernel
theorem dJ6_bitCount_0f7a4_47 : decode cJ6_bitCount_0f7a4 47 = .ok (.istore_n 0, 1) := by decide +kernel
theorem dJ6_bitCount_0f7a4_48 : decode cJ6_bitCount_0f7a4 48 = .ok (.iload_n 0, 1) := by decide +kernel
theorem dJ6_bitCount_0f7a4_49 : decode cJ6_bitCount_0f7a4 49 = .ok (.bipush 63, 2) := by decide +kernel
theorem dJ6_bitCount_0f7a4_51 : decode cJ6_bitCount_0f7a4 51 = .ok (.iand, 1) := by decide +kernel
theorem dJ6_bitCount_0f7a4_52 : decode cJ6_bitCount_0f7a4 52 = .ok (.ireturn, 1) := by decide +kernel
def f_J6_bitCount_0f7a4 (x0 : Int32) (w : XW) : Option (Int32 × XW) := (some (((((((((x0 - (((Int32.toUInt32 x0 >>> (Int32.toUInt32 1 &&& Int32.toUInt32 31)).toInt32) &&& 1431655765)) &&& 858993459) + (((Int32.toUInt32 (x0 - (((Int32.toUInt32 x0 >>> (Int32.toUInt32 1 &&& Int32.toUInt32 31)).toInt32) &&& 1431655765)) >>> (Int32.toUInt32 2 &&& Int32.toUInt32 31)).toInt32) &&& 858993459)) + ((Int32.toUInt32 (((x0 - (((Int32.toUInt32 x0 >>> (Int32.toUInt32 1 &&& Int32.toUInt32 31)).toInt32) &&& 1431655765)) &&& 858993459) + (((Int32.toUInt32 (x0 - (((Int32.toUInt32 x0 >>> (Int32.toUInt32 1 &&& Int32.toUInt32 31)).toInt32) &&& 1431655765)) >>> (Int32.toUInt32 2 &&& Int32.toUInt32 31)).toInt32) &&& 858993459)) >>> (Int32.toUInt32 4 &&& Int32.toUInt32 31)).toInt32)) &&& 252645135) + ((Int32.toUInt32 (((((x0 - (((Int32.toUInt32 x0 >>> (Int32.toUInt32 1 &&& Int32.toUInt32 31)).toInt32) &&& 1431655765)) &&& 858993459) + (((Int32.toUInt32 (x0 - (((Int32.toUInt32 x0 >>> (Int32.toUInt32 1 &&& Int32.toUInt32 31)).toInt32) &&& 1431655765)) >>> (Int32.toUInt32 2 &&& Int32.toUInt32 31)).toInt32) &&& 858993459)) + ((Int32.toUInt32 (((x0 - (((Int32.toUInt32 x0 >>> (Int32.toUInt32 1 &&& Int32.toUInt32 31)).toInt32) &&& 1431655765)) &&& 858993459) + (((Int32.toUInt32 (x0 - (((Int32.toUInt32 x0 >>> (Int32.toUInt32 1 &&& Int32.toUInt32 31)).toInt32) &&& 1431655765)) >>> (Int32.toUInt32 2 &&& Int32.toUInt32 31)).toInt32) &&& 858993459)) >>> (Int32.toUInt32 4 &&& Int32.toUInt32 31)).toInt32)) &&& 252645135) >>> (Int32.toUInt32 8 &&& Int32.toUInt32 31)).toInt32)) + ((Int32.toUInt32 ((((((x0 - (((Int32.toUInt32 x0 >>> (Int32.toUInt32 1 &&& Int32.toUInt32 31)).toInt32) &&& 1431655765)) &&& 858993459) + (((Int32.toUInt32 (x0 - (((Int32.toUInt32 x0 >>> (Int32.toUInt32 1 &&& Int32.toUInt32 31)).toInt32) &&& 1431655765)) >>> (Int32.toUInt32 2 &&& Int32.toUInt32 31)).toInt32) &&& 858993459)) + ((Int32.toUInt32 (((x0 - (((Int32.toUInt32 x0 >>> (Int32.toUInt32 1 &&& Int32.toUInt32 31)).toInt32) &&& 1431655765)) &&& 858993459) + (((Int32.toUInt32 (x0 - (((Int32.toUInt32 x0 >>> (Int32.toUInt32 1 &&& Int32.toUInt32 31)).toInt32) &&& 1431655765)) >>> (Int32.toUInt32 2 &&& Int32.toUInt32 31)).toInt32) &&& 858993459)) >>> (Int32.toUInt32 4 &&& Int32.toUInt32 31)).toInt32)) &&& 252645135) + ((Int32.toUInt32 (((((x0 - (((Int32.toUInt32 x0 >>> (Int32.toUInt32 1 &&& Int32.toUInt32 31)).toInt32) &&& 1431655765)) &&& 858993459) + (((Int32.toUInt32 (x0 - (((Int32.toUInt32 x0 >>> (Int32.toUInt32 1 &&& Int32.toUInt32 31)).toInt32) &&& 1431655765)) >>> (Int32.toUInt32 2 &&& Int32.toUInt32 31)).toInt32) &&& 858993459)) + ((Int32.toUInt32 (((x0 - (((Int32.toUInt32 x0 >>> (Int32.toUInt32 1 &&& Int32.toUInt32 31)).toInt32) &&& 1431655765)) &&& 858993459) + (((Int32.toUInt32 (x0 - (((Int32.toUInt32 x0 >>> (Int32.toUInt32 1 &&& Int32.toUInt32 31)).toInt32) &&& 1431655765)) >>> (Int32.toUInt32 2 &&& Int32.toUInt32 31)).toInt32) &&& 858993459)) >>> (Int32.toUInt32 4 &&& Int32.toUInt32 31)).toInt32)) &&& 252645135) >>> (Int32.toUInt32 8 &&& Int32.toUInt32 31)).toInt32)) >>> (Int32.toUInt32 16 &&& Int32.toUInt32 31)).toInt32)) &&& 63), w))
set_option maxRecDepth 100000 in
theorem W_J6_bitCount_0f7a4 {g : GC} (hl : g.1.stackTraces = false) {x0 : Int32} {w : XW} : VE g cJ6_bitCount_0f7a4 1 RJ6 (some .int) [] (rmL 3 0 0) 0 0 oI 0 0 0 [(0, .int x0)] [] w (f_J6_bitCount_0f7a4 x0 w) := by
  unfold f_J6_bitCount_0f7a4
  refine v_iload_n dJ6_bitCount_0f7a4_0 rfl 0 rfl ?_
  refine v_iload_n dJ6_bitCount_0f7a4_1 rfl 0 rfl ?_
  refine v_iconst (v := 1) dJ6_bitCount_0f7a4_2 (by decide) ?_
  refine v_iushr dJ6_bitCount_0f7a4_3 ?_
  refine v_ldcw gw_749 dJ6_bitCount_0f7a4_4 ?_
  refine v_iand dJ6_bitCount_0f7a4_7 ?_
  refine v_isub dJ6_bitCount_0f7a4_8 ?_
  refine v_istore_n dJ6_bitCount_0f7a4_9 rfl (Nat.le_of_ble_eq_true rfl) rfl ?_
  refine v_iload_n dJ6_bitCount_0f7a4_10 rfl 0 rfl ?_
  refine v_ldcw gw_750 dJ6_bitCount_0f7a4_11 ?_
  refine v_iand dJ6_bitCount_0f7a4_14 ?_
  refine v_iload_n dJ6_bitCount_0f7a4_15 rfl 0 rfl ?_
  refine v_iconst (v := 2) dJ6_bitCount_0f7a4_16 (by decide) ?_
  refine v_iushr dJ6_bitCount_0f7a4_17 ?_
  refine v_ldcw gw_750 dJ6_bitCount_0f7a4_18 ?_
  refine v_iand dJ6_bitCount_0f7a4_21 ?_
  refine v_iadd dJ6_bitCount_0f7a4_22 ?_
  refine v_istore_n dJ6_bitCount_0f7a4_23 rfl (Nat.le_of_ble_eq_true rfl) rfl ?_
  refine v_iload_n dJ6_bitCount_0f7a4_24 rfl 0 rfl ?_
  refine v_iload_n dJ6_bitCount_0f7a4_25 rfl 0 rfl ?_
  refine v_iconst (v := 4) dJ6_bitCount_0f7a4_26 (by decide) ?_
  refine v_iushr dJ6_bitCount_0f7a4_27 ?_
  refine v_iadd dJ6_bitCount_0f7a4_28 ?_
  refine v_ldcw gw_751 dJ6_bitCount_0f7a4_29 ?_
  refine v_iand dJ6_bitCount_0f7a4_32 ?_
  refine v_istore_n dJ6_bitCount_0f7a4_33 rfl (Nat.le_of_ble_eq_true rfl) rfl ?_
  refine v_iload_n dJ6_bitCount_0f7a4_34 rfl 0 rfl ?_
  refine v_iload_n dJ6_bitCount_0f7a4_35 rfl 0 rfl ?_
  refine v_bipush (v := 8) dJ6_bitCount_0f7a4_36 (by decide) ?_
  refine v_iushr dJ6_bitCount_0f7a4_38 ?_
  refine v_iadd dJ6_bitCount_0f7a4_39 ?_
  refine v_istore_n dJ6_bitCount_0f7a4_40 rfl (Nat.le_of_ble_eq_true rfl) rfl ?_
  refine v_iload_n dJ6_bitCount_0f7a4_41 rfl 0 rfl ?_
  refine v_iload_n dJ6_bitCount_0f7a4_42 rfl 0 rfl ?_
  refine v_bipush (v := 16) dJ6_bitCount_0f7a4_43 (by decide) ?_
  refine v_iushr dJ6_bitCount_0f7a4_45 ?_
  refine v_iadd dJ6_bitCount_0f7a4_46 ?_
  refine v_istore_n dJ6_bitCount_0f7a4_47 rfl (Nat.le_of_ble_eq_true rfl) rfl ?_
  refine v_iload_n dJ6_bitCount_0f7a4_48 rfl 0 rfl ?_
  refine v_bipush (v := 63) dJ6_bitCount_0f7a4_49 (by decide) ?_
  refine v_iand dJ6_bitCount_0f7a4_51 ?_
  exact v_iret dJ6_bitCount_0f7a4_52 rfl rfl (by decide) (by decide)
theorem S_J6_bitCount_0f7a4 {g : GC} (hl : g.1.stackTraces = false) {x0 : Int32} {w : XW} : ∀ q, f_J6_bitCount_0f7a4 x0 w = some q → MM g (.code yJ6_bitCount_0f7a4 cJ6_bitCount_0f7a4 1 (some .int)) yJ6_bitCount_0f7a4 (rmL 3 0 0) 0 0 [.int x0] w (oI q) := fun q hq => MM_of (own := RJ6) hl (by decide) gw_748 rfl (Nat.le_of_ble_eq_true rfl) (W_J6_bitCount_0f7a4 hl q hq) ⟨rfl, rfl⟩

theorem dX9_termCountOf_0 : decode cX9_termCountOf 0 = .ok (.aload_n 0, 1) := by decide +kernel
theorem dX9_termCountOf_1 : decode cX9_termCountOf 1 = .ok (.iload_n 1, 1) := by decide +kernel
theorem dX9_termCountOf_2 : decode cX9_termCountOf 2 = .ok (.invokevirtual 38, 3) := by decide +kernel
theorem dX9_termCountOf_5 : decode cX9_termCountOf 5 = .ok (.ifCond .eq 15, 3) := by decide +kernel
theorem dX9_termCountOf_8 : decode cX9_termCountOf 8 = .ok (.aload_n 0, 1) := by decide +kernel
theorem dX9_termCountOf_9 : decode cX9_termCountOf 9 = .ok (.getfield 15, 3) := by decide +kernel
theorem dX9_termCountOf_12 : decode cX9_termCountOf 12 = .ok (.iload_n 1, 1) := by decide +kernel
theorem dX9_termCountOf_13 : decode cX9_termCountOf 13 = .ok (.iaload, 1) := by decide +kernel
theorem dX9_termCountOf_14 : decode cX9_termCountOf 14 = .ok (.invokestatic 41, 3) := by decide +kernel
theorem dX9_termCountOf_17 : decode cX9_termCountOf 17 = .ok (.goto 4, 3) := by decide +kernel
theorem dX9_termCountOf_20 : decode cX9_termCountOf 20 = .ok (.iconst 0, 1) := by decide +kernel
theorem dX9_termCountOf_21 : decode cX9_termCountOf 21 = .ok (.ireturn, 1) := by decide +kernel
def f_X9_termCountOf (k : Nat) (x1 : Int32) (w : XW) : Option (Int32 × XW) := (bI (f_X9_has k x1 w) (fun r1 w1 => (if r1 = 0 then (some (0, w1)) else (if inB x1 7 then (bI (f_J6_bitCount_0f7a4 (w1.1 (k + 2) (Int32.toNatClampNeg x1)) w1) (fun r3 w3 => (some (r3, w3)))) else none))))
set_option maxRecDepth 100000 in
theorem W_X9_termCountOf {g : GC} (hl : g.1.stackTraces = false) {k : Nat} (hk : isX9 k) {x1 : Int32} {w : XW} : VE g cX9_termCountOf 2 RX9 (some .int) [] (rmL 4 0 0) 0 0 oI 0 0 0 [(0, .ref (g.2.1 + k)), (1, .int x1)] [] w (f_X9_termCountOf k x1 w) := by
  unfold f_X9_termCountOf
  refine v_aload_n dX9_termCountOf_0 rfl 0 rfl ?_
  refine v_iload_n dX9_termCountOf_1 rfl 1 rfl ?_
  refine v_callVi (As := [.int x1]) cv_X9_38 (S_X9_has hl hk) hk.1 rfl rfl rfl (Nat.le_of_ble_eq_true rfl) dX9_termCountOf_2 (CR_rm (by decide) (by decide) (by decide) (by decide)) (fun r1 w1 => ?_)
  refine v_if_eq (tgt := 20) dX9_termCountOf_5 (by decide) ?_ ?_
  · refine v_iconst (v := 0) dX9_termCountOf_20 (by decide) ?_
    exact v_iret dX9_termCountOf_21 rfl rfl (by decide) (by decide)
  · refine v_aload_n dX9_termCountOf_8 rfl 0 rfl ?_
    refine v_getR fl_X9_15 hk.1 rfl dX9_termCountOf_9 ?_
    refine v_iload_n dX9_termCountOf_12 rfl 1 rfl ?_
    refine v_guard (fun h2 => ?_)
    refine v_iald hk.2.2 h2 dX9_termCountOf_13 ?_
    refine v_callSi (As := [.int (w1.1 (k + 2) (Int32.toNatClampNeg x1))]) cs_X9_41 (S_J6_bitCount_0f7a4 hl) rfl rfl (Nat.le_of_ble_eq_true rfl) dX9_termCountOf_14 (CR_rm (by decide) (by decide) (by decide) (by decide)) (fun r3 w3 => ?_)
    refine v_goto (tgt := 21) dX9_termCountOf_17 (by decide) ?_
    exact v_iret dX9_termCountOf_21 rfl rfl (by decide) (by decide)
theorem S_X9_termCountOf {g : GC} (hl : g.1.stackTraces = false) {k : Nat} (hk : isX9 k) {x1 : Int32} {w : XW} : ∀ q, f_X9_termCountOf k x1 w = some q → MM g (.code yX9_termCountOf cX9_termCountOf 2 (some .int)) yX9_termCountOf (rmL 4 0 0) 0 0 [.ref (g.2.1 + k), .int x1] w (oI q) := fun q hq => MM_of (own := RX9) hl (by decide) gw_745 rfl (Nat.le_of_ble_eq_true rfl) (W_X9_termCountOf hl hk q hq) ⟨rfl, rfl⟩

theorem dX9_append_0 : decode cX9_append 0 = .ok (.aload_n 0, 1) := by decide +kernel
theorem dX9_append_1 : decode cX9_append 1 = .ok (.getfield 18, 3) := by decide +kernel
theorem dX9_append_4 : decode cX9_append 4 = .ok (.bipush 7, 2) := by decide +kernel
theorem dX9_append_6 : decode cX9_append 6 = .ok (.if_icmp .lt 5, 3) := by decide +kernel
theorem dX9_append_9 : decode cX9_append 9 = .ok (.iconst (-1), 1) := by decide +kernel
theorem dX9_append_10 : decode cX9_append 10 = .ok (.ireturn, 1) := by decide +kernel
theorem dX9_append_11 : decode cX9_append 11 = .ok (.aload_n 0, 1) := by decide +kernel
theorem dX9_append_12 : decode cX9_append 12 = .ok (.getfield 9, 3) := by decide +kernel
theorem dX9_append_15 : decode cX9_append 15 = .ok (.aload_n 0, 1) := by decide +kernel
theorem dX9_append_16 : decode cX9_append 16 = .ok (.getfield 18, 3) := by decide +kernel
theorem dX9_append_19 : decode cX9_append 19 = .ok (.iconst 0, 1) := by decide +kernel
theorem dX9_append_20 : decode cX9_append 20 = .ok (.iastore, 1) := by decide +kernel
theorem dX9_append_21 : decode cX9_append 21 = .ok (.aload_n 0, 1) := by decide +kernel
theorem dX9_append_22 : decode cX9_append 22 = .ok (.getfield 15, 3) := by decide +kernel
theorem dX9_append_25 : decode cX9_append 25 = .ok (.aload_n 0, 1) := by decide +kernel
theorem dX9_append_26 : decode cX9_append 26 = .ok (.getfield 18, 3) := by decide +kernel
theorem dX9_append_29 : decode cX9_append 29 = .ok (.iconst 0, 1) := by decide +kernel
theorem dX9_append_30 : decode cX9_append 30 = .ok (.iastore, 1) := by decide +kernel
theorem dX9_append_31 : decode cX9_append 31 = .ok (.aload_n 0, 1) := by decide +kernel
theorem dX9_append_32 : decode cX9_append 32 = .ok (.dup, 1) := by decide +kernel
theorem dX9_append_33 : decode cX9_append 33 = .ok (.getfield 18, 3) := by decide +kernel
theorem dX9_append_36 : decode cX9_append 36 = .ok (.iconst 1, 1) := by decide +kernel
theorem dX9_append_37 : decode cX9_append 37 = .ok (.iadd, 1) := by decide +kernel
theorem dX9_append_38 : decode cX9_append 38 = .ok (.putfield 18, 3) := by decide +kernel
theorem dX9_append_41 : decode cX9_append 41 = .ok (.aload_n 0, 1) := by decide +kernel
theorem dX9_append_42 : decode cX9_append 42 = .ok (.getfield 18, 3) := by decide +kernel
theorem dX9_append_45 : decode cX9_append 45 = .ok (.iconst 1, 1) := by decide +kernel
theorem dX9_append_46 : decode cX9_append 46 = .ok (.isub, 1) := by decide +kernel
theorem dX9_append_47 : decode cX9_append 47 = .ok (.ireturn, 1) := by decide +kernel
def f_X9_append (k : Nat) (w : XW) : Option (Int32 × XW) := (if (w.1 k 0) < 7 then (if inB (w.1 k 0) 7 then (if inB ((wset w (k + 1) (Int32.toNatClampNeg (w.1 k 0)) 0).1 k 0) 7 then (some ((((wset (wset (wset w (k + 1) (Int32.toNatClampNeg (w.1 k 0)) 0) (k + 2) (Int32.toNatClampNeg ((wset w (k + 1) (Int32.toNatClampNeg (w.1 k 0)) 0).1 k 0)) 0) k 0 (((wset (wset w (k + 1) (Int32.toNatClampNeg (w.1 k 0)) 0) (k + 2) (Int32.toNatClampNeg ((wset w (k + 1) (Int32.toNatClampNeg (w.1 k 0)) 0).1 k 0)) 0).1 k 0) + 1)).1 k 0) - 1), (wset (wset (wset w (k + 1) (Int32.toNatClampNeg (w.1 k 0)) 0) (k + 2) (Int32.toNatClampNeg ((wset w (k + 1) (Int32.toNatClampNeg (w.1 k 0)) 0).1 k 0)) 0) k 0 (((wset (wset w (k + 1) (Int32.toNatClampNeg (w.1 k 0)) 0) (k + 2) (Int32.toNatClampNeg ((wset w (k + 1) (Int32.toNatClampNeg (w.1 k 0)) 0).1 k 0)) 0).1 k 0) + 1)))) else none) else none) else (some ((-1), w)))
set_option maxRecDepth 100000 in
theorem W_X9_append {g : GC} (hl : g.1.stackTraces = false) {k : Nat} (hk : isX9 k) {w : XW} : VE g cX9_append 1 RX9 (some .int) [] (rmL 3 0 0) 0 0 oI 0 0 0 [(0, .ref (g.2.1 + k))] [] w (f_X9_append k w) := by
  unfold f_X9_append
  refine v_aload_n dX9_append_0 rfl 0 rfl ?_
  refine v_getI fl_X9_18 hk.1 rfl dX9_append_1 ?_
  refine v_bipush (v := 7) dX9_append_4 (by decide) ?_
  refine v_icmp_lt (tgt := 11) dX9_append_6 (by decide) ?_ ?_
  · refine v_aload_n dX9_append_11 rfl 0 rfl ?_
    refine v_getR fl_X9_9 hk.1 rfl dX9_append_12 ?_
    refine v_aload_n dX9_append_15 rfl 0 rfl ?_
    refine v_getI fl_X9_18 hk.1 rfl dX9_append_16 ?_
    refine v_iconst (v := 0) dX9_append_19 (by decide) ?_
    refine v_guard (fun h1 => ?_)
    refine v_iast hk.2.1 h1 dX9_append_20 ?_
    refine v_aload_n dX9_append_21 rfl 0 rfl ?_
    refine v_getR fl_X9_15 hk.1 rfl dX9_append_22 ?_
    refine v_aload_n dX9_append_25 rfl 0 rfl ?_
    refine v_getI fl_X9_18 hk.1 rfl dX9_append_26 ?_
    refine v_iconst (v := 0) dX9_append_29 (by decide) ?_
    refine v_guard (fun h2 => ?_)
    refine v_iast hk.2.2 h2 dX9_append_30 ?_
    refine v_aload_n dX9_append_31 rfl 0 rfl ?_
    refine v_dup dX9_append_32 rfl ?_
    refine v_getI fl_X9_18 hk.1 rfl dX9_append_33 ?_
    refine v_iconst (v := 1) dX9_append_36 (by decide) ?_
    refine v_iadd dX9_append_37 ?_
    refine v_putI fl_X9_18 hk.1 rfl (ty0 := .int) rfl rfl rfl dX9_append_38 ?_
    refine v_aload_n dX9_append_41 rfl 0 rfl ?_
    refine v_getI fl_X9_18 hk.1 rfl dX9_append_42 ?_
    refine v_iconst (v := 1) dX9_append_45 (by decide) ?_
    refine v_isub dX9_append_46 ?_
    exact v_iret dX9_append_47 rfl rfl (by decide) (by decide)
  · refine v_iconst (v := (-1)) dX9_append_9 (by decide) ?_
    exact v_iret dX9_append_10 rfl rfl (by decide) (by decide)
theorem S_X9_append {g : GC} (hl : g.1.stackTraces = false) {k : Nat} (hk : isX9 k) {w : XW} : ∀ q, f_X9_append k w = some q → MM g (.code yX9_append cX9_append 1 (some .int)) yX9_append (rmL 3 0 0) 0 0 [.ref (g.2.1 + k)] w (oI q) := fun q hq => MM_of (own := RX9) hl (by decide) gw_802 rfl (Nat.le_of_ble_eq_true rfl) (W_X9_append hl hk q hq) ⟨rfl, rfl⟩

theorem dX9_add_0 : decode cX9_add 0 = .ok (.aload_n 0, 1) := by decide +kernel
theorem dX9_add_1 : decode cX9_add 1 = .ok (.iload_n 1, 1) := by decide +kernel
theorem dX9_add_2 : decode cX9_add 2 = .ok (.invokevirtual 38, 3) := by decide +kernel
theorem dX9_add_5 : decode cX9_add 5 = .ok (.ifCond .eq 13, 3) := by decide +kernel
theorem dX9_add_8 : decode cX9_add 8 = .ok (.aload_n 0, 1) := by decide +kernel
theorem dX9_add_9 : decode cX9_add 9 = .ok (.getfield 9, 3) := by decide +kernel
theorem dX9_add_12 : decode cX9_add 12 = .ok (.iload_n 1, 1) := by decide +kernel
theorem dX9_add_13 : decode cX9_add 13 = .ok (.dup2, 1) := by decide +kernel
theorem dX9_add_14 : decode cX9_add 14 = .ok (.iaload, 1) := by decide +kernel
theorem dX9_add_15 : decode cX9_add 15 = .ok (.iload_n 2, 1) := by decide +kernel
theorem dX9_add_16 : decode cX9_add 16 = .ok (.iadd, 1) := by decide +kernel
theorem dX9_add_17 : decode cX9_add 17 = .ok (.iastore, 1) := by decide +kernel
theorem dX9_add_18 : decode cX9_add 18 = .ok (.return_, 1) := by decide +kernel
def f_X9_add (k : Nat) (x1 : Int32) (x2 : Int32) (w : XW) : Option (XW) := (bI (f_X9_has k x1 w) (fun r1 w1 => (if r1 = 0 then (some w1) else (if inB x1 7 then (if inB x1 7 then (some (wset w1 (k + 1) (Int32.toNatClampNeg x1) ((w1.1 (k + 1) (Int32.toNatClampNeg x1)) + x2))) else none) else none))))
set_option maxRecDepth 100000 in
theorem W_X9_add {g : GC} (hl : g.1.stackTraces = false) {k : Nat} (hk : isX9 k) {x1 : Int32} {x2 : Int32} {w : XW} : VE g cX9_add 3 RX9 none [] (rmL 4 0 0) 0 0 oV 0 0 0 [(0, .ref (g.2.1 + k)), (1, .int x1), (2, .int x2)] [] w (f_X9_add k x1 x2 w) := by
  unfold f_X9_add
  refine v_aload_n dX9_add_0 rfl 0 rfl ?_
  refine v_iload_n dX9_add_1 rfl 1 rfl ?_
  refine v_callVi (As := [.int x1]) cv_X9_38 (S_X9_has hl hk) hk.1 rfl rfl rfl (Nat.le_of_ble_eq_true rfl) dX9_add_2 (CR_rm (by decide) (by decide) (by decide) (by decide)) (fun r1 w1 => ?_)
  refine v_if_eq (tgt := 18) dX9_add_5 (by decide) ?_ ?_
  · exact v_vret dX9_add_18 rfl rfl (by decide) (by decide)
  · refine v_aload_n dX9_add_8 rfl 0 rfl ?_
    refine v_getR fl_X9_9 hk.1 rfl dX9_add_9 ?_
    refine v_iload_n dX9_add_12 rfl 1 rfl ?_
    refine v_dup2 dX9_add_13 rfl rfl ?_
    refine v_guard (fun h2 => ?_)
    refine v_iald hk.2.1 h2 dX9_add_14 ?_
    refine v_iload_n dX9_add_15 rfl 2 rfl ?_
    refine v_iadd dX9_add_16 ?_
    refine v_guard (fun h3 => ?_)
    refine v_iast hk.2.1 h3 dX9_add_17 ?_
    exact v_vret dX9_add_18 rfl rfl (by decide) (by decide)
theorem S_X9_add {g : GC} (hl : g.1.stackTraces = false) {k : Nat} (hk : isX9 k) {x1 : Int32} {x2 : Int32} {w : XW} : ∀ q, f_X9_add k x1 x2 w = some q → MM g (.code yX9_add cX9_add 3 none) yX9_add (rmL 4 0 0) 0 0 [.ref (g.2.1 + k), .int x1, .int x2] w (oV q) := fun q hq => MM_of (own := RX9) hl (by decide) gw_810 rfl (Nat.le_of_ble_eq_true rfl) (W_X9_add hl hk q hq) ⟨rfl, rfl⟩

theorem dX9_receivePoured_0 : decode cX9_receivePoured 0 = .ok (.aload_n 0, 1) := by decide +kernel
theorem dX9_receivePoured_1 : decode cX9_receivePoured 1 = .ok (.iload_n 1, 1) := by decide +kernel
theorem dX9_receivePoured_2 : decode cX9_receivePoured 2 = .ok (.iload_n 2, 1) := by decide +kernel
theorem dX9_receivePoured_3 : decode cX9_receivePoured 3 = .ok (.invokevirtual 57, 3) := by decide +kernel
theorem dX9_receivePoured_6 : decode cX9_receivePoured 6 = .ok (.aload_n 0, 1) := by decide +kernel
theorem dX9_receivePoured_7 : decode cX9_receivePoured 7 = .ok (.dup, 1) := by decide +kernel
theorem dX9_receivePoured_8 : decode cX9_receivePoured 8 = .ok (.getfield 22, 3) := by decide +kernel
theorem dX9_receivePoured_11 : decode cX9_receivePoured 11 = .ok (.iload_n 2, 1) := by decide +kernel
theorem dX9_receivePoured_12 : decode cX9_receivePoured 12 = .ok (.iadd, 1) := by decide +kernel
theorem dX9_receivePoured_13 : decode cX9_receivePoured 13 = .ok (.putfield 22, 3) := by decide +kernel
theorem dX9_receivePoured_16 : decode cX9_receivePoured 16 = .ok (.aload_n 0, 1) := by decide +kernel
theorem dX9_receivePoured_17 : decode cX9_receivePoured 17 = .ok (.iload_n 1, 1) := by decide +kernel
theorem dX9_receivePoured_18 : decode cX9_receivePoured 18 = .ok (.invokevirtual 61, 3) := by decide +kernel
theorem dX9_receivePoured_21 : decode cX9_receivePoured 21 = .ok (.ireturn, 1) := by decide +kernel
def f_X9_receivePoured (k : Nat) (x1 : Int32) (x2 : Int32) (w : XW) : Option (Int32 × XW) := (bV (f_X9_add k x1 x2 w) (fun w1 => (bI (f_X9_waterOf k x1 (wset w1 k 1 ((w1.1 k 1) + x2))) (fun r2 w2 => (some (r2, w2))))))
set_option maxRecDepth 100000 in
theorem W_X9_receivePoured {g : GC} (hl : g.1.stackTraces = false) {k : Nat} (hk : isX9 k) {x1 : Int32} {x2 : Int32} {w : XW} : VE g cX9_receivePoured 3 RX9 (some .int) [] (rmL 5 0 0) 0 0 oI 0 0 0 [(0, .ref (g.2.1 + k)), (1, .int x1), (2, .int x2)] [] w (f_X9_receivePoured k x1 x2 w) := by
  unfold f_X9_receivePoured
  refine v_aload_n dX9_receivePoured_0 rfl 0 rfl ?_
  refine v_iload_n dX9_receivePoured_1 rfl 1 rfl ?_
  refine v_iload_n dX9_receivePoured_2 rfl 2 rfl ?_
  refine v_callVv (As := [.int x1, .int x2]) cv_X9_57 (S_X9_add hl hk) hk.1 rfl rfl rfl (Nat.le_of_ble_eq_true rfl) dX9_receivePoured_3 (CR_rm (by decide) (by decide) (by decide) (by decide)) (fun w1 => ?_)
  refine v_aload_n dX9_receivePoured_6 rfl 0 rfl ?_
  refine v_dup dX9_receivePoured_7 rfl ?_
  refine v_getI fl_X9_22 hk.1 rfl dX9_receivePoured_8 ?_
  refine v_iload_n dX9_receivePoured_11 rfl 2 rfl ?_
  refine v_iadd dX9_receivePoured_12 ?_
  refine v_putI fl_X9_22 hk.1 rfl (ty0 := .int) rfl rfl rfl dX9_receivePoured_13 ?_
  refine v_aload_n dX9_receivePoured_16 rfl 0 rfl ?_
  refine v_iload_n dX9_receivePoured_17 rfl 1 rfl ?_
  refine v_callVi (As := [.int x1]) cv_X9_61 (S_X9_waterOf hl hk) hk.1 rfl rfl rfl (Nat.le_of_ble_eq_true rfl) dX9_receivePoured_18 (CR_rm (by decide) (by decide) (by decide) (by decide)) (fun r2 w2 => ?_)
  exact v_iret dX9_receivePoured_21 rfl rfl (by decide) (by decide)
theorem S_X9_receivePoured {g : GC} (hl : g.1.stackTraces = false) {k : Nat} (hk : isX9 k) {x1 : Int32} {x2 : Int32} {w : XW} : ∀ q, f_X9_receivePoured k x1 x2 w = some q → MM g (.code yX9_receivePoured cX9_receivePoured 3 (some .int)) yX9_receivePoured (rmL 5 0 0) 0 0 [.ref (g.2.1 + k), .int x1, .int x2] w (oI q) := fun q hq => MM_of (own := RX9) hl (by decide) gw_806 rfl (Nat.le_of_ble_eq_true rfl) (W_X9_receivePoured hl hk q hq) ⟨rfl, rfl⟩

theorem dX9_giveTerm_0 : decode cX9_giveTerm 0 = .ok (.aload_n 0, 1) := by decide +kernel
theorem dX9_giveTerm_1 : decode cX9_giveTerm 1 = .ok (.iload_n 1, 1) := by decide +kernel
theorem dX9_giveTerm_2 : decode cX9_giveTerm 2 = .ok (.invokevirtual 38, 3) := by decide +kernel
theorem dX9_giveTerm_5 : decode cX9_giveTerm 5 = .ok (.ifCond .eq 16, 3) := by decide +kernel
theorem dX9_giveTerm_8 : decode cX9_giveTerm 8 = .ok (.aload_n 0, 1) := by decide +kernel
theorem dX9_giveTerm_9 : decode cX9_giveTerm 9 = .ok (.getfield 15, 3) := by decide +kernel
theorem dX9_giveTerm_12 : decode cX9_giveTerm 12 = .ok (.iload_n 1, 1) := by decide +kernel
theorem dX9_giveTerm_13 : decode cX9_giveTerm 13 = .ok (.dup2, 1) := by decide +kernel
theorem dX9_giveTerm_14 : decode cX9_giveTerm 14 = .ok (.iaload, 1) := by decide +kernel
theorem dX9_giveTerm_15 : decode cX9_giveTerm 15 = .ok (.iload_n 2, 1) := by decide +kernel
theorem dX9_giveTerm_16 : decode cX9_giveTerm 16 = .ok (.invokestatic 47, 3) := by decide +kernel
theorem dX9_giveTerm_19 : decode cX9_giveTerm 19 = .ok (.ior, 1) := by decide +kernel
theorem dX9_giveTerm_20 : decode cX9_giveTerm 20 = .ok (.iastore, 1) := by decide +kernel
theorem dX9_giveTerm_21 : decode cX9_giveTerm 21 = .ok (.aload_n 0, 1) := by decide +kernel
theorem dX9_giveTerm_22 : decode cX9_giveTerm 22 = .ok (.iload_n 1, 1) := by decide +kernel
theorem dX9_giveTerm_23 : decode cX9_giveTerm 23 = .ok (.invokevirtual 54, 3) := by decide +kernel
theorem dX9_giveTerm_26 : decode cX9_giveTerm 26 = .ok (.ireturn, 1) := by decide +kernel
def f_X9_giveTerm (k : Nat) (x1 : Int32) (x2 : Int32) (w : XW) : Option (Int32 × XW) := (bI (f_X9_has k x1 w) (fun r1 w1 => (if r1 = 0 then (bI (f_X9_termCountOf k x1 w1) (fun r2 w2 => (some (r2, w2)))) else (if inB x1 7 then (bI (f_X9_bitOf x2 w1) (fun r4 w4 => (if inB x1 7 then (bI (f_X9_termCountOf k x1 (wset w4 (k + 2) (Int32.toNatClampNeg x1) ((w1.1 (k + 2) (Int32.toNatClampNeg x1)) ||| r4))) (fun r6 w6 => (some (r6, w6)))) else none))) else none))))
set_option maxRecDepth 100000 in
theorem W_X9_giveTerm {g : GC} (hl : g.1.stackTraces = false) {k : Nat} (hk : isX9 k) {x1 : Int32} {x2 : Int32} {w : XW} : VE g cX9_giveTerm 3 RX9 (some .int) [] (rmL 5 0 0) 0 0 oI 0 0 0 [(0, .ref (g.2.1 + k)), (1, .int x1), (2, .int x2)] [] w (f_X9_giveTerm k x1 x2 w) := by
  unfold f_X9_giveTerm
  refine v_aload_n dX9_giveTerm_0 rfl 0 rfl ?_
  refine v_iload_n dX9_giveTerm_1 rfl 1 rfl ?_
  refine v_callVi (As := [.int x1]) cv_X9_38 (S_X9_has hl hk) hk.1 rfl rfl rfl (Nat.le_of_ble_eq_true rfl) dX9_giveTerm_2 (CR_rm (by decide) (by decide) (by decide) (by decide)) (fun r1 w1 => ?_)
  refine v_if_eq (tgt := 21) dX9_giveTerm_5 (by decide) ?_ ?_
  · refine v_aload_n dX9_giveTerm_21 rfl 0 rfl ?_
    refine v_iload_n dX9_giveTerm_22 rfl 1 rfl ?_
    refine v_callVi (As := [.int x1]) cv_X9_54 (S_X9_termCountOf hl hk) hk.1 rfl rfl rfl (Nat.le_of_ble_eq_true rfl) dX9_giveTerm_23 (CR_rm (by decide) (by decide) (by decide) (by decide)) (fun r2 w2 => ?_)
    exact v_iret dX9_giveTerm_26 rfl rfl (by decide) (by decide)
  · refine v_aload_n dX9_giveTerm_8 rfl 0 rfl ?_
    refine v_getR fl_X9_15 hk.1 rfl dX9_giveTerm_9 ?_
    refine v_iload_n dX9_giveTerm_12 rfl 1 rfl ?_
    refine v_dup2 dX9_giveTerm_13 rfl rfl ?_
    refine v_guard (fun h3 => ?_)
    refine v_iald hk.2.2 h3 dX9_giveTerm_14 ?_
    refine v_iload_n dX9_giveTerm_15 rfl 2 rfl ?_
    refine v_callSi (As := [.int x2]) cs_X9_47 (S_X9_bitOf hl) rfl rfl (Nat.le_of_ble_eq_true rfl) dX9_giveTerm_16 (CR_rm (by decide) (by decide) (by decide) (by decide)) (fun r4 w4 => ?_)
    refine v_ior dX9_giveTerm_19 ?_
    refine v_guard (fun h5 => ?_)
    refine v_iast hk.2.2 h5 dX9_giveTerm_20 ?_
    refine v_aload_n dX9_giveTerm_21 rfl 0 rfl ?_
    refine v_iload_n dX9_giveTerm_22 rfl 1 rfl ?_
    refine v_callVi (As := [.int x1]) cv_X9_54 (S_X9_termCountOf hl hk) hk.1 rfl rfl rfl (Nat.le_of_ble_eq_true rfl) dX9_giveTerm_23 (CR_rm (by decide) (by decide) (by decide) (by decide)) (fun r6 w6 => ?_)
    exact v_iret dX9_giveTerm_26 rfl rfl (by decide) (by decide)
theorem S_X9_giveTerm {g : GC} (hl : g.1.stackTraces = false) {k : Nat} (hk : isX9 k) {x1 : Int32} {x2 : Int32} {w : XW} : ∀ q, f_X9_giveTerm k x1 x2 w = some q → MM g (.code yX9_giveTerm cX9_giveTerm 3 (some .int)) yX9_giveTerm (rmL 5 0 0) 0 0 [.ref (g.2.1 + k), .int x1, .int x2] w (oI q) := fun q hq => MM_of (own := RX9) hl (by decide) gw_815 rfl (Nat.le_of_ble_eq_true rfl) (W_X9_giveTerm hl hk q hq) ⟨rfl, rfl⟩

theorem dX9_takeTerm_0 : decode cX9_takeTerm 0 = .ok (.aload_n 0, 1) := by decide +kernel
theorem dX9_takeTerm_1 : decode cX9_takeTerm 1 = .ok (.iload_n 1, 1) := by decide +kernel
theorem dX9_takeTerm_2 : decode cX9_takeTerm 2 = .ok (.invokevirtual 38, 3) := by decide +kernel
theorem dX9_takeTerm_5 : decode cX9_takeTerm 5 = .ok (.ifCond .eq 18, 3) := by decide +kernel
theorem dX9_takeTerm_8 : decode cX9_takeTerm 8 = .ok (.aload_n 0, 1) := by decide +kernel
theorem dX9_takeTerm_9 : decode cX9_takeTerm 9 = .ok (.getfield 15, 3) := by decide +kernel
theorem dX9_takeTerm_12 : decode cX9_takeTerm 12 = .ok (.iload_n 1, 1) := by decide +kernel
theorem dX9_takeTerm_13 : decode cX9_takeTerm 13 = .ok (.dup2, 1) := by decide +kernel
theorem dX9_takeTerm_14 : decode cX9_takeTerm 14 = .ok (.iaload, 1) := by decide +kernel
theorem dX9_takeTerm_15 : decode cX9_takeTerm 15 = .ok (.iload_n 2, 1) := by decide +kernel
theorem dX9_takeTerm_16 : decode cX9_takeTerm 16 = .ok (.invokestatic 47, 3) := by decide +kernel
theorem dX9_takeTerm_19 : decode cX9_takeTerm 19 = .ok (.iconst (-1), 1) := by decide +kernel
theorem dX9_takeTerm_20 : decode cX9_takeTerm 20 = .ok (.ixor, 1) := by decide +kernel
theorem dX9_takeTerm_21 : decode cX9_takeTerm 21 = .ok (.iand, 1) := by decide +kernel
theorem dX9_takeTerm_22 : decode cX9_takeTerm 22 = .ok (.iastore, 1) := by decide +kernel
theorem dX9_takeTerm_23 : decode cX9_takeTerm 23 = .ok (.aload_n 0, 1) := by decide +kernel
theorem dX9_takeTerm_24 : decode cX9_takeTerm 24 = .ok (.iload_n 1, 1) := by decide +kernel
theorem dX9_takeTerm_25 : decode cX9_takeTerm 25 = .ok (.invokevirtual 54, 3) := by decide +kernel
theorem dX9_takeTerm_28 : decode cX9_takeTerm 28 = .ok (.ireturn, 1) := by decide +kernel
def f_X9_takeTerm (k : Nat) (x1 : Int32) (x2 : Int32) (w : XW) : Option (Int32 × XW) := (bI (f_X9_has k x1 w) (fun r1 w1 => (if r1 = 0 then (bI (f_X9_termCountOf k x1 w1) (fun r2 w2 => (some (r2, w2)))) else (if inB x1 7 then (bI (f_X9_bitOf x2 w1) (fun r4 w4 => (if inB x1 7 then (bI (f_X9_termCountOf k x1 (wset w4 (k + 2) (Int32.toNatClampNeg x1) ((w1.1 (k + 2) (Int32.toNatClampNeg x1)) &&& (r4 ^^^ (-1))))) (fun r6 w6 => (some (r6, w6)))) else none))) else none))))
set_option maxRecDepth 100000 in
theorem W_X9_takeTerm {g : GC} (hl : g.1.stackTraces = false) {k : Nat} (hk : isX9 k) {x1 : Int32} {x2 : Int32} {w : XW} : VE g cX9_takeTerm 3 RX9 (some .int) [] (rmL 5 0 0) 0 0 oI 0 0 0 [(0, .ref (g.2.1 + k)), (1, .int x1), (2, .int x2)] [] w (f_X9_takeTerm k x1 x2 w) := by
  unfold f_X9_takeTerm
  refine v_aload_n dX9_takeTerm_0 rfl 0 rfl ?_
  refine v_iload_n dX9_takeTerm_1 rfl 1 rfl ?_
  refine v_callVi (As := [.int x1]) cv_X9_38 (S_X9_has hl hk) hk.1 rfl rfl rfl (Nat.le_of_ble_eq_true rfl) dX9_takeTerm_2 (CR_rm (by decide) (by decide) (by decide) (by decide)) (fun r1 w1 => ?_)
  refine v_if_eq (tgt := 23) dX9_takeTerm_5 (by decide) ?_ ?_
  · refine v_aload_n dX9_takeTerm_23 rfl 0 rfl ?_
    refine v_iload_n dX9_takeTerm_24 rfl 1 rfl ?_
    refine v_callVi (As := [.int x1]) cv_X9_54 (S_X9_termCountOf hl hk) hk.1 rfl rfl rfl (Nat.le_of_ble_eq_true rfl) dX9_takeTerm_25 (CR_rm (by decide) (by decide) (by decide) (by decide)) (fun r2 w2 => ?_)
    exact v_iret dX9_takeTerm_28 rfl rfl (by decide) (by decide)
  · refine v_aload_n dX9_takeTerm_8 rfl 0 rfl ?_
    refine v_getR fl_X9_15 hk.1 rfl dX9_takeTerm_9 ?_
    refine v_iload_n dX9_takeTerm_12 rfl 1 rfl ?_
    refine v_dup2 dX9_takeTerm_13 rfl rfl ?_
    refine v_guard (fun h3 => ?_)
    refine v_iald hk.2.2 h3 dX9_takeTerm_14 ?_
    refine v_iload_n dX9_takeTerm_15 rfl 2 rfl ?_
    refine v_callSi (As := [.int x2]) cs_X9_47 (S_X9_bitOf hl) rfl rfl (Nat.le_of_ble_eq_true rfl) dX9_takeTerm_16 (CR_rm (by decide) (by decide) (by decide) (by decide)) (fun r4 w4 => ?_)
    refine v_iconst (v := (-1)) dX9_takeTerm_19 (by decide) ?_
    refine v_ixor dX9_takeTerm_20 ?_
    refine v_iand dX9_takeTerm_21 ?_
    refine v_guard (fun h5 => ?_)
    refine v_iast hk.2.2 h5 dX9_takeTerm_22 ?_
    refine v_aload_n dX9_takeTerm_23 rfl 0 rfl ?_
    refine v_iload_n dX9_takeTerm_24 rfl 1 rfl ?_
    refine v_callVi (As := [.int x1]) cv_X9_54 (S_X9_termCountOf hl hk) hk.1 rfl rfl rfl (Nat.le_of_ble_eq_true rfl) dX9_takeTerm_25 (CR_rm (by decide) (by decide) (by decide) (by decide)) (fun r6 w6 => ?_)
    exact v_iret dX9_takeTerm_28 rfl rfl (by decide) (by decide)
theorem S_X9_takeTerm {g : GC} (hl : g.1.stackTraces = false) {k : Nat} (hk : isX9 k) {x1 : Int32} {x2 : Int32} {w : XW} : ∀ q, f_X9_takeTerm k x1 x2 w = some q → MM g (.code yX9_takeTerm cX9_takeTerm 3 (some .int)) yX9_takeTerm (rmL 5 0 0) 0 0 [.ref (g.2.1 + k), .int x1, .int x2] w (oI q) := fun q hq => MM_of (own := RX9) hl (by decide) gw_820 rfl (Nat.le_of_ble_eq_true rfl) (W_X9_takeTerm hl hk q hq) ⟨rfl, rfl⟩

theorem dX9_give_0 : decode cX9_give 0 = .ok (.aload_n 0, 1) := by decide +kernel
theorem dX9_give_1 : decode cX9_give 1 = .ok (.iload_n 1, 1) := by decide +kernel
theorem dX9_give_2 : decode cX9_give 2 = .ok (.iload_n 2, 1) := by decide +kernel
theorem dX9_give_3 : decode cX9_give 3 = .ok (.ineg, 1) := by decide +kernel
theorem dX9_give_4 : decode cX9_give 4 = .ok (.invokevirtual 57, 3) := by decide +kernel
theorem dX9_give_7 : decode cX9_give 7 = .ok (.return_, 1) := by decide +kernel
def f_X9_give (k : Nat) (x1 : Int32) (x2 : Int32) (w : XW) : Option (XW) := (bV (f_X9_add k x1 (-x2) w) (fun w1 => (some w1)))
set_option maxRecDepth 100000 in
theorem W_X9_give {g : GC} (hl : g.1.stackTraces = false) {k : Nat} (hk : isX9 k) {x1 : Int32} {x2 : Int32} {w : XW} : VE g cX9_give 3 RX9 none [] (rmL 5 0 0) 0 0 oV 0 0 0 [(0, .ref (g.2.1 + k)), (1, .int x1), (2, .int x2)] [] w (f_X9_give k x1 x2 w) := by
  unfold f_X9_give
  refine v_aload_n dX9_give_0 rfl 0 rfl ?_
  refine v_iload_n dX9_give_1 rfl 1 rfl ?_
  refine v_iload_n dX9_give_2 rfl 2 rfl ?_
  refine v_ineg dX9_give_3 ?_
  refine v_callVv (As := [.int x1, .int (-x2)]) cv_X9_57 (S_X9_add hl hk) hk.1 rfl rfl rfl (Nat.le_of_ble_eq_true rfl) dX9_give_4 (CR_rm (by decide) (by decide) (by decide) (by decide)) (fun w1 => ?_)
  exact v_vret dX9_give_7 rfl rfl (by decide) (by decide)
theorem S_X9_give {g : GC} (hl : g.1.stackTraces = false) {k : Nat} (hk : isX9 k) {x1 : Int32} {x2 : Int32} {w : XW} : ∀ q, f_X9_give k x1 x2 w = some q → MM g (.code yX9_give cX9_give 3 none) yX9_give (rmL 5 0 0) 0 0 [.ref (g.2.1 + k), .int x1, .int x2] w (oV q) := fun q hq => MM_of (own := RX9) hl (by decide) gw_855 rfl (Nat.le_of_ble_eq_true rfl) (W_X9_give hl hk q hq) ⟨rfl, rfl⟩

theorem dX9_receive_0 : decode cX9_receive 0 = .ok (.iload_n 2, 1) := by decide +kernel
theorem dX9_receive_1 : decode cX9_receive 1 = .ok (.bipush 99, 2) := by decide +kernel
theorem dX9_receive_3 : decode cX9_receive 3 = .ok (.aload_n 0, 1) := by decide +kernel
theorem dX9_receive_4 : decode cX9_receive 4 = .ok (.iload_n 1, 1) := by decide +kernel
theorem dX9_receive_5 : decode cX9_receive 5 = .ok (.invokevirtual 61, 3) := by decide +kernel
theorem dX9_receive_8 : decode cX9_receive 8 = .ok (.isub, 1) := by decide +kernel
theorem dX9_receive_9 : decode cX9_receive 9 = .ok (.invokestatic 64, 3) := by decide +kernel
theorem dX9_receive_12 : decode cX9_receive 12 = .ok (.istore_n 3, 1) := by decide +kernel
theorem dX9_receive_13 : decode cX9_receive 13 = .ok (.aload_n 0, 1) := by decide +kernel
theorem dX9_receive_14 : decode cX9_receive 14 = .ok (.iload_n 1, 1) := by decide +kernel
theorem dX9_receive_15 : decode cX9_receive 15 = .ok (.iload_n 3, 1) := by decide +kernel
theorem dX9_receive_16 : decode cX9_receive 16 = .ok (.invokevirtual 57, 3) := by decide +kernel
theorem dX9_receive_19 : decode cX9_receive 19 = .ok (.iload_n 2, 1) := by decide +kernel
theorem dX9_receive_20 : decode cX9_receive 20 = .ok (.iload_n 3, 1) := by decide +kernel
theorem dX9_receive_21 : decode cX9_receive 21 = .ok (.isub, 1) := by decide +kernel
theorem dX9_receive_22 : decode cX9_receive 22 = .ok (.ireturn, 1) := by decide +kernel
def f_X9_receive (k : Nat) (x1 : Int32) (x2 : Int32) (w : XW) : Option (Int32 × XW) := (bI (f_X9_waterOf k x1 w) (fun r1 w1 => (bV (f_X9_add k x1 (if (99 - r1) < x2 then (99 - r1) else x2) w1) (fun w2 => (some ((x2 - (if (99 - r1) < x2 then (99 - r1) else x2)), w2))))))
set_option maxRecDepth 100000 in
theorem W_X9_receive {g : GC} (hl : g.1.stackTraces = false) {k : Nat} (hk : isX9 k) {x1 : Int32} {x2 : Int32} {w : XW} : VE g cX9_receive 4 RX9 (some .int) [] (rmL 5 0 0) 0 0 oI 0 0 0 [(0, .ref (g.2.1 + k)), (1, .int x1), (2, .int x2)] [] w (f_X9_receive k x1 x2 w) := by
  unfold f_X9_receive
  refine v_iload_n dX9_receive_0 rfl 2 rfl ?_
  refine v_bipush (v := 99) dX9_receive_1 (by decide) ?_
  refine v_aload_n dX9_receive_3 rfl 0 rfl ?_
  refine v_iload_n dX9_receive_4 rfl 1 rfl ?_
  refine v_callVi (As := [.int x1]) cv_X9_61 (S_X9_waterOf hl hk) hk.1 rfl rfl rfl (Nat.le_of_ble_eq_true rfl) dX9_receive_5 (CR_rm (by decide) (by decide) (by decide) (by decide)) (fun r1 w1 => ?_)
  refine v_isub dX9_receive_8 ?_
  refine v_min gw_860 gw_552 gw_54 gw_553 dX9_receive_9 (CR_f1 _ _ _) (CR_f2 (Nat.le_of_ble_eq_true rfl) _ _ _) (by decide) (by decide) ?_
  refine v_istore_n dX9_receive_12 rfl (Nat.le_of_ble_eq_true rfl) rfl ?_
  refine v_aload_n dX9_receive_13 rfl 1 rfl ?_
  refine v_iload_n dX9_receive_14 rfl 2 rfl ?_
  refine v_iload_n dX9_receive_15 rfl 0 rfl ?_
  refine v_callVv (As := [.int x1, .int (if (99 - r1) < x2 then (99 - r1) else x2)]) cv_X9_57 (S_X9_add hl hk) hk.1 rfl rfl rfl (Nat.le_of_ble_eq_true rfl) dX9_receive_16 (CR_rm (by decide) (by decide) (by decide) (by decide)) (fun w2 => ?_)
  refine v_iload_n dX9_receive_19 rfl 3 rfl ?_
  refine v_iload_n dX9_receive_20 rfl 0 rfl ?_
  refine v_isub dX9_receive_21 ?_
  exact v_iret dX9_receive_22 rfl rfl (by decide) (by decide)
theorem S_X9_receive {g : GC} (hl : g.1.stackTraces = false) {k : Nat} (hk : isX9 k) {x1 : Int32} {x2 : Int32} {w : XW} : ∀ q, f_X9_receive k x1 x2 w = some q → MM g (.code yX9_receive cX9_receive 4 (some .int)) yX9_receive (rmL 5 0 0) 0 0 [.ref (g.2.1 + k), .int x1, .int x2] w (oI q) := fun q hq => MM_of (own := RX9) hl (by decide) gw_859 rfl (Nat.le_of_ble_eq_true rfl) (W_X9_receive hl hk q hq) ⟨rfl, rfl⟩

theorem dX9_leak_0 : decode cX9_leak 0 = .ok (.aload_n 0, 1) := by decide +kernel
theorem dX9_leak_1 : decode cX9_leak 1 = .ok (.dup, 1) := by decide +kernel
theorem dX9_leak_2 : decode cX9_leak 2 = .ok (.getfield 25, 3) := by decide +kernel
theorem dX9_leak_5 : decode cX9_leak 5 = .ok (.iload_n 1, 1) := by decide +kernel
theorem dX9_leak_6 : decode cX9_leak 6 = .ok (.iadd, 1) := by decide +kernel
theorem dX9_leak_7 : decode cX9_leak 7 = .ok (.putfield 25, 3) := by decide +kernel
theorem dX9_leak_10 : decode cX9_leak 10 = .ok (.return_, 1) := by decide +kernel
def f_X9_leak (k : Nat) (x1 : Int32) (w : XW) : Option (XW) := (some (wset w k 2 ((w.1 k 2) + x1)))
set_option maxRecDepth 100000 in
theorem W_X9_leak {g : GC} (hl : g.1.stackTraces = false) {k : Nat} (hk : isX9 k) {x1 : Int32} {w : XW} : VE g cX9_leak 2 RX9 none [] (rmL 3 0 0) 0 0 oV 0 0 0 [(0, .ref (g.2.1 + k)), (1, .int x1)] [] w (f_X9_leak k x1 w) := by
  unfold f_X9_leak
  refine v_aload_n dX9_leak_0 rfl 0 rfl ?_
  refine v_dup dX9_leak_1 rfl ?_
  refine v_getI fl_X9_25 hk.1 rfl dX9_leak_2 ?_
  refine v_iload_n dX9_leak_5 rfl 1 rfl ?_
  refine v_iadd dX9_leak_6 ?_
  refine v_putI fl_X9_25 hk.1 rfl (ty0 := .int) rfl rfl rfl dX9_leak_7 ?_
  exact v_vret dX9_leak_10 rfl rfl (by decide) (by decide)
theorem S_X9_leak {g : GC} (hl : g.1.stackTraces = false) {k : Nat} (hk : isX9 k) {x1 : Int32} {w : XW} : ∀ q, f_X9_leak k x1 w = some q → MM g (.code yX9_leak cX9_leak 2 none) yX9_leak (rmL 3 0 0) 0 0 [.ref (g.2.1 + k), .int x1] w (oV q) := fun q hq => MM_of (own := RX9) hl (by decide) gw_864 rfl (Nat.le_of_ble_eq_true rfl) (W_X9_leak hl hk q hq) ⟨rfl, rfl⟩

theorem dX9_waterSum_0 : decode cX9_waterSum 0 = .ok (.iconst 0, 1) := by decide +kernel
theorem dX9_waterSum_1 : decode cX9_waterSum 1 = .ok (.istore_n 1, 1) := by decide +kernel
theorem dX9_waterSum_2 : decode cX9_waterSum 2 = .ok (.iconst 0, 1) := by decide +kernel
theorem dX9_waterSum_3 : decode cX9_waterSum 3 = .ok (.istore_n 2, 1) := by decide +kernel
theorem dX9_waterSum_4 : decode cX9_waterSum 4 = .ok (.iload_n 2, 1) := by decide +kernel
theorem dX9_waterSum_5 : decode cX9_waterSum 5 = .ok (.aload_n 0, 1) := by decide +kernel
theorem dX9_waterSum_6 : decode cX9_waterSum 6 = .ok (.getfield 18, 3) := by decide +kernel
theorem dX9_waterSum_9 : decode cX9_waterSum 9 = .ok (.if_icmp .ge 18, 3) := by decide +kernel
theorem dX9_waterSum_12 : decode cX9_waterSum 12 = .ok (.iload_n 1, 1) := by decide +kernel
theorem dX9_waterSum_13 : decode cX9_waterSum 13 = .ok (.aload_n 0, 1) := by decide +kernel
theorem dX9_waterSum_14 : decode cX9_waterSum 14 = .ok (.getfield 9, 3) := by decide +kernel
theorem dX9_waterSum_17 : decode cX9_waterSum 17 = .ok (.iload_n 2, 1) := by decide +kernel
theorem dX9_waterSum_18 : decode cX9_waterSum 18 = .ok (.iaload, 1) := by decide +kernel
theorem dX9_waterSum_19 : decode cX9_waterSum 19 = .ok (.iadd, 1) := by decide +kernel
theorem dX9_waterSum_20 : decode cX9_waterSum 20 = .ok (.istore_n 1, 1) := by decide +kernel
theorem dX9_waterSum_21 : decode cX9_waterSum 21 = .ok (.iinc 2 1, 3) := by decide +kernel
theorem dX9_waterSum_24 : decode cX9_waterSum 24 = .ok (.goto (-20), 3) := by decide +kernel
theorem dX9_waterSum_27 : decode cX9_waterSum 27 = .ok (.iload_n 1, 1) := by decide +kernel
theorem dX9_waterSum_28 : decode cX9_waterSum 28 = .ok (.ireturn, 1) := by decide +kernel
def f_X9_waterSum_4 (k : Nat) : Nat → Int32 → Int32 → XW → Option (Int32 × XW)
  | 0, _, _, _ => none
  | n + 1, z1, z2, w => (if (w.1 k 0) ≤ z2 then (some (z1, w)) else (if inB z2 7 then (f_X9_waterSum_4 k n (z1 + (w.1 (k + 1) (Int32.toNatClampNeg z2))) (z2 + 1) w) else none))
set_option maxRecDepth 100000 in
theorem S_X9_waterSum_4 {g : GC} (hl : g.1.stackTraces = false) {k : Nat} (hk : isX9 k) : ∀ (n : Nat) (z1 : Int32) (z2 : Int32) (w : XW), VE g cX9_waterSum 3 RX9 (some .int) [] (rmL 3 0 0) 0 0 oI 0 0 4 [(0, .ref (g.2.1 + k)), (1, .int z1), (2, .int z2)] [] w (f_X9_waterSum_4 k n z1 z2 w) := by
  intro n
  induction n with
  | zero => intro z1 z2 w; exact v_none
  | succ n ih =>
    intro z1 z2 w
    rw [f_X9_waterSum_4]
    refine v_iload_n dX9_waterSum_4 rfl 2 rfl ?_
    refine v_aload_n dX9_waterSum_5 rfl 0 rfl ?_
    refine v_getI fl_X9_18 hk.1 rfl dX9_waterSum_6 ?_
    refine v_icmp_ge (tgt := 27) dX9_waterSum_9 (by decide) ?_ ?_
    · refine v_iload_n dX9_waterSum_27 rfl 1 rfl ?_
      exact v_iret dX9_waterSum_28 rfl rfl (by decide) (by decide)
    · refine v_iload_n dX9_waterSum_12 rfl 1 rfl ?_
      refine v_aload_n dX9_waterSum_13 rfl 0 rfl ?_
      refine v_getR fl_X9_9 hk.1 rfl dX9_waterSum_14 ?_
      refine v_iload_n dX9_waterSum_17 rfl 2 rfl ?_
      refine v_guard (fun h1 => ?_)
      refine v_iald hk.2.1 h1 dX9_waterSum_18 ?_
      refine v_iadd dX9_waterSum_19 ?_
      refine v_istore_n dX9_waterSum_20 rfl (Nat.le_of_ble_eq_true rfl) rfl ?_
      refine v_iinc (v := (z2 + 1)) dX9_waterSum_21 (q := 2) rfl rfl (Nat.le_of_ble_eq_true rfl) rfl ?_
      refine v_goto (tgt := 4) dX9_waterSum_24 (by decide) ?_
      refine v_sub [2, 1, 0] rfl ?_
      exact ih _ _ _
def f_X9_waterSum (k : Nat) (w : XW) : Option (Int32 × XW) := (f_X9_waterSum_4 k 1000 0 0 w)
set_option maxRecDepth 100000 in
theorem W_X9_waterSum {g : GC} (hl : g.1.stackTraces = false) {k : Nat} (hk : isX9 k) {w : XW} : VE g cX9_waterSum 3 RX9 (some .int) [] (rmL 3 0 0) 0 0 oI 0 0 0 [(0, .ref (g.2.1 + k))] [] w (f_X9_waterSum k w) := by
  unfold f_X9_waterSum
  refine v_iconst (v := 0) dX9_waterSum_0 (by decide) ?_
  refine v_istore_n dX9_waterSum_1 rfl (Nat.le_of_ble_eq_true rfl) rfl ?_
  refine v_iconst (v := 0) dX9_waterSum_2 (by decide) ?_
  refine v_istore_n dX9_waterSum_3 rfl (Nat.le_of_ble_eq_true rfl) rfl ?_
  refine v_sub [2, 1, 0] rfl ?_
  exact S_X9_waterSum_4 hl hk  _ _ _ _
theorem S_X9_waterSum {g : GC} (hl : g.1.stackTraces = false) {k : Nat} (hk : isX9 k) {w : XW} : ∀ q, f_X9_waterSum k w = some q → MM g (.code yX9_waterSum cX9_waterSum 3 (some .int)) yX9_waterSum (rmL 3 0 0) 0 0 [.ref (g.2.1 + k)] w (oI q) := fun q hq => MM_of (own := RX9) hl (by decide) gw_1441 rfl (Nat.le_of_ble_eq_true rfl) (W_X9_waterSum hl hk q hq) ⟨rfl, rfl⟩

theorem dX9_comesBefore_0 : decode cX9_comesBefore 0 = .ok (.aload_n 0, 1) := by decide +kernel
theorem dX9_comesBefore_1 : decode cX9_comesBefore 1 = .ok (.iload_n 1, 1) := by decide +kernel
theorem dX9_comesBefore_2 : decode cX9_comesBefore 2 = .ok (.invokevirtual 61, 3) := by decide +kernel
theorem dX9_comesBefore_5 : decode cX9_comesBefore 5 = .ok (.aload_n 0, 1) := by decide +kernel
theorem dX9_comesBefore_6 : decode cX9_comesBefore 6 = .ok (.iload_n 2, 1) := by decide +kernel
theorem dX9_comesBefore_7 : decode cX9_comesBefore 7 = .ok (.invokevirtual 61, 3) := by decide +kernel
theorem dX9_comesBefore_10 : decode cX9_comesBefore 10 = .ok (.if_icmp .eq 22, 3) := by decide +kernel
theorem dX9_comesBefore_13 : decode cX9_comesBefore 13 = .ok (.aload_n 0, 1) := by decide +kernel
theorem dX9_comesBefore_14 : decode cX9_comesBefore 14 = .ok (.iload_n 1, 1) := by decide +kernel
theorem dX9_comesBefore_15 : decode cX9_comesBefore 15 = .ok (.invokevirtual 61, 3) := by decide +kernel
theorem dX9_comesBefore_18 : decode cX9_comesBefore 18 = .ok (.aload_n 0, 1) := by decide +kernel
theorem dX9_comesBefore_19 : decode cX9_comesBefore 19 = .ok (.iload_n 2, 1) := by decide +kernel
theorem dX9_comesBefore_20 : decode cX9_comesBefore 20 = .ok (.invokevirtual 61, 3) := by decide +kernel
theorem dX9_comesBefore_23 : decode cX9_comesBefore 23 = .ok (.if_icmp .le 7, 3) := by decide +kernel
theorem dX9_comesBefore_26 : decode cX9_comesBefore 26 = .ok (.iconst 1, 1) := by decide +kernel
theorem dX9_comesBefore_27 : decode cX9_comesBefore 27 = .ok (.goto 4, 3) := by decide +kernel
theorem dX9_comesBefore_30 : decode cX9_comesBefore 30 = .ok (.iconst 0, 1) := by decide +kernel
theorem dX9_comesBefore_31 : decode cX9_comesBefore 31 = .ok (.ireturn, 1) := by decide +kernel
theorem dX9_comesBefore_32 : decode cX9_comesBefore 32 = .ok (.aload_n 0, 1) := by decide +kernel
theorem dX9_comesBefore_33 : decode cX9_comesBefore 33 = .ok (.iload_n 1, 1) := by decide +kernel
theorem dX9_comesBefore_34 : decode cX9_comesBefore 34 = .ok (.invokevirtual 54, 3) := by decide +kernel
theorem dX9_comesBefore_37 : decode cX9_comesBefore 37 = .ok (.aload_n 0, 1) := by decide +kernel
theorem dX9_comesBefore_38 : decode cX9_comesBefore 38 = .ok (.iload_n 2, 1) := by decide +kernel
theorem dX9_comesBefore_39 : decode cX9_comesBefore 39 = .ok (.invokevirtual 54, 3) := by decide +kernel
theorem dX9_comesBefore_42 : decode cX9_comesBefore 42 = .ok (.if_icmp .eq 22, 3) := by decide +kernel
theorem dX9_comesBefore_45 : decode cX9_comesBefore 45 = .ok (.aload_n 0, 1) := by decide +kernel
theorem dX9_comesBefore_46 : decode cX9_comesBefore 46 = .ok (.iload_n 1, 1) := by decide +kernel
theorem dX9_comesBefore_47 : decode cX9_comesBefore 47 = .ok (.invokevirtual 54, 3) := by decide +kernel
theorem dX9_comesBefore_50 : decode cX9_comesBefore 50 = .ok (.aload_n 0, 1) := by decide +kernel
theorem dX9_comesBefore_51 : decode cX9_comesBefore 51 = .ok (.iload_n 2, 1) := by decide +kernel
theorem dX9_comesBefore_52 : decode cX9_comesBefore 52 = .ok (.invokevirtual 54, 3) := by decide +kernel
theorem dX9_comesBefore_55 : decode cX9_comesBefore 55 = .ok (.if_icmp .le 7, 3) := by decide +kernel
theorem dX9_comesBefore_58 : decode cX9_comesBefore 58 = .ok (.iconst 1, 1) := by decide +kernel
theorem dX9_comesBefore_59 : decode cX9_comesBefore 59 = .ok (.goto 4, 3) := by decide +kernel
theorem dX9_comesBefore_62 : decode cX9_comesBefore 62 = .ok (.iconst 0, 1) := by decide +kernel
theorem dX9_comesBefore_63 : decode cX9_comesBefore 63 = .ok (.ireturn, 1) := by decide +kernel
theorem dX9_comesBefore_64 : decode cX9_comesBefore 64 = .ok (.iload_n 1, 1) := by decide +kernel
theorem dX9_comesBefore_65 : decode cX9_comesBefore 65 = .ok (.iload_n 2, 1) := by decide +kernel
theorem dX9_comesBefore_66 : decode cX9_comesBefore 66 = .ok (.if_icmp .ge 7, 3) := by decide +kernel
theorem dX9_comesBefore_69 : decode cX9_comesBefore 69 = .ok (.iconst 1, 1) := by decide +kernel
theorem dX9_comesBefore_70 : decode cX9_comesBefore 70 = .ok (.goto 4, 3) := by decide +kernel
theorem dX9_comesBefore_73 : decode cX9_comesBefore 73 = .ok (.iconst 0, 1) := by decide +kernel
theorem dX9_comesBefore_74 : decode cX9_comesBefore 74 = .ok (.ireturn, 1) := by decide +kernel
def f_X9_comesBefore (k : Nat) (x1 : Int32) (x2 : Int32) (w : XW) : Option (Int32 × XW) := (bI (f_X9_waterOf k x1 w) (fun r1 w1 => (bI (f_X9_waterOf k x2 w1) (fun r2 w2 => (if r1 = r2 then (bI (f_X9_termCountOf k x1 w2) (fun r3 w3 => (bI (f_X9_termCountOf k x2 w3) (fun r4 w4 => (if r3 = r4 then (if x2 ≤ x1 then (some (0, w4)) else (some (1, w4))) else (bI (f_X9_termCountOf k x1 w4) (fun r5 w5 => (bI (f_X9_termCountOf k x2 w5) (fun r6 w6 => (if r5 ≤ r6 then (some (0, w6)) else (some (1, w6)))))))))))) else (bI (f_X9_waterOf k x1 w2) (fun r7 w7 => (bI (f_X9_waterOf k x2 w7) (fun r8 w8 => (if r7 ≤ r8 then (some (0, w8)) else (some (1, w8))))))))))))
set_option maxRecDepth 100000 in
theorem W_X9_comesBefore {g : GC} (hl : g.1.stackTraces = false) {k : Nat} (hk : isX9 k) {x1 : Int32} {x2 : Int32} {w : XW} : VE g cX9_comesBefore 3 RX9 (some .boolean) [] (rmL 5 0 0) 0 0 oI 0 0 0 [(0, .ref (g.2.1 + k)), (1, .int x1), (2, .int x2)] [] w (f_X9_comesBefore k x1 x2 w) := by
  unfold f_X9_comesBefore
  refine v_aload_n dX9_comesBefore_0 rfl 0 rfl ?_
  refine v_iload_n dX9_comesBefore_1 rfl 1 rfl ?_
  refine v_callVi (As := [.int x1]) cv_X9_61 (S_X9_waterOf hl hk) hk.1 rfl rfl rfl (Nat.le_of_ble_eq_true rfl) dX9_comesBefore_2 (CR_rm (by decide) (by decide) (by decide) (by decide)) (fun r1 w1 => ?_)
  refine v_aload_n dX9_comesBefore_5 rfl 0 rfl ?_
  refine v_iload_n dX9_comesBefore_6 rfl 2 rfl ?_
  refine v_callVi (As := [.int x2]) cv_X9_61 (S_X9_waterOf hl hk) hk.1 rfl rfl rfl (Nat.le_of_ble_eq_true rfl) dX9_comesBefore_7 (CR_rm (by decide) (by decide) (by decide) (by decide)) (fun r2 w2 => ?_)
  refine v_icmp_eq (tgt := 32) dX9_comesBefore_10 (by decide) ?_ ?_
  · refine v_aload_n dX9_comesBefore_32 rfl 0 rfl ?_
    refine v_iload_n dX9_comesBefore_33 rfl 1 rfl ?_
    refine v_callVi (As := [.int x1]) cv_X9_54 (S_X9_termCountOf hl hk) hk.1 rfl rfl rfl (Nat.le_of_ble_eq_true rfl) dX9_comesBefore_34 (CR_rm (by decide) (by decide) (by decide) (by decide)) (fun r3 w3 => ?_)
    refine v_aload_n dX9_comesBefore_37 rfl 0 rfl ?_
    refine v_iload_n dX9_comesBefore_38 rfl 2 rfl ?_
    refine v_callVi (As := [.int x2]) cv_X9_54 (S_X9_termCountOf hl hk) hk.1 rfl rfl rfl (Nat.le_of_ble_eq_true rfl) dX9_comesBefore_39 (CR_rm (by decide) (by decide) (by decide) (by decide)) (fun r4 w4 => ?_)
    refine v_icmp_eq (tgt := 64) dX9_comesBefore_42 (by decide) ?_ ?_
    · refine v_iload_n dX9_comesBefore_64 rfl 1 rfl ?_
      refine v_iload_n dX9_comesBefore_65 rfl 2 rfl ?_
      refine v_icmp_ge (tgt := 73) dX9_comesBefore_66 (by decide) ?_ ?_
      · refine v_iconst (v := 0) dX9_comesBefore_73 (by decide) ?_
        exact v_zret dX9_comesBefore_74 rfl rfl rfl (by decide) (by decide)
      · refine v_iconst (v := 1) dX9_comesBefore_69 (by decide) ?_
        refine v_goto (tgt := 74) dX9_comesBefore_70 (by decide) ?_
        exact v_zret dX9_comesBefore_74 rfl rfl rfl (by decide) (by decide)
    · refine v_aload_n dX9_comesBefore_45 rfl 0 rfl ?_
      refine v_iload_n dX9_comesBefore_46 rfl 1 rfl ?_
      refine v_callVi (As := [.int x1]) cv_X9_54 (S_X9_termCountOf hl hk) hk.1 rfl rfl rfl (Nat.le_of_ble_eq_true rfl) dX9_comesBefore_47 (CR_rm (by decide) (by decide) (by decide) (by decide)) (fun r5 w5 => ?_)
      refine v_aload_n dX9_comesBefore_50 rfl 0 rfl ?_
      refine v_iload_n dX9_comesBefore_51 rfl 2 rfl ?_
      refine v_callVi (As := [.int x2]) cv_X9_54 (S_X9_termCountOf hl hk) hk.1 rfl rfl rfl (Nat.le_of_ble_eq_true rfl) dX9_comesBefore_52 (CR_rm (by decide) (by decide) (by decide) (by decide)) (fun r6 w6 => ?_)
      refine v_icmp_le (tgt := 62) dX9_comesBefore_55 (by decide) ?_ ?_
      · refine v_iconst (v := 0) dX9_comesBefore_62 (by decide) ?_
        exact v_zret dX9_comesBefore_63 rfl rfl rfl (by decide) (by decide)
      · refine v_iconst (v := 1) dX9_comesBefore_58 (by decide) ?_
        refine v_goto (tgt := 63) dX9_comesBefore_59 (by decide) ?_
        exact v_zret dX9_comesBefore_63 rfl rfl rfl (by decide) (by decide)
  · refine v_aload_n dX9_comesBefore_13 rfl 0 rfl ?_
    refine v_iload_n dX9_comesBefore_14 rfl 1 rfl ?_
    refine v_callVi (As := [.int x1]) cv_X9_61 (S_X9_waterOf hl hk) hk.1 rfl rfl rfl (Nat.le_of_ble_eq_true rfl) dX9_comesBefore_15 (CR_rm (by decide) (by decide) (by decide) (by decide)) (fun r7 w7 => ?_)
    refine v_aload_n dX9_comesBefore_18 rfl 0 rfl ?_
    refine v_iload_n dX9_comesBefore_19 rfl 2 rfl ?_
    refine v_callVi (As := [.int x2]) cv_X9_61 (S_X9_waterOf hl hk) hk.1 rfl rfl rfl (Nat.le_of_ble_eq_true rfl) dX9_comesBefore_20 (CR_rm (by decide) (by decide) (by decide) (by decide)) (fun r8 w8 => ?_)
    refine v_icmp_le (tgt := 30) dX9_comesBefore_23 (by decide) ?_ ?_
    · refine v_iconst (v := 0) dX9_comesBefore_30 (by decide) ?_
      exact v_zret dX9_comesBefore_31 rfl rfl rfl (by decide) (by decide)
    · refine v_iconst (v := 1) dX9_comesBefore_26 (by decide) ?_
      refine v_goto (tgt := 31) dX9_comesBefore_27 (by decide) ?_
      exact v_zret dX9_comesBefore_31 rfl rfl rfl (by decide) (by decide)
theorem S_X9_comesBefore {g : GC} (hl : g.1.stackTraces = false) {k : Nat} (hk : isX9 k) {x1 : Int32} {x2 : Int32} {w : XW} : ∀ q, f_X9_comesBefore k x1 x2 w = some q → MM g (.code yX9_comesBefore cX9_comesBefore 3 (some .boolean)) yX9_comesBefore (rmL 5 0 0) 0 0 [.ref (g.2.1 + k), .int x1, .int x2] w (oI q) := fun q hq => MM_of (own := RX9) hl (by decide) gw_1415 rfl (Nat.le_of_ble_eq_true rfl) (W_X9_comesBefore hl hk q hq) ⟨rfl, rfl⟩

theorem dX9_rankOf_0 : decode cX9_rankOf 0 = .ok (.iconst 0, 1) := by decide +kernel
theorem dX9_rankOf_1 : decode cX9_rankOf 1 = .ok (.istore_n 2, 1) := by decide +kernel
theorem dX9_rankOf_2 : decode cX9_rankOf 2 = .ok (.iconst 0, 1) := by decide +kernel
theorem dX9_rankOf_3 : decode cX9_rankOf 3 = .ok (.istore_n 3, 1) := by decide +kernel
theorem dX9_rankOf_4 : decode cX9_rankOf 4 = .ok (.iload_n 3, 1) := by decide +kernel
theorem dX9_rankOf_5 : decode cX9_rankOf 5 = .ok (.aload_n 0, 1) := by decide +kernel
theorem dX9_rankOf_6 : decode cX9_rankOf 6 = .ok (.getfield 18, 3) := by decide +kernel
theorem dX9_rankOf_9 : decode cX9_rankOf 9 = .ok (.if_icmp .ge 21, 3) := by decide +kernel
theorem dX9_rankOf_12 : decode cX9_rankOf 12 = .ok (.aload_n 0, 1) := by decide +kernel
theorem dX9_rankOf_13 : decode cX9_rankOf 13 = .ok (.iload_n 3, 1) := by decide +kernel
theorem dX9_rankOf_14 : decode cX9_rankOf 14 = .ok (.iload_n 1, 1) := by decide +kernel
theorem dX9_rankOf_15 : decode cX9_rankOf 15 = .ok (.invokevirtual 70, 3) := by decide +kernel
theorem dX9_rankOf_18 : decode cX9_rankOf 18 = .ok (.ifCond .eq 6, 3) := by decide +kernel
theorem dX9_rankOf_21 : decode cX9_rankOf 21 = .ok (.iinc 2 1, 3) := by decide +kernel
theorem dX9_rankOf_24 : decode cX9_rankOf 24 = .ok (.iinc 3 1, 3) := by decide +kernel
theorem dX9_rankOf_27 : decode cX9_rankOf 27 = .ok (.goto (-23), 3) := by decide +kernel
theorem dX9_rankOf_30 : decode cX9_rankOf 30 = .ok (.iload_n 2, 1) := by decide +kernel
theorem dX9_rankOf_31 : decode cX9_rankOf 31 = .ok (.ireturn, 1) := by decide +kernel
def f_X9_rankOf_4 (k : Nat) (y1 : Int32) : Nat → Int32 → Int32 → XW → Option (Int32 × XW)
  | 0, _, _, _ => none
  | n + 1, z2, z3, w => (if (w.1 k 0) ≤ z3 then (some (z2, w)) else (bI (f_X9_comesBefore k z3 y1 w) (fun r1 w1 => (if r1 = 0 then (f_X9_rankOf_4 k y1 n z2 (z3 + 1) w1) else (f_X9_rankOf_4 k y1 n (z2 + 1) (z3 + 1) w1)))))
set_option maxRecDepth 100000 in
theorem S_X9_rankOf_4 {g : GC} (hl : g.1.stackTraces = false) {k : Nat} (hk : isX9 k) {y1 : Int32} : ∀ (n : Nat) (z2 : Int32) (z3 : Int32) (w : XW), VE g cX9_rankOf 4 RX9 (some .int) [] (rmL 6 0 0) 0 0 oI 0 0 4 [(0, .ref (g.2.1 + k)), (1, .int y1), (2, .int z2), (3, .int z3)] [] w (f_X9_rankOf_4 k y1 n z2 z3 w) := by
  intro n
  induction n with
  | zero => intro z2 z3 w; exact v_none
  | succ n ih =>
    intro z2 z3 w
    rw [f_X9_rankOf_4]
    refine v_iload_n dX9_rankOf_4 rfl 3 rfl ?_
    refine v_aload_n dX9_rankOf_5 rfl 0 rfl ?_
    refine v_getI fl_X9_18 hk.1 rfl dX9_rankOf_6 ?_
    refine v_icmp_ge (tgt := 30) dX9_rankOf_9 (by decide) ?_ ?_
    · refine v_iload_n dX9_rankOf_30 rfl 2 rfl ?_
      exact v_iret dX9_rankOf_31 rfl rfl (by decide) (by decide)
    · refine v_aload_n dX9_rankOf_12 rfl 0 rfl ?_
      refine v_iload_n dX9_rankOf_13 rfl 3 rfl ?_
      refine v_iload_n dX9_rankOf_14 rfl 1 rfl ?_
      refine v_callVi (As := [.int z3, .int y1]) cv_X9_70 (S_X9_comesBefore hl hk) hk.1 rfl rfl rfl (Nat.le_of_ble_eq_true rfl) dX9_rankOf_15 (CR_rm (by decide) (by decide) (by decide) (by decide)) (fun r1 w1 => ?_)
      refine v_if_eq (tgt := 24) dX9_rankOf_18 (by decide) ?_ ?_
      · refine v_iinc (v := (z3 + 1)) dX9_rankOf_24 (q := 3) rfl rfl (Nat.le_of_ble_eq_true rfl) rfl ?_
        refine v_goto (tgt := 4) dX9_rankOf_27 (by decide) ?_
        refine v_sub [1, 2, 3, 0] rfl ?_
        exact ih _ _ _
      · refine v_iinc (v := (z2 + 1)) dX9_rankOf_21 (q := 2) rfl rfl (Nat.le_of_ble_eq_true rfl) rfl ?_
        refine v_iinc (v := (z3 + 1)) dX9_rankOf_24 (q := 3) rfl rfl (Nat.le_of_ble_eq_true rfl) rfl ?_
        refine v_goto (tgt := 4) dX9_rankOf_27 (by decide) ?_
        refine v_sub [2, 3, 1, 0] rfl ?_
        exact ih _ _ _
def f_X9_rankOf (k : Nat) (x1 : Int32) (w : XW) : Option (Int32 × XW) := (f_X9_rankOf_4 k x1 1000 0 0 w)
set_option maxRecDepth 100000 in
theorem W_X9_rankOf {g : GC} (hl : g.1.stackTraces = false) {k : Nat} (hk : isX9 k) {x1 : Int32} {w : XW} : VE g cX9_rankOf 4 RX9 (some .int) [] (rmL 6 0 0) 0 0 oI 0 0 0 [(0, .ref (g.2.1 + k)), (1, .int x1)] [] w (f_X9_rankOf k x1 w) := by
  unfold f_X9_rankOf
  refine v_iconst (v := 0) dX9_rankOf_0 (by decide) ?_
  refine v_istore_n dX9_rankOf_1 rfl (Nat.le_of_ble_eq_true rfl) rfl ?_
  refine v_iconst (v := 0) dX9_rankOf_2 (by decide) ?_
  refine v_istore_n dX9_rankOf_3 rfl (Nat.le_of_ble_eq_true rfl) rfl ?_
  refine v_sub [2, 3, 1, 0] rfl ?_
  exact S_X9_rankOf_4 hl hk  _ _ _ _
theorem S_X9_rankOf {g : GC} (hl : g.1.stackTraces = false) {k : Nat} (hk : isX9 k) {x1 : Int32} {w : XW} : ∀ q, f_X9_rankOf k x1 w = some q → MM g (.code yX9_rankOf cX9_rankOf 4 (some .int)) yX9_rankOf (rmL 6 0 0) 0 0 [.ref (g.2.1 + k), .int x1] w (oI q) := fun q hq => MM_of (own := RX9) hl (by decide) gw_1411 rfl (Nat.le_of_ble_eq_true rfl) (W_X9_rankOf hl hk q hq) ⟨rfl, rfl⟩

theorem dX9_sectionAtRank_0 : decode cX9_sectionAtRank 0 = .ok (.iconst 0, 1) := by decide +kernel
theorem dX9_sectionAtRank_1 : decode cX9_sectionAtRank 1 = .ok (.istore_n 2, 1) := by decide +kernel
theorem dX9_sectionAtRank_2 : decode cX9_sectionAtRank 2 = .ok (.iload_n 2, 1) := by decide +kernel
theorem dX9_sectionAtRank_3 : decode cX9_sectionAtRank 3 = .ok (.aload_n 0, 1) := by decide +kernel
theorem dX9_sectionAtRank_4 : decode cX9_sectionAtRank 4 = .ok (.getfield 18, 3) := by decide +kernel
theorem dX9_sectionAtRank_7 : decode cX9_sectionAtRank 7 = .ok (.if_icmp .ge 20, 3) := by decide +kernel
theorem dX9_sectionAtRank_10 : decode cX9_sectionAtRank 10 = .ok (.aload_n 0, 1) := by decide +kernel
theorem dX9_sectionAtRank_11 : decode cX9_sectionAtRank 11 = .ok (.iload_n 2, 1) := by decide +kernel
theorem dX9_sectionAtRank_12 : decode cX9_sectionAtRank 12 = .ok (.invokevirtual 73, 3) := by decide +kernel
theorem dX9_sectionAtRank_15 : decode cX9_sectionAtRank 15 = .ok (.iload_n 1, 1) := by decide +kernel
theorem dX9_sectionAtRank_16 : decode cX9_sectionAtRank 16 = .ok (.if_icmp .ne 5, 3) := by decide +kernel
theorem dX9_sectionAtRank_19 : decode cX9_sectionAtRank 19 = .ok (.iload_n 2, 1) := by decide +kernel
theorem dX9_sectionAtRank_20 : decode cX9_sectionAtRank 20 = .ok (.ireturn, 1) := by decide +kernel
theorem dX9_sectionAtRank_21 : decode cX9_sectionAtRank 21 = .ok (.iinc 2 1, 3) := by decide +kernel
theorem dX9_sectionAtRank_24 : decode cX9_sectionAtRank 24 = .ok (.goto (-22), 3) := by decide +kernel
theorem dX9_sectionAtRank_27 : decode cX9_sectionAtRank 27 = .ok (.iconst (-1), 1) := by decide +kernel
theorem dX9_sectionAtRank_28 : decode cX9_sectionAtRank 28 = .ok (.ireturn, 1) := by decide +kernel
def f_X9_sectionAtRank_2 (k : Nat) (y1 : Int32) : Nat → Int32 → XW → Option (Int32 × XW)
  | 0, _, _ => none
  | n + 1, z2, w => (if (w.1 k 0) ≤ z2 then (some ((-1), w)) else (bI (f_X9_rankOf k z2 w) (fun r1 w1 => (if r1 = y1 then (some (z2, w1)) else (f_X9_sectionAtRank_2 k y1 n (z2 + 1) w1)))))
set_option maxRecDepth 100000 in
theorem S_X9_sectionAtRank_2 {g : GC} (hl : g.1.stackTraces = false) {k : Nat} (hk : isX9 k) {y1 : Int32} : ∀ (n : Nat) (z2 : Int32) (w : XW), VE g cX9_sectionAtRank 3 RX9 (some .int) [] (rmL 7 0 0) 0 0 oI 0 0 2 [(0, .ref (g.2.1 + k)), (1, .int y1), (2, .int z2)] [] w (f_X9_sectionAtRank_2 k y1 n z2 w) := by
  intro n
  induction n with
  | zero => intro z2 w; exact v_none
  | succ n ih =>
    intro z2 w
    rw [f_X9_sectionAtRank_2]
    refine v_iload_n dX9_sectionAtRank_2 rfl 2 rfl ?_
    refine v_aload_n dX9_sectionAtRank_3 rfl 0 rfl ?_
    refine v_getI fl_X9_18 hk.1 rfl dX9_sectionAtRank_4 ?_
    refine v_icmp_ge (tgt := 27) dX9_sectionAtRank_7 (by decide) ?_ ?_
    · refine v_iconst (v := (-1)) dX9_sectionAtRank_27 (by decide) ?_
      exact v_iret dX9_sectionAtRank_28 rfl rfl (by decide) (by decide)
    · refine v_aload_n dX9_sectionAtRank_10 rfl 0 rfl ?_
      refine v_iload_n dX9_sectionAtRank_11 rfl 2 rfl ?_
      refine v_callVi (As := [.int z2]) cv_X9_73 (S_X9_rankOf hl hk) hk.1 rfl rfl rfl (Nat.le_of_ble_eq_true rfl) dX9_sectionAtRank_12 (CR_rm (by decide) (by decide) (by decide) (by decide)) (fun r1 w1 => ?_)
      refine v_iload_n dX9_sectionAtRank_15 rfl 1 rfl ?_
      refine v_icmp_ne (tgt := 21) dX9_sectionAtRank_16 (by decide) ?_ ?_
      · refine v_iinc (v := (z2 + 1)) dX9_sectionAtRank_21 (q := 2) rfl rfl (Nat.le_of_ble_eq_true rfl) rfl ?_
        refine v_goto (tgt := 2) dX9_sectionAtRank_24 (by decide) ?_
        refine v_sub [1, 2, 0] rfl ?_
        exact ih _ _
      · refine v_iload_n dX9_sectionAtRank_19 rfl 2 rfl ?_
        exact v_iret dX9_sectionAtRank_20 rfl rfl (by decide) (by decide)
def f_X9_sectionAtRank (k : Nat) (x1 : Int32) (w : XW) : Option (Int32 × XW) := (f_X9_sectionAtRank_2 k x1 1000 0 w)
set_option maxRecDepth 100000 in
theorem W_X9_sectionAtRank {g : GC} (hl : g.1.stackTraces = false) {k : Nat} (hk : isX9 k) {x1 : Int32} {w : XW} : VE g cX9_sectionAtRank 3 RX9 (some .int) [] (rmL 7 0 0) 0 0 oI 0 0 0 [(0, .ref (g.2.1 + k)), (1, .int x1)] [] w (f_X9_sectionAtRank k x1 w) := by
  unfold f_X9_sectionAtRank
  refine v_iconst (v := 0) dX9_sectionAtRank_0 (by decide) ?_
  refine v_istore_n dX9_sectionAtRank_1 rfl (Nat.le_of_ble_eq_true rfl) rfl ?_
  refine v_sub [1, 2, 0] rfl ?_
  exact S_X9_sectionAtRank_2 hl hk  _ _ _
theorem S_X9_sectionAtRank {g : GC} (hl : g.1.stackTraces = false) {k : Nat} (hk : isX9 k) {x1 : Int32} {w : XW} : ∀ q, f_X9_sectionAtRank k x1 w = some q → MM g (.code yX9_sectionAtRank cX9_sectionAtRank 3 (some .int)) yX9_sectionAtRank (rmL 7 0 0) 0 0 [.ref (g.2.1 + k), .int x1] w (oI q) := fun q hq => MM_of (own := RX9) hl (by decide) gw_1407 rfl (Nat.le_of_ble_eq_true rfl) (W_X9_sectionAtRank hl hk q hq) ⟨rfl, rfl⟩
