theorem dX4_copyFrom_0 : decode cX4_copyFrom 0 = .ok (.aload_n 0, 1) := by decide +kernel
theorem dX4_copyFrom_1 : decode cX4_copyFrom 1 = .ok (.aload_n 1, 1) := by decide +kernel
theorem dX4_copyFrom_2 : decode cX4_copyFrom 2 = .ok (.getfield 15, 3) := by decide +kernel
theorem dX4_copyFrom_5 : decode cX4_copyFrom 5 = .ok (.putfield 15, 3) := by decide +kernel
theorem dX4_copyFrom_8 : decode cX4_copyFrom 8 = .ok (.aload_n 1, 1) := by decide +kernel
theorem dX4_copyFrom_9 : decode cX4_copyFrom 9 = .ok (.getfield 9, 3) := by decide +kernel
theorem dX4_copyFrom_12 : decode cX4_copyFrom 12 = .ok (.iconst 0, 1) := by decide +kernel
theorem dX4_copyFrom_13 : decode cX4_copyFrom 13 = .ok (.aload_n 0, 1) := by decide +kernel
theorem dX4_copyFrom_14 : decode cX4_copyFrom 14 = .ok (.getfield 9, 3) := by decide +kernel
theorem dX4_copyFrom_17 : decode cX4_copyFrom 17 = .ok (.iconst 0, 1) := by decide +kernel
theorem dX4_copyFrom_18 : decode cX4_copyFrom 18 = .ok (.bipush 7, 2) := by decide +kernel
theorem dX4_copyFrom_20 : decode cX4_copyFrom 20 = .ok (.invokestatic 19, 3) := by decide +kernel
theorem dX4_copyFrom_23 : decode cX4_copyFrom 23 = .ok (.return_, 1) := by decide +kernel
def f_X4_copyFrom (k : Nat) (k1 : Nat) (w : XW) : Option (XW) := (some (wcpy (wset w k 0 (w.1 k1 0)) (k1 + 1) (Int32.toNatClampNeg 0) (k + 1) (Int32.toNatClampNeg 0) (Int32.toNatClampNeg 7)))
set_option maxRecDepth 100000 in
theorem W_X4_copyFrom {g : GC} (hl : g.1.stackTraces = false) {k : Nat} (hk : isX4 k) {k1 : Nat} (hk1 : isX4 k1) {w : XW} : VE g cX4_copyFrom 2 RX4 none [] (rmL 5 0 0) 0 0 oV 0 0 0 [(0, .ref (g.2.1 + k)), (1, .ref (g.2.1 + k1))] [] w (f_X4_copyFrom k k1 w) := by
  unfold f_X4_copyFrom
  refine v_aload_n dX4_copyFrom_0 rfl 0 rfl ?_
  refine v_aload_n dX4_copyFrom_1 rfl 1 rfl ?_
  refine v_getI fl_X4_15 hk1.1 rfl dX4_copyFrom_2 ?_
  refine v_putI fl_X4_15 hk.1 rfl (ty0 := .int) rfl rfl rfl dX4_copyFrom_5 ?_
  refine v_aload_n dX4_copyFrom_8 rfl 1 rfl ?_
  refine v_getR fl_X4_9 hk1.1 rfl dX4_copyFrom_9 ?_
  refine v_iconst (v := 0) dX4_copyFrom_12 (by decide) ?_
  refine v_aload_n dX4_copyFrom_13 rfl 0 rfl ?_
  refine v_getR fl_X4_9 hk.1 rfl dX4_copyFrom_14 ?_
  refine v_iconst (v := 0) dX4_copyFrom_17 (by decide) ?_
  refine v_bipush (v := 7) dX4_copyFrom_18 (by decide) ?_
  refine v_copy (ty := .int) hk1.2 hk.2 (Or.inl rfl) rfl rfl gw_788 gw_783 gw_782 gw_68 (by decide) (by decide) (by decide) (by decide) (by decide) (fun _ _ => rfl) (CR_f1 _ _ _) (CR_f3 (Nat.le_of_ble_eq_true rfl) _ _ _) dX4_copyFrom_20 ?_
  exact v_vret dX4_copyFrom_23 rfl rfl (by decide) (by decide)
theorem S_X4_copyFrom {g : GC} (hl : g.1.stackTraces = false) {k : Nat} (hk : isX4 k) {k1 : Nat} (hk1 : isX4 k1) {w : XW} : ∀ q, f_X4_copyFrom k k1 w = some q → MM g (.code yX4_copyFrom cX4_copyFrom 2 none) yX4_copyFrom (rmL 5 0 0) 0 0 [.ref (g.2.1 + k), .ref (g.2.1 + k1)] w (oV q) := fun q hq => MM_of (own := RX4) hl (by decide) gw_787 rfl (Nat.le_of_ble_eq_true rfl) (W_X4_copyFrom hl hk hk1 q hq) ⟨rfl, rfl⟩

theorem dX4_layerHolding_0 : decode cX4_layerHolding 0 = .ok (.iload_n 1, 1) := by decide +kernel
theorem dX4_layerHolding_1 : decode cX4_layerHolding 1 = .ok (.ifCond .lt 20, 3) := by decide +kernel
theorem dX4_layerHolding_4 : decode cX4_layerHolding 4 = .ok (.iload_n 1, 1) := by decide +kernel
theorem dX4_layerHolding_5 : decode cX4_layerHolding 5 = .ok (.aload_n 0, 1) := by decide +kernel
theorem dX4_layerHolding_6 : decode cX4_layerHolding 6 = .ok (.getfield 15, 3) := by decide +kernel
theorem dX4_layerHolding_9 : decode cX4_layerHolding 9 = .ok (.if_icmp .ge 12, 3) := by decide +kernel
theorem dX4_layerHolding_12 : decode cX4_layerHolding 12 = .ok (.aload_n 0, 1) := by decide +kernel
theorem dX4_layerHolding_13 : decode cX4_layerHolding 13 = .ok (.getfield 9, 3) := by decide +kernel
theorem dX4_layerHolding_16 : decode cX4_layerHolding 16 = .ok (.iload_n 1, 1) := by decide +kernel
theorem dX4_layerHolding_17 : decode cX4_layerHolding 17 = .ok (.iaload, 1) := by decide +kernel
theorem dX4_layerHolding_18 : decode cX4_layerHolding 18 = .ok (.goto 4, 3) := by decide +kernel
theorem dX4_layerHolding_21 : decode cX4_layerHolding 21 = .ok (.iconst (-1), 1) := by decide +kernel
theorem dX4_layerHolding_22 : decode cX4_layerHolding 22 = .ok (.ireturn, 1) := by decide +kernel
def f_X4_layerHolding (k : Nat) (x1 : Int32) (w : XW) : Option (Int32 × XW) := (if x1 < 0 then (some ((-1), w)) else (if (w.1 k 0) ≤ x1 then (some ((-1), w)) else (if inB x1 7 then (some ((w.1 (k + 1) (Int32.toNatClampNeg x1)), w)) else none)))
set_option maxRecDepth 100000 in
theorem W_X4_layerHolding {g : GC} (hl : g.1.stackTraces = false) {k : Nat} (hk : isX4 k) {x1 : Int32} {w : XW} : VE g cX4_layerHolding 2 RX4 (some .int) [] (rmL 3 0 0) 0 0 oI 0 0 0 [(0, .ref (g.2.1 + k)), (1, .int x1)] [] w (f_X4_layerHolding k x1 w) := by
  unfold f_X4_layerHolding
  refine v_iload_n dX4_layerHolding_0 rfl 1 rfl ?_
  refine v_if_lt (tgt := 21) dX4_layerHolding_1 (by decide) ?_ ?_
  · refine v_iconst (v := (-1)) dX4_layerHolding_21 (by decide) ?_
    exact v_iret dX4_layerHolding_22 rfl rfl (by decide) (by decide)
  · refine v_iload_n dX4_layerHolding_4 rfl 1 rfl ?_
    refine v_aload_n dX4_layerHolding_5 rfl 0 rfl ?_
    refine v_getI fl_X4_15 hk.1 rfl dX4_layerHolding_6 ?_
    refine v_icmp_ge (tgt := 21) dX4_layerHolding_9 (by decide) ?_ ?_
    · refine v_iconst (v := (-1)) dX4_layerHolding_21 (by decide) ?_
      exact v_iret dX4_layerHolding_22 rfl rfl (by decide) (by decide)
    · refine v_aload_n dX4_layerHolding_12 rfl 0 rfl ?_
      refine v_getR fl_X4_9 hk.1 rfl dX4_layerHolding_13 ?_
      refine v_iload_n dX4_layerHolding_16 rfl 1 rfl ?_
      refine v_guard (fun h1 => ?_)
      refine v_iald hk.2 h1 dX4_layerHolding_17 ?_
      refine v_goto (tgt := 22) dX4_layerHolding_18 (by decide) ?_
      exact v_iret dX4_layerHolding_22 rfl rfl (by decide) (by decide)
theorem S_X4_layerHolding {g : GC} (hl : g.1.stackTraces = false) {k : Nat} (hk : isX4 k) {x1 : Int32} {w : XW} : ∀ q, f_X4_layerHolding k x1 w = some q → MM g (.code yX4_layerHolding cX4_layerHolding 2 (some .int)) yX4_layerHolding (rmL 3 0 0) 0 0 [.ref (g.2.1 + k), .int x1] w (oI q) := fun q hq => MM_of (own := RX4) hl (by decide) gw_498 rfl (Nat.le_of_ble_eq_true rfl) (W_X4_layerHolding hl hk q hq) ⟨rfl, rfl⟩

theorem dX4_layerAfterInsert_0 : decode cX4_layerAfterInsert 0 = .ok (.aload_n 0, 1) := by decide +kernel
theorem dX4_layerAfterInsert_1 : decode cX4_layerAfterInsert 1 = .ok (.iload_n 1, 1) := by decide +kernel
theorem dX4_layerAfterInsert_2 : decode cX4_layerAfterInsert 2 = .ok (.invokevirtual 34, 3) := by decide +kernel
theorem dX4_layerAfterInsert_5 : decode cX4_layerAfterInsert 5 = .ok (.istore_n 3, 1) := by decide +kernel
theorem dX4_layerAfterInsert_6 : decode cX4_layerAfterInsert 6 = .ok (.iload_n 3, 1) := by decide +kernel
theorem dX4_layerAfterInsert_7 : decode cX4_layerAfterInsert 7 = .ok (.iload_n 2, 1) := by decide +kernel
theorem dX4_layerAfterInsert_8 : decode cX4_layerAfterInsert 8 = .ok (.if_icmp .lt 9, 3) := by decide +kernel
theorem dX4_layerAfterInsert_11 : decode cX4_layerAfterInsert 11 = .ok (.iload_n 3, 1) := by decide +kernel
theorem dX4_layerAfterInsert_12 : decode cX4_layerAfterInsert 12 = .ok (.iconst 1, 1) := by decide +kernel
theorem dX4_layerAfterInsert_13 : decode cX4_layerAfterInsert 13 = .ok (.iadd, 1) := by decide +kernel
theorem dX4_layerAfterInsert_14 : decode cX4_layerAfterInsert 14 = .ok (.goto 4, 3) := by decide +kernel
theorem dX4_layerAfterInsert_17 : decode cX4_layerAfterInsert 17 = .ok (.iload_n 3, 1) := by decide +kernel
theorem dX4_layerAfterInsert_18 : decode cX4_layerAfterInsert 18 = .ok (.ireturn, 1) := by decide +kernel
def f_X4_layerAfterInsert (k : Nat) (x1 : Int32) (x2 : Int32) (w : XW) : Option (Int32 × XW) := (bI (f_X4_layerHolding k x1 w) (fun r1 w1 => (if r1 < x2 then (some (r1, w1)) else (some ((r1 + 1), w1)))))
set_option maxRecDepth 100000 in
theorem W_X4_layerAfterInsert {g : GC} (hl : g.1.stackTraces = false) {k : Nat} (hk : isX4 k) {x1 : Int32} {x2 : Int32} {w : XW} : VE g cX4_layerAfterInsert 4 RX4 (some .int) [] (rmL 4 0 0) 0 0 oI 0 0 0 [(0, .ref (g.2.1 + k)), (1, .int x1), (2, .int x2)] [] w (f_X4_layerAfterInsert k x1 x2 w) := by
  unfold f_X4_layerAfterInsert
  refine v_aload_n dX4_layerAfterInsert_0 rfl 0 rfl ?_
  refine v_iload_n dX4_layerAfterInsert_1 rfl 1 rfl ?_
  refine v_callVi (As := [.int x1]) cv_X4_34 (S_X4_layerHolding hl hk) hk.1 rfl rfl rfl (Nat.le_of_ble_eq_true rfl) dX4_layerAfterInsert_2 (CR_rm (by decide) (by decide) (by decide) (by decide)) (fun r1 w1 => ?_)
  refine v_istore_n dX4_layerAfterInsert_5 rfl (Nat.le_of_ble_eq_true rfl) rfl ?_
  refine v_iload_n dX4_layerAfterInsert_6 rfl 0 rfl ?_
  refine v_iload_n dX4_layerAfterInsert_7 rfl 3 rfl ?_
  refine v_icmp_lt (tgt := 17) dX4_layerAfterInsert_8 (by decide) ?_ ?_
  · refine v_iload_n dX4_layerAfterInsert_17 rfl 0 rfl ?_
    exact v_iret dX4_layerAfterInsert_18 rfl rfl (by decide) (by decide)
  · refine v_iload_n dX4_layerAfterInsert_11 rfl 0 rfl ?_
    refine v_iconst (v := 1) dX4_layerAfterInsert_12 (by decide) ?_
    refine v_iadd dX4_layerAfterInsert_13 ?_
    refine v_goto (tgt := 18) dX4_layerAfterInsert_14 (by decide) ?_
    exact v_iret dX4_layerAfterInsert_18 rfl rfl (by decide) (by decide)
theorem S_X4_layerAfterInsert {g : GC} (hl : g.1.stackTraces = false) {k : Nat} (hk : isX4 k) {x1 : Int32} {x2 : Int32} {w : XW} : ∀ q, f_X4_layerAfterInsert k x1 x2 w = some q → MM g (.code yX4_layerAfterInsert cX4_layerAfterInsert 4 (some .int)) yX4_layerAfterInsert (rmL 4 0 0) 0 0 [.ref (g.2.1 + k), .int x1, .int x2] w (oI q) := fun q hq => MM_of (own := RX4) hl (by decide) gw_546 rfl (Nat.le_of_ble_eq_true rfl) (W_X4_layerAfterInsert hl hk q hq) ⟨rfl, rfl⟩

theorem dX4_spansCross_0 : decode cX4_spansCross 0 = .ok (.iload_n 0, 1) := by decide +kernel
theorem dX4_spansCross_1 : decode cX4_spansCross 1 = .ok (.iload_n 1, 1) := by decide +kernel
theorem dX4_spansCross_2 : decode cX4_spansCross 2 = .ok (.invokestatic 25, 3) := by decide +kernel
theorem dX4_spansCross_5 : decode cX4_spansCross 5 = .ok (.istore 4, 2) := by decide +kernel
theorem dX4_spansCross_7 : decode cX4_spansCross 7 = .ok (.iload_n 0, 1) := by decide +kernel
theorem dX4_spansCross_8 : decode cX4_spansCross 8 = .ok (.iload_n 1, 1) := by decide +kernel
theorem dX4_spansCross_9 : decode cX4_spansCross 9 = .ok (.invokestatic 31, 3) := by decide +kernel
theorem dX4_spansCross_12 : decode cX4_spansCross 12 = .ok (.istore 5, 2) := by decide +kernel
theorem dX4_spansCross_14 : decode cX4_spansCross 14 = .ok (.iload_n 2, 1) := by decide +kernel
theorem dX4_spansCross_15 : decode cX4_spansCross 15 = .ok (.iload_n 3, 1) := by decide +kernel
theorem dX4_spansCross_16 : decode cX4_spansCross 16 = .ok (.invokestatic 25, 3) := by decide +kernel
theorem dX4_spansCross_19 : decode cX4_spansCross 19 = .ok (.istore 6, 2) := by decide +kernel
theorem dX4_spansCross_21 : decode cX4_spansCross 21 = .ok (.iload_n 2, 1) := by decide +kernel
theorem dX4_spansCross_22 : decode cX4_spansCross 22 = .ok (.iload_n 3, 1) := by decide +kernel
theorem dX4_spansCross_23 : decode cX4_spansCross 23 = .ok (.invokestatic 31, 3) := by decide +kernel
theorem dX4_spansCross_26 : decode cX4_spansCross 26 = .ok (.istore 7, 2) := by decide +kernel
theorem dX4_spansCross_28 : decode cX4_spansCross 28 = .ok (.iload 4, 2) := by decide +kernel
theorem dX4_spansCross_30 : decode cX4_spansCross 30 = .ok (.iload 6, 2) := by decide +kernel
theorem dX4_spansCross_32 : decode cX4_spansCross 32 = .ok (.if_icmp .ge 23, 3) := by decide +kernel
theorem dX4_spansCross_35 : decode cX4_spansCross 35 = .ok (.iload 5, 2) := by decide +kernel
theorem dX4_spansCross_37 : decode cX4_spansCross 37 = .ok (.iload 6, 2) := by decide +kernel
theorem dX4_spansCross_39 : decode cX4_spansCross 39 = .ok (.if_icmp .le 14, 3) := by decide +kernel
theorem dX4_spansCross_42 : decode cX4_spansCross 42 = .ok (.iload 5, 2) := by decide +kernel
theorem dX4_spansCross_44 : decode cX4_spansCross 44 = .ok (.iload 7, 2) := by decide +kernel
theorem dX4_spansCross_46 : decode cX4_spansCross 46 = .ok (.if_icmp .ge 7, 3) := by decide +kernel
theorem dX4_spansCross_49 : decode cX4_spansCross 49 = .ok (.iconst 1, 1) := by decide +kernel
theorem dX4_spansCross_50 : decode cX4_spansCross 50 = .ok (.goto 4, 3) := by decide +kernel
theorem dX4_spansCross_53 : decode cX4_spansCross 53 = .ok (.iconst 0, 1) := by decide +kernel
theorem dX4_spansCross_54 : decode cX4_spansCross 54 = .ok (.ireturn, 1) := by decide +kernel
theorem dX4_spansCross_55 : decode cX4_spansCross 55 = .ok (.iload 7, 2) := by decide +kernel
theorem dX4_spansCross_57 : decode cX4_spansCross 57 = .ok (.iload 4, 2) := by decide +kernel
theorem dX4_spansCross_59 : decode cX4_spansCross 59 = .ok (.if_icmp .le 14, 3) := by decide +kernel
theorem dX4_spansCross_62 : decode cX4_spansCross 62 = .ok (.iload 7, 2) := by decide +kernel
theorem dX4_spansCross_64 : decode cX4_spansCross 64 = .ok (.iload 5, 2) := by decide +kernel
theorem dX4_spansCross_66 : decode cX4_spansCross 66 = .ok (.if_icmp .ge 7, 3) := by decide +kernel
theorem dX4_spansCross_69 : decode cX4_spansCross 69 = .ok (.iconst 1, 1) := by decide +kernel
theorem dX4_spansCross_70 : decode cX4_spansCross 70 = .ok (.goto 4, 3) := by decide +kernel
theorem dX4_spansCross_73 : decode cX4_spansCross 73 = .ok (.iconst 0, 1) := by decide +kernel
theorem dX4_spansCross_74 : decode cX4_spansCross 74 = .ok (.ireturn, 1) := by decide +kernel
def f_X4_spansCross (x0 : Int32) (x1 : Int32) (x2 : Int32) (x3 : Int32) (w : XW) : Option (Int32 × XW) := (if (if x3 < x2 then x3 else x2) ≤ (if x1 < x0 then x1 else x0) then (if (if x2 < x3 then x3 else x2) ≤ (if x1 < x0 then x1 else x0) then (some (0, w)) else (if (if x0 < x1 then x1 else x0) ≤ (if x2 < x3 then x3 else x2) then (some (0, w)) else (some (1, w)))) else (if (if x0 < x1 then x1 else x0) ≤ (if x3 < x2 then x3 else x2) then (some (0, w)) else (if (if x2 < x3 then x3 else x2) ≤ (if x0 < x1 then x1 else x0) then (some (0, w)) else (some (1, w)))))
set_option maxRecDepth 100000 in
theorem W_X4_spansCross {g : GC} (hl : g.1.stackTraces = false) {x0 : Int32} {x1 : Int32} {x2 : Int32} {x3 : Int32} {w : XW} : VE g cX4_spansCross 8 RX4 (some .boolean) [] (rmL 5 0 0) 0 0 oI 0 0 0 [(0, .int x0), (1, .int x1), (2, .int x2), (3, .int x3)] [] w (f_X4_spansCross x0 x1 x2 x3 w) := by
  unfold f_X4_spansCross
  refine v_iload_n dX4_spansCross_0 rfl 0 rfl ?_
  refine v_iload_n dX4_spansCross_1 rfl 1 rfl ?_
  refine v_min gw_551 gw_552 gw_54 gw_553 dX4_spansCross_2 (CR_f1 _ _ _) (CR_f2 (Nat.le_of_ble_eq_true rfl) _ _ _) (by decide) (by decide) ?_
  refine v_istore dX4_spansCross_5 (Nat.le_of_ble_eq_true rfl) rfl ?_
  refine v_iload_n dX4_spansCross_7 rfl 1 rfl ?_
  refine v_iload_n dX4_spansCross_8 rfl 2 rfl ?_
  refine v_max gw_554 gw_233 gw_54 gw_234 dX4_spansCross_9 (CR_f1 _ _ _) (CR_f2 (Nat.le_of_ble_eq_true rfl) _ _ _) (by decide) (by decide) ?_
  refine v_istore dX4_spansCross_12 (Nat.le_of_ble_eq_true rfl) rfl ?_
  refine v_iload_n dX4_spansCross_14 rfl 4 rfl ?_
  refine v_iload_n dX4_spansCross_15 rfl 5 rfl ?_
  refine v_min gw_551 gw_552 gw_54 gw_553 dX4_spansCross_16 (CR_f1 _ _ _) (CR_f2 (Nat.le_of_ble_eq_true rfl) _ _ _) (by decide) (by decide) ?_
  refine v_istore dX4_spansCross_19 (Nat.le_of_ble_eq_true rfl) rfl ?_
  refine v_iload_n dX4_spansCross_21 rfl 5 rfl ?_
  refine v_iload_n dX4_spansCross_22 rfl 6 rfl ?_
  refine v_max gw_554 gw_233 gw_54 gw_234 dX4_spansCross_23 (CR_f1 _ _ _) (CR_f2 (Nat.le_of_ble_eq_true rfl) _ _ _) (by decide) (by decide) ?_
  refine v_istore dX4_spansCross_26 (Nat.le_of_ble_eq_true rfl) rfl ?_
  refine v_iload dX4_spansCross_28 3 rfl ?_
  refine v_iload dX4_spansCross_30 1 rfl ?_
  refine v_icmp_ge (tgt := 55) dX4_spansCross_32 (by decide) ?_ ?_
  · refine v_iload dX4_spansCross_55 0 rfl ?_
    refine v_iload dX4_spansCross_57 3 rfl ?_
    refine v_icmp_le (tgt := 73) dX4_spansCross_59 (by decide) ?_ ?_
    · refine v_iconst (v := 0) dX4_spansCross_73 (by decide) ?_
      exact v_zret dX4_spansCross_74 rfl rfl rfl (by decide) (by decide)
    · refine v_iload dX4_spansCross_62 0 rfl ?_
      refine v_iload dX4_spansCross_64 2 rfl ?_
      refine v_icmp_ge (tgt := 73) dX4_spansCross_66 (by decide) ?_ ?_
      · refine v_iconst (v := 0) dX4_spansCross_73 (by decide) ?_
        exact v_zret dX4_spansCross_74 rfl rfl rfl (by decide) (by decide)
      · refine v_iconst (v := 1) dX4_spansCross_69 (by decide) ?_
        refine v_goto (tgt := 74) dX4_spansCross_70 (by decide) ?_
        exact v_zret dX4_spansCross_74 rfl rfl rfl (by decide) (by decide)
  · refine v_iload dX4_spansCross_35 2 rfl ?_
    refine v_iload dX4_spansCross_37 1 rfl ?_
    refine v_icmp_le (tgt := 53) dX4_spansCross_39 (by decide) ?_ ?_
    · refine v_iconst (v := 0) dX4_spansCross_53 (by decide) ?_
      exact v_zret dX4_spansCross_54 rfl rfl rfl (by decide) (by decide)
    · refine v_iload dX4_spansCross_42 2 rfl ?_
      refine v_iload dX4_spansCross_44 0 rfl ?_
      refine v_icmp_ge (tgt := 53) dX4_spansCross_46 (by decide) ?_ ?_
      · refine v_iconst (v := 0) dX4_spansCross_53 (by decide) ?_
        exact v_zret dX4_spansCross_54 rfl rfl rfl (by decide) (by decide)
      · refine v_iconst (v := 1) dX4_spansCross_49 (by decide) ?_
        refine v_goto (tgt := 54) dX4_spansCross_50 (by decide) ?_
        exact v_zret dX4_spansCross_54 rfl rfl rfl (by decide) (by decide)
theorem S_X4_spansCross {g : GC} (hl : g.1.stackTraces = false) {x0 : Int32} {x1 : Int32} {x2 : Int32} {x3 : Int32} {w : XW} : ∀ q, f_X4_spansCross x0 x1 x2 x3 w = some q → MM g (.code yX4_spansCross cX4_spansCross 8 (some .boolean)) yX4_spansCross (rmL 5 0 0) 0 0 [.int x0, .int x1, .int x2, .int x3] w (oI q) := fun q hq => MM_of (own := RX4) hl (by decide) gw_550 rfl (Nat.le_of_ble_eq_true rfl) (W_X4_spansCross hl q hq) ⟨rfl, rfl⟩

theorem dX4_creaseCrossedAt_0 : decode cX4_creaseCrossedAt 0 = .ok (.aload_n 0, 1) := by decide +kernel
theorem dX4_creaseCrossedAt_1 : decode cX4_creaseCrossedAt 1 = .ok (.getfield 15, 3) := by decide +kernel
theorem dX4_creaseCrossedAt_4 : decode cX4_creaseCrossedAt 4 = .ok (.iconst 1, 1) := by decide +kernel
theorem dX4_creaseCrossedAt_5 : decode cX4_creaseCrossedAt 5 = .ok (.isub, 1) := by decide +kernel
theorem dX4_creaseCrossedAt_6 : decode cX4_creaseCrossedAt 6 = .ok (.istore_n 2, 1) := by decide +kernel
theorem dX4_creaseCrossedAt_7 : decode cX4_creaseCrossedAt 7 = .ok (.iload_n 2, 1) := by decide +kernel
theorem dX4_creaseCrossedAt_8 : decode cX4_creaseCrossedAt 8 = .ok (.ifCond .ge 5, 3) := by decide +kernel
theorem dX4_creaseCrossedAt_11 : decode cX4_creaseCrossedAt 11 = .ok (.iconst (-1), 1) := by decide +kernel
theorem dX4_creaseCrossedAt_12 : decode cX4_creaseCrossedAt 12 = .ok (.ireturn, 1) := by decide +kernel
theorem dX4_creaseCrossedAt_13 : decode cX4_creaseCrossedAt 13 = .ok (.aload_n 0, 1) := by decide +kernel
theorem dX4_creaseCrossedAt_14 : decode cX4_creaseCrossedAt 14 = .ok (.iload_n 2, 1) := by decide +kernel
theorem dX4_creaseCrossedAt_15 : decode cX4_creaseCrossedAt 15 = .ok (.iload_n 1, 1) := by decide +kernel
theorem dX4_creaseCrossedAt_16 : decode cX4_creaseCrossedAt 16 = .ok (.invokevirtual 38, 3) := by decide +kernel
theorem dX4_creaseCrossedAt_19 : decode cX4_creaseCrossedAt 19 = .ok (.istore_n 3, 1) := by decide +kernel
theorem dX4_creaseCrossedAt_20 : decode cX4_creaseCrossedAt 20 = .ok (.iload_n 2, 1) := by decide +kernel
theorem dX4_creaseCrossedAt_21 : decode cX4_creaseCrossedAt 21 = .ok (.iconst 2, 1) := by decide +kernel
theorem dX4_creaseCrossedAt_22 : decode cX4_creaseCrossedAt 22 = .ok (.irem, 1) := by decide +kernel
theorem dX4_creaseCrossedAt_23 : decode cX4_creaseCrossedAt 23 = .ok (.istore 4, 2) := by decide +kernel
theorem dX4_creaseCrossedAt_25 : decode cX4_creaseCrossedAt 25 = .ok (.iload 4, 2) := by decide +kernel
theorem dX4_creaseCrossedAt_27 : decode cX4_creaseCrossedAt 27 = .ok (.iload_n 2, 1) := by decide +kernel
theorem dX4_creaseCrossedAt_28 : decode cX4_creaseCrossedAt 28 = .ok (.if_icmp .ge 44, 3) := by decide +kernel
theorem dX4_creaseCrossedAt_31 : decode cX4_creaseCrossedAt 31 = .ok (.aload_n 0, 1) := by decide +kernel
theorem dX4_creaseCrossedAt_32 : decode cX4_creaseCrossedAt 32 = .ok (.iload 4, 2) := by decide +kernel
theorem dX4_creaseCrossedAt_34 : decode cX4_creaseCrossedAt 34 = .ok (.iload_n 1, 1) := by decide +kernel
theorem dX4_creaseCrossedAt_35 : decode cX4_creaseCrossedAt 35 = .ok (.invokevirtual 38, 3) := by decide +kernel
theorem dX4_creaseCrossedAt_38 : decode cX4_creaseCrossedAt 38 = .ok (.istore 5, 2) := by decide +kernel
theorem dX4_creaseCrossedAt_40 : decode cX4_creaseCrossedAt 40 = .ok (.aload_n 0, 1) := by decide +kernel
theorem dX4_creaseCrossedAt_41 : decode cX4_creaseCrossedAt 41 = .ok (.iload 4, 2) := by decide +kernel
theorem dX4_creaseCrossedAt_43 : decode cX4_creaseCrossedAt 43 = .ok (.iconst 1, 1) := by decide +kernel
theorem dX4_creaseCrossedAt_44 : decode cX4_creaseCrossedAt 44 = .ok (.iadd, 1) := by decide +kernel
theorem dX4_creaseCrossedAt_45 : decode cX4_creaseCrossedAt 45 = .ok (.iload_n 1, 1) := by decide +kernel
theorem dX4_creaseCrossedAt_46 : decode cX4_creaseCrossedAt 46 = .ok (.invokevirtual 38, 3) := by decide +kernel
theorem dX4_creaseCrossedAt_49 : decode cX4_creaseCrossedAt 49 = .ok (.istore 6, 2) := by decide +kernel
theorem dX4_creaseCrossedAt_51 : decode cX4_creaseCrossedAt 51 = .ok (.iload_n 3, 1) := by decide +kernel
theorem dX4_creaseCrossedAt_52 : decode cX4_creaseCrossedAt 52 = .ok (.iload_n 1, 1) := by decide +kernel
theorem dX4_creaseCrossedAt_53 : decode cX4_creaseCrossedAt 53 = .ok (.iload 5, 2) := by decide +kernel
theorem dX4_creaseCrossedAt_55 : decode cX4_creaseCrossedAt 55 = .ok (.iload 6, 2) := by decide +kernel
theorem dX4_creaseCrossedAt_57 : decode cX4_creaseCrossedAt 57 = .ok (.invokestatic 41, 3) := by decide +kernel
theorem dX4_creaseCrossedAt_60 : decode cX4_creaseCrossedAt 60 = .ok (.ifCond .eq 6, 3) := by decide +kernel
theorem dX4_creaseCrossedAt_63 : decode cX4_creaseCrossedAt 63 = .ok (.iload 4, 2) := by decide +kernel
theorem dX4_creaseCrossedAt_65 : decode cX4_creaseCrossedAt 65 = .ok (.ireturn, 1) := by decide +kernel
theorem dX4_creaseCrossedAt_66 : decode cX4_creaseCrossedAt 66 = .ok (.iinc 4 2, 3) := by decide +kernel
theorem dX4_creaseCrossedAt_69 : decode cX4_creaseCrossedAt 69 = .ok (.goto (-44), 3) := by decide +kernel
theorem dX4_creaseCrossedAt_72 : decode cX4_creaseCrossedAt 72 = .ok (.iconst (-1), 1) := by decide +kernel
theorem dX4_creaseCrossedAt_73 : decode cX4_creaseCrossedAt 73 = .ok (.ireturn, 1) := by decide +kernel
def f_X4_creaseCrossedAt_25 (k : Nat) (y1 : Int32) (y2 : Int32) (y3 : Int32) : Nat → Int32 → XW → Option (Int32 × XW)
  | 0, _, _ => none
  | n + 1, z4, w => (if y2 ≤ z4 then (some ((-1), w)) else (bI (f_X4_layerAfterInsert k z4 y1 w) (fun r2 w2 => (bI (f_X4_layerAfterInsert k (z4 + 1) y1 w2) (fun r3 w3 => (bI (f_X4_spansCross y3 y1 r2 r3 w3) (fun r4 w4 => (if r4 = 0 then (f_X4_creaseCrossedAt_25 k y1 y2 y3 n (z4 + 2) w4) else (some (z4, w4))))))))))
set_option maxRecDepth 100000 in
theorem S_X4_creaseCrossedAt_25 {g : GC} (hl : g.1.stackTraces = false) {k : Nat} (hk : isX4 k) {y1 : Int32} {y2 : Int32} {y3 : Int32} : ∀ (n : Nat) (z4 : Int32) (w : XW), VE g cX4_creaseCrossedAt 7 RX4 (some .int) [] (rmL 6 0 0) 0 0 oI 0 0 25 [(0, .ref (g.2.1 + k)), (1, .int y1), (2, .int y2), (3, .int y3), (4, .int z4)] [] w (f_X4_creaseCrossedAt_25 k y1 y2 y3 n z4 w) := by
  intro n
  induction n with
  | zero => intro z4 w; exact v_none
  | succ n ih =>
    intro z4 w
    rw [f_X4_creaseCrossedAt_25]
    refine v_iload dX4_creaseCrossedAt_25 4 rfl ?_
    refine v_iload_n dX4_creaseCrossedAt_27 rfl 2 rfl ?_
    refine v_icmp_ge (tgt := 72) dX4_creaseCrossedAt_28 (by decide) ?_ ?_
    · refine v_iconst (v := (-1)) dX4_creaseCrossedAt_72 (by decide) ?_
      exact v_iret dX4_creaseCrossedAt_73 rfl rfl (by decide) (by decide)
    · refine v_aload_n dX4_creaseCrossedAt_31 rfl 0 rfl ?_
      refine v_iload dX4_creaseCrossedAt_32 4 rfl ?_
      refine v_iload_n dX4_creaseCrossedAt_34 rfl 1 rfl ?_
      refine v_callVi (As := [.int z4, .int y1]) cv_X4_38 (S_X4_layerAfterInsert hl hk) hk.1 rfl rfl rfl (Nat.le_of_ble_eq_true rfl) dX4_creaseCrossedAt_35 (CR_rm (by decide) (by decide) (by decide) (by decide)) (fun r2 w2 => ?_)
      refine v_istore dX4_creaseCrossedAt_38 (Nat.le_of_ble_eq_true rfl) rfl ?_
      refine v_aload_n dX4_creaseCrossedAt_40 rfl 1 rfl ?_
      refine v_iload dX4_creaseCrossedAt_41 5 rfl ?_
      refine v_iconst (v := 1) dX4_creaseCrossedAt_43 (by decide) ?_
      refine v_iadd dX4_creaseCrossedAt_44 ?_
      refine v_iload_n dX4_creaseCrossedAt_45 rfl 2 rfl ?_
      refine v_callVi (As := [.int (z4 + 1), .int y1]) cv_X4_38 (S_X4_layerAfterInsert hl hk) hk.1 rfl rfl rfl (Nat.le_of_ble_eq_true rfl) dX4_creaseCrossedAt_46 (CR_rm (by decide) (by decide) (by decide) (by decide)) (fun r3 w3 => ?_)
      refine v_istore dX4_creaseCrossedAt_49 (Nat.le_of_ble_eq_true rfl) rfl ?_
      refine v_iload_n dX4_creaseCrossedAt_51 rfl 5 rfl ?_
      refine v_iload_n dX4_creaseCrossedAt_52 rfl 3 rfl ?_
      refine v_iload dX4_creaseCrossedAt_53 1 rfl ?_
      refine v_iload dX4_creaseCrossedAt_55 0 rfl ?_
      refine v_callSi (As := [.int y3, .int y1, .int r2, .int r3]) cs_X4_41 (S_X4_spansCross hl) rfl rfl (Nat.le_of_ble_eq_true rfl) dX4_creaseCrossedAt_57 (CR_rm (by decide) (by decide) (by decide) (by decide)) (fun r4 w4 => ?_)
      refine v_if_eq (tgt := 66) dX4_creaseCrossedAt_60 (by decide) ?_ ?_
      · refine v_iinc (v := (z4 + 2)) dX4_creaseCrossedAt_66 (q := 6) rfl rfl (Nat.le_of_ble_eq_true rfl) rfl ?_
        refine v_goto (tgt := 25) dX4_creaseCrossedAt_69 (by decide) ?_
        refine v_sub [3, 4, 5, 6, 0] rfl ?_
        exact ih _ _
      · refine v_iload dX4_creaseCrossedAt_63 6 rfl ?_
        exact v_iret dX4_creaseCrossedAt_65 rfl rfl (by decide) (by decide)
def f_X4_creaseCrossedAt (k : Nat) (x1 : Int32) (w : XW) : Option (Int32 × XW) := (if 0 ≤ ((w.1 k 0) - 1) then (bI (f_X4_layerAfterInsert k ((w.1 k 0) - 1) x1 w) (fun r1 w1 => (f_X4_creaseCrossedAt_25 k x1 ((w.1 k 0) - 1) r1 1000 (((w.1 k 0) - 1) - ((w.1 k 0) - 1) / 2 * 2) w1))) else (some ((-1), w)))
set_option maxRecDepth 100000 in
theorem W_X4_creaseCrossedAt {g : GC} (hl : g.1.stackTraces = false) {k : Nat} (hk : isX4 k) {x1 : Int32} {w : XW} : VE g cX4_creaseCrossedAt 7 RX4 (some .int) [] (rmL 6 0 0) 0 0 oI 0 0 0 [(0, .ref (g.2.1 + k)), (1, .int x1)] [] w (f_X4_creaseCrossedAt k x1 w) := by
  unfold f_X4_creaseCrossedAt
  refine v_aload_n dX4_creaseCrossedAt_0 rfl 0 rfl ?_
  refine v_getI fl_X4_15 hk.1 rfl dX4_creaseCrossedAt_1 ?_
  refine v_iconst (v := 1) dX4_creaseCrossedAt_4 (by decide) ?_
  refine v_isub dX4_creaseCrossedAt_5 ?_
  refine v_istore_n dX4_creaseCrossedAt_6 rfl (Nat.le_of_ble_eq_true rfl) rfl ?_
  refine v_iload_n dX4_creaseCrossedAt_7 rfl 0 rfl ?_
  refine v_if_ge (tgt := 13) dX4_creaseCrossedAt_8 (by decide) ?_ ?_
  · refine v_aload_n dX4_creaseCrossedAt_13 rfl 1 rfl ?_
    refine v_iload_n dX4_creaseCrossedAt_14 rfl 0 rfl ?_
    refine v_iload_n dX4_creaseCrossedAt_15 rfl 2 rfl ?_
    refine v_callVi (As := [.int ((w.1 k 0) - 1), .int x1]) cv_X4_38 (S_X4_layerAfterInsert hl hk) hk.1 rfl rfl rfl (Nat.le_of_ble_eq_true rfl) dX4_creaseCrossedAt_16 (CR_rm (by decide) (by decide) (by decide) (by decide)) (fun r1 w1 => ?_)
    refine v_istore_n dX4_creaseCrossedAt_19 rfl (Nat.le_of_ble_eq_true rfl) rfl ?_
    refine v_iload_n dX4_creaseCrossedAt_20 rfl 1 rfl ?_
    refine v_iconst (v := 2) dX4_creaseCrossedAt_21 (by decide) ?_
    refine v_irem dX4_creaseCrossedAt_22 (by decide) ?_
    refine v_istore dX4_creaseCrossedAt_23 (Nat.le_of_ble_eq_true rfl) rfl ?_
    refine v_sub [3, 4, 2, 1, 0] rfl ?_
    exact S_X4_creaseCrossedAt_25 hl hk  _ _ _
  · refine v_iconst (v := (-1)) dX4_creaseCrossedAt_11 (by decide) ?_
    exact v_iret dX4_creaseCrossedAt_12 rfl rfl (by decide) (by decide)
theorem S_X4_creaseCrossedAt {g : GC} (hl : g.1.stackTraces = false) {k : Nat} (hk : isX4 k) {x1 : Int32} {w : XW} : ∀ q, f_X4_creaseCrossedAt k x1 w = some q → MM g (.code yX4_creaseCrossedAt cX4_creaseCrossedAt 7 (some .int)) yX4_creaseCrossedAt (rmL 6 0 0) 0 0 [.ref (g.2.1 + k), .int x1] w (oI q) := fun q hq => MM_of (own := RX4) hl (by decide) gw_542 rfl (Nat.le_of_ble_eq_true rfl) (W_X4_creaseCrossedAt hl hk q hq) ⟨rfl, rfl⟩

theorem dX4_insert_0 : decode cX4_insert 0 = .ok (.aload_n 0, 1) := by decide +kernel
theorem dX4_insert_1 : decode cX4_insert 1 = .ok (.getfield 15, 3) := by decide +kernel
theorem dX4_insert_4 : decode cX4_insert 4 = .ok (.bipush 7, 2) := by decide +kernel
theorem dX4_insert_6 : decode cX4_insert 6 = .ok (.if_icmp .lt 8, 3) := by decide +kernel
theorem dX4_insert_9 : decode cX4_insert 9 = .ok (.aload_n 0, 1) := by decide +kernel
theorem dX4_insert_10 : decode cX4_insert 10 = .ok (.getfield 15, 3) := by decide +kernel
theorem dX4_insert_13 : decode cX4_insert 13 = .ok (.ireturn, 1) := by decide +kernel
theorem dX4_insert_14 : decode cX4_insert 14 = .ok (.iconst 0, 1) := by decide +kernel
theorem dX4_insert_15 : decode cX4_insert 15 = .ok (.istore_n 2, 1) := by decide +kernel
theorem dX4_insert_16 : decode cX4_insert 16 = .ok (.iload_n 2, 1) := by decide +kernel
theorem dX4_insert_17 : decode cX4_insert 17 = .ok (.aload_n 0, 1) := by decide +kernel
theorem dX4_insert_18 : decode cX4_insert 18 = .ok (.getfield 15, 3) := by decide +kernel
theorem dX4_insert_21 : decode cX4_insert 21 = .ok (.if_icmp .ge 21, 3) := by decide +kernel
theorem dX4_insert_24 : decode cX4_insert 24 = .ok (.aload_n 0, 1) := by decide +kernel
theorem dX4_insert_25 : decode cX4_insert 25 = .ok (.getfield 9, 3) := by decide +kernel
theorem dX4_insert_28 : decode cX4_insert 28 = .ok (.iload_n 2, 1) := by decide +kernel
theorem dX4_insert_29 : decode cX4_insert 29 = .ok (.aload_n 0, 1) := by decide +kernel
theorem dX4_insert_30 : decode cX4_insert 30 = .ok (.iload_n 2, 1) := by decide +kernel
theorem dX4_insert_31 : decode cX4_insert 31 = .ok (.iload_n 1, 1) := by decide +kernel
theorem dX4_insert_32 : decode cX4_insert 32 = .ok (.invokevirtual 38, 3) := by decide +kernel
theorem dX4_insert_35 : decode cX4_insert 35 = .ok (.iastore, 1) := by decide +kernel
theorem dX4_insert_36 : decode cX4_insert 36 = .ok (.iinc 2 1, 3) := by decide +kernel
theorem dX4_insert_39 : decode cX4_insert 39 = .ok (.goto (-23), 3) := by decide +kernel
theorem dX4_insert_42 : decode cX4_insert 42 = .ok (.aload_n 0, 1) := by decide +kernel
theorem dX4_insert_43 : decode cX4_insert 43 = .ok (.getfield 9, 3) := by decide +kernel
theorem dX4_insert_46 : decode cX4_insert 46 = .ok (.aload_n 0, 1) := by decide +kernel
theorem dX4_insert_47 : decode cX4_insert 47 = .ok (.getfield 15, 3) := by decide +kernel
theorem dX4_insert_50 : decode cX4_insert 50 = .ok (.iload_n 1, 1) := by decide +kernel
theorem dX4_insert_51 : decode cX4_insert 51 = .ok (.iastore, 1) := by decide +kernel
theorem dX4_insert_52 : decode cX4_insert 52 = .ok (.aload_n 0, 1) := by decide +kernel
theorem dX4_insert_53 : decode cX4_insert 53 = .ok (.dup, 1) := by decide +kernel
theorem dX4_insert_54 : decode cX4_insert 54 = .ok (.getfield 15, 3) := by decide +kernel
theorem dX4_insert_57 : decode cX4_insert 57 = .ok (.iconst 1, 1) := by decide +kernel
theorem dX4_insert_58 : decode cX4_insert 58 = .ok (.iadd, 1) := by decide +kernel
theorem dX4_insert_59 : decode cX4_insert 59 = .ok (.putfield 15, 3) := by decide +kernel
theorem dX4_insert_62 : decode cX4_insert 62 = .ok (.aload_n 0, 1) := by decide +kernel
theorem dX4_insert_63 : decode cX4_insert 63 = .ok (.getfield 15, 3) := by decide +kernel
theorem dX4_insert_66 : decode cX4_insert 66 = .ok (.ireturn, 1) := by decide +kernel
def f_X4_insert_16 (k : Nat) (y1 : Int32) : Nat → Int32 → XW → Option (Int32 × XW)
  | 0, _, _ => none
  | n + 1, z2, w => (if (w.1 k 0) ≤ z2 then (if inB (w.1 k 0) 7 then (some (((wset (wset w (k + 1) (Int32.toNatClampNeg (w.1 k 0)) y1) k 0 (((wset w (k + 1) (Int32.toNatClampNeg (w.1 k 0)) y1).1 k 0) + 1)).1 k 0), (wset (wset w (k + 1) (Int32.toNatClampNeg (w.1 k 0)) y1) k 0 (((wset w (k + 1) (Int32.toNatClampNeg (w.1 k 0)) y1).1 k 0) + 1)))) else none) else (bI (f_X4_layerAfterInsert k z2 y1 w) (fun r2 w2 => (if inB z2 7 then (f_X4_insert_16 k y1 n (z2 + 1) (wset w2 (k + 1) (Int32.toNatClampNeg z2) r2)) else none))))
set_option maxRecDepth 100000 in
theorem S_X4_insert_16 {g : GC} (hl : g.1.stackTraces = false) {k : Nat} (hk : isX4 k) {y1 : Int32} : ∀ (n : Nat) (z2 : Int32) (w : XW), VE g cX4_insert 3 RX4 (some .int) [] (rmL 5 0 0) 0 0 oI 0 0 16 [(0, .ref (g.2.1 + k)), (1, .int y1), (2, .int z2)] [] w (f_X4_insert_16 k y1 n z2 w) := by
  intro n
  induction n with
  | zero => intro z2 w; exact v_none
  | succ n ih =>
    intro z2 w
    rw [f_X4_insert_16]
    refine v_iload_n dX4_insert_16 rfl 2 rfl ?_
    refine v_aload_n dX4_insert_17 rfl 0 rfl ?_
    refine v_getI fl_X4_15 hk.1 rfl dX4_insert_18 ?_
    refine v_icmp_ge (tgt := 42) dX4_insert_21 (by decide) ?_ ?_
    · refine v_aload_n dX4_insert_42 rfl 0 rfl ?_
      refine v_getR fl_X4_9 hk.1 rfl dX4_insert_43 ?_
      refine v_aload_n dX4_insert_46 rfl 0 rfl ?_
      refine v_getI fl_X4_15 hk.1 rfl dX4_insert_47 ?_
      refine v_iload_n dX4_insert_50 rfl 1 rfl ?_
      refine v_guard (fun h1 => ?_)
      refine v_iast hk.2 h1 dX4_insert_51 ?_
      refine v_aload_n dX4_insert_52 rfl 0 rfl ?_
      refine v_dup dX4_insert_53 rfl ?_
      refine v_getI fl_X4_15 hk.1 rfl dX4_insert_54 ?_
      refine v_iconst (v := 1) dX4_insert_57 (by decide) ?_
      refine v_iadd dX4_insert_58 ?_
      refine v_putI fl_X4_15 hk.1 rfl (ty0 := .int) rfl rfl rfl dX4_insert_59 ?_
      refine v_aload_n dX4_insert_62 rfl 0 rfl ?_
      refine v_getI fl_X4_15 hk.1 rfl dX4_insert_63 ?_
      exact v_iret dX4_insert_66 rfl rfl (by decide) (by decide)
    · refine v_aload_n dX4_insert_24 rfl 0 rfl ?_
      refine v_getR fl_X4_9 hk.1 rfl dX4_insert_25 ?_
      refine v_iload_n dX4_insert_28 rfl 2 rfl ?_
      refine v_aload_n dX4_insert_29 rfl 0 rfl ?_
      refine v_iload_n dX4_insert_30 rfl 2 rfl ?_
      refine v_iload_n dX4_insert_31 rfl 1 rfl ?_
      refine v_callVi (As := [.int z2, .int y1]) cv_X4_38 (S_X4_layerAfterInsert hl hk) hk.1 rfl rfl rfl (Nat.le_of_ble_eq_true rfl) dX4_insert_32 (CR_rm (by decide) (by decide) (by decide) (by decide)) (fun r2 w2 => ?_)
      refine v_guard (fun h3 => ?_)
      refine v_iast hk.2 h3 dX4_insert_35 ?_
      refine v_iinc (v := (z2 + 1)) dX4_insert_36 (q := 2) rfl rfl (Nat.le_of_ble_eq_true rfl) rfl ?_
      refine v_goto (tgt := 16) dX4_insert_39 (by decide) ?_
      refine v_sub [1, 2, 0] rfl ?_
      exact ih _ _
def f_X4_insert (k : Nat) (x1 : Int32) (w : XW) : Option (Int32 × XW) := (if (w.1 k 0) < 7 then (f_X4_insert_16 k x1 1000 0 w) else (some ((w.1 k 0), w)))
set_option maxRecDepth 100000 in
theorem W_X4_insert {g : GC} (hl : g.1.stackTraces = false) {k : Nat} (hk : isX4 k) {x1 : Int32} {w : XW} : VE g cX4_insert 3 RX4 (some .int) [] (rmL 5 0 0) 0 0 oI 0 0 0 [(0, .ref (g.2.1 + k)), (1, .int x1)] [] w (f_X4_insert k x1 w) := by
  unfold f_X4_insert
  refine v_aload_n dX4_insert_0 rfl 0 rfl ?_
  refine v_getI fl_X4_15 hk.1 rfl dX4_insert_1 ?_
  refine v_bipush (v := 7) dX4_insert_4 (by decide) ?_
  refine v_icmp_lt (tgt := 14) dX4_insert_6 (by decide) ?_ ?_
  · refine v_iconst (v := 0) dX4_insert_14 (by decide) ?_
    refine v_istore_n dX4_insert_15 rfl (Nat.le_of_ble_eq_true rfl) rfl ?_
    refine v_sub [1, 2, 0] rfl ?_
    exact S_X4_insert_16 hl hk  _ _ _
  · refine v_aload_n dX4_insert_9 rfl 0 rfl ?_
    refine v_getI fl_X4_15 hk.1 rfl dX4_insert_10 ?_
    exact v_iret dX4_insert_13 rfl rfl (by decide) (by decide)
theorem S_X4_insert {g : GC} (hl : g.1.stackTraces = false) {k : Nat} (hk : isX4 k) {x1 : Int32} {w : XW} : ∀ q, f_X4_insert k x1 w = some q → MM g (.code yX4_insert cX4_insert 3 (some .int)) yX4_insert (rmL 5 0 0) 0 0 [.ref (g.2.1 + k), .int x1] w (oI q) := fun q hq => MM_of (own := RX4) hl (by decide) gw_824 rfl (Nat.le_of_ble_eq_true rfl) (W_X4_insert hl hk q hq) ⟨rfl, rfl⟩

theorem dX4_removeLast_0 : decode cX4_removeLast 0 = .ok (.aload_n 0, 1) := by decide +kernel
theorem dX4_removeLast_1 : decode cX4_removeLast 1 = .ok (.getfield 15, 3) := by decide +kernel
theorem dX4_removeLast_4 : decode cX4_removeLast 4 = .ok (.ifCond .gt 5, 3) := by decide +kernel
theorem dX4_removeLast_7 : decode cX4_removeLast 7 = .ok (.iconst (-1), 1) := by decide +kernel
theorem dX4_removeLast_8 : decode cX4_removeLast 8 = .ok (.ireturn, 1) := by decide +kernel
theorem dX4_removeLast_9 : decode cX4_removeLast 9 = .ok (.aload_n 0, 1) := by decide +kernel
theorem dX4_removeLast_10 : decode cX4_removeLast 10 = .ok (.dup, 1) := by decide +kernel
theorem dX4_removeLast_11 : decode cX4_removeLast 11 = .ok (.getfield 15, 3) := by decide +kernel
theorem dX4_removeLast_14 : decode cX4_removeLast 14 = .ok (.iconst 1, 1) := by decide +kernel
theorem dX4_removeLast_15 : decode cX4_removeLast 15 = .ok (.isub, 1) := by decide +kernel
theorem dX4_removeLast_16 : decode cX4_removeLast 16 = .ok (.putfield 15, 3) := by decide +kernel
theorem dX4_removeLast_19 : decode cX4_removeLast 19 = .ok (.aload_n 0, 1) := by decide +kernel
theorem dX4_removeLast_20 : decode cX4_removeLast 20 = .ok (.getfield 9, 3) := by decide +kernel
theorem dX4_removeLast_23 : decode cX4_removeLast 23 = .ok (.aload_n 0, 1) := by decide +kernel
theorem dX4_removeLast_24 : decode cX4_removeLast 24 = .ok (.getfield 15, 3) := by decide +kernel
theorem dX4_removeLast_27 : decode cX4_removeLast 27 = .ok (.iaload, 1) := by decide +kernel
theorem dX4_removeLast_28 : decode cX4_removeLast 28 = .ok (.istore_n 1, 1) := by decide +kernel
theorem dX4_removeLast_29 : decode cX4_removeLast 29 = .ok (.iconst 0, 1) := by decide +kernel
theorem dX4_removeLast_30 : decode cX4_removeLast 30 = .ok (.istore_n 2, 1) := by decide +kernel
theorem dX4_removeLast_31 : decode cX4_removeLast 31 = .ok (.iload_n 2, 1) := by decide +kernel
theorem dX4_removeLast_32 : decode cX4_removeLast 32 = .ok (.aload_n 0, 1) := by decide +kernel
theorem dX4_removeLast_33 : decode cX4_removeLast 33 = .ok (.getfield 15, 3) := by decide +kernel
theorem dX4_removeLast_36 : decode cX4_removeLast 36 = .ok (.if_icmp .ge 29, 3) := by decide +kernel
theorem dX4_removeLast_39 : decode cX4_removeLast 39 = .ok (.aload_n 0, 1) := by decide +kernel
theorem dX4_removeLast_40 : decode cX4_removeLast 40 = .ok (.getfield 9, 3) := by decide +kernel
theorem dX4_removeLast_43 : decode cX4_removeLast 43 = .ok (.iload_n 2, 1) := by decide +kernel
theorem dX4_removeLast_44 : decode cX4_removeLast 44 = .ok (.iaload, 1) := by decide +kernel
theorem dX4_removeLast_45 : decode cX4_removeLast 45 = .ok (.iload_n 1, 1) := by decide +kernel
theorem dX4_removeLast_46 : decode cX4_removeLast 46 = .ok (.if_icmp .le 13, 3) := by decide +kernel
theorem dX4_removeLast_49 : decode cX4_removeLast 49 = .ok (.aload_n 0, 1) := by decide +kernel
theorem dX4_removeLast_50 : decode cX4_removeLast 50 = .ok (.getfield 9, 3) := by decide +kernel
theorem dX4_removeLast_53 : decode cX4_removeLast 53 = .ok (.iload_n 2, 1) := by decide +kernel
theorem dX4_removeLast_54 : decode cX4_removeLast 54 = .ok (.dup2, 1) := by decide +kernel
theorem dX4_removeLast_55 : decode cX4_removeLast 55 = .ok (.iaload, 1) := by decide +kernel
theorem dX4_removeLast_56 : decode cX4_removeLast 56 = .ok (.iconst 1, 1) := by decide +kernel
theorem dX4_removeLast_57 : decode cX4_removeLast 57 = .ok (.isub, 1) := by decide +kernel
theorem dX4_removeLast_58 : decode cX4_removeLast 58 = .ok (.iastore, 1) := by decide +kernel
theorem dX4_removeLast_59 : decode cX4_removeLast 59 = .ok (.iinc 2 1, 3) := by decide +kernel
theorem dX4_removeLast_62 : decode cX4_removeLast 62 = .ok (.goto (-31), 3) := by decide +kernel
theorem dX4_removeLast_65 : decode cX4_removeLast 65 = .ok (.iload_n 1, 1) := by decide +kernel
theorem dX4_removeLast_66 : decode cX4_removeLast 66 = .ok (.ireturn, 1) := by decide +kernel
def f_X4_removeLast_31 (k : Nat) (y1 : Int32) : Nat → Int32 → XW → Option (Int32 × XW)
  | 0, _, _ => none
  | n + 1, z2, w => (if (w.1 k 0) ≤ z2 then (some (y1, w)) else (if inB z2 7 then (if (w.1 (k + 1) (Int32.toNatClampNeg z2)) ≤ y1 then (f_X4_removeLast_31 k y1 n (z2 + 1) w) else (if inB z2 7 then (if inB z2 7 then (f_X4_removeLast_31 k y1 n (z2 + 1) (wset w (k + 1) (Int32.toNatClampNeg z2) ((w.1 (k + 1) (Int32.toNatClampNeg z2)) - 1))) else none) else none)) else none))
set_option maxRecDepth 100000 in
theorem S_X4_removeLast_31 {g : GC} (hl : g.1.stackTraces = false) {k : Nat} (hk : isX4 k) {y1 : Int32} : ∀ (n : Nat) (z2 : Int32) (w : XW), VE g cX4_removeLast 3 RX4 (some .int) [] (rmL 3 0 0) 0 0 oI 0 0 31 [(0, .ref (g.2.1 + k)), (1, .int y1), (2, .int z2)] [] w (f_X4_removeLast_31 k y1 n z2 w) := by
  intro n
  induction n with
  | zero => intro z2 w; exact v_none
  | succ n ih =>
    intro z2 w
    rw [f_X4_removeLast_31]
    refine v_iload_n dX4_removeLast_31 rfl 2 rfl ?_
    refine v_aload_n dX4_removeLast_32 rfl 0 rfl ?_
    refine v_getI fl_X4_15 hk.1 rfl dX4_removeLast_33 ?_
    refine v_icmp_ge (tgt := 65) dX4_removeLast_36 (by decide) ?_ ?_
    · refine v_iload_n dX4_removeLast_65 rfl 1 rfl ?_
      exact v_iret dX4_removeLast_66 rfl rfl (by decide) (by decide)
    · refine v_aload_n dX4_removeLast_39 rfl 0 rfl ?_
      refine v_getR fl_X4_9 hk.1 rfl dX4_removeLast_40 ?_
      refine v_iload_n dX4_removeLast_43 rfl 2 rfl ?_
      refine v_guard (fun h2 => ?_)
      refine v_iald hk.2 h2 dX4_removeLast_44 ?_
      refine v_iload_n dX4_removeLast_45 rfl 1 rfl ?_
      refine v_icmp_le (tgt := 59) dX4_removeLast_46 (by decide) ?_ ?_
      · refine v_iinc (v := (z2 + 1)) dX4_removeLast_59 (q := 2) rfl rfl (Nat.le_of_ble_eq_true rfl) rfl ?_
        refine v_goto (tgt := 31) dX4_removeLast_62 (by decide) ?_
        refine v_sub [1, 2, 0] rfl ?_
        exact ih _ _
      · refine v_aload_n dX4_removeLast_49 rfl 0 rfl ?_
        refine v_getR fl_X4_9 hk.1 rfl dX4_removeLast_50 ?_
        refine v_iload_n dX4_removeLast_53 rfl 2 rfl ?_
        refine v_dup2 dX4_removeLast_54 rfl rfl ?_
        refine v_guard (fun h3 => ?_)
        refine v_iald hk.2 h3 dX4_removeLast_55 ?_
        refine v_iconst (v := 1) dX4_removeLast_56 (by decide) ?_
        refine v_isub dX4_removeLast_57 ?_
        refine v_guard (fun h4 => ?_)
        refine v_iast hk.2 h4 dX4_removeLast_58 ?_
        refine v_iinc (v := (z2 + 1)) dX4_removeLast_59 (q := 2) rfl rfl (Nat.le_of_ble_eq_true rfl) rfl ?_
        refine v_goto (tgt := 31) dX4_removeLast_62 (by decide) ?_
        refine v_sub [1, 2, 0] rfl ?_
        exact ih _ _
def f_X4_removeLast (k : Nat) (w : XW) : Option (Int32 × XW) := (if 0 < (w.1 k 0) then (if inB ((wset w k 0 ((w.1 k 0) - 1)).1 k 0) 7 then (f_X4_removeLast_31 k ((wset w k 0 ((w.1 k 0) - 1)).1 (k + 1) (Int32.toNatClampNeg ((wset w k 0 ((w.1 k 0) - 1)).1 k 0))) 1000 0 (wset w k 0 ((w.1 k 0) - 1))) else none) else (some ((-1), w)))
set_option maxRecDepth 100000 in
theorem W_X4_removeLast {g : GC} (hl : g.1.stackTraces = false) {k : Nat} (hk : isX4 k) {w : XW} : VE g cX4_removeLast 3 RX4 (some .int) [] (rmL 3 0 0) 0 0 oI 0 0 0 [(0, .ref (g.2.1 + k))] [] w (f_X4_removeLast k w) := by
  unfold f_X4_removeLast
  refine v_aload_n dX4_removeLast_0 rfl 0 rfl ?_
  refine v_getI fl_X4_15 hk.1 rfl dX4_removeLast_1 ?_
  refine v_if_gt (tgt := 9) dX4_removeLast_4 (by decide) ?_ ?_
  · refine v_aload_n dX4_removeLast_9 rfl 0 rfl ?_
    refine v_dup dX4_removeLast_10 rfl ?_
    refine v_getI fl_X4_15 hk.1 rfl dX4_removeLast_11 ?_
    refine v_iconst (v := 1) dX4_removeLast_14 (by decide) ?_
    refine v_isub dX4_removeLast_15 ?_
    refine v_putI fl_X4_15 hk.1 rfl (ty0 := .int) rfl rfl rfl dX4_removeLast_16 ?_
    refine v_aload_n dX4_removeLast_19 rfl 0 rfl ?_
    refine v_getR fl_X4_9 hk.1 rfl dX4_removeLast_20 ?_
    refine v_aload_n dX4_removeLast_23 rfl 0 rfl ?_
    refine v_getI fl_X4_15 hk.1 rfl dX4_removeLast_24 ?_
    refine v_guard (fun h1 => ?_)
    refine v_iald hk.2 h1 dX4_removeLast_27 ?_
    refine v_istore_n dX4_removeLast_28 rfl (Nat.le_of_ble_eq_true rfl) rfl ?_
    refine v_iconst (v := 0) dX4_removeLast_29 (by decide) ?_
    refine v_istore_n dX4_removeLast_30 rfl (Nat.le_of_ble_eq_true rfl) rfl ?_
    refine v_sub [2, 1, 0] rfl ?_
    exact S_X4_removeLast_31 hl hk  _ _ _
  · refine v_iconst (v := (-1)) dX4_removeLast_7 (by decide) ?_
    exact v_iret dX4_removeLast_8 rfl rfl (by decide) (by decide)
theorem S_X4_removeLast {g : GC} (hl : g.1.stackTraces = false) {k : Nat} (hk : isX4 k) {w : XW} : ∀ q, f_X4_removeLast k w = some q → MM g (.code yX4_removeLast cX4_removeLast 3 (some .int)) yX4_removeLast (rmL 3 0 0) 0 0 [.ref (g.2.1 + k)] w (oI q) := fun q hq => MM_of (own := RX4) hl (by decide) gw_828 rfl (Nat.le_of_ble_eq_true rfl) (W_X4_removeLast hl hk q hq) ⟨rfl, rfl⟩

theorem dX4_sectionAt_0 : decode cX4_sectionAt 0 = .ok (.iconst 0, 1) := by decide +kernel
theorem dX4_sectionAt_1 : decode cX4_sectionAt 1 = .ok (.istore_n 2, 1) := by decide +kernel
theorem dX4_sectionAt_2 : decode cX4_sectionAt 2 = .ok (.iload_n 2, 1) := by decide +kernel
theorem dX4_sectionAt_3 : decode cX4_sectionAt 3 = .ok (.aload_n 0, 1) := by decide +kernel
theorem dX4_sectionAt_4 : decode cX4_sectionAt 4 = .ok (.getfield 15, 3) := by decide +kernel
theorem dX4_sectionAt_7 : decode cX4_sectionAt 7 = .ok (.if_icmp .ge 21, 3) := by decide +kernel
theorem dX4_sectionAt_10 : decode cX4_sectionAt 10 = .ok (.aload_n 0, 1) := by decide +kernel
theorem dX4_sectionAt_11 : decode cX4_sectionAt 11 = .ok (.getfield 9, 3) := by decide +kernel
theorem dX4_sectionAt_14 : decode cX4_sectionAt 14 = .ok (.iload_n 2, 1) := by decide +kernel
theorem dX4_sectionAt_15 : decode cX4_sectionAt 15 = .ok (.iaload, 1) := by decide +kernel
theorem dX4_sectionAt_16 : decode cX4_sectionAt 16 = .ok (.iload_n 1, 1) := by decide +kernel
theorem dX4_sectionAt_17 : decode cX4_sectionAt 17 = .ok (.if_icmp .ne 5, 3) := by decide +kernel
theorem dX4_sectionAt_20 : decode cX4_sectionAt 20 = .ok (.iload_n 2, 1) := by decide +kernel
theorem dX4_sectionAt_21 : decode cX4_sectionAt 21 = .ok (.ireturn, 1) := by decide +kernel
theorem dX4_sectionAt_22 : decode cX4_sectionAt 22 = .ok (.iinc 2 1, 3) := by decide +kernel
theorem dX4_sectionAt_25 : decode cX4_sectionAt 25 = .ok (.goto (-23), 3) := by decide +kernel
theorem dX4_sectionAt_28 : decode cX4_sectionAt 28 = .ok (.iconst (-1), 1) := by decide +kernel
theorem dX4_sectionAt_29 : decode cX4_sectionAt 29 = .ok (.ireturn, 1) := by decide +kernel
def f_X4_sectionAt_2 (k : Nat) (y1 : Int32) : Nat → Int32 → XW → Option (Int32 × XW)
  | 0, _, _ => none
  | n + 1, z2, w => (if (w.1 k 0) ≤ z2 then (some ((-1), w)) else (if inB z2 7 then (if (w.1 (k + 1) (Int32.toNatClampNeg z2)) = y1 then (some (z2, w)) else (f_X4_sectionAt_2 k y1 n (z2 + 1) w)) else none))
set_option maxRecDepth 100000 in
theorem S_X4_sectionAt_2 {g : GC} (hl : g.1.stackTraces = false) {k : Nat} (hk : isX4 k) {y1 : Int32} : ∀ (n : Nat) (z2 : Int32) (w : XW), VE g cX4_sectionAt 3 RX4 (some .int) [] (rmL 3 0 0) 0 0 oI 0 0 2 [(0, .ref (g.2.1 + k)), (1, .int y1), (2, .int z2)] [] w (f_X4_sectionAt_2 k y1 n z2 w) := by
  intro n
  induction n with
  | zero => intro z2 w; exact v_none
  | succ n ih =>
    intro z2 w
    rw [f_X4_sectionAt_2]
    refine v_iload_n dX4_sectionAt_2 rfl 2 rfl ?_
    refine v_aload_n dX4_sectionAt_3 rfl 0 rfl ?_
    refine v_getI fl_X4_15 hk.1 rfl dX4_sectionAt_4 ?_
    refine v_icmp_ge (tgt := 28) dX4_sectionAt_7 (by decide) ?_ ?_
    · refine v_iconst (v := (-1)) dX4_sectionAt_28 (by decide) ?_
      exact v_iret dX4_sectionAt_29 rfl rfl (by decide) (by decide)
    · refine v_aload_n dX4_sectionAt_10 rfl 0 rfl ?_
      refine v_getR fl_X4_9 hk.1 rfl dX4_sectionAt_11 ?_
      refine v_iload_n dX4_sectionAt_14 rfl 2 rfl ?_
      refine v_guard (fun h1 => ?_)
      refine v_iald hk.2 h1 dX4_sectionAt_15 ?_
      refine v_iload_n dX4_sectionAt_16 rfl 1 rfl ?_
      refine v_icmp_ne (tgt := 22) dX4_sectionAt_17 (by decide) ?_ ?_
      · refine v_iinc (v := (z2 + 1)) dX4_sectionAt_22 (q := 2) rfl rfl (Nat.le_of_ble_eq_true rfl) rfl ?_
        refine v_goto (tgt := 2) dX4_sectionAt_25 (by decide) ?_
        refine v_sub [1, 2, 0] rfl ?_
        exact ih _ _
      · refine v_iload_n dX4_sectionAt_20 rfl 2 rfl ?_
        exact v_iret dX4_sectionAt_21 rfl rfl (by decide) (by decide)
def f_X4_sectionAt (k : Nat) (x1 : Int32) (w : XW) : Option (Int32 × XW) := (f_X4_sectionAt_2 k x1 1000 0 w)
set_option maxRecDepth 100000 in
theorem W_X4_sectionAt {g : GC} (hl : g.1.stackTraces = false) {k : Nat} (hk : isX4 k) {x1 : Int32} {w : XW} : VE g cX4_sectionAt 3 RX4 (some .int) [] (rmL 3 0 0) 0 0 oI 0 0 0 [(0, .ref (g.2.1 + k)), (1, .int x1)] [] w (f_X4_sectionAt k x1 w) := by
  unfold f_X4_sectionAt
  refine v_iconst (v := 0) dX4_sectionAt_0 (by decide) ?_
  refine v_istore_n dX4_sectionAt_1 rfl (Nat.le_of_ble_eq_true rfl) rfl ?_
  refine v_sub [1, 2, 0] rfl ?_
  exact S_X4_sectionAt_2 hl hk  _ _ _
theorem S_X4_sectionAt {g : GC} (hl : g.1.stackTraces = false) {k : Nat} (hk : isX4 k) {x1 : Int32} {w : XW} : ∀ q, f_X4_sectionAt k x1 w = some q → MM g (.code yX4_sectionAt cX4_sectionAt 3 (some .int)) yX4_sectionAt (rmL 3 0 0) 0 0 [.ref (g.2.1 + k), .int x1] w (oI q) := fun q hq => MM_of (own := RX4) hl (by decide) gw_524 rfl (Nat.le_of_ble_eq_true rfl) (W_X4_sectionAt hl hk q hq) ⟨rfl, rfl⟩
