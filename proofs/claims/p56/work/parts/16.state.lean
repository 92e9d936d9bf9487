theorem dX8_copyFrom_0 : decode cX8_copyFrom 0 = .ok (.aload_n 0, 1) := by decide +kernel
theorem dX8_copyFrom_1 : decode cX8_copyFrom 1 = .ok (.getfield 12, 3) := by decide +kernel
theorem dX8_copyFrom_4 : decode cX8_copyFrom 4 = .ok (.aload_n 1, 1) := by decide +kernel
theorem dX8_copyFrom_5 : decode cX8_copyFrom 5 = .ok (.getfield 12, 3) := by decide +kernel
theorem dX8_copyFrom_8 : decode cX8_copyFrom 8 = .ok (.invokevirtual 32, 3) := by decide +kernel
theorem dX8_copyFrom_11 : decode cX8_copyFrom 11 = .ok (.aload_n 0, 1) := by decide +kernel
theorem dX8_copyFrom_12 : decode cX8_copyFrom 12 = .ok (.getfield 21, 3) := by decide +kernel
theorem dX8_copyFrom_15 : decode cX8_copyFrom 15 = .ok (.aload_n 1, 1) := by decide +kernel
theorem dX8_copyFrom_16 : decode cX8_copyFrom 16 = .ok (.getfield 21, 3) := by decide +kernel
theorem dX8_copyFrom_19 : decode cX8_copyFrom 19 = .ok (.invokevirtual 36, 3) := by decide +kernel
theorem dX8_copyFrom_22 : decode cX8_copyFrom 22 = .ok (.aload_n 0, 1) := by decide +kernel
theorem dX8_copyFrom_23 : decode cX8_copyFrom 23 = .ok (.getfield 28, 3) := by decide +kernel
theorem dX8_copyFrom_26 : decode cX8_copyFrom 26 = .ok (.aload_n 1, 1) := by decide +kernel
theorem dX8_copyFrom_27 : decode cX8_copyFrom 27 = .ok (.getfield 28, 3) := by decide +kernel
theorem dX8_copyFrom_30 : decode cX8_copyFrom 30 = .ok (.invokevirtual 39, 3) := by decide +kernel
theorem dX8_copyFrom_33 : decode cX8_copyFrom 33 = .ok (.return_, 1) := by decide +kernel
def f_X8_copyFrom (k : Nat) (k1 : Nat) (w : XW) : Option (XW) := (bV (f_X9_copyFrom (k + 1) (k1 + 1) w) (fun w1 => (bV (f_X4_copyFrom (k + 4) (k1 + 4) w1) (fun w2 => (bV (f_X5_copyFrom (k + 6) (k1 + 6) w2) (fun w3 => (some w3)))))))
set_option maxRecDepth 100000 in
theorem W_X8_copyFrom {g : GC} (hl : g.1.stackTraces = false) {k : Nat} (hk : isX8 k) {k1 : Nat} (hk1 : isX8 k1) {w : XW} : VE g cX8_copyFrom 2 RX8 none [] (rmL 6 0 0) 0 0 oV 0 0 0 [(0, .ref (g.2.1 + k)), (1, .ref (g.2.1 + k1))] [] w (f_X8_copyFrom k k1 w) := by
  unfold f_X8_copyFrom
  refine v_aload_n dX8_copyFrom_0 rfl 0 rfl ?_
  refine v_getR fl_X8_12 hk.1 rfl dX8_copyFrom_1 ?_
  refine v_aload_n dX8_copyFrom_4 rfl 1 rfl ?_
  refine v_getR fl_X8_12 hk1.1 rfl dX8_copyFrom_5 ?_
  refine v_callVv (As := [.ref (g.2.1 + (k1 + 1))]) cv_X8_32 (S_X9_copyFrom hl hk.2.1 hk1.2.1) hk.2.1.1 rfl rfl rfl (Nat.le_of_ble_eq_true rfl) dX8_copyFrom_8 (CR_rm (by decide) (by decide) (by decide) (by decide)) (fun w1 => ?_)
  refine v_aload_n dX8_copyFrom_11 rfl 0 rfl ?_
  refine v_getR fl_X8_21 hk.1 rfl dX8_copyFrom_12 ?_
  refine v_aload_n dX8_copyFrom_15 rfl 1 rfl ?_
  refine v_getR fl_X8_21 hk1.1 rfl dX8_copyFrom_16 ?_
  refine v_callVv (As := [.ref (g.2.1 + (k1 + 4))]) cv_X8_36 (S_X4_copyFrom hl hk.2.2.1 hk1.2.2.1) hk.2.2.1.1 rfl rfl rfl (Nat.le_of_ble_eq_true rfl) dX8_copyFrom_19 (CR_rm (by decide) (by decide) (by decide) (by decide)) (fun w2 => ?_)
  refine v_aload_n dX8_copyFrom_22 rfl 0 rfl ?_
  refine v_getR fl_X8_28 hk.1 rfl dX8_copyFrom_23 ?_
  refine v_aload_n dX8_copyFrom_26 rfl 1 rfl ?_
  refine v_getR fl_X8_28 hk1.1 rfl dX8_copyFrom_27 ?_
  refine v_callVv (As := [.ref (g.2.1 + (k1 + 6))]) cv_X8_39 (S_X5_copyFrom hl hk.2.2.2 hk1.2.2.2) hk.2.2.2.1 rfl rfl rfl (Nat.le_of_ble_eq_true rfl) dX8_copyFrom_30 (CR_rm (by decide) (by decide) (by decide) (by decide)) (fun w3 => ?_)
  exact v_vret dX8_copyFrom_33 rfl rfl (by decide) (by decide)
theorem S_X8_copyFrom {g : GC} (hl : g.1.stackTraces = false) {k : Nat} (hk : isX8 k) {k1 : Nat} (hk1 : isX8 k1) {w : XW} : ∀ q, f_X8_copyFrom k k1 w = some q → MM g (.code yX8_copyFrom cX8_copyFrom 2 none) yX8_copyFrom (rmL 6 0 0) 0 0 [.ref (g.2.1 + k), .ref (g.2.1 + k1)] w (oV q) := fun q hq => MM_of (own := RX8) hl (by decide) gw_776 rfl (Nat.le_of_ble_eq_true rfl) (W_X8_copyFrom hl hk hk1 q hq) ⟨rfl, rfl⟩

theorem dX8_denied_0 : decode cX8_denied 0 = .ok (.iload_n 0, 1) := by decide +kernel
theorem dX8_denied_1 : decode cX8_denied 1 = .ok (.bipush 100, 2) := by decide +kernel
theorem dX8_denied_3 : decode cX8_denied 3 = .ok (.imul, 1) := by decide +kernel
theorem dX8_denied_4 : decode cX8_denied 4 = .ok (.iload_n 1, 1) := by decide +kernel
theorem dX8_denied_5 : decode cX8_denied 5 = .ok (.iadd, 1) := by decide +kernel
theorem dX8_denied_6 : decode cX8_denied 6 = .ok (.ireturn, 1) := by decide +kernel
def f_X8_denied (x0 : Int32) (x1 : Int32) (w : XW) : Option (Int32 × XW) := (some (((x0 * 100) + x1), w))
set_option maxRecDepth 100000 in
theorem W_X8_denied {g : GC} (hl : g.1.stackTraces = false) {x0 : Int32} {x1 : Int32} {w : XW} : VE g cX8_denied 2 RX8 (some .int) [] (rmL 3 0 0) 0 0 oI 0 0 0 [(0, .int x0), (1, .int x1)] [] w (f_X8_denied x0 x1 w) := by
  unfold f_X8_denied
  refine v_iload_n dX8_denied_0 rfl 0 rfl ?_
  refine v_bipush (v := 100) dX8_denied_1 (by decide) ?_
  refine v_imul dX8_denied_3 ?_
  refine v_iload_n dX8_denied_4 rfl 1 rfl ?_
  refine v_iadd dX8_denied_5 ?_
  exact v_iret dX8_denied_6 rfl rfl (by decide) (by decide)
theorem S_X8_denied {g : GC} (hl : g.1.stackTraces = false) {x0 : Int32} {x1 : Int32} {w : XW} : ∀ q, f_X8_denied x0 x1 w = some q → MM g (.code yX8_denied cX8_denied 2 (some .int)) yX8_denied (rmL 3 0 0) 0 0 [.int x0, .int x1] w (oI q) := fun q hq => MM_of (own := RX8) hl (by decide) gw_538 rfl (Nat.le_of_ble_eq_true rfl) (W_X8_denied hl q hq) ⟨rfl, rfl⟩

theorem dX8_judgePour_0 : decode cX8_judgePour 0 = .ok (.aload_n 0, 1) := by decide +kernel
theorem dX8_judgePour_1 : decode cX8_judgePour 1 = .ok (.getfield 12, 3) := by decide +kernel
theorem dX8_judgePour_4 : decode cX8_judgePour 4 = .ok (.iload_n 1, 1) := by decide +kernel
theorem dX8_judgePour_5 : decode cX8_judgePour 5 = .ok (.invokevirtual 80, 3) := by decide +kernel
theorem dX8_judgePour_8 : decode cX8_judgePour 8 = .ok (.ifCond .ne 5, 3) := by decide +kernel
theorem dX8_judgePour_11 : decode cX8_judgePour 11 = .ok (.iconst (-1), 1) := by decide +kernel
theorem dX8_judgePour_12 : decode cX8_judgePour 12 = .ok (.ireturn, 1) := by decide +kernel
theorem dX8_judgePour_13 : decode cX8_judgePour 13 = .ok (.iload_n 2, 1) := by decide +kernel
theorem dX8_judgePour_14 : decode cX8_judgePour 14 = .ok (.iconst 1, 1) := by decide +kernel
theorem dX8_judgePour_15 : decode cX8_judgePour 15 = .ok (.if_icmp .lt 9, 3) := by decide +kernel
theorem dX8_judgePour_18 : decode cX8_judgePour 18 = .ok (.iload_n 2, 1) := by decide +kernel
theorem dX8_judgePour_19 : decode cX8_judgePour 19 = .ok (.bipush 99, 2) := by decide +kernel
theorem dX8_judgePour_21 : decode cX8_judgePour 21 = .ok (.if_icmp .le 6, 3) := by decide +kernel
theorem dX8_judgePour_24 : decode cX8_judgePour 24 = .ok (.bipush (-2), 2) := by decide +kernel
theorem dX8_judgePour_26 : decode cX8_judgePour 26 = .ok (.ireturn, 1) := by decide +kernel
theorem dX8_judgePour_27 : decode cX8_judgePour 27 = .ok (.aload_n 0, 1) := by decide +kernel
theorem dX8_judgePour_28 : decode cX8_judgePour 28 = .ok (.getfield 12, 3) := by decide +kernel
theorem dX8_judgePour_31 : decode cX8_judgePour 31 = .ok (.iload_n 1, 1) := by decide +kernel
theorem dX8_judgePour_32 : decode cX8_judgePour 32 = .ok (.invokevirtual 81, 3) := by decide +kernel
theorem dX8_judgePour_35 : decode cX8_judgePour 35 = .ok (.iload_n 2, 1) := by decide +kernel
theorem dX8_judgePour_36 : decode cX8_judgePour 36 = .ok (.iadd, 1) := by decide +kernel
theorem dX8_judgePour_37 : decode cX8_judgePour 37 = .ok (.bipush 99, 2) := by decide +kernel
theorem dX8_judgePour_39 : decode cX8_judgePour 39 = .ok (.if_icmp .gt 7, 3) := by decide +kernel
theorem dX8_judgePour_42 : decode cX8_judgePour 42 = .ok (.iconst 0, 1) := by decide +kernel
theorem dX8_judgePour_43 : decode cX8_judgePour 43 = .ok (.goto 9, 3) := by decide +kernel
theorem dX8_judgePour_46 : decode cX8_judgePour 46 = .ok (.iconst 1, 1) := by decide +kernel
theorem dX8_judgePour_47 : decode cX8_judgePour 47 = .ok (.bipush 99, 2) := by decide +kernel
theorem dX8_judgePour_49 : decode cX8_judgePour 49 = .ok (.invokestatic 46, 3) := by decide +kernel
theorem dX8_judgePour_52 : decode cX8_judgePour 52 = .ok (.ireturn, 1) := by decide +kernel
def f_X8_judgePour (k : Nat) (x1 : Int32) (x2 : Int32) (w : XW) : Option (Int32 × XW) := (bI (f_X9_has (k + 1) x1 w) (fun r1 w1 => (if r1 = 0 then (some ((-1), w1)) else (if x2 < 1 then (some ((-2), w1)) else (if x2 ≤ 99 then (bI (f_X9_waterOf (k + 1) x1 w1) (fun r2 w2 => (if 99 < (r2 + x2) then (bI (f_X8_denied 1 99 w2) (fun r3 w3 => (some (r3, w3)))) else (some (0, w2))))) else (some ((-2), w1)))))))
set_option maxRecDepth 100000 in
theorem W_X8_judgePour {g : GC} (hl : g.1.stackTraces = false) {k : Nat} (hk : isX8 k) {x1 : Int32} {x2 : Int32} {w : XW} : VE g cX8_judgePour 3 RX8 (some .int) [] (rmL 5 0 0) 0 0 oI 0 0 0 [(0, .ref (g.2.1 + k)), (1, .int x1), (2, .int x2)] [] w (f_X8_judgePour k x1 x2 w) := by
  unfold f_X8_judgePour
  refine v_aload_n dX8_judgePour_0 rfl 0 rfl ?_
  refine v_getR fl_X8_12 hk.1 rfl dX8_judgePour_1 ?_
  refine v_iload_n dX8_judgePour_4 rfl 1 rfl ?_
  refine v_callVi (As := [.int x1]) cv_X8_80 (S_X9_has hl hk.2.1) hk.2.1.1 rfl rfl rfl (Nat.le_of_ble_eq_true rfl) dX8_judgePour_5 (CR_rm (by decide) (by decide) (by decide) (by decide)) (fun r1 w1 => ?_)
  refine v_if_ne (tgt := 13) dX8_judgePour_8 (by decide) ?_ ?_
  · refine v_iload_n dX8_judgePour_13 rfl 2 rfl ?_
    refine v_iconst (v := 1) dX8_judgePour_14 (by decide) ?_
    refine v_icmp_lt (tgt := 24) dX8_judgePour_15 (by decide) ?_ ?_
    · refine v_bipush (v := (-2)) dX8_judgePour_24 (by decide) ?_
      exact v_iret dX8_judgePour_26 rfl rfl (by decide) (by decide)
    · refine v_iload_n dX8_judgePour_18 rfl 2 rfl ?_
      refine v_bipush (v := 99) dX8_judgePour_19 (by decide) ?_
      refine v_icmp_le (tgt := 27) dX8_judgePour_21 (by decide) ?_ ?_
      · refine v_aload_n dX8_judgePour_27 rfl 0 rfl ?_
        refine v_getR fl_X8_12 hk.1 rfl dX8_judgePour_28 ?_
        refine v_iload_n dX8_judgePour_31 rfl 1 rfl ?_
        refine v_callVi (As := [.int x1]) cv_X8_81 (S_X9_waterOf hl hk.2.1) hk.2.1.1 rfl rfl rfl (Nat.le_of_ble_eq_true rfl) dX8_judgePour_32 (CR_rm (by decide) (by decide) (by decide) (by decide)) (fun r2 w2 => ?_)
        refine v_iload_n dX8_judgePour_35 rfl 2 rfl ?_
        refine v_iadd dX8_judgePour_36 ?_
        refine v_bipush (v := 99) dX8_judgePour_37 (by decide) ?_
        refine v_icmp_gt (tgt := 46) dX8_judgePour_39 (by decide) ?_ ?_
        · refine v_iconst (v := 1) dX8_judgePour_46 (by decide) ?_
          refine v_bipush (v := 99) dX8_judgePour_47 (by decide) ?_
          refine v_callSi (As := [.int 1, .int 99]) cs_X8_46 (S_X8_denied hl) rfl rfl (Nat.le_of_ble_eq_true rfl) dX8_judgePour_49 (CR_rm (by decide) (by decide) (by decide) (by decide)) (fun r3 w3 => ?_)
          exact v_iret dX8_judgePour_52 rfl rfl (by decide) (by decide)
        · refine v_iconst (v := 0) dX8_judgePour_42 (by decide) ?_
          refine v_goto (tgt := 52) dX8_judgePour_43 (by decide) ?_
          exact v_iret dX8_judgePour_52 rfl rfl (by decide) (by decide)
      · refine v_bipush (v := (-2)) dX8_judgePour_24 (by decide) ?_
        exact v_iret dX8_judgePour_26 rfl rfl (by decide) (by decide)
  · refine v_iconst (v := (-1)) dX8_judgePour_11 (by decide) ?_
    exact v_iret dX8_judgePour_12 rfl rfl (by decide) (by decide)
theorem S_X8_judgePour {g : GC} (hl : g.1.stackTraces = false) {k : Nat} (hk : isX8 k) {x1 : Int32} {x2 : Int32} {w : XW} : ∀ q, f_X8_judgePour k x1 x2 w = some q → MM g (.code yX8_judgePour cX8_judgePour 3 (some .int)) yX8_judgePour (rmL 5 0 0) 0 0 [.ref (g.2.1 + k), .int x1, .int x2] w (oI q) := fun q hq => MM_of (own := RX8) hl (by decide) gw_724 rfl (Nat.le_of_ble_eq_true rfl) (W_X8_judgePour hl hk q hq) ⟨rfl, rfl⟩

theorem dX8_judgeTerm_0 : decode cX8_judgeTerm 0 = .ok (.aload_n 0, 1) := by decide +kernel
theorem dX8_judgeTerm_1 : decode cX8_judgeTerm 1 = .ok (.getfield 12, 3) := by decide +kernel
theorem dX8_judgeTerm_4 : decode cX8_judgeTerm 4 = .ok (.iload_n 1, 1) := by decide +kernel
theorem dX8_judgeTerm_5 : decode cX8_judgeTerm 5 = .ok (.invokevirtual 80, 3) := by decide +kernel
theorem dX8_judgeTerm_8 : decode cX8_judgeTerm 8 = .ok (.ifCond .ne 5, 3) := by decide +kernel
theorem dX8_judgeTerm_11 : decode cX8_judgeTerm 11 = .ok (.iconst (-1), 1) := by decide +kernel
theorem dX8_judgeTerm_12 : decode cX8_judgeTerm 12 = .ok (.ireturn, 1) := by decide +kernel
theorem dX8_judgeTerm_13 : decode cX8_judgeTerm 13 = .ok (.iload_n 2, 1) := by decide +kernel
theorem dX8_judgeTerm_14 : decode cX8_judgeTerm 14 = .ok (.invokestatic 84, 3) := by decide +kernel
theorem dX8_judgeTerm_17 : decode cX8_judgeTerm 17 = .ok (.ifCond .ne 6, 3) := by decide +kernel
theorem dX8_judgeTerm_20 : decode cX8_judgeTerm 20 = .ok (.bipush (-2), 2) := by decide +kernel
theorem dX8_judgeTerm_22 : decode cX8_judgeTerm 22 = .ok (.ireturn, 1) := by decide +kernel
theorem dX8_judgeTerm_23 : decode cX8_judgeTerm 23 = .ok (.aload_n 0, 1) := by decide +kernel
theorem dX8_judgeTerm_24 : decode cX8_judgeTerm 24 = .ok (.getfield 12, 3) := by decide +kernel
theorem dX8_judgeTerm_27 : decode cX8_judgeTerm 27 = .ok (.iload_n 1, 1) := by decide +kernel
theorem dX8_judgeTerm_28 : decode cX8_judgeTerm 28 = .ok (.iload_n 2, 1) := by decide +kernel
theorem dX8_judgeTerm_29 : decode cX8_judgeTerm 29 = .ok (.invokevirtual 87, 3) := by decide +kernel
theorem dX8_judgeTerm_32 : decode cX8_judgeTerm 32 = .ok (.iload_n 3, 1) := by decide +kernel
theorem dX8_judgeTerm_33 : decode cX8_judgeTerm 33 = .ok (.if_icmp .ne 7, 3) := by decide +kernel
theorem dX8_judgeTerm_36 : decode cX8_judgeTerm 36 = .ok (.iconst 0, 1) := by decide +kernel
theorem dX8_judgeTerm_37 : decode cX8_judgeTerm 37 = .ok (.goto 15, 3) := by decide +kernel
theorem dX8_judgeTerm_40 : decode cX8_judgeTerm 40 = .ok (.iconst 5, 1) := by decide +kernel
theorem dX8_judgeTerm_41 : decode cX8_judgeTerm 41 = .ok (.aload_n 0, 1) := by decide +kernel
theorem dX8_judgeTerm_42 : decode cX8_judgeTerm 42 = .ok (.getfield 12, 3) := by decide +kernel
theorem dX8_judgeTerm_45 : decode cX8_judgeTerm 45 = .ok (.iload_n 1, 1) := by decide +kernel
theorem dX8_judgeTerm_46 : decode cX8_judgeTerm 46 = .ok (.invokevirtual 91, 3) := by decide +kernel
theorem dX8_judgeTerm_49 : decode cX8_judgeTerm 49 = .ok (.invokestatic 46, 3) := by decide +kernel
theorem dX8_judgeTerm_52 : decode cX8_judgeTerm 52 = .ok (.ireturn, 1) := by decide +kernel
def f_X8_judgeTerm (k : Nat) (x1 : Int32) (x2 : Int32) (x3 : Int32) (w : XW) : Option (Int32 × XW) := (bI (f_X9_has (k + 1) x1 w) (fun r1 w1 => (if r1 = 0 then (some ((-1), w1)) else (bI (f_X9_isTerm x2 w1) (fun r2 w2 => (if r2 = 0 then (some ((-2), w2)) else (bI (f_X9_bears (k + 1) x1 x2 w2) (fun r3 w3 => (if r3 = x3 then (some (0, w3)) else (bI (f_X9_termCountOf (k + 1) x1 w3) (fun r4 w4 => (bI (f_X8_denied 5 r4 w4) (fun r5 w5 => (some (r5, w5)))))))))))))))
set_option maxRecDepth 100000 in
theorem W_X8_judgeTerm {g : GC} (hl : g.1.stackTraces = false) {k : Nat} (hk : isX8 k) {x1 : Int32} {x2 : Int32} {x3 : Int32} {w : XW} : VE g cX8_judgeTerm 4 RX8 (some .int) [] (rmL 6 0 0) 0 0 oI 0 0 0 [(0, .ref (g.2.1 + k)), (1, .int x1), (2, .int x2), (3, .int x3)] [] w (f_X8_judgeTerm k x1 x2 x3 w) := by
  unfold f_X8_judgeTerm
  refine v_aload_n dX8_judgeTerm_0 rfl 0 rfl ?_
  refine v_getR fl_X8_12 hk.1 rfl dX8_judgeTerm_1 ?_
  refine v_iload_n dX8_judgeTerm_4 rfl 1 rfl ?_
  refine v_callVi (As := [.int x1]) cv_X8_80 (S_X9_has hl hk.2.1) hk.2.1.1 rfl rfl rfl (Nat.le_of_ble_eq_true rfl) dX8_judgeTerm_5 (CR_rm (by decide) (by decide) (by decide) (by decide)) (fun r1 w1 => ?_)
  refine v_if_ne (tgt := 13) dX8_judgeTerm_8 (by decide) ?_ ?_
  · refine v_iload_n dX8_judgeTerm_13 rfl 2 rfl ?_
    refine v_callSi (As := [.int x2]) cs_X8_84 (S_X9_isTerm hl) rfl rfl (Nat.le_of_ble_eq_true rfl) dX8_judgeTerm_14 (CR_rm (by decide) (by decide) (by decide) (by decide)) (fun r2 w2 => ?_)
    refine v_if_ne (tgt := 23) dX8_judgeTerm_17 (by decide) ?_ ?_
    · refine v_aload_n dX8_judgeTerm_23 rfl 0 rfl ?_
      refine v_getR fl_X8_12 hk.1 rfl dX8_judgeTerm_24 ?_
      refine v_iload_n dX8_judgeTerm_27 rfl 1 rfl ?_
      refine v_iload_n dX8_judgeTerm_28 rfl 2 rfl ?_
      refine v_callVi (As := [.int x1, .int x2]) cv_X8_87 (S_X9_bears hl hk.2.1) hk.2.1.1 rfl rfl rfl (Nat.le_of_ble_eq_true rfl) dX8_judgeTerm_29 (CR_rm (by decide) (by decide) (by decide) (by decide)) (fun r3 w3 => ?_)
      refine v_iload_n dX8_judgeTerm_32 rfl 3 rfl ?_
      refine v_icmp_ne (tgt := 40) dX8_judgeTerm_33 (by decide) ?_ ?_
      · refine v_iconst (v := 5) dX8_judgeTerm_40 (by decide) ?_
        refine v_aload_n dX8_judgeTerm_41 rfl 0 rfl ?_
        refine v_getR fl_X8_12 hk.1 rfl dX8_judgeTerm_42 ?_
        refine v_iload_n dX8_judgeTerm_45 rfl 1 rfl ?_
        refine v_callVi (As := [.int x1]) cv_X8_91 (S_X9_termCountOf hl hk.2.1) hk.2.1.1 rfl rfl rfl (Nat.le_of_ble_eq_true rfl) dX8_judgeTerm_46 (CR_rm (by decide) (by decide) (by decide) (by decide)) (fun r4 w4 => ?_)
        refine v_callSi (As := [.int 5, .int r4]) cs_X8_46 (S_X8_denied hl) rfl rfl (Nat.le_of_ble_eq_true rfl) dX8_judgeTerm_49 (CR_rm (by decide) (by decide) (by decide) (by decide)) (fun r5 w5 => ?_)
        exact v_iret dX8_judgeTerm_52 rfl rfl (by decide) (by decide)
      · refine v_iconst (v := 0) dX8_judgeTerm_36 (by decide) ?_
        refine v_goto (tgt := 52) dX8_judgeTerm_37 (by decide) ?_
        exact v_iret dX8_judgeTerm_52 rfl rfl (by decide) (by decide)
    · refine v_bipush (v := (-2)) dX8_judgeTerm_20 (by decide) ?_
      exact v_iret dX8_judgeTerm_22 rfl rfl (by decide) (by decide)
  · refine v_iconst (v := (-1)) dX8_judgeTerm_11 (by decide) ?_
    exact v_iret dX8_judgeTerm_12 rfl rfl (by decide) (by decide)
theorem S_X8_judgeTerm {g : GC} (hl : g.1.stackTraces = false) {k : Nat} (hk : isX8 k) {x1 : Int32} {x2 : Int32} {x3 : Int32} {w : XW} : ∀ q, f_X8_judgeTerm k x1 x2 x3 w = some q → MM g (.code yX8_judgeTerm cX8_judgeTerm 4 (some .int)) yX8_judgeTerm (rmL 6 0 0) 0 0 [.ref (g.2.1 + k), .int x1, .int x2, .int x3] w (oI q) := fun q hq => MM_of (own := RX8) hl (by decide) gw_730 rfl (Nat.le_of_ble_eq_true rfl) (W_X8_judgeTerm hl hk q hq) ⟨rfl, rfl⟩

theorem dX8_judgeFold_0 : decode cX8_judgeFold 0 = .ok (.iload_n 1, 1) := by decide +kernel
theorem dX8_judgeFold_1 : decode cX8_judgeFold 1 = .ok (.ifCond .lt 14, 3) := by decide +kernel
theorem dX8_judgeFold_4 : decode cX8_judgeFold 4 = .ok (.iload_n 1, 1) := by decide +kernel
theorem dX8_judgeFold_5 : decode cX8_judgeFold 5 = .ok (.aload_n 0, 1) := by decide +kernel
theorem dX8_judgeFold_6 : decode cX8_judgeFold 6 = .ok (.getfield 21, 3) := by decide +kernel
theorem dX8_judgeFold_9 : decode cX8_judgeFold 9 = .ok (.getfield 77, 3) := by decide +kernel
theorem dX8_judgeFold_12 : decode cX8_judgeFold 12 = .ok (.if_icmp .le 5, 3) := by decide +kernel
theorem dX8_judgeFold_15 : decode cX8_judgeFold 15 = .ok (.iconst (-1), 1) := by decide +kernel
theorem dX8_judgeFold_16 : decode cX8_judgeFold 16 = .ok (.ireturn, 1) := by decide +kernel
theorem dX8_judgeFold_17 : decode cX8_judgeFold 17 = .ok (.aload_n 0, 1) := by decide +kernel
theorem dX8_judgeFold_18 : decode cX8_judgeFold 18 = .ok (.getfield 21, 3) := by decide +kernel
theorem dX8_judgeFold_21 : decode cX8_judgeFold 21 = .ok (.getfield 77, 3) := by decide +kernel
theorem dX8_judgeFold_24 : decode cX8_judgeFold 24 = .ok (.aload_n 0, 1) := by decide +kernel
theorem dX8_judgeFold_25 : decode cX8_judgeFold 25 = .ok (.getfield 12, 3) := by decide +kernel
theorem dX8_judgeFold_28 : decode cX8_judgeFold 28 = .ok (.getfield 42, 3) := by decide +kernel
theorem dX8_judgeFold_31 : decode cX8_judgeFold 31 = .ok (.if_icmp .lt 15, 3) := by decide +kernel
theorem dX8_judgeFold_34 : decode cX8_judgeFold 34 = .ok (.iconst 2, 1) := by decide +kernel
theorem dX8_judgeFold_35 : decode cX8_judgeFold 35 = .ok (.aload_n 0, 1) := by decide +kernel
theorem dX8_judgeFold_36 : decode cX8_judgeFold 36 = .ok (.getfield 12, 3) := by decide +kernel
theorem dX8_judgeFold_39 : decode cX8_judgeFold 39 = .ok (.getfield 42, 3) := by decide +kernel
theorem dX8_judgeFold_42 : decode cX8_judgeFold 42 = .ok (.invokestatic 46, 3) := by decide +kernel
theorem dX8_judgeFold_45 : decode cX8_judgeFold 45 = .ok (.ireturn, 1) := by decide +kernel
theorem dX8_judgeFold_46 : decode cX8_judgeFold 46 = .ok (.aload_n 0, 1) := by decide +kernel
theorem dX8_judgeFold_47 : decode cX8_judgeFold 47 = .ok (.getfield 21, 3) := by decide +kernel
theorem dX8_judgeFold_50 : decode cX8_judgeFold 50 = .ok (.iload_n 1, 1) := by decide +kernel
theorem dX8_judgeFold_51 : decode cX8_judgeFold 51 = .ok (.invokevirtual 94, 3) := by decide +kernel
theorem dX8_judgeFold_54 : decode cX8_judgeFold 54 = .ok (.istore_n 2, 1) := by decide +kernel
theorem dX8_judgeFold_55 : decode cX8_judgeFold 55 = .ok (.iload_n 2, 1) := by decide +kernel
theorem dX8_judgeFold_56 : decode cX8_judgeFold 56 = .ok (.iconst (-1), 1) := by decide +kernel
theorem dX8_judgeFold_57 : decode cX8_judgeFold 57 = .ok (.if_icmp .ne 7, 3) := by decide +kernel
theorem dX8_judgeFold_60 : decode cX8_judgeFold 60 = .ok (.iconst 0, 1) := by decide +kernel
theorem dX8_judgeFold_61 : decode cX8_judgeFold 61 = .ok (.goto 8, 3) := by decide +kernel
theorem dX8_judgeFold_64 : decode cX8_judgeFold 64 = .ok (.iconst 4, 1) := by decide +kernel
theorem dX8_judgeFold_65 : decode cX8_judgeFold 65 = .ok (.iload_n 2, 1) := by decide +kernel
theorem dX8_judgeFold_66 : decode cX8_judgeFold 66 = .ok (.invokestatic 46, 3) := by decide +kernel
theorem dX8_judgeFold_69 : decode cX8_judgeFold 69 = .ok (.ireturn, 1) := by decide +kernel
def f_X8_judgeFold (k : Nat) (x1 : Int32) (w : XW) : Option (Int32 × XW) := (if x1 < 0 then (some ((-1), w)) else (if x1 ≤ (w.1 (k + 4) 0) then (if (w.1 (k + 4) 0) < (w.1 (k + 1) 0) then (bI (f_X4_creaseCrossedAt (k + 4) x1 w) (fun r1 w1 => (if r1 = (-1) then (some (0, w1)) else (bI (f_X8_denied 4 r1 w1) (fun r2 w2 => (some (r2, w2))))))) else (bI (f_X8_denied 2 (w.1 (k + 1) 0) w) (fun r3 w3 => (some (r3, w3))))) else (some ((-1), w))))
set_option maxRecDepth 100000 in
theorem W_X8_judgeFold {g : GC} (hl : g.1.stackTraces = false) {k : Nat} (hk : isX8 k) {x1 : Int32} {w : XW} : VE g cX8_judgeFold 3 RX8 (some .int) [] (rmL 7 0 0) 0 0 oI 0 0 0 [(0, .ref (g.2.1 + k)), (1, .int x1)] [] w (f_X8_judgeFold k x1 w) := by
  unfold f_X8_judgeFold
  refine v_iload_n dX8_judgeFold_0 rfl 1 rfl ?_
  refine v_if_lt (tgt := 15) dX8_judgeFold_1 (by decide) ?_ ?_
  · refine v_iconst (v := (-1)) dX8_judgeFold_15 (by decide) ?_
    exact v_iret dX8_judgeFold_16 rfl rfl (by decide) (by decide)
  · refine v_iload_n dX8_judgeFold_4 rfl 1 rfl ?_
    refine v_aload_n dX8_judgeFold_5 rfl 0 rfl ?_
    refine v_getR fl_X8_21 hk.1 rfl dX8_judgeFold_6 ?_
    refine v_getI fl_X8_77 hk.2.2.1.1 rfl dX8_judgeFold_9 ?_
    refine v_icmp_le (tgt := 17) dX8_judgeFold_12 (by decide) ?_ ?_
    · refine v_aload_n dX8_judgeFold_17 rfl 0 rfl ?_
      refine v_getR fl_X8_21 hk.1 rfl dX8_judgeFold_18 ?_
      refine v_getI fl_X8_77 hk.2.2.1.1 rfl dX8_judgeFold_21 ?_
      refine v_aload_n dX8_judgeFold_24 rfl 0 rfl ?_
      refine v_getR fl_X8_12 hk.1 rfl dX8_judgeFold_25 ?_
      refine v_getI fl_X8_42 hk.2.1.1 rfl dX8_judgeFold_28 ?_
      refine v_icmp_lt (tgt := 46) dX8_judgeFold_31 (by decide) ?_ ?_
      · refine v_aload_n dX8_judgeFold_46 rfl 0 rfl ?_
        refine v_getR fl_X8_21 hk.1 rfl dX8_judgeFold_47 ?_
        refine v_iload_n dX8_judgeFold_50 rfl 1 rfl ?_
        refine v_callVi (As := [.int x1]) cv_X8_94 (S_X4_creaseCrossedAt hl hk.2.2.1) hk.2.2.1.1 rfl rfl rfl (Nat.le_of_ble_eq_true rfl) dX8_judgeFold_51 (CR_rm (by decide) (by decide) (by decide) (by decide)) (fun r1 w1 => ?_)
        refine v_istore_n dX8_judgeFold_54 rfl (Nat.le_of_ble_eq_true rfl) rfl ?_
        refine v_iload_n dX8_judgeFold_55 rfl 0 rfl ?_
        refine v_iconst (v := (-1)) dX8_judgeFold_56 (by decide) ?_
        refine v_icmp_ne (tgt := 64) dX8_judgeFold_57 (by decide) ?_ ?_
        · refine v_iconst (v := 4) dX8_judgeFold_64 (by decide) ?_
          refine v_iload_n dX8_judgeFold_65 rfl 0 rfl ?_
          refine v_callSi (As := [.int 4, .int r1]) cs_X8_46 (S_X8_denied hl) rfl rfl (Nat.le_of_ble_eq_true rfl) dX8_judgeFold_66 (CR_rm (by decide) (by decide) (by decide) (by decide)) (fun r2 w2 => ?_)
          exact v_iret dX8_judgeFold_69 rfl rfl (by decide) (by decide)
        · refine v_iconst (v := 0) dX8_judgeFold_60 (by decide) ?_
          refine v_goto (tgt := 69) dX8_judgeFold_61 (by decide) ?_
          exact v_iret dX8_judgeFold_69 rfl rfl (by decide) (by decide)
      · refine v_iconst (v := 2) dX8_judgeFold_34 (by decide) ?_
        refine v_aload_n dX8_judgeFold_35 rfl 0 rfl ?_
        refine v_getR fl_X8_12 hk.1 rfl dX8_judgeFold_36 ?_
        refine v_getI fl_X8_42 hk.2.1.1 rfl dX8_judgeFold_39 ?_
        refine v_callSi (As := [.int 2, .int (w.1 (k + 1) 0)]) cs_X8_46 (S_X8_denied hl) rfl rfl (Nat.le_of_ble_eq_true rfl) dX8_judgeFold_42 (CR_rm (by decide) (by decide) (by decide) (by decide)) (fun r3 w3 => ?_)
        exact v_iret dX8_judgeFold_45 rfl rfl (by decide) (by decide)
    · refine v_iconst (v := (-1)) dX8_judgeFold_15 (by decide) ?_
      exact v_iret dX8_judgeFold_16 rfl rfl (by decide) (by decide)
theorem S_X8_judgeFold {g : GC} (hl : g.1.stackTraces = false) {k : Nat} (hk : isX8 k) {x1 : Int32} {w : XW} : ∀ q, f_X8_judgeFold k x1 w = some q → MM g (.code yX8_judgeFold cX8_judgeFold 3 (some .int)) yX8_judgeFold (rmL 7 0 0) 0 0 [.ref (g.2.1 + k), .int x1] w (oI q) := fun q hq => MM_of (own := RX8) hl (by decide) gw_535 rfl (Nat.le_of_ble_eq_true rfl) (W_X8_judgeFold hl hk q hq) ⟨rfl, rfl⟩

theorem dX8_judgePipe_0 : decode cX8_judgePipe 0 = .ok (.aload_n 0, 1) := by decide +kernel
theorem dX8_judgePipe_1 : decode cX8_judgePipe 1 = .ok (.getfield 12, 3) := by decide +kernel
theorem dX8_judgePipe_4 : decode cX8_judgePipe 4 = .ok (.iload_n 1, 1) := by decide +kernel
theorem dX8_judgePipe_5 : decode cX8_judgePipe 5 = .ok (.invokevirtual 80, 3) := by decide +kernel
theorem dX8_judgePipe_8 : decode cX8_judgePipe 8 = .ok (.ifCond .eq 14, 3) := by decide +kernel
theorem dX8_judgePipe_11 : decode cX8_judgePipe 11 = .ok (.aload_n 0, 1) := by decide +kernel
theorem dX8_judgePipe_12 : decode cX8_judgePipe 12 = .ok (.getfield 12, 3) := by decide +kernel
theorem dX8_judgePipe_15 : decode cX8_judgePipe 15 = .ok (.iload_n 2, 1) := by decide +kernel
theorem dX8_judgePipe_16 : decode cX8_judgePipe 16 = .ok (.invokevirtual 80, 3) := by decide +kernel
theorem dX8_judgePipe_19 : decode cX8_judgePipe 19 = .ok (.ifCond .ne 5, 3) := by decide +kernel
theorem dX8_judgePipe_22 : decode cX8_judgePipe 22 = .ok (.iconst (-1), 1) := by decide +kernel
theorem dX8_judgePipe_23 : decode cX8_judgePipe 23 = .ok (.ireturn, 1) := by decide +kernel
theorem dX8_judgePipe_24 : decode cX8_judgePipe 24 = .ok (.iload_n 1, 1) := by decide +kernel
theorem dX8_judgePipe_25 : decode cX8_judgePipe 25 = .ok (.iload_n 2, 1) := by decide +kernel
theorem dX8_judgePipe_26 : decode cX8_judgePipe 26 = .ok (.if_icmp .eq 14, 3) := by decide +kernel
theorem dX8_judgePipe_29 : decode cX8_judgePipe 29 = .ok (.iload_n 3, 1) := by decide +kernel
theorem dX8_judgePipe_30 : decode cX8_judgePipe 30 = .ok (.iconst 1, 1) := by decide +kernel
theorem dX8_judgePipe_31 : decode cX8_judgePipe 31 = .ok (.if_icmp .lt 9, 3) := by decide +kernel
theorem dX8_judgePipe_34 : decode cX8_judgePipe 34 = .ok (.iload_n 3, 1) := by decide +kernel
theorem dX8_judgePipe_35 : decode cX8_judgePipe 35 = .ok (.bipush 20, 2) := by decide +kernel
theorem dX8_judgePipe_37 : decode cX8_judgePipe 37 = .ok (.if_icmp .le 6, 3) := by decide +kernel
theorem dX8_judgePipe_40 : decode cX8_judgePipe 40 = .ok (.bipush (-2), 2) := by decide +kernel
theorem dX8_judgePipe_42 : decode cX8_judgePipe 42 = .ok (.ireturn, 1) := by decide +kernel
theorem dX8_judgePipe_43 : decode cX8_judgePipe 43 = .ok (.aload_n 0, 1) := by decide +kernel
theorem dX8_judgePipe_44 : decode cX8_judgePipe 44 = .ok (.getfield 28, 3) := by decide +kernel
theorem dX8_judgePipe_47 : decode cX8_judgePipe 47 = .ok (.getfield 97, 3) := by decide +kernel
theorem dX8_judgePipe_50 : decode cX8_judgePipe 50 = .ok (.bipush 10, 2) := by decide +kernel
theorem dX8_judgePipe_52 : decode cX8_judgePipe 52 = .ok (.if_icmp .ge 7, 3) := by decide +kernel
theorem dX8_judgePipe_55 : decode cX8_judgePipe 55 = .ok (.iconst 0, 1) := by decide +kernel
theorem dX8_judgePipe_56 : decode cX8_judgePipe 56 = .ok (.goto 9, 3) := by decide +kernel
theorem dX8_judgePipe_59 : decode cX8_judgePipe 59 = .ok (.iconst 1, 1) := by decide +kernel
theorem dX8_judgePipe_60 : decode cX8_judgePipe 60 = .ok (.bipush 10, 2) := by decide +kernel
theorem dX8_judgePipe_62 : decode cX8_judgePipe 62 = .ok (.invokestatic 46, 3) := by decide +kernel
theorem dX8_judgePipe_65 : decode cX8_judgePipe 65 = .ok (.ireturn, 1) := by decide +kernel
def f_X8_judgePipe (k : Nat) (x1 : Int32) (x2 : Int32) (x3 : Int32) (w : XW) : Option (Int32 × XW) := (bI (f_X9_has (k + 1) x1 w) (fun r1 w1 => (if r1 = 0 then (some ((-1), w1)) else (bI (f_X9_has (k + 1) x2 w1) (fun r2 w2 => (if r2 = 0 then (some ((-1), w2)) else (if x1 = x2 then (some ((-2), w2)) else (if x3 < 1 then (some ((-2), w2)) else (if x3 ≤ 20 then (if 10 ≤ (w2.1 (k + 6) 0) then (bI (f_X8_denied 1 10 w2) (fun r3 w3 => (some (r3, w3)))) else (some (0, w2))) else (some ((-2), w2)))))))))))
set_option maxRecDepth 100000 in
theorem W_X8_judgePipe {g : GC} (hl : g.1.stackTraces = false) {k : Nat} (hk : isX8 k) {x1 : Int32} {x2 : Int32} {x3 : Int32} {w : XW} : VE g cX8_judgePipe 4 RX8 (some .int) [] (rmL 4 0 0) 0 0 oI 0 0 0 [(0, .ref (g.2.1 + k)), (1, .int x1), (2, .int x2), (3, .int x3)] [] w (f_X8_judgePipe k x1 x2 x3 w) := by
  unfold f_X8_judgePipe
  refine v_aload_n dX8_judgePipe_0 rfl 0 rfl ?_
  refine v_getR fl_X8_12 hk.1 rfl dX8_judgePipe_1 ?_
  refine v_iload_n dX8_judgePipe_4 rfl 1 rfl ?_
  refine v_callVi (As := [.int x1]) cv_X8_80 (S_X9_has hl hk.2.1) hk.2.1.1 rfl rfl rfl (Nat.le_of_ble_eq_true rfl) dX8_judgePipe_5 (CR_rm (by decide) (by decide) (by decide) (by decide)) (fun r1 w1 => ?_)
  refine v_if_eq (tgt := 22) dX8_judgePipe_8 (by decide) ?_ ?_
  · refine v_iconst (v := (-1)) dX8_judgePipe_22 (by decide) ?_
    exact v_iret dX8_judgePipe_23 rfl rfl (by decide) (by decide)
  · refine v_aload_n dX8_judgePipe_11 rfl 0 rfl ?_
    refine v_getR fl_X8_12 hk.1 rfl dX8_judgePipe_12 ?_
    refine v_iload_n dX8_judgePipe_15 rfl 2 rfl ?_
    refine v_callVi (As := [.int x2]) cv_X8_80 (S_X9_has hl hk.2.1) hk.2.1.1 rfl rfl rfl (Nat.le_of_ble_eq_true rfl) dX8_judgePipe_16 (CR_rm (by decide) (by decide) (by decide) (by decide)) (fun r2 w2 => ?_)
    refine v_if_ne (tgt := 24) dX8_judgePipe_19 (by decide) ?_ ?_
    · refine v_iload_n dX8_judgePipe_24 rfl 1 rfl ?_
      refine v_iload_n dX8_judgePipe_25 rfl 2 rfl ?_
      refine v_icmp_eq (tgt := 40) dX8_judgePipe_26 (by decide) ?_ ?_
      · refine v_bipush (v := (-2)) dX8_judgePipe_40 (by decide) ?_
        exact v_iret dX8_judgePipe_42 rfl rfl (by decide) (by decide)
      · refine v_iload_n dX8_judgePipe_29 rfl 3 rfl ?_
        refine v_iconst (v := 1) dX8_judgePipe_30 (by decide) ?_
        refine v_icmp_lt (tgt := 40) dX8_judgePipe_31 (by decide) ?_ ?_
        · refine v_bipush (v := (-2)) dX8_judgePipe_40 (by decide) ?_
          exact v_iret dX8_judgePipe_42 rfl rfl (by decide) (by decide)
        · refine v_iload_n dX8_judgePipe_34 rfl 3 rfl ?_
          refine v_bipush (v := 20) dX8_judgePipe_35 (by decide) ?_
          refine v_icmp_le (tgt := 43) dX8_judgePipe_37 (by decide) ?_ ?_
          · refine v_aload_n dX8_judgePipe_43 rfl 0 rfl ?_
            refine v_getR fl_X8_28 hk.1 rfl dX8_judgePipe_44 ?_
            refine v_getI fl_X8_97 hk.2.2.2.1 rfl dX8_judgePipe_47 ?_
            refine v_bipush (v := 10) dX8_judgePipe_50 (by decide) ?_
            refine v_icmp_ge (tgt := 59) dX8_judgePipe_52 (by decide) ?_ ?_
            · refine v_iconst (v := 1) dX8_judgePipe_59 (by decide) ?_
              refine v_bipush (v := 10) dX8_judgePipe_60 (by decide) ?_
              refine v_callSi (As := [.int 1, .int 10]) cs_X8_46 (S_X8_denied hl) rfl rfl (Nat.le_of_ble_eq_true rfl) dX8_judgePipe_62 (CR_rm (by decide) (by decide) (by decide) (by decide)) (fun r3 w3 => ?_)
              exact v_iret dX8_judgePipe_65 rfl rfl (by decide) (by decide)
            · refine v_iconst (v := 0) dX8_judgePipe_55 (by decide) ?_
              refine v_goto (tgt := 65) dX8_judgePipe_56 (by decide) ?_
              exact v_iret dX8_judgePipe_65 rfl rfl (by decide) (by decide)
          · refine v_bipush (v := (-2)) dX8_judgePipe_40 (by decide) ?_
            exact v_iret dX8_judgePipe_42 rfl rfl (by decide) (by decide)
    · refine v_iconst (v := (-1)) dX8_judgePipe_22 (by decide) ?_
      exact v_iret dX8_judgePipe_23 rfl rfl (by decide) (by decide)
theorem S_X8_judgePipe {g : GC} (hl : g.1.stackTraces = false) {k : Nat} (hk : isX8 k) {x1 : Int32} {x2 : Int32} {x3 : Int32} {w : XW} : ∀ q, f_X8_judgePipe k x1 x2 x3 w = some q → MM g (.code yX8_judgePipe cX8_judgePipe 4 (some .int)) yX8_judgePipe (rmL 4 0 0) 0 0 [.ref (g.2.1 + k), .int x1, .int x2, .int x3] w (oI q) := fun q hq => MM_of (own := RX8) hl (by decide) gw_756 rfl (Nat.le_of_ble_eq_true rfl) (W_X8_judgePipe hl hk q hq) ⟨rfl, rfl⟩

theorem dX8_judgeBroken_0 : decode cX8_judgeBroken 0 = .ok (.aload_n 0, 1) := by decide +kernel
theorem dX8_judgeBroken_1 : decode cX8_judgeBroken 1 = .ok (.getfield 28, 3) := by decide +kernel
theorem dX8_judgeBroken_4 : decode cX8_judgeBroken 4 = .ok (.iload_n 1, 1) := by decide +kernel
theorem dX8_judgeBroken_5 : decode cX8_judgeBroken 5 = .ok (.invokevirtual 65, 3) := by decide +kernel
theorem dX8_judgeBroken_8 : decode cX8_judgeBroken 8 = .ok (.ifCond .ne 5, 3) := by decide +kernel
theorem dX8_judgeBroken_11 : decode cX8_judgeBroken 11 = .ok (.iconst (-1), 1) := by decide +kernel
theorem dX8_judgeBroken_12 : decode cX8_judgeBroken 12 = .ok (.ireturn, 1) := by decide +kernel
theorem dX8_judgeBroken_13 : decode cX8_judgeBroken 13 = .ok (.aload_n 0, 1) := by decide +kernel
theorem dX8_judgeBroken_14 : decode cX8_judgeBroken 14 = .ok (.getfield 28, 3) := by decide +kernel
theorem dX8_judgeBroken_17 : decode cX8_judgeBroken 17 = .ok (.iload_n 1, 1) := by decide +kernel
theorem dX8_judgeBroken_18 : decode cX8_judgeBroken 18 = .ok (.invokevirtual 98, 3) := by decide +kernel
theorem dX8_judgeBroken_21 : decode cX8_judgeBroken 21 = .ok (.iload_n 2, 1) := by decide +kernel
theorem dX8_judgeBroken_22 : decode cX8_judgeBroken 22 = .ok (.if_icmp .ne 7, 3) := by decide +kernel
theorem dX8_judgeBroken_25 : decode cX8_judgeBroken 25 = .ok (.iconst 0, 1) := by decide +kernel
theorem dX8_judgeBroken_26 : decode cX8_judgeBroken 26 = .ok (.goto 16, 3) := by decide +kernel
theorem dX8_judgeBroken_29 : decode cX8_judgeBroken 29 = .ok (.bipush 6, 2) := by decide +kernel
theorem dX8_judgeBroken_31 : decode cX8_judgeBroken 31 = .ok (.aload_n 0, 1) := by decide +kernel
theorem dX8_judgeBroken_32 : decode cX8_judgeBroken 32 = .ok (.getfield 28, 3) := by decide +kernel
theorem dX8_judgeBroken_35 : decode cX8_judgeBroken 35 = .ok (.iload_n 1, 1) := by decide +kernel
theorem dX8_judgeBroken_36 : decode cX8_judgeBroken 36 = .ok (.invokevirtual 101, 3) := by decide +kernel
theorem dX8_judgeBroken_39 : decode cX8_judgeBroken 39 = .ok (.invokestatic 46, 3) := by decide +kernel
theorem dX8_judgeBroken_42 : decode cX8_judgeBroken 42 = .ok (.ireturn, 1) := by decide +kernel
def f_X8_judgeBroken (k : Nat) (x1 : Int32) (x2 : Int32) (w : XW) : Option (Int32 × XW) := (bI (f_X5_has (k + 6) x1 w) (fun r1 w1 => (if r1 = 0 then (some ((-1), w1)) else (bI (f_X5_brokenAt (k + 6) x1 w1) (fun r2 w2 => (if r2 = x2 then (some (0, w2)) else (bI (f_X5_widthOf (k + 6) x1 w2) (fun r3 w3 => (bI (f_X8_denied 6 r3 w3) (fun r4 w4 => (some (r4, w4))))))))))))
set_option maxRecDepth 100000 in
theorem W_X8_judgeBroken {g : GC} (hl : g.1.stackTraces = false) {k : Nat} (hk : isX8 k) {x1 : Int32} {x2 : Int32} {w : XW} : VE g cX8_judgeBroken 3 RX8 (some .int) [] (rmL 5 0 0) 0 0 oI 0 0 0 [(0, .ref (g.2.1 + k)), (1, .int x1), (2, .int x2)] [] w (f_X8_judgeBroken k x1 x2 w) := by
  unfold f_X8_judgeBroken
  refine v_aload_n dX8_judgeBroken_0 rfl 0 rfl ?_
  refine v_getR fl_X8_28 hk.1 rfl dX8_judgeBroken_1 ?_
  refine v_iload_n dX8_judgeBroken_4 rfl 1 rfl ?_
  refine v_callVi (As := [.int x1]) cv_X8_65 (S_X5_has hl hk.2.2.2) hk.2.2.2.1 rfl rfl rfl (Nat.le_of_ble_eq_true rfl) dX8_judgeBroken_5 (CR_rm (by decide) (by decide) (by decide) (by decide)) (fun r1 w1 => ?_)
  refine v_if_ne (tgt := 13) dX8_judgeBroken_8 (by decide) ?_ ?_
  · refine v_aload_n dX8_judgeBroken_13 rfl 0 rfl ?_
    refine v_getR fl_X8_28 hk.1 rfl dX8_judgeBroken_14 ?_
    refine v_iload_n dX8_judgeBroken_17 rfl 1 rfl ?_
    refine v_callVi (As := [.int x1]) cv_X8_98 (S_X5_brokenAt hl hk.2.2.2) hk.2.2.2.1 rfl rfl rfl (Nat.le_of_ble_eq_true rfl) dX8_judgeBroken_18 (CR_rm (by decide) (by decide) (by decide) (by decide)) (fun r2 w2 => ?_)
    refine v_iload_n dX8_judgeBroken_21 rfl 2 rfl ?_
    refine v_icmp_ne (tgt := 29) dX8_judgeBroken_22 (by decide) ?_ ?_
    · refine v_bipush (v := 6) dX8_judgeBroken_29 (by decide) ?_
      refine v_aload_n dX8_judgeBroken_31 rfl 0 rfl ?_
      refine v_getR fl_X8_28 hk.1 rfl dX8_judgeBroken_32 ?_
      refine v_iload_n dX8_judgeBroken_35 rfl 1 rfl ?_
      refine v_callVi (As := [.int x1]) cv_X8_101 (S_X5_widthOf hl hk.2.2.2) hk.2.2.2.1 rfl rfl rfl (Nat.le_of_ble_eq_true rfl) dX8_judgeBroken_36 (CR_rm (by decide) (by decide) (by decide) (by decide)) (fun r3 w3 => ?_)
      refine v_callSi (As := [.int 6, .int r3]) cs_X8_46 (S_X8_denied hl) rfl rfl (Nat.le_of_ble_eq_true rfl) dX8_judgeBroken_39 (CR_rm (by decide) (by decide) (by decide) (by decide)) (fun r4 w4 => ?_)
      exact v_iret dX8_judgeBroken_42 rfl rfl (by decide) (by decide)
    · refine v_iconst (v := 0) dX8_judgeBroken_25 (by decide) ?_
      refine v_goto (tgt := 42) dX8_judgeBroken_26 (by decide) ?_
      exact v_iret dX8_judgeBroken_42 rfl rfl (by decide) (by decide)
  · refine v_iconst (v := (-1)) dX8_judgeBroken_11 (by decide) ?_
    exact v_iret dX8_judgeBroken_12 rfl rfl (by decide) (by decide)
theorem S_X8_judgeBroken {g : GC} (hl : g.1.stackTraces = false) {k : Nat} (hk : isX8 k) {x1 : Int32} {x2 : Int32} {w : XW} : ∀ q, f_X8_judgeBroken k x1 x2 w = some q → MM g (.code yX8_judgeBroken cX8_judgeBroken 3 (some .int)) yX8_judgeBroken (rmL 5 0 0) 0 0 [.ref (g.2.1 + k), .int x1, .int x2] w (oI q) := fun q hq => MM_of (own := RX8) hl (by decide) gw_761 rfl (Nat.le_of_ble_eq_true rfl) (W_X8_judgeBroken hl hk q hq) ⟨rfl, rfl⟩

theorem dX8_judgeEnds_0 : decode cX8_judgeEnds 0 = .ok (.aload_n 0, 1) := by decide +kernel
theorem dX8_judgeEnds_1 : decode cX8_judgeEnds 1 = .ok (.getfield 12, 3) := by decide +kernel
theorem dX8_judgeEnds_4 : decode cX8_judgeEnds 4 = .ok (.getfield 42, 3) := by decide +kernel
theorem dX8_judgeEnds_7 : decode cX8_judgeEnds 7 = .ok (.iconst 2, 1) := by decide +kernel
theorem dX8_judgeEnds_8 : decode cX8_judgeEnds 8 = .ok (.if_icmp .lt 7, 3) := by decide +kernel
theorem dX8_judgeEnds_11 : decode cX8_judgeEnds 11 = .ok (.iconst 0, 1) := by decide +kernel
theorem dX8_judgeEnds_12 : decode cX8_judgeEnds 12 = .ok (.goto 15, 3) := by decide +kernel
theorem dX8_judgeEnds_15 : decode cX8_judgeEnds 15 = .ok (.bipush 7, 2) := by decide +kernel
theorem dX8_judgeEnds_17 : decode cX8_judgeEnds 17 = .ok (.aload_n 0, 1) := by decide +kernel
theorem dX8_judgeEnds_18 : decode cX8_judgeEnds 18 = .ok (.getfield 12, 3) := by decide +kernel
theorem dX8_judgeEnds_21 : decode cX8_judgeEnds 21 = .ok (.getfield 42, 3) := by decide +kernel
theorem dX8_judgeEnds_24 : decode cX8_judgeEnds 24 = .ok (.invokestatic 46, 3) := by decide +kernel
theorem dX8_judgeEnds_27 : decode cX8_judgeEnds 27 = .ok (.ireturn, 1) := by decide +kernel
def f_X8_judgeEnds (k : Nat) (w : XW) : Option (Int32 × XW) := (if (w.1 (k + 1) 0) < 2 then (bI (f_X8_denied 7 (w.1 (k + 1) 0) w) (fun r1 w1 => (some (r1, w1)))) else (some (0, w)))
set_option maxRecDepth 100000 in
theorem W_X8_judgeEnds {g : GC} (hl : g.1.stackTraces = false) {k : Nat} (hk : isX8 k) {w : XW} : VE g cX8_judgeEnds 1 RX8 (some .int) [] (rmL 4 0 0) 0 0 oI 0 0 0 [(0, .ref (g.2.1 + k))] [] w (f_X8_judgeEnds k w) := by
  unfold f_X8_judgeEnds
  refine v_aload_n dX8_judgeEnds_0 rfl 0 rfl ?_
  refine v_getR fl_X8_12 hk.1 rfl dX8_judgeEnds_1 ?_
  refine v_getI fl_X8_42 hk.2.1.1 rfl dX8_judgeEnds_4 ?_
  refine v_iconst (v := 2) dX8_judgeEnds_7 (by decide) ?_
  refine v_icmp_lt (tgt := 15) dX8_judgeEnds_8 (by decide) ?_ ?_
  · refine v_bipush (v := 7) dX8_judgeEnds_15 (by decide) ?_
    refine v_aload_n dX8_judgeEnds_17 rfl 0 rfl ?_
    refine v_getR fl_X8_12 hk.1 rfl dX8_judgeEnds_18 ?_
    refine v_getI fl_X8_42 hk.2.1.1 rfl dX8_judgeEnds_21 ?_
    refine v_callSi (As := [.int 7, .int (w.1 (k + 1) 0)]) cs_X8_46 (S_X8_denied hl) rfl rfl (Nat.le_of_ble_eq_true rfl) dX8_judgeEnds_24 (CR_rm (by decide) (by decide) (by decide) (by decide)) (fun r1 w1 => ?_)
    exact v_iret dX8_judgeEnds_27 rfl rfl (by decide) (by decide)
  · refine v_iconst (v := 0) dX8_judgeEnds_11 (by decide) ?_
    refine v_goto (tgt := 27) dX8_judgeEnds_12 (by decide) ?_
    exact v_iret dX8_judgeEnds_27 rfl rfl (by decide) (by decide)
theorem S_X8_judgeEnds {g : GC} (hl : g.1.stackTraces = false) {k : Nat} (hk : isX8 k) {w : XW} : ∀ q, f_X8_judgeEnds k w = some q → MM g (.code yX8_judgeEnds cX8_judgeEnds 1 (some .int)) yX8_judgeEnds (rmL 4 0 0) 0 0 [.ref (g.2.1 + k)] w (oI q) := fun q hq => MM_of (own := RX8) hl (by decide) gw_597 rfl (Nat.le_of_ble_eq_true rfl) (W_X8_judgeEnds hl hk q hq) ⟨rfl, rfl⟩

theorem dX8_judge_0 : decode cX8_judge 0 = .ok (.iload_n 1, 1) := by decide +kernel
theorem dX8_judge_1 : decode cX8_judge 1 = .ok (.tableswitch 186 0 11 #[63, 86, 93, 101, 109, 160, 115, 124, 141, 148, 155, 160], 63) := by decide +kernel
theorem dX8_judge_64 : decode cX8_judge 64 = .ok (.aload_n 0, 1) := by decide +kernel
theorem dX8_judge_65 : decode cX8_judge 65 = .ok (.getfield 12, 3) := by decide +kernel
theorem dX8_judge_68 : decode cX8_judge 68 = .ok (.getfield 42, 3) := by decide +kernel
theorem dX8_judge_71 : decode cX8_judge 71 = .ok (.bipush 7, 2) := by decide +kernel
theorem dX8_judge_73 : decode cX8_judge 73 = .ok (.if_icmp .ge 7, 3) := by decide +kernel
theorem dX8_judge_76 : decode cX8_judge 76 = .ok (.iconst 0, 1) := by decide +kernel
theorem dX8_judge_77 : decode cX8_judge 77 = .ok (.goto 9, 3) := by decide +kernel
theorem dX8_judge_80 : decode cX8_judge 80 = .ok (.iconst 1, 1) := by decide +kernel
theorem dX8_judge_81 : decode cX8_judge 81 = .ok (.bipush 7, 2) := by decide +kernel
theorem dX8_judge_83 : decode cX8_judge 83 = .ok (.invokestatic 46, 3) := by decide +kernel
theorem dX8_judge_86 : decode cX8_judge 86 = .ok (.ireturn, 1) := by decide +kernel
theorem dX8_judge_87 : decode cX8_judge 87 = .ok (.aload_n 0, 1) := by decide +kernel
theorem dX8_judge_88 : decode cX8_judge 88 = .ok (.iload_n 2, 1) := by decide +kernel
theorem dX8_judge_89 : decode cX8_judge 89 = .ok (.iload_n 3, 1) := by decide +kernel
theorem dX8_judge_90 : decode cX8_judge 90 = .ok (.invokevirtual 50, 3) := by decide +kernel
theorem dX8_judge_93 : decode cX8_judge 93 = .ok (.ireturn, 1) := by decide +kernel
theorem dX8_judge_94 : decode cX8_judge 94 = .ok (.aload_n 0, 1) := by decide +kernel
theorem dX8_judge_95 : decode cX8_judge 95 = .ok (.iload_n 2, 1) := by decide +kernel
theorem dX8_judge_96 : decode cX8_judge 96 = .ok (.iload_n 3, 1) := by decide +kernel
theorem dX8_judge_97 : decode cX8_judge 97 = .ok (.iconst 0, 1) := by decide +kernel
theorem dX8_judge_98 : decode cX8_judge 98 = .ok (.invokevirtual 53, 3) := by decide +kernel
theorem dX8_judge_101 : decode cX8_judge 101 = .ok (.ireturn, 1) := by decide +kernel
theorem dX8_judge_102 : decode cX8_judge 102 = .ok (.aload_n 0, 1) := by decide +kernel
theorem dX8_judge_103 : decode cX8_judge 103 = .ok (.iload_n 2, 1) := by decide +kernel
theorem dX8_judge_104 : decode cX8_judge 104 = .ok (.iload_n 3, 1) := by decide +kernel
theorem dX8_judge_105 : decode cX8_judge 105 = .ok (.iconst 1, 1) := by decide +kernel
theorem dX8_judge_106 : decode cX8_judge 106 = .ok (.invokevirtual 53, 3) := by decide +kernel
theorem dX8_judge_109 : decode cX8_judge 109 = .ok (.ireturn, 1) := by decide +kernel
theorem dX8_judge_110 : decode cX8_judge 110 = .ok (.aload_n 0, 1) := by decide +kernel
theorem dX8_judge_111 : decode cX8_judge 111 = .ok (.iload_n 2, 1) := by decide +kernel
theorem dX8_judge_112 : decode cX8_judge 112 = .ok (.invokevirtual 57, 3) := by decide +kernel
theorem dX8_judge_115 : decode cX8_judge 115 = .ok (.ireturn, 1) := by decide +kernel
theorem dX8_judge_116 : decode cX8_judge 116 = .ok (.aload_n 0, 1) := by decide +kernel
theorem dX8_judge_117 : decode cX8_judge 117 = .ok (.iload_n 2, 1) := by decide +kernel
theorem dX8_judge_118 : decode cX8_judge 118 = .ok (.iload_n 3, 1) := by decide +kernel
theorem dX8_judge_119 : decode cX8_judge 119 = .ok (.iload 4, 2) := by decide +kernel
theorem dX8_judge_121 : decode cX8_judge 121 = .ok (.invokevirtual 61, 3) := by decide +kernel
theorem dX8_judge_124 : decode cX8_judge 124 = .ok (.ireturn, 1) := by decide +kernel
theorem dX8_judge_125 : decode cX8_judge 125 = .ok (.aload_n 0, 1) := by decide +kernel
theorem dX8_judge_126 : decode cX8_judge 126 = .ok (.getfield 28, 3) := by decide +kernel
theorem dX8_judge_129 : decode cX8_judge 129 = .ok (.iload_n 2, 1) := by decide +kernel
theorem dX8_judge_130 : decode cX8_judge 130 = .ok (.invokevirtual 65, 3) := by decide +kernel
theorem dX8_judge_133 : decode cX8_judge 133 = .ok (.ifCond .eq 7, 3) := by decide +kernel
theorem dX8_judge_136 : decode cX8_judge 136 = .ok (.iconst 0, 1) := by decide +kernel
theorem dX8_judge_137 : decode cX8_judge 137 = .ok (.goto 4, 3) := by decide +kernel
theorem dX8_judge_140 : decode cX8_judge 140 = .ok (.iconst (-1), 1) := by decide +kernel
theorem dX8_judge_141 : decode cX8_judge 141 = .ok (.ireturn, 1) := by decide +kernel
theorem dX8_judge_142 : decode cX8_judge 142 = .ok (.aload_n 0, 1) := by decide +kernel
theorem dX8_judge_143 : decode cX8_judge 143 = .ok (.iload_n 2, 1) := by decide +kernel
theorem dX8_judge_144 : decode cX8_judge 144 = .ok (.iconst 0, 1) := by decide +kernel
theorem dX8_judge_145 : decode cX8_judge 145 = .ok (.invokevirtual 69, 3) := by decide +kernel
theorem dX8_judge_148 : decode cX8_judge 148 = .ok (.ireturn, 1) := by decide +kernel
theorem dX8_judge_149 : decode cX8_judge 149 = .ok (.aload_n 0, 1) := by decide +kernel
theorem dX8_judge_150 : decode cX8_judge 150 = .ok (.iload_n 2, 1) := by decide +kernel
theorem dX8_judge_151 : decode cX8_judge 151 = .ok (.iconst 1, 1) := by decide +kernel
theorem dX8_judge_152 : decode cX8_judge 152 = .ok (.invokevirtual 69, 3) := by decide +kernel
theorem dX8_judge_155 : decode cX8_judge 155 = .ok (.ireturn, 1) := by decide +kernel
theorem dX8_judge_156 : decode cX8_judge 156 = .ok (.aload_n 0, 1) := by decide +kernel
theorem dX8_judge_157 : decode cX8_judge 157 = .ok (.invokevirtual 73, 3) := by decide +kernel
theorem dX8_judge_160 : decode cX8_judge 160 = .ok (.ireturn, 1) := by decide +kernel
theorem dX8_judge_161 : decode cX8_judge 161 = .ok (.aload_n 0, 1) := by decide +kernel
theorem dX8_judge_162 : decode cX8_judge 162 = .ok (.getfield 21, 3) := by decide +kernel
theorem dX8_judge_165 : decode cX8_judge 165 = .ok (.getfield 77, 3) := by decide +kernel
theorem dX8_judge_168 : decode cX8_judge 168 = .ok (.ifCond .le 7, 3) := by decide +kernel
theorem dX8_judge_171 : decode cX8_judge 171 = .ok (.iconst 0, 1) := by decide +kernel
theorem dX8_judge_172 : decode cX8_judge 172 = .ok (.goto 14, 3) := by decide +kernel
theorem dX8_judge_175 : decode cX8_judge 175 = .ok (.iconst 3, 1) := by decide +kernel
theorem dX8_judge_176 : decode cX8_judge 176 = .ok (.aload_n 0, 1) := by decide +kernel
theorem dX8_judge_177 : decode cX8_judge 177 = .ok (.getfield 12, 3) := by decide +kernel
theorem dX8_judge_180 : decode cX8_judge 180 = .ok (.getfield 42, 3) := by decide +kernel
theorem dX8_judge_183 : decode cX8_judge 183 = .ok (.invokestatic 46, 3) := by decide +kernel
theorem dX8_judge_186 : decode cX8_judge 186 = .ok (.ireturn, 1) := by decide +kernel
theorem dX8_judge_187 : decode cX8_judge 187 = .ok (.bipush (-2), 2) := by decide +kernel
theorem dX8_judge_189 : decode cX8_judge 189 = .ok (.ireturn, 1) := by decide +kernel
def f_X8_judge (k : Nat) (x1 : Int32) (x2 : Int32) (x3 : Int32) (x4 : Int32) (w : XW) : Option (Int32 × XW) := (if x1 = 0 then (if 7 ≤ (w.1 (k + 1) 0) then (bI (f_X8_denied 1 7 w) (fun r2 w2 => (some (r2, w2)))) else (some (0, w))) else (if x1 = 1 then (bI (f_X8_judgePour k x2 x3 w) (fun r4 w4 => (some (r4, w4)))) else (if x1 = 2 then (bI (f_X8_judgeTerm k x2 x3 0 w) (fun r6 w6 => (some (r6, w6)))) else (if x1 = 3 then (bI (f_X8_judgeTerm k x2 x3 1 w) (fun r8 w8 => (some (r8, w8)))) else (if x1 = 4 then (bI (f_X8_judgeFold k x2 w) (fun r10 w10 => (some (r10, w10)))) else (if x1 = 5 then (if (w.1 (k + 4) 0) ≤ 0 then (bI (f_X8_denied 3 (w.1 (k + 1) 0) w) (fun r12 w12 => (some (r12, w12)))) else (some (0, w))) else (if x1 = 6 then (bI (f_X8_judgePipe k x2 x3 x4 w) (fun r14 w14 => (some (r14, w14)))) else (if x1 = 7 then (bI (f_X5_has (k + 6) x2 w) (fun r16 w16 => (if r16 = 0 then (some ((-1), w16)) else (some (0, w16))))) else (if x1 = 8 then (bI (f_X8_judgeBroken k x2 0 w) (fun r18 w18 => (some (r18, w18)))) else (if x1 = 9 then (bI (f_X8_judgeBroken k x2 1 w) (fun r20 w20 => (some (r20, w20)))) else (if x1 = 10 then (bI (f_X8_judgeEnds k w) (fun r22 w22 => (some (r22, w22)))) else (if x1 = 11 then (if (w.1 (k + 4) 0) ≤ 0 then (bI (f_X8_denied 3 (w.1 (k + 1) 0) w) (fun r24 w24 => (some (r24, w24)))) else (some (0, w))) else (some ((-2), w))))))))))))))
set_option maxRecDepth 100000 in
theorem W_X8_judge {g : GC} (hl : g.1.stackTraces = false) {k : Nat} (hk : isX8 k) {x1 : Int32} {x2 : Int32} {x3 : Int32} {x4 : Int32} {w : XW} : VE g cX8_judge 5 RX8 (some .int) [] (rmL 8 0 0) 0 0 oI 0 0 0 [(0, .ref (g.2.1 + k)), (1, .int x1), (2, .int x2), (3, .int x3), (4, .int x4)] [] w (f_X8_judge k x1 x2 x3 x4 w) := by
  unfold f_X8_judge
  refine v_iload_n dX8_judge_0 rfl 1 rfl ?_
  refine v_split (fun h1 => ?_) (fun h1 => ?_)
  · refine v_tsIn (tgt := 64) (off := (63)) 0 h1 dX8_judge_1 (by decide) (by decide) (by decide) (by decide) ?_
    refine v_aload_n dX8_judge_64 rfl 0 rfl ?_
    refine v_getR fl_X8_12 hk.1 rfl dX8_judge_65 ?_
    refine v_getI fl_X8_42 hk.2.1.1 rfl dX8_judge_68 ?_
    refine v_bipush (v := 7) dX8_judge_71 (by decide) ?_
    refine v_icmp_ge (tgt := 80) dX8_judge_73 (by decide) ?_ ?_
    · refine v_iconst (v := 1) dX8_judge_80 (by decide) ?_
      refine v_bipush (v := 7) dX8_judge_81 (by decide) ?_
      refine v_callSi (As := [.int 1, .int 7]) cs_X8_46 (S_X8_denied hl) rfl rfl (Nat.le_of_ble_eq_true rfl) dX8_judge_83 (CR_rm (by decide) (by decide) (by decide) (by decide)) (fun r2 w2 => ?_)
      exact v_iret dX8_judge_86 rfl rfl (by decide) (by decide)
    · refine v_iconst (v := 0) dX8_judge_76 (by decide) ?_
      refine v_goto (tgt := 86) dX8_judge_77 (by decide) ?_
      exact v_iret dX8_judge_86 rfl rfl (by decide) (by decide)
  refine v_split (fun h3 => ?_) (fun h3 => ?_)
  · refine v_tsIn (tgt := 87) (off := (86)) 1 h3 dX8_judge_1 (by decide) (by decide) (by decide) (by decide) ?_
    refine v_aload_n dX8_judge_87 rfl 0 rfl ?_
    refine v_iload_n dX8_judge_88 rfl 2 rfl ?_
    refine v_iload_n dX8_judge_89 rfl 3 rfl ?_
    refine v_callVi (As := [.int x2, .int x3]) cv_X8_50 (S_X8_judgePour hl hk) hk.1 rfl rfl rfl (Nat.le_of_ble_eq_true rfl) dX8_judge_90 (CR_rm (by decide) (by decide) (by decide) (by decide)) (fun r4 w4 => ?_)
    exact v_iret dX8_judge_93 rfl rfl (by decide) (by decide)
  refine v_split (fun h5 => ?_) (fun h5 => ?_)
  · refine v_tsIn (tgt := 94) (off := (93)) 2 h5 dX8_judge_1 (by decide) (by decide) (by decide) (by decide) ?_
    refine v_aload_n dX8_judge_94 rfl 0 rfl ?_
    refine v_iload_n dX8_judge_95 rfl 2 rfl ?_
    refine v_iload_n dX8_judge_96 rfl 3 rfl ?_
    refine v_iconst (v := 0) dX8_judge_97 (by decide) ?_
    refine v_callVi (As := [.int x2, .int x3, .int 0]) cv_X8_53 (S_X8_judgeTerm hl hk) hk.1 rfl rfl rfl (Nat.le_of_ble_eq_true rfl) dX8_judge_98 (CR_rm (by decide) (by decide) (by decide) (by decide)) (fun r6 w6 => ?_)
    exact v_iret dX8_judge_101 rfl rfl (by decide) (by decide)
  refine v_split (fun h7 => ?_) (fun h7 => ?_)
  · refine v_tsIn (tgt := 102) (off := (101)) 3 h7 dX8_judge_1 (by decide) (by decide) (by decide) (by decide) ?_
    refine v_aload_n dX8_judge_102 rfl 0 rfl ?_
    refine v_iload_n dX8_judge_103 rfl 2 rfl ?_
    refine v_iload_n dX8_judge_104 rfl 3 rfl ?_
    refine v_iconst (v := 1) dX8_judge_105 (by decide) ?_
    refine v_callVi (As := [.int x2, .int x3, .int 1]) cv_X8_53 (S_X8_judgeTerm hl hk) hk.1 rfl rfl rfl (Nat.le_of_ble_eq_true rfl) dX8_judge_106 (CR_rm (by decide) (by decide) (by decide) (by decide)) (fun r8 w8 => ?_)
    exact v_iret dX8_judge_109 rfl rfl (by decide) (by decide)
  refine v_split (fun h9 => ?_) (fun h9 => ?_)
  · refine v_tsIn (tgt := 110) (off := (109)) 4 h9 dX8_judge_1 (by decide) (by decide) (by decide) (by decide) ?_
    refine v_aload_n dX8_judge_110 rfl 0 rfl ?_
    refine v_iload_n dX8_judge_111 rfl 2 rfl ?_
    refine v_callVi (As := [.int x2]) cv_X8_57 (S_X8_judgeFold hl hk) hk.1 rfl rfl rfl (Nat.le_of_ble_eq_true rfl) dX8_judge_112 (CR_rm (by decide) (by decide) (by decide) (by decide)) (fun r10 w10 => ?_)
    exact v_iret dX8_judge_115 rfl rfl (by decide) (by decide)
  refine v_split (fun h11 => ?_) (fun h11 => ?_)
  · refine v_tsIn (tgt := 161) (off := (160)) 5 h11 dX8_judge_1 (by decide) (by decide) (by decide) (by decide) ?_
    refine v_aload_n dX8_judge_161 rfl 0 rfl ?_
    refine v_getR fl_X8_21 hk.1 rfl dX8_judge_162 ?_
    refine v_getI fl_X8_77 hk.2.2.1.1 rfl dX8_judge_165 ?_
    refine v_if_le (tgt := 175) dX8_judge_168 (by decide) ?_ ?_
    · refine v_iconst (v := 3) dX8_judge_175 (by decide) ?_
      refine v_aload_n dX8_judge_176 rfl 0 rfl ?_
      refine v_getR fl_X8_12 hk.1 rfl dX8_judge_177 ?_
      refine v_getI fl_X8_42 hk.2.1.1 rfl dX8_judge_180 ?_
      refine v_callSi (As := [.int 3, .int (w.1 (k + 1) 0)]) cs_X8_46 (S_X8_denied hl) rfl rfl (Nat.le_of_ble_eq_true rfl) dX8_judge_183 (CR_rm (by decide) (by decide) (by decide) (by decide)) (fun r12 w12 => ?_)
      exact v_iret dX8_judge_186 rfl rfl (by decide) (by decide)
    · refine v_iconst (v := 0) dX8_judge_171 (by decide) ?_
      refine v_goto (tgt := 186) dX8_judge_172 (by decide) ?_
      exact v_iret dX8_judge_186 rfl rfl (by decide) (by decide)
  refine v_split (fun h13 => ?_) (fun h13 => ?_)
  · refine v_tsIn (tgt := 116) (off := (115)) 6 h13 dX8_judge_1 (by decide) (by decide) (by decide) (by decide) ?_
    refine v_aload_n dX8_judge_116 rfl 0 rfl ?_
    refine v_iload_n dX8_judge_117 rfl 2 rfl ?_
    refine v_iload_n dX8_judge_118 rfl 3 rfl ?_
    refine v_iload dX8_judge_119 4 rfl ?_
    refine v_callVi (As := [.int x2, .int x3, .int x4]) cv_X8_61 (S_X8_judgePipe hl hk) hk.1 rfl rfl rfl (Nat.le_of_ble_eq_true rfl) dX8_judge_121 (CR_rm (by decide) (by decide) (by decide) (by decide)) (fun r14 w14 => ?_)
    exact v_iret dX8_judge_124 rfl rfl (by decide) (by decide)
  refine v_split (fun h15 => ?_) (fun h15 => ?_)
  · refine v_tsIn (tgt := 125) (off := (124)) 7 h15 dX8_judge_1 (by decide) (by decide) (by decide) (by decide) ?_
    refine v_aload_n dX8_judge_125 rfl 0 rfl ?_
    refine v_getR fl_X8_28 hk.1 rfl dX8_judge_126 ?_
    refine v_iload_n dX8_judge_129 rfl 2 rfl ?_
    refine v_callVi (As := [.int x2]) cv_X8_65 (S_X5_has hl hk.2.2.2) hk.2.2.2.1 rfl rfl rfl (Nat.le_of_ble_eq_true rfl) dX8_judge_130 (CR_rm (by decide) (by decide) (by decide) (by decide)) (fun r16 w16 => ?_)
    refine v_if_eq (tgt := 140) dX8_judge_133 (by decide) ?_ ?_
    · refine v_iconst (v := (-1)) dX8_judge_140 (by decide) ?_
      exact v_iret dX8_judge_141 rfl rfl (by decide) (by decide)
    · refine v_iconst (v := 0) dX8_judge_136 (by decide) ?_
      refine v_goto (tgt := 141) dX8_judge_137 (by decide) ?_
      exact v_iret dX8_judge_141 rfl rfl (by decide) (by decide)
  refine v_split (fun h17 => ?_) (fun h17 => ?_)
  · refine v_tsIn (tgt := 142) (off := (141)) 8 h17 dX8_judge_1 (by decide) (by decide) (by decide) (by decide) ?_
    refine v_aload_n dX8_judge_142 rfl 0 rfl ?_
    refine v_iload_n dX8_judge_143 rfl 2 rfl ?_
    refine v_iconst (v := 0) dX8_judge_144 (by decide) ?_
    refine v_callVi (As := [.int x2, .int 0]) cv_X8_69 (S_X8_judgeBroken hl hk) hk.1 rfl rfl rfl (Nat.le_of_ble_eq_true rfl) dX8_judge_145 (CR_rm (by decide) (by decide) (by decide) (by decide)) (fun r18 w18 => ?_)
    exact v_iret dX8_judge_148 rfl rfl (by decide) (by decide)
  refine v_split (fun h19 => ?_) (fun h19 => ?_)
  · refine v_tsIn (tgt := 149) (off := (148)) 9 h19 dX8_judge_1 (by decide) (by decide) (by decide) (by decide) ?_
    refine v_aload_n dX8_judge_149 rfl 0 rfl ?_
    refine v_iload_n dX8_judge_150 rfl 2 rfl ?_
    refine v_iconst (v := 1) dX8_judge_151 (by decide) ?_
    refine v_callVi (As := [.int x2, .int 1]) cv_X8_69 (S_X8_judgeBroken hl hk) hk.1 rfl rfl rfl (Nat.le_of_ble_eq_true rfl) dX8_judge_152 (CR_rm (by decide) (by decide) (by decide) (by decide)) (fun r20 w20 => ?_)
    exact v_iret dX8_judge_155 rfl rfl (by decide) (by decide)
  refine v_split (fun h21 => ?_) (fun h21 => ?_)
  · refine v_tsIn (tgt := 156) (off := (155)) 10 h21 dX8_judge_1 (by decide) (by decide) (by decide) (by decide) ?_
    refine v_aload_n dX8_judge_156 rfl 0 rfl ?_
    refine v_callVi (As := []) cv_X8_73 (S_X8_judgeEnds hl hk) hk.1 rfl rfl rfl (Nat.le_of_ble_eq_true rfl) dX8_judge_157 (CR_rm (by decide) (by decide) (by decide) (by decide)) (fun r22 w22 => ?_)
    exact v_iret dX8_judge_160 rfl rfl (by decide) (by decide)
  refine v_split (fun h23 => ?_) (fun h23 => ?_)
  · refine v_tsIn (tgt := 161) (off := (160)) 11 h23 dX8_judge_1 (by decide) (by decide) (by decide) (by decide) ?_
    refine v_aload_n dX8_judge_161 rfl 0 rfl ?_
    refine v_getR fl_X8_21 hk.1 rfl dX8_judge_162 ?_
    refine v_getI fl_X8_77 hk.2.2.1.1 rfl dX8_judge_165 ?_
    refine v_if_le (tgt := 175) dX8_judge_168 (by decide) ?_ ?_
    · refine v_iconst (v := 3) dX8_judge_175 (by decide) ?_
      refine v_aload_n dX8_judge_176 rfl 0 rfl ?_
      refine v_getR fl_X8_12 hk.1 rfl dX8_judge_177 ?_
      refine v_getI fl_X8_42 hk.2.1.1 rfl dX8_judge_180 ?_
      refine v_callSi (As := [.int 3, .int (w.1 (k + 1) 0)]) cs_X8_46 (S_X8_denied hl) rfl rfl (Nat.le_of_ble_eq_true rfl) dX8_judge_183 (CR_rm (by decide) (by decide) (by decide) (by decide)) (fun r24 w24 => ?_)
      exact v_iret dX8_judge_186 rfl rfl (by decide) (by decide)
    · refine v_iconst (v := 0) dX8_judge_171 (by decide) ?_
      refine v_goto (tgt := 186) dX8_judge_172 (by decide) ?_
      exact v_iret dX8_judge_186 rfl rfl (by decide) (by decide)
  have h1 := v_tsNe (z := 0) (by decide) h1
  have h3 := v_tsNe (z := 1) (by decide) h3
  have h5 := v_tsNe (z := 2) (by decide) h5
  have h7 := v_tsNe (z := 3) (by decide) h7
  have h9 := v_tsNe (z := 4) (by decide) h9
  have h11 := v_tsNe (z := 5) (by decide) h11
  have h13 := v_tsNe (z := 6) (by decide) h13
  have h15 := v_tsNe (z := 7) (by decide) h15
  have h17 := v_tsNe (z := 8) (by decide) h17
  have h19 := v_tsNe (z := 9) (by decide) h19
  have h21 := v_tsNe (z := 10) (by decide) h21
  have h23 := v_tsNe (z := 11) (by decide) h23
  refine v_tsOut (tgt := 187) dX8_judge_1 (by omega) (by decide) ?_
  refine v_bipush (v := (-2)) dX8_judge_187 (by decide) ?_
  exact v_iret dX8_judge_189 rfl rfl (by decide) (by decide)
theorem S_X8_judge {g : GC} (hl : g.1.stackTraces = false) {k : Nat} (hk : isX8 k) {x1 : Int32} {x2 : Int32} {x3 : Int32} {x4 : Int32} {w : XW} : ∀ q, f_X8_judge k x1 x2 x3 x4 w = some q → MM g (.code yX8_judge cX8_judge 5 (some .int)) yX8_judge (rmL 8 0 0) 0 0 [.ref (g.2.1 + k), .int x1, .int x2, .int x3, .int x4] w (oI q) := fun q hq => MM_of (own := RX8) hl (by decide) gw_720 rfl (Nat.le_of_ble_eq_true rfl) (W_X8_judge hl hk q hq) ⟨rfl, rfl⟩

theorem dX8_moveAlongPipes_0 : decode cX8_moveAlongPipes 0 = .ok (.aload_n 0, 1) := by decide +kernel
theorem dX8_moveAlongPipes_1 : decode cX8_moveAlongPipes 1 = .ok (.getfield 12, 3) := by decide +kernel
theorem dX8_moveAlongPipes_4 : decode cX8_moveAlongPipes 4 = .ok (.iconst 0, 1) := by decide +kernel
theorem dX8_moveAlongPipes_5 : decode cX8_moveAlongPipes 5 = .ok (.invokevirtual 81, 3) := by decide +kernel
theorem dX8_moveAlongPipes_8 : decode cX8_moveAlongPipes 8 = .ok (.iload_n 1, 1) := by decide +kernel
theorem dX8_moveAlongPipes_9 : decode cX8_moveAlongPipes 9 = .ok (.invokestatic 142, 3) := by decide +kernel
theorem dX8_moveAlongPipes_12 : decode cX8_moveAlongPipes 12 = .ok (.istore_n 2, 1) := by decide +kernel
theorem dX8_moveAlongPipes_13 : decode cX8_moveAlongPipes 13 = .ok (.aload_n 0, 1) := by decide +kernel
theorem dX8_moveAlongPipes_14 : decode cX8_moveAlongPipes 14 = .ok (.getfield 28, 3) := by decide +kernel
theorem dX8_moveAlongPipes_17 : decode cX8_moveAlongPipes 17 = .ok (.invokevirtual 147, 3) := by decide +kernel
theorem dX8_moveAlongPipes_20 : decode cX8_moveAlongPipes 20 = .ok (.iload_n 2, 1) := by decide +kernel
theorem dX8_moveAlongPipes_21 : decode cX8_moveAlongPipes 21 = .ok (.invokestatic 142, 3) := by decide +kernel
theorem dX8_moveAlongPipes_24 : decode cX8_moveAlongPipes 24 = .ok (.istore_n 3, 1) := by decide +kernel
theorem dX8_moveAlongPipes_25 : decode cX8_moveAlongPipes 25 = .ok (.aload_n 0, 1) := by decide +kernel
theorem dX8_moveAlongPipes_26 : decode cX8_moveAlongPipes 26 = .ok (.getfield 12, 3) := by decide +kernel
theorem dX8_moveAlongPipes_29 : decode cX8_moveAlongPipes 29 = .ok (.iconst 0, 1) := by decide +kernel
theorem dX8_moveAlongPipes_30 : decode cX8_moveAlongPipes 30 = .ok (.iload_n 2, 1) := by decide +kernel
theorem dX8_moveAlongPipes_31 : decode cX8_moveAlongPipes 31 = .ok (.invokevirtual 150, 3) := by decide +kernel
theorem dX8_moveAlongPipes_34 : decode cX8_moveAlongPipes 34 = .ok (.iload_n 3, 1) := by decide +kernel
theorem dX8_moveAlongPipes_35 : decode cX8_moveAlongPipes 35 = .ok (.aload_n 0, 1) := by decide +kernel
theorem dX8_moveAlongPipes_36 : decode cX8_moveAlongPipes 36 = .ok (.getfield 12, 3) := by decide +kernel
theorem dX8_moveAlongPipes_39 : decode cX8_moveAlongPipes 39 = .ok (.aload_n 0, 1) := by decide +kernel
theorem dX8_moveAlongPipes_40 : decode cX8_moveAlongPipes 40 = .ok (.getfield 12, 3) := by decide +kernel
theorem dX8_moveAlongPipes_43 : decode cX8_moveAlongPipes 43 = .ok (.getfield 42, 3) := by decide +kernel
theorem dX8_moveAlongPipes_46 : decode cX8_moveAlongPipes 46 = .ok (.iconst 1, 1) := by decide +kernel
theorem dX8_moveAlongPipes_47 : decode cX8_moveAlongPipes 47 = .ok (.isub, 1) := by decide +kernel
theorem dX8_moveAlongPipes_48 : decode cX8_moveAlongPipes 48 = .ok (.iload_n 2, 1) := by decide +kernel
theorem dX8_moveAlongPipes_49 : decode cX8_moveAlongPipes 49 = .ok (.iload_n 3, 1) := by decide +kernel
theorem dX8_moveAlongPipes_50 : decode cX8_moveAlongPipes 50 = .ok (.isub, 1) := by decide +kernel
theorem dX8_moveAlongPipes_51 : decode cX8_moveAlongPipes 51 = .ok (.invokevirtual 154, 3) := by decide +kernel
theorem dX8_moveAlongPipes_54 : decode cX8_moveAlongPipes 54 = .ok (.iadd, 1) := by decide +kernel
theorem dX8_moveAlongPipes_55 : decode cX8_moveAlongPipes 55 = .ok (.istore_n 3, 1) := by decide +kernel
theorem dX8_moveAlongPipes_56 : decode cX8_moveAlongPipes 56 = .ok (.aload_n 0, 1) := by decide +kernel
theorem dX8_moveAlongPipes_57 : decode cX8_moveAlongPipes 57 = .ok (.getfield 12, 3) := by decide +kernel
theorem dX8_moveAlongPipes_60 : decode cX8_moveAlongPipes 60 = .ok (.iload_n 3, 1) := by decide +kernel
theorem dX8_moveAlongPipes_61 : decode cX8_moveAlongPipes 61 = .ok (.invokevirtual 157, 3) := by decide +kernel
theorem dX8_moveAlongPipes_64 : decode cX8_moveAlongPipes 64 = .ok (.iload_n 2, 1) := by decide +kernel
theorem dX8_moveAlongPipes_65 : decode cX8_moveAlongPipes 65 = .ok (.ireturn, 1) := by decide +kernel
def f_X8_moveAlongPipes (k : Nat) (x1 : Int32) (w : XW) : Option (Int32 × XW) := (bI (f_X9_waterOf (k + 1) 0 w) (fun r1 w1 => (bI (f_X5_brokenCount (k + 6) w1) (fun r2 w2 => (bV (f_X9_give (k + 1) 0 (if x1 < r1 then x1 else r1) w2) (fun w3 => (bI (f_X9_receive (k + 1) ((w3.1 (k + 1) 0) - 1) ((if x1 < r1 then x1 else r1) - (if (if x1 < r1 then x1 else r1) < r2 then (if x1 < r1 then x1 else r1) else r2)) w3) (fun r4 w4 => (bV (f_X9_leak (k + 1) ((if (if x1 < r1 then x1 else r1) < r2 then (if x1 < r1 then x1 else r1) else r2) + r4) w4) (fun w5 => (some ((if x1 < r1 then x1 else r1), w5))))))))))))
set_option maxRecDepth 100000 in
theorem W_X8_moveAlongPipes {g : GC} (hl : g.1.stackTraces = false) {k : Nat} (hk : isX8 k) {x1 : Int32} {w : XW} : VE g cX8_moveAlongPipes 4 RX8 (some .int) [] (rmL 6 0 0) 0 0 oI 0 0 0 [(0, .ref (g.2.1 + k)), (1, .int x1)] [] w (f_X8_moveAlongPipes k x1 w) := by
  unfold f_X8_moveAlongPipes
  refine v_aload_n dX8_moveAlongPipes_0 rfl 0 rfl ?_
  refine v_getR fl_X8_12 hk.1 rfl dX8_moveAlongPipes_1 ?_
  refine v_iconst (v := 0) dX8_moveAlongPipes_4 (by decide) ?_
  refine v_callVi (As := [.int 0]) cv_X8_81 (S_X9_waterOf hl hk.2.1) hk.2.1.1 rfl rfl rfl (Nat.le_of_ble_eq_true rfl) dX8_moveAlongPipes_5 (CR_rm (by decide) (by decide) (by decide) (by decide)) (fun r1 w1 => ?_)
  refine v_iload_n dX8_moveAlongPipes_8 rfl 1 rfl ?_
  refine v_min gw_850 gw_552 gw_54 gw_553 dX8_moveAlongPipes_9 (CR_f1 _ _ _) (CR_f2 (Nat.le_of_ble_eq_true rfl) _ _ _) (by decide) (by decide) ?_
  refine v_istore_n dX8_moveAlongPipes_12 rfl (Nat.le_of_ble_eq_true rfl) rfl ?_
  refine v_aload_n dX8_moveAlongPipes_13 rfl 1 rfl ?_
  refine v_getR fl_X8_28 hk.1 rfl dX8_moveAlongPipes_14 ?_
  refine v_callVi (As := []) cv_X8_147 (S_X5_brokenCount hl hk.2.2.2) hk.2.2.2.1 rfl rfl rfl (Nat.le_of_ble_eq_true rfl) dX8_moveAlongPipes_17 (CR_rm (by decide) (by decide) (by decide) (by decide)) (fun r2 w2 => ?_)
  refine v_iload_n dX8_moveAlongPipes_20 rfl 0 rfl ?_
  refine v_min gw_850 gw_552 gw_54 gw_553 dX8_moveAlongPipes_21 (CR_f1 _ _ _) (CR_f2 (Nat.le_of_ble_eq_true rfl) _ _ _) (by decide) (by decide) ?_
  refine v_istore_n dX8_moveAlongPipes_24 rfl (Nat.le_of_ble_eq_true rfl) rfl ?_
  refine v_aload_n dX8_moveAlongPipes_25 rfl 2 rfl ?_
  refine v_getR fl_X8_12 hk.1 rfl dX8_moveAlongPipes_26 ?_
  refine v_iconst (v := 0) dX8_moveAlongPipes_29 (by decide) ?_
  refine v_iload_n dX8_moveAlongPipes_30 rfl 1 rfl ?_
  refine v_callVv (As := [.int 0, .int (if x1 < r1 then x1 else r1)]) cv_X8_150 (S_X9_give hl hk.2.1) hk.2.1.1 rfl rfl rfl (Nat.le_of_ble_eq_true rfl) dX8_moveAlongPipes_31 (CR_rm (by decide) (by decide) (by decide) (by decide)) (fun w3 => ?_)
  refine v_iload_n dX8_moveAlongPipes_34 rfl 0 rfl ?_
  refine v_aload_n dX8_moveAlongPipes_35 rfl 2 rfl ?_
  refine v_getR fl_X8_12 hk.1 rfl dX8_moveAlongPipes_36 ?_
  refine v_aload_n dX8_moveAlongPipes_39 rfl 2 rfl ?_
  refine v_getR fl_X8_12 hk.1 rfl dX8_moveAlongPipes_40 ?_
  refine v_getI fl_X8_42 hk.2.1.1 rfl dX8_moveAlongPipes_43 ?_
  refine v_iconst (v := 1) dX8_moveAlongPipes_46 (by decide) ?_
  refine v_isub dX8_moveAlongPipes_47 ?_
  refine v_iload_n dX8_moveAlongPipes_48 rfl 1 rfl ?_
  refine v_iload_n dX8_moveAlongPipes_49 rfl 0 rfl ?_
  refine v_isub dX8_moveAlongPipes_50 ?_
  refine v_callVi (As := [.int ((w3.1 (k + 1) 0) - 1), .int ((if x1 < r1 then x1 else r1) - (if (if x1 < r1 then x1 else r1) < r2 then (if x1 < r1 then x1 else r1) else r2))]) cv_X8_154 (S_X9_receive hl hk.2.1) hk.2.1.1 rfl rfl rfl (Nat.le_of_ble_eq_true rfl) dX8_moveAlongPipes_51 (CR_rm (by decide) (by decide) (by decide) (by decide)) (fun r4 w4 => ?_)
  refine v_iadd dX8_moveAlongPipes_54 ?_
  refine v_istore_n dX8_moveAlongPipes_55 rfl (Nat.le_of_ble_eq_true rfl) rfl ?_
  refine v_aload_n dX8_moveAlongPipes_56 rfl 2 rfl ?_
  refine v_getR fl_X8_12 hk.1 rfl dX8_moveAlongPipes_57 ?_
  refine v_iload_n dX8_moveAlongPipes_60 rfl 0 rfl ?_
  refine v_callVv (As := [.int ((if (if x1 < r1 then x1 else r1) < r2 then (if x1 < r1 then x1 else r1) else r2) + r4)]) cv_X8_157 (S_X9_leak hl hk.2.1) hk.2.1.1 rfl rfl rfl (Nat.le_of_ble_eq_true rfl) dX8_moveAlongPipes_61 (CR_rm (by decide) (by decide) (by decide) (by decide)) (fun w5 => ?_)
  refine v_iload_n dX8_moveAlongPipes_64 rfl 1 rfl ?_
  exact v_iret dX8_moveAlongPipes_65 rfl rfl (by decide) (by decide)
theorem S_X8_moveAlongPipes {g : GC} (hl : g.1.stackTraces = false) {k : Nat} (hk : isX8 k) {x1 : Int32} {w : XW} : ∀ q, f_X8_moveAlongPipes k x1 w = some q → MM g (.code yX8_moveAlongPipes cX8_moveAlongPipes 4 (some .int)) yX8_moveAlongPipes (rmL 6 0 0) 0 0 [.ref (g.2.1 + k), .int x1] w (oI q) := fun q hq => MM_of (own := RX8) hl (by decide) gw_849 rfl (Nat.le_of_ble_eq_true rfl) (W_X8_moveAlongPipes hl hk q hq) ⟨rfl, rfl⟩

theorem dX8_moveDownPile_0 : decode cX8_moveDownPile 0 = .ok (.iconst 0, 1) := by decide +kernel
theorem dX8_moveDownPile_1 : decode cX8_moveDownPile 1 = .ok (.istore_n 1, 1) := by decide +kernel
theorem dX8_moveDownPile_2 : decode cX8_moveDownPile 2 = .ok (.aload_n 0, 1) := by decide +kernel
theorem dX8_moveDownPile_3 : decode cX8_moveDownPile 3 = .ok (.getfield 21, 3) := by decide +kernel
theorem dX8_moveDownPile_6 : decode cX8_moveDownPile 6 = .ok (.getfield 77, 3) := by decide +kernel
theorem dX8_moveDownPile_9 : decode cX8_moveDownPile 9 = .ok (.iconst 1, 1) := by decide +kernel
theorem dX8_moveDownPile_10 : decode cX8_moveDownPile 10 = .ok (.isub, 1) := by decide +kernel
theorem dX8_moveDownPile_11 : decode cX8_moveDownPile 11 = .ok (.istore_n 2, 1) := by decide +kernel
theorem dX8_moveDownPile_12 : decode cX8_moveDownPile 12 = .ok (.iload_n 2, 1) := by decide +kernel
theorem dX8_moveDownPile_13 : decode cX8_moveDownPile 13 = .ok (.ifCond .lt 77, 3) := by decide +kernel
theorem dX8_moveDownPile_16 : decode cX8_moveDownPile 16 = .ok (.aload_n 0, 1) := by decide +kernel
theorem dX8_moveDownPile_17 : decode cX8_moveDownPile 17 = .ok (.getfield 21, 3) := by decide +kernel
theorem dX8_moveDownPile_20 : decode cX8_moveDownPile 20 = .ok (.iload_n 2, 1) := by decide +kernel
theorem dX8_moveDownPile_21 : decode cX8_moveDownPile 21 = .ok (.invokevirtual 161, 3) := by decide +kernel
theorem dX8_moveDownPile_24 : decode cX8_moveDownPile 24 = .ok (.istore_n 3, 1) := by decide +kernel
theorem dX8_moveDownPile_25 : decode cX8_moveDownPile 25 = .ok (.aload_n 0, 1) := by decide +kernel
theorem dX8_moveDownPile_26 : decode cX8_moveDownPile 26 = .ok (.getfield 12, 3) := by decide +kernel
theorem dX8_moveDownPile_29 : decode cX8_moveDownPile 29 = .ok (.iload_n 3, 1) := by decide +kernel
theorem dX8_moveDownPile_30 : decode cX8_moveDownPile 30 = .ok (.invokevirtual 81, 3) := by decide +kernel
theorem dX8_moveDownPile_33 : decode cX8_moveDownPile 33 = .ok (.bipush 20, 2) := by decide +kernel
theorem dX8_moveDownPile_35 : decode cX8_moveDownPile 35 = .ok (.isub, 1) := by decide +kernel
theorem dX8_moveDownPile_36 : decode cX8_moveDownPile 36 = .ok (.istore 4, 2) := by decide +kernel
theorem dX8_moveDownPile_38 : decode cX8_moveDownPile 38 = .ok (.iload 4, 2) := by decide +kernel
theorem dX8_moveDownPile_40 : decode cX8_moveDownPile 40 = .ok (.ifCond .le 44, 3) := by decide +kernel
theorem dX8_moveDownPile_43 : decode cX8_moveDownPile 43 = .ok (.aload_n 0, 1) := by decide +kernel
theorem dX8_moveDownPile_44 : decode cX8_moveDownPile 44 = .ok (.getfield 12, 3) := by decide +kernel
theorem dX8_moveDownPile_47 : decode cX8_moveDownPile 47 = .ok (.iload_n 3, 1) := by decide +kernel
theorem dX8_moveDownPile_48 : decode cX8_moveDownPile 48 = .ok (.iload 4, 2) := by decide +kernel
theorem dX8_moveDownPile_50 : decode cX8_moveDownPile 50 = .ok (.invokevirtual 150, 3) := by decide +kernel
theorem dX8_moveDownPile_53 : decode cX8_moveDownPile 53 = .ok (.iload_n 1, 1) := by decide +kernel
theorem dX8_moveDownPile_54 : decode cX8_moveDownPile 54 = .ok (.iload_n 2, 1) := by decide +kernel
theorem dX8_moveDownPile_55 : decode cX8_moveDownPile 55 = .ok (.ifCond .le 25, 3) := by decide +kernel
theorem dX8_moveDownPile_58 : decode cX8_moveDownPile 58 = .ok (.aload_n 0, 1) := by decide +kernel
theorem dX8_moveDownPile_59 : decode cX8_moveDownPile 59 = .ok (.getfield 12, 3) := by decide +kernel
theorem dX8_moveDownPile_62 : decode cX8_moveDownPile 62 = .ok (.aload_n 0, 1) := by decide +kernel
theorem dX8_moveDownPile_63 : decode cX8_moveDownPile 63 = .ok (.getfield 21, 3) := by decide +kernel
theorem dX8_moveDownPile_66 : decode cX8_moveDownPile 66 = .ok (.iload_n 2, 1) := by decide +kernel
theorem dX8_moveDownPile_67 : decode cX8_moveDownPile 67 = .ok (.iconst 1, 1) := by decide +kernel
theorem dX8_moveDownPile_68 : decode cX8_moveDownPile 68 = .ok (.isub, 1) := by decide +kernel
theorem dX8_moveDownPile_69 : decode cX8_moveDownPile 69 = .ok (.invokevirtual 161, 3) := by decide +kernel
theorem dX8_moveDownPile_72 : decode cX8_moveDownPile 72 = .ok (.iload 4, 2) := by decide +kernel
theorem dX8_moveDownPile_74 : decode cX8_moveDownPile 74 = .ok (.invokevirtual 154, 3) := by decide +kernel
theorem dX8_moveDownPile_77 : decode cX8_moveDownPile 77 = .ok (.goto 5, 3) := by decide +kernel
theorem dX8_moveDownPile_80 : decode cX8_moveDownPile 80 = .ok (.iload 4, 2) := by decide +kernel
theorem dX8_moveDownPile_82 : decode cX8_moveDownPile 82 = .ok (.iadd, 1) := by decide +kernel
theorem dX8_moveDownPile_83 : decode cX8_moveDownPile 83 = .ok (.istore_n 1, 1) := by decide +kernel
theorem dX8_moveDownPile_84 : decode cX8_moveDownPile 84 = .ok (.iinc 2 (-1), 3) := by decide +kernel
theorem dX8_moveDownPile_87 : decode cX8_moveDownPile 87 = .ok (.goto (-75), 3) := by decide +kernel
theorem dX8_moveDownPile_90 : decode cX8_moveDownPile 90 = .ok (.aload_n 0, 1) := by decide +kernel
theorem dX8_moveDownPile_91 : decode cX8_moveDownPile 91 = .ok (.getfield 12, 3) := by decide +kernel
theorem dX8_moveDownPile_94 : decode cX8_moveDownPile 94 = .ok (.iload_n 1, 1) := by decide +kernel
theorem dX8_moveDownPile_95 : decode cX8_moveDownPile 95 = .ok (.invokevirtual 157, 3) := by decide +kernel
theorem dX8_moveDownPile_98 : decode cX8_moveDownPile 98 = .ok (.iload_n 1, 1) := by decide +kernel
theorem dX8_moveDownPile_99 : decode cX8_moveDownPile 99 = .ok (.ireturn, 1) := by decide +kernel
def f_X8_moveDownPile_12 (k : Nat) : Nat → Int32 → Int32 → XW → Option (Int32 × XW)
  | 0, _, _, _ => none
  | n + 1, z1, z2, w => (if z2 < 0 then (bV (f_X9_leak (k + 1) z1 w) (fun w1 => (some (z1, w1)))) else (bI (f_X4_sectionAt (k + 4) z2 w) (fun r2 w2 => (bI (f_X9_waterOf (k + 1) r2 w2) (fun r3 w3 => (if (r3 - 20) ≤ 0 then (f_X8_moveDownPile_12 k n z1 (z2 + (-1)) w3) else (bV (f_X9_give (k + 1) r2 (r3 - 20) w3) (fun w4 => (if z2 ≤ 0 then (f_X8_moveDownPile_12 k n (z1 + (r3 - 20)) (z2 + (-1)) w4) else (bI (f_X4_sectionAt (k + 4) (z2 - 1) w4) (fun r5 w5 => (bI (f_X9_receive (k + 1) r5 (r3 - 20) w5) (fun r6 w6 => (f_X8_moveDownPile_12 k n (z1 + r6) (z2 + (-1)) w6))))))))))))))
set_option maxRecDepth 100000 in
theorem S_X8_moveDownPile_12 {g : GC} (hl : g.1.stackTraces = false) {k : Nat} (hk : isX8 k) : ∀ (n : Nat) (z1 : Int32) (z2 : Int32) (w : XW), VE g cX8_moveDownPile 5 RX8 (some .int) [] (rmL 6 0 0) 0 0 oI 0 0 12 [(0, .ref (g.2.1 + k)), (1, .int z1), (2, .int z2)] [] w (f_X8_moveDownPile_12 k n z1 z2 w) := by
  intro n
  induction n with
  | zero => intro z1 z2 w; exact v_none
  | succ n ih =>
    intro z1 z2 w
    rw [f_X8_moveDownPile_12]
    refine v_iload_n dX8_moveDownPile_12 rfl 2 rfl ?_
    refine v_if_lt (tgt := 90) dX8_moveDownPile_13 (by decide) ?_ ?_
    · refine v_aload_n dX8_moveDownPile_90 rfl 0 rfl ?_
      refine v_getR fl_X8_12 hk.1 rfl dX8_moveDownPile_91 ?_
      refine v_iload_n dX8_moveDownPile_94 rfl 1 rfl ?_
      refine v_callVv (As := [.int z1]) cv_X8_157 (S_X9_leak hl hk.2.1) hk.2.1.1 rfl rfl rfl (Nat.le_of_ble_eq_true rfl) dX8_moveDownPile_95 (CR_rm (by decide) (by decide) (by decide) (by decide)) (fun w1 => ?_)
      refine v_iload_n dX8_moveDownPile_98 rfl 1 rfl ?_
      exact v_iret dX8_moveDownPile_99 rfl rfl (by decide) (by decide)
    · refine v_aload_n dX8_moveDownPile_16 rfl 0 rfl ?_
      refine v_getR fl_X8_21 hk.1 rfl dX8_moveDownPile_17 ?_
      refine v_iload_n dX8_moveDownPile_20 rfl 2 rfl ?_
      refine v_callVi (As := [.int z2]) cv_X8_161 (S_X4_sectionAt hl hk.2.2.1) hk.2.2.1.1 rfl rfl rfl (Nat.le_of_ble_eq_true rfl) dX8_moveDownPile_21 (CR_rm (by decide) (by decide) (by decide) (by decide)) (fun r2 w2 => ?_)
      refine v_istore_n dX8_moveDownPile_24 rfl (Nat.le_of_ble_eq_true rfl) rfl ?_
      refine v_aload_n dX8_moveDownPile_25 rfl 1 rfl ?_
      refine v_getR fl_X8_12 hk.1 rfl dX8_moveDownPile_26 ?_
      refine v_iload_n dX8_moveDownPile_29 rfl 0 rfl ?_
      refine v_callVi (As := [.int r2]) cv_X8_81 (S_X9_waterOf hl hk.2.1) hk.2.1.1 rfl rfl rfl (Nat.le_of_ble_eq_true rfl) dX8_moveDownPile_30 (CR_rm (by decide) (by decide) (by decide) (by decide)) (fun r3 w3 => ?_)
      refine v_bipush (v := 20) dX8_moveDownPile_33 (by decide) ?_
      refine v_isub dX8_moveDownPile_35 ?_
      refine v_istore dX8_moveDownPile_36 (Nat.le_of_ble_eq_true rfl) rfl ?_
      refine v_iload dX8_moveDownPile_38 0 rfl ?_
      refine v_if_le (tgt := 84) dX8_moveDownPile_40 (by decide) ?_ ?_
      · refine v_iinc (v := (z2 + (-1))) dX8_moveDownPile_84 (q := 4) rfl rfl (Nat.le_of_ble_eq_true rfl) rfl ?_
        refine v_goto (tgt := 12) dX8_moveDownPile_87 (by decide) ?_
        refine v_sub [3, 4, 0] rfl ?_
        exact ih _ _ _
      · refine v_aload_n dX8_moveDownPile_43 rfl 2 rfl ?_
        refine v_getR fl_X8_12 hk.1 rfl dX8_moveDownPile_44 ?_
        refine v_iload_n dX8_moveDownPile_47 rfl 1 rfl ?_
        refine v_iload dX8_moveDownPile_48 0 rfl ?_
        refine v_callVv (As := [.int r2, .int (r3 - 20)]) cv_X8_150 (S_X9_give hl hk.2.1) hk.2.1.1 rfl rfl rfl (Nat.le_of_ble_eq_true rfl) dX8_moveDownPile_50 (CR_rm (by decide) (by decide) (by decide) (by decide)) (fun w4 => ?_)
        refine v_iload_n dX8_moveDownPile_53 rfl 3 rfl ?_
        refine v_iload_n dX8_moveDownPile_54 rfl 4 rfl ?_
        refine v_if_le (tgt := 80) dX8_moveDownPile_55 (by decide) ?_ ?_
        · refine v_iload dX8_moveDownPile_80 0 rfl ?_
          refine v_iadd dX8_moveDownPile_82 ?_
          refine v_istore_n dX8_moveDownPile_83 rfl (Nat.le_of_ble_eq_true rfl) rfl ?_
          refine v_iinc (v := (z2 + (-1))) dX8_moveDownPile_84 (q := 4) rfl rfl (Nat.le_of_ble_eq_true rfl) rfl ?_
          refine v_goto (tgt := 12) dX8_moveDownPile_87 (by decide) ?_
          refine v_sub [4, 1, 0] rfl ?_
          exact ih _ _ _
        · refine v_aload_n dX8_moveDownPile_58 rfl 2 rfl ?_
          refine v_getR fl_X8_12 hk.1 rfl dX8_moveDownPile_59 ?_
          refine v_aload_n dX8_moveDownPile_62 rfl 2 rfl ?_
          refine v_getR fl_X8_21 hk.1 rfl dX8_moveDownPile_63 ?_
          refine v_iload_n dX8_moveDownPile_66 rfl 4 rfl ?_
          refine v_iconst (v := 1) dX8_moveDownPile_67 (by decide) ?_
          refine v_isub dX8_moveDownPile_68 ?_
          refine v_callVi (As := [.int (z2 - 1)]) cv_X8_161 (S_X4_sectionAt hl hk.2.2.1) hk.2.2.1.1 rfl rfl rfl (Nat.le_of_ble_eq_true rfl) dX8_moveDownPile_69 (CR_rm (by decide) (by decide) (by decide) (by decide)) (fun r5 w5 => ?_)
          refine v_iload dX8_moveDownPile_72 0 rfl ?_
          refine v_callVi (As := [.int r5, .int (r3 - 20)]) cv_X8_154 (S_X9_receive hl hk.2.1) hk.2.1.1 rfl rfl rfl (Nat.le_of_ble_eq_true rfl) dX8_moveDownPile_74 (CR_rm (by decide) (by decide) (by decide) (by decide)) (fun r6 w6 => ?_)
          refine v_goto (tgt := 82) dX8_moveDownPile_77 (by decide) ?_
          refine v_iadd dX8_moveDownPile_82 ?_
          refine v_istore_n dX8_moveDownPile_83 rfl (Nat.le_of_ble_eq_true rfl) rfl ?_
          refine v_iinc (v := (z2 + (-1))) dX8_moveDownPile_84 (q := 4) rfl rfl (Nat.le_of_ble_eq_true rfl) rfl ?_
          refine v_goto (tgt := 12) dX8_moveDownPile_87 (by decide) ?_
          refine v_sub [4, 1, 0] rfl ?_
          exact ih _ _ _
def f_X8_moveDownPile (k : Nat) (w : XW) : Option (Int32 × XW) := (f_X8_moveDownPile_12 k 1000 0 ((w.1 (k + 4) 0) - 1) w)
set_option maxRecDepth 100000 in
theorem W_X8_moveDownPile {g : GC} (hl : g.1.stackTraces = false) {k : Nat} (hk : isX8 k) {w : XW} : VE g cX8_moveDownPile 5 RX8 (some .int) [] (rmL 6 0 0) 0 0 oI 0 0 0 [(0, .ref (g.2.1 + k))] [] w (f_X8_moveDownPile k w) := by
  unfold f_X8_moveDownPile
  refine v_iconst (v := 0) dX8_moveDownPile_0 (by decide) ?_
  refine v_istore_n dX8_moveDownPile_1 rfl (Nat.le_of_ble_eq_true rfl) rfl ?_
  refine v_aload_n dX8_moveDownPile_2 rfl 1 rfl ?_
  refine v_getR fl_X8_21 hk.1 rfl dX8_moveDownPile_3 ?_
  refine v_getI fl_X8_77 hk.2.2.1.1 rfl dX8_moveDownPile_6 ?_
  refine v_iconst (v := 1) dX8_moveDownPile_9 (by decide) ?_
  refine v_isub dX8_moveDownPile_10 ?_
  refine v_istore_n dX8_moveDownPile_11 rfl (Nat.le_of_ble_eq_true rfl) rfl ?_
  refine v_sub [2, 1, 0] rfl ?_
  exact S_X8_moveDownPile_12 hl hk  _ _ _ _
theorem S_X8_moveDownPile {g : GC} (hl : g.1.stackTraces = false) {k : Nat} (hk : isX8 k) {w : XW} : ∀ q, f_X8_moveDownPile k w = some q → MM g (.code yX8_moveDownPile cX8_moveDownPile 5 (some .int)) yX8_moveDownPile (rmL 6 0 0) 0 0 [.ref (g.2.1 + k)] w (oI q) := fun q hq => MM_of (own := RX8) hl (by decide) gw_868 rfl (Nat.le_of_ble_eq_true rfl) (W_X8_moveDownPile hl hk q hq) ⟨rfl, rfl⟩

theorem dX8_apply_0 : decode cX8_apply 0 = .ok (.iload_n 1, 1) := by decide +kernel
theorem dX8_apply_1 : decode cX8_apply 1 = .ok (.tableswitch 186 0 11 #[63, 71, 81, 91, 101, 110, 118, 130, 139, 149, 159, 181], 63) := by decide +kernel
theorem dX8_apply_64 : decode cX8_apply 64 = .ok (.aload_n 0, 1) := by decide +kernel
theorem dX8_apply_65 : decode cX8_apply 65 = .ok (.getfield 12, 3) := by decide +kernel
theorem dX8_apply_68 : decode cX8_apply 68 = .ok (.invokevirtual 104, 3) := by decide +kernel
theorem dX8_apply_71 : decode cX8_apply 71 = .ok (.ireturn, 1) := by decide +kernel
theorem dX8_apply_72 : decode cX8_apply 72 = .ok (.aload_n 0, 1) := by decide +kernel
theorem dX8_apply_73 : decode cX8_apply 73 = .ok (.getfield 12, 3) := by decide +kernel
theorem dX8_apply_76 : decode cX8_apply 76 = .ok (.iload_n 2, 1) := by decide +kernel
theorem dX8_apply_77 : decode cX8_apply 77 = .ok (.iload_n 3, 1) := by decide +kernel
theorem dX8_apply_78 : decode cX8_apply 78 = .ok (.invokevirtual 107, 3) := by decide +kernel
theorem dX8_apply_81 : decode cX8_apply 81 = .ok (.ireturn, 1) := by decide +kernel
theorem dX8_apply_82 : decode cX8_apply 82 = .ok (.aload_n 0, 1) := by decide +kernel
theorem dX8_apply_83 : decode cX8_apply 83 = .ok (.getfield 12, 3) := by decide +kernel
theorem dX8_apply_86 : decode cX8_apply 86 = .ok (.iload_n 2, 1) := by decide +kernel
theorem dX8_apply_87 : decode cX8_apply 87 = .ok (.iload_n 3, 1) := by decide +kernel
theorem dX8_apply_88 : decode cX8_apply 88 = .ok (.invokevirtual 110, 3) := by decide +kernel
theorem dX8_apply_91 : decode cX8_apply 91 = .ok (.ireturn, 1) := by decide +kernel
theorem dX8_apply_92 : decode cX8_apply 92 = .ok (.aload_n 0, 1) := by decide +kernel
theorem dX8_apply_93 : decode cX8_apply 93 = .ok (.getfield 12, 3) := by decide +kernel
theorem dX8_apply_96 : decode cX8_apply 96 = .ok (.iload_n 2, 1) := by decide +kernel
theorem dX8_apply_97 : decode cX8_apply 97 = .ok (.iload_n 3, 1) := by decide +kernel
theorem dX8_apply_98 : decode cX8_apply 98 = .ok (.invokevirtual 113, 3) := by decide +kernel
theorem dX8_apply_101 : decode cX8_apply 101 = .ok (.ireturn, 1) := by decide +kernel
theorem dX8_apply_102 : decode cX8_apply 102 = .ok (.aload_n 0, 1) := by decide +kernel
theorem dX8_apply_103 : decode cX8_apply 103 = .ok (.getfield 21, 3) := by decide +kernel
theorem dX8_apply_106 : decode cX8_apply 106 = .ok (.iload_n 2, 1) := by decide +kernel
theorem dX8_apply_107 : decode cX8_apply 107 = .ok (.invokevirtual 116, 3) := by decide +kernel
theorem dX8_apply_110 : decode cX8_apply 110 = .ok (.ireturn, 1) := by decide +kernel
theorem dX8_apply_111 : decode cX8_apply 111 = .ok (.aload_n 0, 1) := by decide +kernel
theorem dX8_apply_112 : decode cX8_apply 112 = .ok (.getfield 21, 3) := by decide +kernel
theorem dX8_apply_115 : decode cX8_apply 115 = .ok (.invokevirtual 119, 3) := by decide +kernel
theorem dX8_apply_118 : decode cX8_apply 118 = .ok (.ireturn, 1) := by decide +kernel
theorem dX8_apply_119 : decode cX8_apply 119 = .ok (.aload_n 0, 1) := by decide +kernel
theorem dX8_apply_120 : decode cX8_apply 120 = .ok (.getfield 28, 3) := by decide +kernel
theorem dX8_apply_123 : decode cX8_apply 123 = .ok (.iload_n 2, 1) := by decide +kernel
theorem dX8_apply_124 : decode cX8_apply 124 = .ok (.iload_n 3, 1) := by decide +kernel
theorem dX8_apply_125 : decode cX8_apply 125 = .ok (.iload 4, 2) := by decide +kernel
theorem dX8_apply_127 : decode cX8_apply 127 = .ok (.invokevirtual 122, 3) := by decide +kernel
theorem dX8_apply_130 : decode cX8_apply 130 = .ok (.ireturn, 1) := by decide +kernel
theorem dX8_apply_131 : decode cX8_apply 131 = .ok (.aload_n 0, 1) := by decide +kernel
theorem dX8_apply_132 : decode cX8_apply 132 = .ok (.getfield 28, 3) := by decide +kernel
theorem dX8_apply_135 : decode cX8_apply 135 = .ok (.iload_n 2, 1) := by decide +kernel
theorem dX8_apply_136 : decode cX8_apply 136 = .ok (.invokevirtual 124, 3) := by decide +kernel
theorem dX8_apply_139 : decode cX8_apply 139 = .ok (.ireturn, 1) := by decide +kernel
theorem dX8_apply_140 : decode cX8_apply 140 = .ok (.aload_n 0, 1) := by decide +kernel
theorem dX8_apply_141 : decode cX8_apply 141 = .ok (.getfield 28, 3) := by decide +kernel
theorem dX8_apply_144 : decode cX8_apply 144 = .ok (.iload_n 2, 1) := by decide +kernel
theorem dX8_apply_145 : decode cX8_apply 145 = .ok (.iconst 1, 1) := by decide +kernel
theorem dX8_apply_146 : decode cX8_apply 146 = .ok (.invokevirtual 127, 3) := by decide +kernel
theorem dX8_apply_149 : decode cX8_apply 149 = .ok (.ireturn, 1) := by decide +kernel
theorem dX8_apply_150 : decode cX8_apply 150 = .ok (.aload_n 0, 1) := by decide +kernel
theorem dX8_apply_151 : decode cX8_apply 151 = .ok (.getfield 28, 3) := by decide +kernel
theorem dX8_apply_154 : decode cX8_apply 154 = .ok (.iload_n 2, 1) := by decide +kernel
theorem dX8_apply_155 : decode cX8_apply 155 = .ok (.iconst 0, 1) := by decide +kernel
theorem dX8_apply_156 : decode cX8_apply 156 = .ok (.invokevirtual 127, 3) := by decide +kernel
theorem dX8_apply_159 : decode cX8_apply 159 = .ok (.ireturn, 1) := by decide +kernel
theorem dX8_apply_160 : decode cX8_apply 160 = .ok (.aload_n 0, 1) := by decide +kernel
theorem dX8_apply_161 : decode cX8_apply 161 = .ok (.aload 5, 2) := by decide +kernel
theorem dX8_apply_163 : decode cX8_apply 163 = .ok (.aload_n 0, 1) := by decide +kernel
theorem dX8_apply_164 : decode cX8_apply 164 = .ok (.getfield 28, 3) := by decide +kernel
theorem dX8_apply_167 : decode cX8_apply 167 = .ok (.aload_n 0, 1) := by decide +kernel
theorem dX8_apply_168 : decode cX8_apply 168 = .ok (.getfield 12, 3) := by decide +kernel
theorem dX8_apply_171 : decode cX8_apply 171 = .ok (.getfield 42, 3) := by decide +kernel
theorem dX8_apply_174 : decode cX8_apply 174 = .ok (.iconst (-1), 1) := by decide +kernel
theorem dX8_apply_175 : decode cX8_apply 175 = .ok (.invokevirtual 130, 3) := by decide +kernel
theorem dX8_apply_178 : decode cX8_apply 178 = .ok (.invokevirtual 136, 3) := by decide +kernel
theorem dX8_apply_181 : decode cX8_apply 181 = .ok (.ireturn, 1) := by decide +kernel
theorem dX8_apply_182 : decode cX8_apply 182 = .ok (.aload_n 0, 1) := by decide +kernel
theorem dX8_apply_183 : decode cX8_apply 183 = .ok (.invokevirtual 139, 3) := by decide +kernel
theorem dX8_apply_186 : decode cX8_apply 186 = .ok (.ireturn, 1) := by decide +kernel
theorem dX8_apply_187 : decode cX8_apply 187 = .ok (.iconst (-1), 1) := by decide +kernel
theorem dX8_apply_188 : decode cX8_apply 188 = .ok (.ireturn, 1) := by decide +kernel
def f_X8_apply (k : Nat) (x1 : Int32) (x2 : Int32) (x3 : Int32) (x4 : Int32) (w : XW) : Option (Int32 × XW) := (if x1 = 0 then (bI (f_X9_append (k + 1) w) (fun r2 w2 => (some (r2, w2)))) else (if x1 = 1 then (bI (f_X9_receivePoured (k + 1) x2 x3 w) (fun r4 w4 => (some (r4, w4)))) else (if x1 = 2 then (bI (f_X9_giveTerm (k + 1) x2 x3 w) (fun r6 w6 => (some (r6, w6)))) else (if x1 = 3 then (bI (f_X9_takeTerm (k + 1) x2 x3 w) (fun r8 w8 => (some (r8, w8)))) else (if x1 = 4 then (bI (f_X4_insert (k + 4) x2 w) (fun r10 w10 => (some (r10, w10)))) else (if x1 = 5 then (bI (f_X4_removeLast (k + 4) w) (fun r12 w12 => (some (r12, w12)))) else (if x1 = 6 then (bI (f_X5_append (k + 6) x2 x3 x4 w) (fun r14 w14 => (some (r14, w14)))) else (if x1 = 7 then (bI (f_X5_remove (k + 6) x2 w) (fun r16 w16 => (some (r16, w16)))) else (if x1 = 8 then (bI (f_X5_setBroken (k + 6) x2 1 w) (fun r18 w18 => (some (r18, w18)))) else (if x1 = 9 then (bI (f_X5_setBroken (k + 6) x2 0 w) (fun r20 w20 => (some (r20, w20)))) else (if x1 = 10 then (bI (f_X1_greatest (k + 6) (w.1 (k + 1) 0) (-1) w) (fun r22 w22 => (bI (f_X8_moveAlongPipes k r22 w22) (fun r23 w23 => (some (r23, w23)))))) else (if x1 = 11 then (bI (f_X8_moveDownPile k w) (fun r25 w25 => (some (r25, w25)))) else (some ((-1), w))))))))))))))
set_option maxRecDepth 100000 in
theorem W_X8_apply {g : GC} (hl : g.1.stackTraces = false) {k : Nat} (hk : isX8 k) {x1 : Int32} {x2 : Int32} {x3 : Int32} {x4 : Int32} {w : XW} : VE g cX8_apply 6 RX8 (some .int) [] (rmL 7 0 0) 0 0 oI 0 0 0 [(0, .ref (g.2.1 + k)), (1, .int x1), (2, .int x2), (3, .int x3), (4, .int x4), (5, .ref (g.2.1 + 124))] [] w (f_X8_apply k x1 x2 x3 x4 w) := by
  unfold f_X8_apply
  refine v_iload_n dX8_apply_0 rfl 1 rfl ?_
  refine v_split (fun h1 => ?_) (fun h1 => ?_)
  · refine v_tsIn (tgt := 64) (off := (63)) 0 h1 dX8_apply_1 (by decide) (by decide) (by decide) (by decide) ?_
    refine v_aload_n dX8_apply_64 rfl 0 rfl ?_
    refine v_getR fl_X8_12 hk.1 rfl dX8_apply_65 ?_
    refine v_callVi (As := []) cv_X8_104 (S_X9_append hl hk.2.1) hk.2.1.1 rfl rfl rfl (Nat.le_of_ble_eq_true rfl) dX8_apply_68 (CR_rm (by decide) (by decide) (by decide) (by decide)) (fun r2 w2 => ?_)
    exact v_iret dX8_apply_71 rfl rfl (by decide) (by decide)
  refine v_split (fun h3 => ?_) (fun h3 => ?_)
  · refine v_tsIn (tgt := 72) (off := (71)) 1 h3 dX8_apply_1 (by decide) (by decide) (by decide) (by decide) ?_
    refine v_aload_n dX8_apply_72 rfl 0 rfl ?_
    refine v_getR fl_X8_12 hk.1 rfl dX8_apply_73 ?_
    refine v_iload_n dX8_apply_76 rfl 2 rfl ?_
    refine v_iload_n dX8_apply_77 rfl 3 rfl ?_
    refine v_callVi (As := [.int x2, .int x3]) cv_X8_107 (S_X9_receivePoured hl hk.2.1) hk.2.1.1 rfl rfl rfl (Nat.le_of_ble_eq_true rfl) dX8_apply_78 (CR_rm (by decide) (by decide) (by decide) (by decide)) (fun r4 w4 => ?_)
    exact v_iret dX8_apply_81 rfl rfl (by decide) (by decide)
  refine v_split (fun h5 => ?_) (fun h5 => ?_)
  · refine v_tsIn (tgt := 82) (off := (81)) 2 h5 dX8_apply_1 (by decide) (by decide) (by decide) (by decide) ?_
    refine v_aload_n dX8_apply_82 rfl 0 rfl ?_
    refine v_getR fl_X8_12 hk.1 rfl dX8_apply_83 ?_
    refine v_iload_n dX8_apply_86 rfl 2 rfl ?_
    refine v_iload_n dX8_apply_87 rfl 3 rfl ?_
    refine v_callVi (As := [.int x2, .int x3]) cv_X8_110 (S_X9_giveTerm hl hk.2.1) hk.2.1.1 rfl rfl rfl (Nat.le_of_ble_eq_true rfl) dX8_apply_88 (CR_rm (by decide) (by decide) (by decide) (by decide)) (fun r6 w6 => ?_)
    exact v_iret dX8_apply_91 rfl rfl (by decide) (by decide)
  refine v_split (fun h7 => ?_) (fun h7 => ?_)
  · refine v_tsIn (tgt := 92) (off := (91)) 3 h7 dX8_apply_1 (by decide) (by decide) (by decide) (by decide) ?_
    refine v_aload_n dX8_apply_92 rfl 0 rfl ?_
    refine v_getR fl_X8_12 hk.1 rfl dX8_apply_93 ?_
    refine v_iload_n dX8_apply_96 rfl 2 rfl ?_
    refine v_iload_n dX8_apply_97 rfl 3 rfl ?_
    refine v_callVi (As := [.int x2, .int x3]) cv_X8_113 (S_X9_takeTerm hl hk.2.1) hk.2.1.1 rfl rfl rfl (Nat.le_of_ble_eq_true rfl) dX8_apply_98 (CR_rm (by decide) (by decide) (by decide) (by decide)) (fun r8 w8 => ?_)
    exact v_iret dX8_apply_101 rfl rfl (by decide) (by decide)
  refine v_split (fun h9 => ?_) (fun h9 => ?_)
  · refine v_tsIn (tgt := 102) (off := (101)) 4 h9 dX8_apply_1 (by decide) (by decide) (by decide) (by decide) ?_
    refine v_aload_n dX8_apply_102 rfl 0 rfl ?_
    refine v_getR fl_X8_21 hk.1 rfl dX8_apply_103 ?_
    refine v_iload_n dX8_apply_106 rfl 2 rfl ?_
    refine v_callVi (As := [.int x2]) cv_X8_116 (S_X4_insert hl hk.2.2.1) hk.2.2.1.1 rfl rfl rfl (Nat.le_of_ble_eq_true rfl) dX8_apply_107 (CR_rm (by decide) (by decide) (by decide) (by decide)) (fun r10 w10 => ?_)
    exact v_iret dX8_apply_110 rfl rfl (by decide) (by decide)
  refine v_split (fun h11 => ?_) (fun h11 => ?_)
  · refine v_tsIn (tgt := 111) (off := (110)) 5 h11 dX8_apply_1 (by decide) (by decide) (by decide) (by decide) ?_
    refine v_aload_n dX8_apply_111 rfl 0 rfl ?_
    refine v_getR fl_X8_21 hk.1 rfl dX8_apply_112 ?_
    refine v_callVi (As := []) cv_X8_119 (S_X4_removeLast hl hk.2.2.1) hk.2.2.1.1 rfl rfl rfl (Nat.le_of_ble_eq_true rfl) dX8_apply_115 (CR_rm (by decide) (by decide) (by decide) (by decide)) (fun r12 w12 => ?_)
    exact v_iret dX8_apply_118 rfl rfl (by decide) (by decide)
  refine v_split (fun h13 => ?_) (fun h13 => ?_)
  · refine v_tsIn (tgt := 119) (off := (118)) 6 h13 dX8_apply_1 (by decide) (by decide) (by decide) (by decide) ?_
    refine v_aload_n dX8_apply_119 rfl 0 rfl ?_
    refine v_getR fl_X8_28 hk.1 rfl dX8_apply_120 ?_
    refine v_iload_n dX8_apply_123 rfl 2 rfl ?_
    refine v_iload_n dX8_apply_124 rfl 3 rfl ?_
    refine v_iload dX8_apply_125 4 rfl ?_
    refine v_callVi (As := [.int x2, .int x3, .int x4]) cv_X8_122 (S_X5_append hl hk.2.2.2) hk.2.2.2.1 rfl rfl rfl (Nat.le_of_ble_eq_true rfl) dX8_apply_127 (CR_rm (by decide) (by decide) (by decide) (by decide)) (fun r14 w14 => ?_)
    exact v_iret dX8_apply_130 rfl rfl (by decide) (by decide)
  refine v_split (fun h15 => ?_) (fun h15 => ?_)
  · refine v_tsIn (tgt := 131) (off := (130)) 7 h15 dX8_apply_1 (by decide) (by decide) (by decide) (by decide) ?_
    refine v_aload_n dX8_apply_131 rfl 0 rfl ?_
    refine v_getR fl_X8_28 hk.1 rfl dX8_apply_132 ?_
    refine v_iload_n dX8_apply_135 rfl 2 rfl ?_
    refine v_callVi (As := [.int x2]) cv_X8_124 (S_X5_remove hl hk.2.2.2) hk.2.2.2.1 rfl rfl rfl (Nat.le_of_ble_eq_true rfl) dX8_apply_136 (CR_rm (by decide) (by decide) (by decide) (by decide)) (fun r16 w16 => ?_)
    exact v_iret dX8_apply_139 rfl rfl (by decide) (by decide)
  refine v_split (fun h17 => ?_) (fun h17 => ?_)
  · refine v_tsIn (tgt := 140) (off := (139)) 8 h17 dX8_apply_1 (by decide) (by decide) (by decide) (by decide) ?_
    refine v_aload_n dX8_apply_140 rfl 0 rfl ?_
    refine v_getR fl_X8_28 hk.1 rfl dX8_apply_141 ?_
    refine v_iload_n dX8_apply_144 rfl 2 rfl ?_
    refine v_iconst (v := 1) dX8_apply_145 (by decide) ?_
    refine v_callVi (As := [.int x2, .int 1]) cv_X8_127 (S_X5_setBroken hl hk.2.2.2) hk.2.2.2.1 rfl rfl rfl (Nat.le_of_ble_eq_true rfl) dX8_apply_146 (CR_rm (by decide) (by decide) (by decide) (by decide)) (fun r18 w18 => ?_)
    exact v_iret dX8_apply_149 rfl rfl (by decide) (by decide)
  refine v_split (fun h19 => ?_) (fun h19 => ?_)
  · refine v_tsIn (tgt := 150) (off := (149)) 9 h19 dX8_apply_1 (by decide) (by decide) (by decide) (by decide) ?_
    refine v_aload_n dX8_apply_150 rfl 0 rfl ?_
    refine v_getR fl_X8_28 hk.1 rfl dX8_apply_151 ?_
    refine v_iload_n dX8_apply_154 rfl 2 rfl ?_
    refine v_iconst (v := 0) dX8_apply_155 (by decide) ?_
    refine v_callVi (As := [.int x2, .int 0]) cv_X8_127 (S_X5_setBroken hl hk.2.2.2) hk.2.2.2.1 rfl rfl rfl (Nat.le_of_ble_eq_true rfl) dX8_apply_156 (CR_rm (by decide) (by decide) (by decide) (by decide)) (fun r20 w20 => ?_)
    exact v_iret dX8_apply_159 rfl rfl (by decide) (by decide)
  refine v_split (fun h21 => ?_) (fun h21 => ?_)
  · refine v_tsIn (tgt := 160) (off := (159)) 10 h21 dX8_apply_1 (by decide) (by decide) (by decide) (by decide) ?_
    refine v_aload_n dX8_apply_160 rfl 0 rfl ?_
    refine v_aload dX8_apply_161 5 rfl ?_
    refine v_aload_n dX8_apply_163 rfl 0 rfl ?_
    refine v_getR fl_X8_28 hk.1 rfl dX8_apply_164 ?_
    refine v_aload_n dX8_apply_167 rfl 0 rfl ?_
    refine v_getR fl_X8_12 hk.1 rfl dX8_apply_168 ?_
    refine v_getI fl_X8_42 hk.2.1.1 rfl dX8_apply_171 ?_
    refine v_iconst (v := (-1)) dX8_apply_174 (by decide) ?_
    refine v_callVi (As := [.ref (g.2.1 + (k + 6)), .int (w.1 (k + 1) 0), .int (-1)]) cv_X8_130 (S_X1_greatest hl hk.2.2.2) tt_124 rfl rfl rfl (Nat.le_of_ble_eq_true rfl) dX8_apply_175 (CR_rm (by decide) (by decide) (by decide) (by decide)) (fun r22 w22 => ?_)
    refine v_callVi (As := [.int r22]) cv_X8_136 (S_X8_moveAlongPipes hl hk) hk.1 rfl rfl rfl (Nat.le_of_ble_eq_true rfl) dX8_apply_178 (CR_rm (by decide) (by decide) (by decide) (by decide)) (fun r23 w23 => ?_)
    exact v_iret dX8_apply_181 rfl rfl (by decide) (by decide)
  refine v_split (fun h24 => ?_) (fun h24 => ?_)
  · refine v_tsIn (tgt := 182) (off := (181)) 11 h24 dX8_apply_1 (by decide) (by decide) (by decide) (by decide) ?_
    refine v_aload_n dX8_apply_182 rfl 0 rfl ?_
    refine v_callVi (As := []) cv_X8_139 (S_X8_moveDownPile hl hk) hk.1 rfl rfl rfl (Nat.le_of_ble_eq_true rfl) dX8_apply_183 (CR_rm (by decide) (by decide) (by decide) (by decide)) (fun r25 w25 => ?_)
    exact v_iret dX8_apply_186 rfl rfl (by decide) (by decide)
  have h1 := v_tsNe (z := 0) (by decide) h1
  have h3 := v_tsNe (z := 1) (by decide) h3
  have h5 := v_tsNe (z := 2) (by decide) h5
  have h7 := v_tsNe (z := 3) (by decide) h7
  have h9 := v_tsNe (z := 4) (by decide) h9
  have h11 := v_tsNe (z := 5) (by decide) h11
  have h13 := v_tsNe (z := 6) (by decide) h13
  have h15 := v_tsNe (z := 7) (by decide) h15
  have h17 := v_tsNe (z := 8) (by decide) h17
  have h19 := v_tsNe (z := 9) (by decide) h19
  have h21 := v_tsNe (z := 10) (by decide) h21
  have h24 := v_tsNe (z := 11) (by decide) h24
  refine v_tsOut (tgt := 187) dX8_apply_1 (by omega) (by decide) ?_
  refine v_iconst (v := (-1)) dX8_apply_187 (by decide) ?_
  exact v_iret dX8_apply_188 rfl rfl (by decide) (by decide)
theorem S_X8_apply {g : GC} (hl : g.1.stackTraces = false) {k : Nat} (hk : isX8 k) {x1 : Int32} {x2 : Int32} {x3 : Int32} {x4 : Int32} {w : XW} : ∀ q, f_X8_apply k x1 x2 x3 x4 w = some q → MM g (.code yX8_apply cX8_apply 6 (some .int)) yX8_apply (rmL 7 0 0) 0 0 [.ref (g.2.1 + k), .int x1, .int x2, .int x3, .int x4, .ref (g.2.1 + 124)] w (oI q) := fun q hq => MM_of (own := RX8) hl (by decide) gw_798 rfl (Nat.le_of_ble_eq_true rfl) (W_X8_apply hl hk q hq) ⟨rfl, rfl⟩
