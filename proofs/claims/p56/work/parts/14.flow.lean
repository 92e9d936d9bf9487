theorem dX1_inGrid_0 : decode cX1_inGrid 0 = .ok (.iload_n 0, 1) := by decide +kernel
theorem dX1_inGrid_1 : decode cX1_inGrid 1 = .ok (.ifCond .lt 23, 3) := by decide +kernel
theorem dX1_inGrid_4 : decode cX1_inGrid 4 = .ok (.iload_n 0, 1) := by decide +kernel
theorem dX1_inGrid_5 : decode cX1_inGrid 5 = .ok (.bipush 7, 2) := by decide +kernel
theorem dX1_inGrid_7 : decode cX1_inGrid 7 = .ok (.if_icmp .ge 17, 3) := by decide +kernel
theorem dX1_inGrid_10 : decode cX1_inGrid 10 = .ok (.iload_n 1, 1) := by decide +kernel
theorem dX1_inGrid_11 : decode cX1_inGrid 11 = .ok (.ifCond .lt 13, 3) := by decide +kernel
theorem dX1_inGrid_14 : decode cX1_inGrid 14 = .ok (.iload_n 1, 1) := by decide +kernel
theorem dX1_inGrid_15 : decode cX1_inGrid 15 = .ok (.bipush 7, 2) := by decide +kernel
theorem dX1_inGrid_17 : decode cX1_inGrid 17 = .ok (.if_icmp .ge 7, 3) := by decide +kernel
theorem dX1_inGrid_20 : decode cX1_inGrid 20 = .ok (.iconst 1, 1) := by decide +kernel
theorem dX1_inGrid_21 : decode cX1_inGrid 21 = .ok (.goto 4, 3) := by decide +kernel
theorem dX1_inGrid_24 : decode cX1_inGrid 24 = .ok (.iconst 0, 1) := by decide +kernel
theorem dX1_inGrid_25 : decode cX1_inGrid 25 = .ok (.ireturn, 1) := by decide +kernel
def f_X1_inGrid (x0 : Int32) (x1 : Int32) (w : XW) : Option (Int32 × XW) := (if x0 < 0 then (some (0, w)) else (if 7 ≤ x0 then (some (0, w)) else (if x1 < 0 then (some (0, w)) else (if 7 ≤ x1 then (some (0, w)) else (some (1, w))))))
set_option maxRecDepth 100000 in
theorem W_X1_inGrid {g : GC} (hl : g.1.stackTraces = false) {x0 : Int32} {x1 : Int32} {w : XW} : VE g cX1_inGrid 2 RX1 (some .boolean) [] (rmL 3 0 0) 0 0 oI 0 0 0 [(0, .int x0), (1, .int x1)] [] w (f_X1_inGrid x0 x1 w) := by
  unfold f_X1_inGrid
  refine v_iload_n dX1_inGrid_0 rfl 0 rfl ?_
  refine v_if_lt (tgt := 24) dX1_inGrid_1 (by decide) ?_ ?_
  · refine v_iconst (v := 0) dX1_inGrid_24 (by decide) ?_
    exact v_zret dX1_inGrid_25 rfl rfl rfl (by decide) (by decide)
  · refine v_iload_n dX1_inGrid_4 rfl 0 rfl ?_
    refine v_bipush (v := 7) dX1_inGrid_5 (by decide) ?_
    refine v_icmp_ge (tgt := 24) dX1_inGrid_7 (by decide) ?_ ?_
    · refine v_iconst (v := 0) dX1_inGrid_24 (by decide) ?_
      exact v_zret dX1_inGrid_25 rfl rfl rfl (by decide) (by decide)
    · refine v_iload_n dX1_inGrid_10 rfl 1 rfl ?_
      refine v_if_lt (tgt := 24) dX1_inGrid_11 (by decide) ?_ ?_
      · refine v_iconst (v := 0) dX1_inGrid_24 (by decide) ?_
        exact v_zret dX1_inGrid_25 rfl rfl rfl (by decide) (by decide)
      · refine v_iload_n dX1_inGrid_14 rfl 1 rfl ?_
        refine v_bipush (v := 7) dX1_inGrid_15 (by decide) ?_
        refine v_icmp_ge (tgt := 24) dX1_inGrid_17 (by decide) ?_ ?_
        · refine v_iconst (v := 0) dX1_inGrid_24 (by decide) ?_
          exact v_zret dX1_inGrid_25 rfl rfl rfl (by decide) (by decide)
        · refine v_iconst (v := 1) dX1_inGrid_20 (by decide) ?_
          refine v_goto (tgt := 25) dX1_inGrid_21 (by decide) ?_
          exact v_zret dX1_inGrid_25 rfl rfl rfl (by decide) (by decide)
theorem S_X1_inGrid {g : GC} (hl : g.1.stackTraces = false) {x0 : Int32} {x1 : Int32} {w : XW} : ∀ q, f_X1_inGrid x0 x1 w = some q → MM g (.code yX1_inGrid cX1_inGrid 2 (some .boolean)) yX1_inGrid (rmL 3 0 0) 0 0 [.int x0, .int x1] w (oI q) := fun q hq => MM_of (own := RX1) hl (by decide) gw_660 rfl (Nat.le_of_ble_eq_true rfl) (W_X1_inGrid hl q hq) ⟨rfl, rfl⟩

theorem dX1_addSpare_0 : decode cX1_addSpare 0 = .ok (.iload_n 1, 1) := by decide +kernel
theorem dX1_addSpare_1 : decode cX1_addSpare 1 = .ok (.iload_n 2, 1) := by decide +kernel
theorem dX1_addSpare_2 : decode cX1_addSpare 2 = .ok (.invokestatic 55, 3) := by decide +kernel
theorem dX1_addSpare_5 : decode cX1_addSpare 5 = .ok (.ifCond .eq 18, 3) := by decide +kernel
theorem dX1_addSpare_8 : decode cX1_addSpare 8 = .ok (.aload_n 0, 1) := by decide +kernel
theorem dX1_addSpare_9 : decode cX1_addSpare 9 = .ok (.getfield 9, 3) := by decide +kernel
theorem dX1_addSpare_12 : decode cX1_addSpare 12 = .ok (.iload_n 1, 1) := by decide +kernel
theorem dX1_addSpare_13 : decode cX1_addSpare 13 = .ok (.bipush 7, 2) := by decide +kernel
theorem dX1_addSpare_15 : decode cX1_addSpare 15 = .ok (.imul, 1) := by decide +kernel
theorem dX1_addSpare_16 : decode cX1_addSpare 16 = .ok (.iload_n 2, 1) := by decide +kernel
theorem dX1_addSpare_17 : decode cX1_addSpare 17 = .ok (.iadd, 1) := by decide +kernel
theorem dX1_addSpare_18 : decode cX1_addSpare 18 = .ok (.dup2, 1) := by decide +kernel
theorem dX1_addSpare_19 : decode cX1_addSpare 19 = .ok (.iaload, 1) := by decide +kernel
theorem dX1_addSpare_20 : decode cX1_addSpare 20 = .ok (.iload_n 3, 1) := by decide +kernel
theorem dX1_addSpare_21 : decode cX1_addSpare 21 = .ok (.iadd, 1) := by decide +kernel
theorem dX1_addSpare_22 : decode cX1_addSpare 22 = .ok (.iastore, 1) := by decide +kernel
theorem dX1_addSpare_23 : decode cX1_addSpare 23 = .ok (.return_, 1) := by decide +kernel
def f_X1_addSpare (x1 : Int32) (x2 : Int32) (x3 : Int32) (w : XW) : Option (XW) := (bI (f_X1_inGrid x1 x2 w) (fun r1 w1 => (if r1 = 0 then (some w1) else (if inB ((x1 * 7) + x2) 49 then (if inB ((x1 * 7) + x2) 49 then (some (wset w1 125 (Int32.toNatClampNeg ((x1 * 7) + x2)) ((w1.1 125 (Int32.toNatClampNeg ((x1 * 7) + x2))) + x3))) else none) else none))))
set_option maxRecDepth 100000 in
theorem W_X1_addSpare {g : GC} (hl : g.1.stackTraces = false) {x1 : Int32} {x2 : Int32} {x3 : Int32} {w : XW} : VE g cX1_addSpare 4 RX1 none [] (rmL 4 0 0) 0 0 oV 0 0 0 [(0, .ref (g.2.1 + 124)), (1, .int x1), (2, .int x2), (3, .int x3)] [] w (f_X1_addSpare x1 x2 x3 w) := by
  unfold f_X1_addSpare
  refine v_iload_n dX1_addSpare_0 rfl 1 rfl ?_
  refine v_iload_n dX1_addSpare_1 rfl 2 rfl ?_
  refine v_callSi (As := [.int x1, .int x2]) cs_X1_55 (S_X1_inGrid hl) rfl rfl (Nat.le_of_ble_eq_true rfl) dX1_addSpare_2 (CR_rm (by decide) (by decide) (by decide) (by decide)) (fun r1 w1 => ?_)
  refine v_if_eq (tgt := 23) dX1_addSpare_5 (by decide) ?_ ?_
  · exact v_vret dX1_addSpare_23 rfl rfl (by decide) (by decide)
  · refine v_aload_n dX1_addSpare_8 rfl 0 rfl ?_
    refine v_getR fl_X1_9 tt_124 rfl dX1_addSpare_9 ?_
    refine v_iload_n dX1_addSpare_12 rfl 1 rfl ?_
    refine v_bipush (v := 7) dX1_addSpare_13 (by decide) ?_
    refine v_imul dX1_addSpare_15 ?_
    refine v_iload_n dX1_addSpare_16 rfl 2 rfl ?_
    refine v_iadd dX1_addSpare_17 ?_
    refine v_dup2 dX1_addSpare_18 rfl rfl ?_
    refine v_guard (fun h2 => ?_)
    refine v_iald tt_125 h2 dX1_addSpare_19 ?_
    refine v_iload_n dX1_addSpare_20 rfl 3 rfl ?_
    refine v_iadd dX1_addSpare_21 ?_
    refine v_guard (fun h3 => ?_)
    refine v_iast tt_125 h3 dX1_addSpare_22 ?_
    exact v_vret dX1_addSpare_23 rfl rfl (by decide) (by decide)
theorem S_X1_addSpare {g : GC} (hl : g.1.stackTraces = false) {x1 : Int32} {x2 : Int32} {x3 : Int32} {w : XW} : ∀ q, f_X1_addSpare x1 x2 x3 w = some q → MM g (.code yX1_addSpare cX1_addSpare 4 none) yX1_addSpare (rmL 4 0 0) 0 0 [.ref (g.2.1 + 124), .int x1, .int x2, .int x3] w (oV q) := fun q hq => MM_of (own := RX1) hl (by decide) gw_657 rfl (Nat.le_of_ble_eq_true rfl) (W_X1_addSpare hl q hq) ⟨rfl, rfl⟩

theorem dX1_openPipes_0 : decode cX1_openPipes 0 = .ok (.iconst 0, 1) := by decide +kernel
theorem dX1_openPipes_1 : decode cX1_openPipes 1 = .ok (.istore_n 3, 1) := by decide +kernel
theorem dX1_openPipes_2 : decode cX1_openPipes 2 = .ok (.iload_n 3, 1) := by decide +kernel
theorem dX1_openPipes_3 : decode cX1_openPipes 3 = .ok (.aload_n 0, 1) := by decide +kernel
theorem dX1_openPipes_4 : decode cX1_openPipes 4 = .ok (.getfield 9, 3) := by decide +kernel
theorem dX1_openPipes_7 : decode cX1_openPipes 7 = .ok (.arraylength, 1) := by decide +kernel
theorem dX1_openPipes_8 : decode cX1_openPipes 8 = .ok (.if_icmp .ge 16, 3) := by decide +kernel
theorem dX1_openPipes_11 : decode cX1_openPipes 11 = .ok (.aload_n 0, 1) := by decide +kernel
theorem dX1_openPipes_12 : decode cX1_openPipes 12 = .ok (.getfield 9, 3) := by decide +kernel
theorem dX1_openPipes_15 : decode cX1_openPipes 15 = .ok (.iload_n 3, 1) := by decide +kernel
theorem dX1_openPipes_16 : decode cX1_openPipes 16 = .ok (.iconst 0, 1) := by decide +kernel
theorem dX1_openPipes_17 : decode cX1_openPipes 17 = .ok (.iastore, 1) := by decide +kernel
theorem dX1_openPipes_18 : decode cX1_openPipes 18 = .ok (.iinc 3 1, 3) := by decide +kernel
theorem dX1_openPipes_21 : decode cX1_openPipes 21 = .ok (.goto (-19), 3) := by decide +kernel
theorem dX1_openPipes_24 : decode cX1_openPipes 24 = .ok (.iconst 0, 1) := by decide +kernel
theorem dX1_openPipes_25 : decode cX1_openPipes 25 = .ok (.istore_n 3, 1) := by decide +kernel
theorem dX1_openPipes_26 : decode cX1_openPipes 26 = .ok (.iload_n 3, 1) := by decide +kernel
theorem dX1_openPipes_27 : decode cX1_openPipes 27 = .ok (.aload_n 1, 1) := by decide +kernel
theorem dX1_openPipes_28 : decode cX1_openPipes 28 = .ok (.getfield 33, 3) := by decide +kernel
theorem dX1_openPipes_31 : decode cX1_openPipes 31 = .ok (.if_icmp .ge 41, 3) := by decide +kernel
theorem dX1_openPipes_34 : decode cX1_openPipes 34 = .ok (.iload_n 3, 1) := by decide +kernel
theorem dX1_openPipes_35 : decode cX1_openPipes 35 = .ok (.iload_n 2, 1) := by decide +kernel
theorem dX1_openPipes_36 : decode cX1_openPipes 36 = .ok (.if_icmp .eq 30, 3) := by decide +kernel
theorem dX1_openPipes_39 : decode cX1_openPipes 39 = .ok (.aload_n 1, 1) := by decide +kernel
theorem dX1_openPipes_40 : decode cX1_openPipes 40 = .ok (.iload_n 3, 1) := by decide +kernel
theorem dX1_openPipes_41 : decode cX1_openPipes 41 = .ok (.invokevirtual 39, 3) := by decide +kernel
theorem dX1_openPipes_44 : decode cX1_openPipes 44 = .ok (.ifCond .ne 22, 3) := by decide +kernel
theorem dX1_openPipes_47 : decode cX1_openPipes 47 = .ok (.aload_n 0, 1) := by decide +kernel
theorem dX1_openPipes_48 : decode cX1_openPipes 48 = .ok (.aload_n 1, 1) := by decide +kernel
theorem dX1_openPipes_49 : decode cX1_openPipes 49 = .ok (.iload_n 3, 1) := by decide +kernel
theorem dX1_openPipes_50 : decode cX1_openPipes 50 = .ok (.invokevirtual 42, 3) := by decide +kernel
theorem dX1_openPipes_53 : decode cX1_openPipes 53 = .ok (.aload_n 1, 1) := by decide +kernel
theorem dX1_openPipes_54 : decode cX1_openPipes 54 = .ok (.iload_n 3, 1) := by decide +kernel
theorem dX1_openPipes_55 : decode cX1_openPipes 55 = .ok (.invokevirtual 45, 3) := by decide +kernel
theorem dX1_openPipes_58 : decode cX1_openPipes 58 = .ok (.aload_n 1, 1) := by decide +kernel
theorem dX1_openPipes_59 : decode cX1_openPipes 59 = .ok (.iload_n 3, 1) := by decide +kernel
theorem dX1_openPipes_60 : decode cX1_openPipes 60 = .ok (.invokevirtual 48, 3) := by decide +kernel
theorem dX1_openPipes_63 : decode cX1_openPipes 63 = .ok (.invokevirtual 51, 3) := by decide +kernel
theorem dX1_openPipes_66 : decode cX1_openPipes 66 = .ok (.iinc 3 1, 3) := by decide +kernel
theorem dX1_openPipes_69 : decode cX1_openPipes 69 = .ok (.goto (-43), 3) := by decide +kernel
theorem dX1_openPipes_72 : decode cX1_openPipes 72 = .ok (.return_, 1) := by decide +kernel
def f_X1_openPipes_26 (k1 : Nat) (y2 : Int32) : Nat → Int32 → XW → Option (XW)
  | 0, _, _ => none
  | n + 1, z3, w => (if (w.1 k1 0) ≤ z3 then (some w) else (if z3 = y2 then (f_X1_openPipes_26 k1 y2 n (z3 + 1) w) else (bI (f_X5_brokenAt k1 z3 w) (fun r2 w2 => (if r2 = 0 then (bI (f_X5_startOf k1 z3 w2) (fun r3 w3 => (bI (f_X5_endOf k1 z3 w3) (fun r4 w4 => (bI (f_X5_widthOf k1 z3 w4) (fun r5 w5 => (bV (f_X1_addSpare r3 r4 r5 w5) (fun w6 => (f_X1_openPipes_26 k1 y2 n (z3 + 1) w6))))))))) else (f_X1_openPipes_26 k1 y2 n (z3 + 1) w2))))))
set_option maxRecDepth 100000 in
theorem S_X1_openPipes_26 {g : GC} (hl : g.1.stackTraces = false) {k1 : Nat} (hk1 : isX5 k1) {y2 : Int32} : ∀ (n : Nat) (z3 : Int32) (w : XW), VE g cX1_openPipes 4 RX1 none [] (rmL 5 0 0) 0 0 oV 0 0 26 [(0, .ref (g.2.1 + 124)), (1, .ref (g.2.1 + k1)), (2, .int y2), (3, .int z3)] [] w (f_X1_openPipes_26 k1 y2 n z3 w) := by
  intro n
  induction n with
  | zero => intro z3 w; exact v_none
  | succ n ih =>
    intro z3 w
    rw [f_X1_openPipes_26]
    refine v_iload_n dX1_openPipes_26 rfl 3 rfl ?_
    refine v_aload_n dX1_openPipes_27 rfl 1 rfl ?_
    refine v_getI fl_X1_33 hk1.1 rfl dX1_openPipes_28 ?_
    refine v_icmp_ge (tgt := 72) dX1_openPipes_31 (by decide) ?_ ?_
    · exact v_vret dX1_openPipes_72 rfl rfl (by decide) (by decide)
    · refine v_iload_n dX1_openPipes_34 rfl 3 rfl ?_
      refine v_iload_n dX1_openPipes_35 rfl 2 rfl ?_
      refine v_icmp_eq (tgt := 66) dX1_openPipes_36 (by decide) ?_ ?_
      · refine v_iinc (v := (z3 + 1)) dX1_openPipes_66 (q := 3) rfl rfl (Nat.le_of_ble_eq_true rfl) rfl ?_
        refine v_goto (tgt := 26) dX1_openPipes_69 (by decide) ?_
        refine v_sub [1, 2, 3, 0] rfl ?_
        exact ih _ _
      · refine v_aload_n dX1_openPipes_39 rfl 1 rfl ?_
        refine v_iload_n dX1_openPipes_40 rfl 3 rfl ?_
        refine v_callVi (As := [.int z3]) cv_X1_39 (S_X5_brokenAt hl hk1) hk1.1 rfl rfl rfl (Nat.le_of_ble_eq_true rfl) dX1_openPipes_41 (CR_rm (by decide) (by decide) (by decide) (by decide)) (fun r2 w2 => ?_)
        refine v_if_ne (tgt := 66) dX1_openPipes_44 (by decide) ?_ ?_
        · refine v_iinc (v := (z3 + 1)) dX1_openPipes_66 (q := 3) rfl rfl (Nat.le_of_ble_eq_true rfl) rfl ?_
          refine v_goto (tgt := 26) dX1_openPipes_69 (by decide) ?_
          refine v_sub [1, 2, 3, 0] rfl ?_
          exact ih _ _
        · refine v_aload_n dX1_openPipes_47 rfl 0 rfl ?_
          refine v_aload_n dX1_openPipes_48 rfl 1 rfl ?_
          refine v_iload_n dX1_openPipes_49 rfl 3 rfl ?_
          refine v_callVi (As := [.int z3]) cv_X1_42 (S_X5_startOf hl hk1) hk1.1 rfl rfl rfl (Nat.le_of_ble_eq_true rfl) dX1_openPipes_50 (CR_rm (by decide) (by decide) (by decide) (by decide)) (fun r3 w3 => ?_)
          refine v_aload_n dX1_openPipes_53 rfl 1 rfl ?_
          refine v_iload_n dX1_openPipes_54 rfl 3 rfl ?_
          refine v_callVi (As := [.int z3]) cv_X1_45 (S_X5_endOf hl hk1) hk1.1 rfl rfl rfl (Nat.le_of_ble_eq_true rfl) dX1_openPipes_55 (CR_rm (by decide) (by decide) (by decide) (by decide)) (fun r4 w4 => ?_)
          refine v_aload_n dX1_openPipes_58 rfl 1 rfl ?_
          refine v_iload_n dX1_openPipes_59 rfl 3 rfl ?_
          refine v_callVi (As := [.int z3]) cv_X1_48 (S_X5_widthOf hl hk1) hk1.1 rfl rfl rfl (Nat.le_of_ble_eq_true rfl) dX1_openPipes_60 (CR_rm (by decide) (by decide) (by decide) (by decide)) (fun r5 w5 => ?_)
          refine v_callVv (As := [.int r3, .int r4, .int r5]) cv_X1_51 (S_X1_addSpare hl) tt_124 rfl rfl rfl (Nat.le_of_ble_eq_true rfl) dX1_openPipes_63 (CR_rm (by decide) (by decide) (by decide) (by decide)) (fun w6 => ?_)
          refine v_iinc (v := (z3 + 1)) dX1_openPipes_66 (q := 3) rfl rfl (Nat.le_of_ble_eq_true rfl) rfl ?_
          refine v_goto (tgt := 26) dX1_openPipes_69 (by decide) ?_
          refine v_sub [1, 2, 3, 0] rfl ?_
          exact ih _ _
def f_X1_openPipes_2 (k1 : Nat) (y2 : Int32) : Nat → Int32 → XW → Option (XW)
  | 0, _, _ => none
  | n + 1, z3, w => (if 49 ≤ z3 then (f_X1_openPipes_26 k1 y2 1000 0 w) else (if inB z3 49 then (f_X1_openPipes_2 k1 y2 n (z3 + 1) (wset w 125 (Int32.toNatClampNeg z3) 0)) else none))
set_option maxRecDepth 100000 in
theorem S_X1_openPipes_2 {g : GC} (hl : g.1.stackTraces = false) {k1 : Nat} (hk1 : isX5 k1) {y2 : Int32} : ∀ (n : Nat) (z3 : Int32) (w : XW), VE g cX1_openPipes 4 RX1 none [] (rmL 5 0 0) 0 0 oV 0 0 2 [(0, .ref (g.2.1 + 124)), (1, .ref (g.2.1 + k1)), (2, .int y2), (3, .int z3)] [] w (f_X1_openPipes_2 k1 y2 n z3 w) := by
  intro n
  induction n with
  | zero => intro z3 w; exact v_none
  | succ n ih =>
    intro z3 w
    rw [f_X1_openPipes_2]
    refine v_iload_n dX1_openPipes_2 rfl 3 rfl ?_
    refine v_aload_n dX1_openPipes_3 rfl 0 rfl ?_
    refine v_getR fl_X1_9 tt_124 rfl dX1_openPipes_4 ?_
    refine v_alen (v := 49) tt_125 (by decide) rfl dX1_openPipes_7 ?_
    refine v_icmp_ge (tgt := 24) dX1_openPipes_8 (by decide) ?_ ?_
    · refine v_iconst (v := 0) dX1_openPipes_24 (by decide) ?_
      refine v_istore_n dX1_openPipes_25 rfl (Nat.le_of_ble_eq_true rfl) rfl ?_
      refine v_sub [1, 2, 3, 0] rfl ?_
      exact S_X1_openPipes_26 hl hk1  _ _ _
    · refine v_aload_n dX1_openPipes_11 rfl 0 rfl ?_
      refine v_getR fl_X1_9 tt_124 rfl dX1_openPipes_12 ?_
      refine v_iload_n dX1_openPipes_15 rfl 3 rfl ?_
      refine v_iconst (v := 0) dX1_openPipes_16 (by decide) ?_
      refine v_guard (fun h1 => ?_)
      refine v_iast tt_125 h1 dX1_openPipes_17 ?_
      refine v_iinc (v := (z3 + 1)) dX1_openPipes_18 (q := 3) rfl rfl (Nat.le_of_ble_eq_true rfl) rfl ?_
      refine v_goto (tgt := 2) dX1_openPipes_21 (by decide) ?_
      refine v_sub [1, 2, 3, 0] rfl ?_
      exact ih _ _
def f_X1_openPipes (k1 : Nat) (x2 : Int32) (w : XW) : Option (XW) := (f_X1_openPipes_2 k1 x2 1000 0 w)
set_option maxRecDepth 100000 in
theorem W_X1_openPipes {g : GC} (hl : g.1.stackTraces = false) {k1 : Nat} (hk1 : isX5 k1) {x2 : Int32} {w : XW} : VE g cX1_openPipes 4 RX1 none [] (rmL 5 0 0) 0 0 oV 0 0 0 [(0, .ref (g.2.1 + 124)), (1, .ref (g.2.1 + k1)), (2, .int x2)] [] w (f_X1_openPipes k1 x2 w) := by
  unfold f_X1_openPipes
  refine v_iconst (v := 0) dX1_openPipes_0 (by decide) ?_
  refine v_istore_n dX1_openPipes_1 rfl (Nat.le_of_ble_eq_true rfl) rfl ?_
  refine v_sub [1, 2, 3, 0] rfl ?_
  exact S_X1_openPipes_2 hl hk1  _ _ _
theorem S_X1_openPipes {g : GC} (hl : g.1.stackTraces = false) {k1 : Nat} (hk1 : isX5 k1) {x2 : Int32} {w : XW} : ∀ q, f_X1_openPipes k1 x2 w = some q → MM g (.code yX1_openPipes cX1_openPipes 4 none) yX1_openPipes (rmL 5 0 0) 0 0 [.ref (g.2.1 + 124), .ref (g.2.1 + k1), .int x2] w (oV q) := fun q hq => MM_of (own := RX1) hl (by decide) gw_643 rfl (Nat.le_of_ble_eq_true rfl) (W_X1_openPipes hl hk1 q hq) ⟨rfl, rfl⟩

theorem dX1_spareOf_0 : decode cX1_spareOf 0 = .ok (.iload_n 1, 1) := by decide +kernel
theorem dX1_spareOf_1 : decode cX1_spareOf 1 = .ok (.iload_n 2, 1) := by decide +kernel
theorem dX1_spareOf_2 : decode cX1_spareOf 2 = .ok (.invokestatic 55, 3) := by decide +kernel
theorem dX1_spareOf_5 : decode cX1_spareOf 5 = .ok (.ifCond .eq 17, 3) := by decide +kernel
theorem dX1_spareOf_8 : decode cX1_spareOf 8 = .ok (.aload_n 0, 1) := by decide +kernel
theorem dX1_spareOf_9 : decode cX1_spareOf 9 = .ok (.getfield 9, 3) := by decide +kernel
theorem dX1_spareOf_12 : decode cX1_spareOf 12 = .ok (.iload_n 1, 1) := by decide +kernel
theorem dX1_spareOf_13 : decode cX1_spareOf 13 = .ok (.bipush 7, 2) := by decide +kernel
theorem dX1_spareOf_15 : decode cX1_spareOf 15 = .ok (.imul, 1) := by decide +kernel
theorem dX1_spareOf_16 : decode cX1_spareOf 16 = .ok (.iload_n 2, 1) := by decide +kernel
theorem dX1_spareOf_17 : decode cX1_spareOf 17 = .ok (.iadd, 1) := by decide +kernel
theorem dX1_spareOf_18 : decode cX1_spareOf 18 = .ok (.iaload, 1) := by decide +kernel
theorem dX1_spareOf_19 : decode cX1_spareOf 19 = .ok (.goto 4, 3) := by decide +kernel
theorem dX1_spareOf_22 : decode cX1_spareOf 22 = .ok (.iconst 0, 1) := by decide +kernel
theorem dX1_spareOf_23 : decode cX1_spareOf 23 = .ok (.ireturn, 1) := by decide +kernel
def f_X1_spareOf (x1 : Int32) (x2 : Int32) (w : XW) : Option (Int32 × XW) := (bI (f_X1_inGrid x1 x2 w) (fun r1 w1 => (if r1 = 0 then (some (0, w1)) else (if inB ((x1 * 7) + x2) 49 then (some ((w1.1 125 (Int32.toNatClampNeg ((x1 * 7) + x2))), w1)) else none))))
set_option maxRecDepth 100000 in
theorem W_X1_spareOf {g : GC} (hl : g.1.stackTraces = false) {x1 : Int32} {x2 : Int32} {w : XW} : VE g cX1_spareOf 3 RX1 (some .int) [] (rmL 4 0 0) 0 0 oI 0 0 0 [(0, .ref (g.2.1 + 124)), (1, .int x1), (2, .int x2)] [] w (f_X1_spareOf x1 x2 w) := by
  unfold f_X1_spareOf
  refine v_iload_n dX1_spareOf_0 rfl 1 rfl ?_
  refine v_iload_n dX1_spareOf_1 rfl 2 rfl ?_
  refine v_callSi (As := [.int x1, .int x2]) cs_X1_55 (S_X1_inGrid hl) rfl rfl (Nat.le_of_ble_eq_true rfl) dX1_spareOf_2 (CR_rm (by decide) (by decide) (by decide) (by decide)) (fun r1 w1 => ?_)
  refine v_if_eq (tgt := 22) dX1_spareOf_5 (by decide) ?_ ?_
  · refine v_iconst (v := 0) dX1_spareOf_22 (by decide) ?_
    exact v_iret dX1_spareOf_23 rfl rfl (by decide) (by decide)
  · refine v_aload_n dX1_spareOf_8 rfl 0 rfl ?_
    refine v_getR fl_X1_9 tt_124 rfl dX1_spareOf_9 ?_
    refine v_iload_n dX1_spareOf_12 rfl 1 rfl ?_
    refine v_bipush (v := 7) dX1_spareOf_13 (by decide) ?_
    refine v_imul dX1_spareOf_15 ?_
    refine v_iload_n dX1_spareOf_16 rfl 2 rfl ?_
    refine v_iadd dX1_spareOf_17 ?_
    refine v_guard (fun h2 => ?_)
    refine v_iald tt_125 h2 dX1_spareOf_18 ?_
    refine v_goto (tgt := 23) dX1_spareOf_19 (by decide) ?_
    exact v_iret dX1_spareOf_23 rfl rfl (by decide) (by decide)
theorem S_X1_spareOf {g : GC} (hl : g.1.stackTraces = false) {x1 : Int32} {x2 : Int32} {w : XW} : ∀ q, f_X1_spareOf x1 x2 w = some q → MM g (.code yX1_spareOf cX1_spareOf 3 (some .int)) yX1_spareOf (rmL 4 0 0) 0 0 [.ref (g.2.1 + 124), .int x1, .int x2] w (oI q) := fun q hq => MM_of (own := RX1) hl (by decide) gw_668 rfl (Nat.le_of_ble_eq_true rfl) (W_X1_spareOf hl q hq) ⟨rfl, rfl⟩

theorem dX1_previousOf_0 : decode cX1_previousOf 0 = .ok (.iload_n 1, 1) := by decide +kernel
theorem dX1_previousOf_1 : decode cX1_previousOf 1 = .ok (.ifCond .lt 18, 3) := by decide +kernel
theorem dX1_previousOf_4 : decode cX1_previousOf 4 = .ok (.iload_n 1, 1) := by decide +kernel
theorem dX1_previousOf_5 : decode cX1_previousOf 5 = .ok (.bipush 7, 2) := by decide +kernel
theorem dX1_previousOf_7 : decode cX1_previousOf 7 = .ok (.if_icmp .ge 12, 3) := by decide +kernel
theorem dX1_previousOf_10 : decode cX1_previousOf 10 = .ok (.aload_n 0, 1) := by decide +kernel
theorem dX1_previousOf_11 : decode cX1_previousOf 11 = .ok (.getfield 15, 3) := by decide +kernel
theorem dX1_previousOf_14 : decode cX1_previousOf 14 = .ok (.iload_n 1, 1) := by decide +kernel
theorem dX1_previousOf_15 : decode cX1_previousOf 15 = .ok (.iaload, 1) := by decide +kernel
theorem dX1_previousOf_16 : decode cX1_previousOf 16 = .ok (.goto 4, 3) := by decide +kernel
theorem dX1_previousOf_19 : decode cX1_previousOf 19 = .ok (.iconst (-1), 1) := by decide +kernel
theorem dX1_previousOf_20 : decode cX1_previousOf 20 = .ok (.ireturn, 1) := by decide +kernel
def f_X1_previousOf (x1 : Int32) (w : XW) : Option (Int32 × XW) := (if x1 < 0 then (some ((-1), w)) else (if 7 ≤ x1 then (some ((-1), w)) else (if inB x1 7 then (some ((w.1 126 (Int32.toNatClampNeg x1)), w)) else none)))
set_option maxRecDepth 100000 in
theorem W_X1_previousOf {g : GC} (hl : g.1.stackTraces = false) {x1 : Int32} {w : XW} : VE g cX1_previousOf 2 RX1 (some .int) [] (rmL 3 0 0) 0 0 oI 0 0 0 [(0, .ref (g.2.1 + 124)), (1, .int x1)] [] w (f_X1_previousOf x1 w) := by
  unfold f_X1_previousOf
  refine v_iload_n dX1_previousOf_0 rfl 1 rfl ?_
  refine v_if_lt (tgt := 19) dX1_previousOf_1 (by decide) ?_ ?_
  · refine v_iconst (v := (-1)) dX1_previousOf_19 (by decide) ?_
    exact v_iret dX1_previousOf_20 rfl rfl (by decide) (by decide)
  · refine v_iload_n dX1_previousOf_4 rfl 1 rfl ?_
    refine v_bipush (v := 7) dX1_previousOf_5 (by decide) ?_
    refine v_icmp_ge (tgt := 19) dX1_previousOf_7 (by decide) ?_ ?_
    · refine v_iconst (v := (-1)) dX1_previousOf_19 (by decide) ?_
      exact v_iret dX1_previousOf_20 rfl rfl (by decide) (by decide)
    · refine v_aload_n dX1_previousOf_10 rfl 0 rfl ?_
      refine v_getR fl_X1_15 tt_124 rfl dX1_previousOf_11 ?_
      refine v_iload_n dX1_previousOf_14 rfl 1 rfl ?_
      refine v_guard (fun h1 => ?_)
      refine v_iald tt_126 h1 dX1_previousOf_15 ?_
      refine v_goto (tgt := 20) dX1_previousOf_16 (by decide) ?_
      exact v_iret dX1_previousOf_20 rfl rfl (by decide) (by decide)
theorem S_X1_previousOf {g : GC} (hl : g.1.stackTraces = false) {x1 : Int32} {w : XW} : ∀ q, f_X1_previousOf x1 w = some q → MM g (.code yX1_previousOf cX1_previousOf 2 (some .int)) yX1_previousOf (rmL 3 0 0) 0 0 [.ref (g.2.1 + 124), .int x1] w (oI q) := fun q hq => MM_of (own := RX1) hl (by decide) gw_672 rfl (Nat.le_of_ble_eq_true rfl) (W_X1_previousOf hl q hq) ⟨rfl, rfl⟩

theorem dX1_reachesLast_0 : decode cX1_reachesLast 0 = .ok (.iconst 0, 1) := by decide +kernel
theorem dX1_reachesLast_1 : decode cX1_reachesLast 1 = .ok (.istore_n 2, 1) := by decide +kernel
theorem dX1_reachesLast_2 : decode cX1_reachesLast 2 = .ok (.iload_n 2, 1) := by decide +kernel
theorem dX1_reachesLast_3 : decode cX1_reachesLast 3 = .ok (.bipush 7, 2) := by decide +kernel
theorem dX1_reachesLast_5 : decode cX1_reachesLast 5 = .ok (.if_icmp .ge 16, 3) := by decide +kernel
theorem dX1_reachesLast_8 : decode cX1_reachesLast 8 = .ok (.aload_n 0, 1) := by decide +kernel
theorem dX1_reachesLast_9 : decode cX1_reachesLast 9 = .ok (.getfield 15, 3) := by decide +kernel
theorem dX1_reachesLast_12 : decode cX1_reachesLast 12 = .ok (.iload_n 2, 1) := by decide +kernel
theorem dX1_reachesLast_13 : decode cX1_reachesLast 13 = .ok (.iconst (-1), 1) := by decide +kernel
theorem dX1_reachesLast_14 : decode cX1_reachesLast 14 = .ok (.iastore, 1) := by decide +kernel
theorem dX1_reachesLast_15 : decode cX1_reachesLast 15 = .ok (.iinc 2 1, 3) := by decide +kernel
theorem dX1_reachesLast_18 : decode cX1_reachesLast 18 = .ok (.goto (-16), 3) := by decide +kernel
theorem dX1_reachesLast_21 : decode cX1_reachesLast 21 = .ok (.aload_n 0, 1) := by decide +kernel
theorem dX1_reachesLast_22 : decode cX1_reachesLast 22 = .ok (.getfield 18, 3) := by decide +kernel
theorem dX1_reachesLast_25 : decode cX1_reachesLast 25 = .ok (.iconst 0, 1) := by decide +kernel
theorem dX1_reachesLast_26 : decode cX1_reachesLast 26 = .ok (.iconst 0, 1) := by decide +kernel
theorem dX1_reachesLast_27 : decode cX1_reachesLast 27 = .ok (.iastore, 1) := by decide +kernel
theorem dX1_reachesLast_28 : decode cX1_reachesLast 28 = .ok (.iconst 1, 1) := by decide +kernel
theorem dX1_reachesLast_29 : decode cX1_reachesLast 29 = .ok (.istore_n 2, 1) := by decide +kernel
theorem dX1_reachesLast_30 : decode cX1_reachesLast 30 = .ok (.iconst 0, 1) := by decide +kernel
theorem dX1_reachesLast_31 : decode cX1_reachesLast 31 = .ok (.istore_n 3, 1) := by decide +kernel
theorem dX1_reachesLast_32 : decode cX1_reachesLast 32 = .ok (.iload_n 3, 1) := by decide +kernel
theorem dX1_reachesLast_33 : decode cX1_reachesLast 33 = .ok (.iload_n 2, 1) := by decide +kernel
theorem dX1_reachesLast_34 : decode cX1_reachesLast 34 = .ok (.if_icmp .ge 93, 3) := by decide +kernel
theorem dX1_reachesLast_37 : decode cX1_reachesLast 37 = .ok (.iload_n 3, 1) := by decide +kernel
theorem dX1_reachesLast_38 : decode cX1_reachesLast 38 = .ok (.bipush 7, 2) := by decide +kernel
theorem dX1_reachesLast_40 : decode cX1_reachesLast 40 = .ok (.if_icmp .ge 87, 3) := by decide +kernel
theorem dX1_reachesLast_43 : decode cX1_reachesLast 43 = .ok (.aload_n 0, 1) := by decide +kernel
theorem dX1_reachesLast_44 : decode cX1_reachesLast 44 = .ok (.getfield 18, 3) := by decide +kernel
theorem dX1_reachesLast_47 : decode cX1_reachesLast 47 = .ok (.iload_n 3, 1) := by decide +kernel
theorem dX1_reachesLast_48 : decode cX1_reachesLast 48 = .ok (.iaload, 1) := by decide +kernel
theorem dX1_reachesLast_49 : decode cX1_reachesLast 49 = .ok (.istore 4, 2) := by decide +kernel
theorem dX1_reachesLast_51 : decode cX1_reachesLast 51 = .ok (.iconst 1, 1) := by decide +kernel
theorem dX1_reachesLast_52 : decode cX1_reachesLast 52 = .ok (.istore 5, 2) := by decide +kernel
theorem dX1_reachesLast_54 : decode cX1_reachesLast 54 = .ok (.iload 5, 2) := by decide +kernel
theorem dX1_reachesLast_56 : decode cX1_reachesLast 56 = .ok (.iload_n 1, 1) := by decide +kernel
theorem dX1_reachesLast_57 : decode cX1_reachesLast 57 = .ok (.if_icmp .ge 64, 3) := by decide +kernel
theorem dX1_reachesLast_60 : decode cX1_reachesLast 60 = .ok (.iload 5, 2) := by decide +kernel
theorem dX1_reachesLast_62 : decode cX1_reachesLast 62 = .ok (.bipush 7, 2) := by decide +kernel
theorem dX1_reachesLast_64 : decode cX1_reachesLast 64 = .ok (.if_icmp .ge 57, 3) := by decide +kernel
theorem dX1_reachesLast_67 : decode cX1_reachesLast 67 = .ok (.aload_n 0, 1) := by decide +kernel
theorem dX1_reachesLast_68 : decode cX1_reachesLast 68 = .ok (.getfield 15, 3) := by decide +kernel
theorem dX1_reachesLast_71 : decode cX1_reachesLast 71 = .ok (.iload 5, 2) := by decide +kernel
theorem dX1_reachesLast_73 : decode cX1_reachesLast 73 = .ok (.iaload, 1) := by decide +kernel
theorem dX1_reachesLast_74 : decode cX1_reachesLast 74 = .ok (.iconst (-1), 1) := by decide +kernel
theorem dX1_reachesLast_75 : decode cX1_reachesLast 75 = .ok (.if_icmp .ne 40, 3) := by decide +kernel
theorem dX1_reachesLast_78 : decode cX1_reachesLast 78 = .ok (.aload_n 0, 1) := by decide +kernel
theorem dX1_reachesLast_79 : decode cX1_reachesLast 79 = .ok (.iload 4, 2) := by decide +kernel
theorem dX1_reachesLast_81 : decode cX1_reachesLast 81 = .ok (.iload 5, 2) := by decide +kernel
theorem dX1_reachesLast_83 : decode cX1_reachesLast 83 = .ok (.invokevirtual 59, 3) := by decide +kernel
theorem dX1_reachesLast_86 : decode cX1_reachesLast 86 = .ok (.ifCond .le 29, 3) := by decide +kernel
theorem dX1_reachesLast_89 : decode cX1_reachesLast 89 = .ok (.iload_n 2, 1) := by decide +kernel
theorem dX1_reachesLast_90 : decode cX1_reachesLast 90 = .ok (.bipush 7, 2) := by decide +kernel
theorem dX1_reachesLast_92 : decode cX1_reachesLast 92 = .ok (.if_icmp .ge 23, 3) := by decide +kernel
theorem dX1_reachesLast_95 : decode cX1_reachesLast 95 = .ok (.aload_n 0, 1) := by decide +kernel
theorem dX1_reachesLast_96 : decode cX1_reachesLast 96 = .ok (.getfield 15, 3) := by decide +kernel
theorem dX1_reachesLast_99 : decode cX1_reachesLast 99 = .ok (.iload 5, 2) := by decide +kernel
theorem dX1_reachesLast_101 : decode cX1_reachesLast 101 = .ok (.iload 4, 2) := by decide +kernel
theorem dX1_reachesLast_103 : decode cX1_reachesLast 103 = .ok (.iastore, 1) := by decide +kernel
theorem dX1_reachesLast_104 : decode cX1_reachesLast 104 = .ok (.aload_n 0, 1) := by decide +kernel
theorem dX1_reachesLast_105 : decode cX1_reachesLast 105 = .ok (.getfield 18, 3) := by decide +kernel
theorem dX1_reachesLast_108 : decode cX1_reachesLast 108 = .ok (.iload_n 2, 1) := by decide +kernel
theorem dX1_reachesLast_109 : decode cX1_reachesLast 109 = .ok (.iload 5, 2) := by decide +kernel
theorem dX1_reachesLast_111 : decode cX1_reachesLast 111 = .ok (.iastore, 1) := by decide +kernel
theorem dX1_reachesLast_112 : decode cX1_reachesLast 112 = .ok (.iinc 2 1, 3) := by decide +kernel
theorem dX1_reachesLast_115 : decode cX1_reachesLast 115 = .ok (.iinc 5 1, 3) := by decide +kernel
theorem dX1_reachesLast_118 : decode cX1_reachesLast 118 = .ok (.goto (-64), 3) := by decide +kernel
theorem dX1_reachesLast_121 : decode cX1_reachesLast 121 = .ok (.iinc 3 1, 3) := by decide +kernel
theorem dX1_reachesLast_124 : decode cX1_reachesLast 124 = .ok (.goto (-92), 3) := by decide +kernel
theorem dX1_reachesLast_127 : decode cX1_reachesLast 127 = .ok (.aload_n 0, 1) := by decide +kernel
theorem dX1_reachesLast_128 : decode cX1_reachesLast 128 = .ok (.iload_n 1, 1) := by decide +kernel
theorem dX1_reachesLast_129 : decode cX1_reachesLast 129 = .ok (.iconst 1, 1) := by decide +kernel
theorem dX1_reachesLast_130 : decode cX1_reachesLast 130 = .ok (.isub, 1) := by decide +kernel
theorem dX1_reachesLast_131 : decode cX1_reachesLast 131 = .ok (.invokevirtual 63, 3) := by decide +kernel
theorem dX1_reachesLast_134 : decode cX1_reachesLast 134 = .ok (.iconst (-1), 1) := by decide +kernel
theorem dX1_reachesLast_135 : decode cX1_reachesLast 135 = .ok (.if_icmp .eq 7, 3) := by decide +kernel
theorem dX1_reachesLast_138 : decode cX1_reachesLast 138 = .ok (.iconst 1, 1) := by decide +kernel
theorem dX1_reachesLast_139 : decode cX1_reachesLast 139 = .ok (.goto 4, 3) := by decide +kernel
theorem dX1_reachesLast_142 : decode cX1_reachesLast 142 = .ok (.iconst 0, 1) := by decide +kernel
theorem dX1_reachesLast_143 : decode cX1_reachesLast 143 = .ok (.ireturn, 1) := by decide +kernel
def f_X1_reachesLast_54 (K32 : Int32 → Int32 → XW → Option (Int32 × XW)) (y1 : Int32) (y3 : Int32) (y4 : Int32) : Nat → Int32 → Int32 → XW → Option (Int32 × XW)
  | 0, _, _, _ => none
  | n + 1, z2, z5, w => (if y1 ≤ z5 then (K32 z2 (y3 + 1) w) else (if 7 ≤ z5 then (K32 z2 (y3 + 1) w) else (if inB z5 7 then (if (w.1 126 (Int32.toNatClampNeg z5)) = (-1) then (bI (f_X1_spareOf y4 z5 w) (fun r6 w6 => (if r6 ≤ 0 then (f_X1_reachesLast_54 K32 y1 y3 y4 n z2 (z5 + 1) w6) else (if 7 ≤ z2 then (f_X1_reachesLast_54 K32 y1 y3 y4 n z2 (z5 + 1) w6) else (if inB z5 7 then (if inB z2 7 then (f_X1_reachesLast_54 K32 y1 y3 y4 n (z2 + 1) (z5 + 1) (wset (wset w6 126 (Int32.toNatClampNeg z5) y4) 127 (Int32.toNatClampNeg z2) z5)) else none) else none))))) else (f_X1_reachesLast_54 K32 y1 y3 y4 n z2 (z5 + 1) w)) else none)))
set_option maxRecDepth 100000 in
theorem S_X1_reachesLast_54 {g : GC} (hl : g.1.stackTraces = false) {y1 : Int32} {y3 : Int32} {y4 : Int32} {K32 : Int32 → Int32 → XW → Option (Int32 × XW)} (hK32 : ∀ (z2 : Int32) (z3 : Int32) (w : XW), VE g cX1_reachesLast 6 RX1 (some .boolean) [] (rmL 5 0 0) 0 0 oI 0 0 32 [(0, .ref (g.2.1 + 124)), (1, .int y1), (2, .int z2), (3, .int z3)] [] w (K32 z2 z3 w)) : ∀ (n : Nat) (z2 : Int32) (z5 : Int32) (w : XW), VE g cX1_reachesLast 6 RX1 (some .boolean) [] (rmL 5 0 0) 0 0 oI 0 0 54 [(0, .ref (g.2.1 + 124)), (1, .int y1), (2, .int z2), (3, .int y3), (4, .int y4), (5, .int z5)] [] w (f_X1_reachesLast_54 K32 y1 y3 y4 n z2 z5 w) := by
  intro n
  induction n with
  | zero => intro z2 z5 w; exact v_none
  | succ n ih =>
    intro z2 z5 w
    rw [f_X1_reachesLast_54]
    refine v_iload dX1_reachesLast_54 5 rfl ?_
    refine v_iload_n dX1_reachesLast_56 rfl 1 rfl ?_
    refine v_icmp_ge (tgt := 121) dX1_reachesLast_57 (by decide) ?_ ?_
    · refine v_iinc (v := (y3 + 1)) dX1_reachesLast_121 (q := 3) rfl rfl (Nat.le_of_ble_eq_true rfl) rfl ?_
      refine v_goto (tgt := 32) dX1_reachesLast_124 (by decide) ?_
      refine v_sub [1, 2, 3, 0] rfl ?_
      exact hK32 _ _ _
    · refine v_iload dX1_reachesLast_60 5 rfl ?_
      refine v_bipush (v := 7) dX1_reachesLast_62 (by decide) ?_
      refine v_icmp_ge (tgt := 121) dX1_reachesLast_64 (by decide) ?_ ?_
      · refine v_iinc (v := (y3 + 1)) dX1_reachesLast_121 (q := 3) rfl rfl (Nat.le_of_ble_eq_true rfl) rfl ?_
        refine v_goto (tgt := 32) dX1_reachesLast_124 (by decide) ?_
        refine v_sub [1, 2, 3, 0] rfl ?_
        exact hK32 _ _ _
      · refine v_aload_n dX1_reachesLast_67 rfl 0 rfl ?_
        refine v_getR fl_X1_15 tt_124 rfl dX1_reachesLast_68 ?_
        refine v_iload dX1_reachesLast_71 5 rfl ?_
        refine v_guard (fun h5 => ?_)
        refine v_iald tt_126 h5 dX1_reachesLast_73 ?_
        refine v_iconst (v := (-1)) dX1_reachesLast_74 (by decide) ?_
        refine v_icmp_ne (tgt := 115) dX1_reachesLast_75 (by decide) ?_ ?_
        · refine v_iinc (v := (z5 + 1)) dX1_reachesLast_115 (q := 5) rfl rfl (Nat.le_of_ble_eq_true rfl) rfl ?_
          refine v_goto (tgt := 54) dX1_reachesLast_118 (by decide) ?_
          refine v_sub [1, 2, 3, 4, 5, 0] rfl ?_
          exact ih _ _ _
        · refine v_aload_n dX1_reachesLast_78 rfl 0 rfl ?_
          refine v_iload dX1_reachesLast_79 4 rfl ?_
          refine v_iload dX1_reachesLast_81 5 rfl ?_
          refine v_callVi (As := [.int y4, .int z5]) cv_X1_59 (S_X1_spareOf hl) tt_124 rfl rfl rfl (Nat.le_of_ble_eq_true rfl) dX1_reachesLast_83 (CR_rm (by decide) (by decide) (by decide) (by decide)) (fun r6 w6 => ?_)
          refine v_if_le (tgt := 115) dX1_reachesLast_86 (by decide) ?_ ?_
          · refine v_iinc (v := (z5 + 1)) dX1_reachesLast_115 (q := 5) rfl rfl (Nat.le_of_ble_eq_true rfl) rfl ?_
            refine v_goto (tgt := 54) dX1_reachesLast_118 (by decide) ?_
            refine v_sub [1, 2, 3, 4, 5, 0] rfl ?_
            exact ih _ _ _
          · refine v_iload_n dX1_reachesLast_89 rfl 2 rfl ?_
            refine v_bipush (v := 7) dX1_reachesLast_90 (by decide) ?_
            refine v_icmp_ge (tgt := 115) dX1_reachesLast_92 (by decide) ?_ ?_
            · refine v_iinc (v := (z5 + 1)) dX1_reachesLast_115 (q := 5) rfl rfl (Nat.le_of_ble_eq_true rfl) rfl ?_
              refine v_goto (tgt := 54) dX1_reachesLast_118 (by decide) ?_
              refine v_sub [1, 2, 3, 4, 5, 0] rfl ?_
              exact ih _ _ _
            · refine v_aload_n dX1_reachesLast_95 rfl 0 rfl ?_
              refine v_getR fl_X1_15 tt_124 rfl dX1_reachesLast_96 ?_
              refine v_iload dX1_reachesLast_99 5 rfl ?_
              refine v_iload dX1_reachesLast_101 4 rfl ?_
              refine v_guard (fun h7 => ?_)
              refine v_iast tt_126 h7 dX1_reachesLast_103 ?_
              refine v_aload_n dX1_reachesLast_104 rfl 0 rfl ?_
              refine v_getR fl_X1_18 tt_124 rfl dX1_reachesLast_105 ?_
              refine v_iload_n dX1_reachesLast_108 rfl 2 rfl ?_
              refine v_iload dX1_reachesLast_109 5 rfl ?_
              refine v_guard (fun h8 => ?_)
              refine v_iast tt_127 h8 dX1_reachesLast_111 ?_
              refine v_iinc (v := (z2 + 1)) dX1_reachesLast_112 (q := 2) rfl rfl (Nat.le_of_ble_eq_true rfl) rfl ?_
              refine v_iinc (v := (z5 + 1)) dX1_reachesLast_115 (q := 5) rfl rfl (Nat.le_of_ble_eq_true rfl) rfl ?_
              refine v_goto (tgt := 54) dX1_reachesLast_118 (by decide) ?_
              refine v_sub [2, 3, 1, 4, 5, 0] rfl ?_
              exact ih _ _ _
def f_X1_reachesLast_32 (y1 : Int32) : Nat → Int32 → Int32 → XW → Option (Int32 × XW)
  | 0, _, _, _ => none
  | n + 1, z2, z3, w => (if z2 ≤ z3 then (bI (f_X1_previousOf (y1 - 1) w) (fun r2 w2 => (if r2 = (-1) then (some (0, w2)) else (some (1, w2))))) else (if 7 ≤ z3 then (bI (f_X1_previousOf (y1 - 1) w) (fun r3 w3 => (if r3 = (-1) then (some (0, w3)) else (some (1, w3))))) else (if inB z3 7 then (f_X1_reachesLast_54 (fun a0 a1 w9 => f_X1_reachesLast_32 y1 n a0 a1 w9) y1 z3 (w.1 127 (Int32.toNatClampNeg z3)) 1000 z2 1 w) else none)))
set_option maxRecDepth 100000 in
theorem S_X1_reachesLast_32 {g : GC} (hl : g.1.stackTraces = false) {y1 : Int32} : ∀ (n : Nat) (z2 : Int32) (z3 : Int32) (w : XW), VE g cX1_reachesLast 6 RX1 (some .boolean) [] (rmL 5 0 0) 0 0 oI 0 0 32 [(0, .ref (g.2.1 + 124)), (1, .int y1), (2, .int z2), (3, .int z3)] [] w (f_X1_reachesLast_32 y1 n z2 z3 w) := by
  intro n
  induction n with
  | zero => intro z2 z3 w; exact v_none
  | succ n ih =>
    intro z2 z3 w
    rw [f_X1_reachesLast_32]
    refine v_iload_n dX1_reachesLast_32 rfl 3 rfl ?_
    refine v_iload_n dX1_reachesLast_33 rfl 2 rfl ?_
    refine v_icmp_ge (tgt := 127) dX1_reachesLast_34 (by decide) ?_ ?_
    · refine v_aload_n dX1_reachesLast_127 rfl 0 rfl ?_
      refine v_iload_n dX1_reachesLast_128 rfl 1 rfl ?_
      refine v_iconst (v := 1) dX1_reachesLast_129 (by decide) ?_
      refine v_isub dX1_reachesLast_130 ?_
      refine v_callVi (As := [.int (y1 - 1)]) cv_X1_63 (S_X1_previousOf hl) tt_124 rfl rfl rfl (Nat.le_of_ble_eq_true rfl) dX1_reachesLast_131 (CR_rm (by decide) (by decide) (by decide) (by decide)) (fun r2 w2 => ?_)
      refine v_iconst (v := (-1)) dX1_reachesLast_134 (by decide) ?_
      refine v_icmp_eq (tgt := 142) dX1_reachesLast_135 (by decide) ?_ ?_
      · refine v_iconst (v := 0) dX1_reachesLast_142 (by decide) ?_
        exact v_zret dX1_reachesLast_143 rfl rfl rfl (by decide) (by decide)
      · refine v_iconst (v := 1) dX1_reachesLast_138 (by decide) ?_
        refine v_goto (tgt := 143) dX1_reachesLast_139 (by decide) ?_
        exact v_zret dX1_reachesLast_143 rfl rfl rfl (by decide) (by decide)
    · refine v_iload_n dX1_reachesLast_37 rfl 3 rfl ?_
      refine v_bipush (v := 7) dX1_reachesLast_38 (by decide) ?_
      refine v_icmp_ge (tgt := 127) dX1_reachesLast_40 (by decide) ?_ ?_
      · refine v_aload_n dX1_reachesLast_127 rfl 0 rfl ?_
        refine v_iload_n dX1_reachesLast_128 rfl 1 rfl ?_
        refine v_iconst (v := 1) dX1_reachesLast_129 (by decide) ?_
        refine v_isub dX1_reachesLast_130 ?_
        refine v_callVi (As := [.int (y1 - 1)]) cv_X1_63 (S_X1_previousOf hl) tt_124 rfl rfl rfl (Nat.le_of_ble_eq_true rfl) dX1_reachesLast_131 (CR_rm (by decide) (by decide) (by decide) (by decide)) (fun r3 w3 => ?_)
        refine v_iconst (v := (-1)) dX1_reachesLast_134 (by decide) ?_
        refine v_icmp_eq (tgt := 142) dX1_reachesLast_135 (by decide) ?_ ?_
        · refine v_iconst (v := 0) dX1_reachesLast_142 (by decide) ?_
          exact v_zret dX1_reachesLast_143 rfl rfl rfl (by decide) (by decide)
        · refine v_iconst (v := 1) dX1_reachesLast_138 (by decide) ?_
          refine v_goto (tgt := 143) dX1_reachesLast_139 (by decide) ?_
          exact v_zret dX1_reachesLast_143 rfl rfl rfl (by decide) (by decide)
      · refine v_aload_n dX1_reachesLast_43 rfl 0 rfl ?_
        refine v_getR fl_X1_18 tt_124 rfl dX1_reachesLast_44 ?_
        refine v_iload_n dX1_reachesLast_47 rfl 3 rfl ?_
        refine v_guard (fun h4 => ?_)
        refine v_iald tt_127 h4 dX1_reachesLast_48 ?_
        refine v_istore dX1_reachesLast_49 (Nat.le_of_ble_eq_true rfl) rfl ?_
        refine v_iconst (v := 1) dX1_reachesLast_51 (by decide) ?_
        refine v_istore dX1_reachesLast_52 (Nat.le_of_ble_eq_true rfl) rfl ?_
        refine v_sub [2, 3, 4, 5, 1, 0] rfl ?_
        exact S_X1_reachesLast_54 hl (fun a0 a1 a2 => ih a0 a1 a2) _ _ _ _
def f_X1_reachesLast_2 (y1 : Int32) : Nat → Int32 → XW → Option (Int32 × XW)
  | 0, _, _ => none
  | n + 1, z2, w => (if 7 ≤ z2 then (f_X1_reachesLast_32 y1 1000 1 0 (wset w 127 (Int32.toNatClampNeg 0) 0)) else (if inB z2 7 then (f_X1_reachesLast_2 y1 n (z2 + 1) (wset w 126 (Int32.toNatClampNeg z2) (-1))) else none))
set_option maxRecDepth 100000 in
theorem S_X1_reachesLast_2 {g : GC} (hl : g.1.stackTraces = false) {y1 : Int32} : ∀ (n : Nat) (z2 : Int32) (w : XW), VE g cX1_reachesLast 6 RX1 (some .boolean) [] (rmL 5 0 0) 0 0 oI 0 0 2 [(0, .ref (g.2.1 + 124)), (1, .int y1), (2, .int z2)] [] w (f_X1_reachesLast_2 y1 n z2 w) := by
  intro n
  induction n with
  | zero => intro z2 w; exact v_none
  | succ n ih =>
    intro z2 w
    rw [f_X1_reachesLast_2]
    refine v_iload_n dX1_reachesLast_2 rfl 2 rfl ?_
    refine v_bipush (v := 7) dX1_reachesLast_3 (by decide) ?_
    refine v_icmp_ge (tgt := 21) dX1_reachesLast_5 (by decide) ?_ ?_
    · refine v_aload_n dX1_reachesLast_21 rfl 0 rfl ?_
      refine v_getR fl_X1_18 tt_124 rfl dX1_reachesLast_22 ?_
      refine v_iconst (v := 0) dX1_reachesLast_25 (by decide) ?_
      refine v_iconst (v := 0) dX1_reachesLast_26 (by decide) ?_
      refine v_iast tt_127 (by decide : inB 0 7) dX1_reachesLast_27 ?_
      refine v_iconst (v := 1) dX1_reachesLast_28 (by decide) ?_
      refine v_istore_n dX1_reachesLast_29 rfl (Nat.le_of_ble_eq_true rfl) rfl ?_
      refine v_iconst (v := 0) dX1_reachesLast_30 (by decide) ?_
      refine v_istore_n dX1_reachesLast_31 rfl (Nat.le_of_ble_eq_true rfl) rfl ?_
      refine v_sub [2, 3, 1, 0] rfl ?_
      exact S_X1_reachesLast_32 hl  _ _ _ _
    · refine v_aload_n dX1_reachesLast_8 rfl 0 rfl ?_
      refine v_getR fl_X1_15 tt_124 rfl dX1_reachesLast_9 ?_
      refine v_iload_n dX1_reachesLast_12 rfl 2 rfl ?_
      refine v_iconst (v := (-1)) dX1_reachesLast_13 (by decide) ?_
      refine v_guard (fun h1 => ?_)
      refine v_iast tt_126 h1 dX1_reachesLast_14 ?_
      refine v_iinc (v := (z2 + 1)) dX1_reachesLast_15 (q := 2) rfl rfl (Nat.le_of_ble_eq_true rfl) rfl ?_
      refine v_goto (tgt := 2) dX1_reachesLast_18 (by decide) ?_
      refine v_sub [1, 2, 0] rfl ?_
      exact ih _ _
def f_X1_reachesLast (x1 : Int32) (w : XW) : Option (Int32 × XW) := (f_X1_reachesLast_2 x1 1000 0 w)
set_option maxRecDepth 100000 in
theorem W_X1_reachesLast {g : GC} (hl : g.1.stackTraces = false) {x1 : Int32} {w : XW} : VE g cX1_reachesLast 6 RX1 (some .boolean) [] (rmL 5 0 0) 0 0 oI 0 0 0 [(0, .ref (g.2.1 + 124)), (1, .int x1)] [] w (f_X1_reachesLast x1 w) := by
  unfold f_X1_reachesLast
  refine v_iconst (v := 0) dX1_reachesLast_0 (by decide) ?_
  refine v_istore_n dX1_reachesLast_1 rfl (Nat.le_of_ble_eq_true rfl) rfl ?_
  refine v_sub [1, 2, 0] rfl ?_
  exact S_X1_reachesLast_2 hl  _ _ _
theorem S_X1_reachesLast {g : GC} (hl : g.1.stackTraces = false) {x1 : Int32} {w : XW} : ∀ q, f_X1_reachesLast x1 w = some q → MM g (.code yX1_reachesLast cX1_reachesLast 6 (some .boolean)) yX1_reachesLast (rmL 5 0 0) 0 0 [.ref (g.2.1 + 124), .int x1] w (oI q) := fun q hq => MM_of (own := RX1) hl (by decide) gw_664 rfl (Nat.le_of_ble_eq_true rfl) (W_X1_reachesLast hl q hq) ⟨rfl, rfl⟩

theorem dX1_augment_0 : decode cX1_augment 0 = .ok (.sipush 200, 3) := by decide +kernel
theorem dX1_augment_3 : decode cX1_augment 3 = .ok (.istore_n 2, 1) := by decide +kernel
theorem dX1_augment_4 : decode cX1_augment 4 = .ok (.iload_n 1, 1) := by decide +kernel
theorem dX1_augment_5 : decode cX1_augment 5 = .ok (.istore_n 3, 1) := by decide +kernel
theorem dX1_augment_6 : decode cX1_augment 6 = .ok (.iconst 0, 1) := by decide +kernel
theorem dX1_augment_7 : decode cX1_augment 7 = .ok (.istore 4, 2) := by decide +kernel
theorem dX1_augment_9 : decode cX1_augment 9 = .ok (.iload 4, 2) := by decide +kernel
theorem dX1_augment_11 : decode cX1_augment 11 = .ok (.bipush 7, 2) := by decide +kernel
theorem dX1_augment_13 : decode cX1_augment 13 = .ok (.if_icmp .ge 35, 3) := by decide +kernel
theorem dX1_augment_16 : decode cX1_augment 16 = .ok (.iload_n 3, 1) := by decide +kernel
theorem dX1_augment_17 : decode cX1_augment 17 = .ok (.ifCond .le 31, 3) := by decide +kernel
theorem dX1_augment_20 : decode cX1_augment 20 = .ok (.aload_n 0, 1) := by decide +kernel
theorem dX1_augment_21 : decode cX1_augment 21 = .ok (.iload_n 3, 1) := by decide +kernel
theorem dX1_augment_22 : decode cX1_augment 22 = .ok (.invokevirtual 63, 3) := by decide +kernel
theorem dX1_augment_25 : decode cX1_augment 25 = .ok (.istore 5, 2) := by decide +kernel
theorem dX1_augment_27 : decode cX1_augment 27 = .ok (.iload_n 2, 1) := by decide +kernel
theorem dX1_augment_28 : decode cX1_augment 28 = .ok (.aload_n 0, 1) := by decide +kernel
theorem dX1_augment_29 : decode cX1_augment 29 = .ok (.iload 5, 2) := by decide +kernel
theorem dX1_augment_31 : decode cX1_augment 31 = .ok (.iload_n 3, 1) := by decide +kernel
theorem dX1_augment_32 : decode cX1_augment 32 = .ok (.invokevirtual 59, 3) := by decide +kernel
theorem dX1_augment_35 : decode cX1_augment 35 = .ok (.invokestatic 66, 3) := by decide +kernel
theorem dX1_augment_38 : decode cX1_augment 38 = .ok (.istore_n 2, 1) := by decide +kernel
theorem dX1_augment_39 : decode cX1_augment 39 = .ok (.iload 5, 2) := by decide +kernel
theorem dX1_augment_41 : decode cX1_augment 41 = .ok (.istore_n 3, 1) := by decide +kernel
theorem dX1_augment_42 : decode cX1_augment 42 = .ok (.iinc 4 1, 3) := by decide +kernel
theorem dX1_augment_45 : decode cX1_augment 45 = .ok (.goto (-36), 3) := by decide +kernel
theorem dX1_augment_48 : decode cX1_augment 48 = .ok (.iload_n 1, 1) := by decide +kernel
theorem dX1_augment_49 : decode cX1_augment 49 = .ok (.istore_n 3, 1) := by decide +kernel
theorem dX1_augment_50 : decode cX1_augment 50 = .ok (.iconst 0, 1) := by decide +kernel
theorem dX1_augment_51 : decode cX1_augment 51 = .ok (.istore 4, 2) := by decide +kernel
theorem dX1_augment_53 : decode cX1_augment 53 = .ok (.iload 4, 2) := by decide +kernel
theorem dX1_augment_55 : decode cX1_augment 55 = .ok (.bipush 7, 2) := by decide +kernel
theorem dX1_augment_57 : decode cX1_augment 57 = .ok (.if_icmp .ge 40, 3) := by decide +kernel
theorem dX1_augment_60 : decode cX1_augment 60 = .ok (.iload_n 3, 1) := by decide +kernel
theorem dX1_augment_61 : decode cX1_augment 61 = .ok (.ifCond .le 36, 3) := by decide +kernel
theorem dX1_augment_64 : decode cX1_augment 64 = .ok (.aload_n 0, 1) := by decide +kernel
theorem dX1_augment_65 : decode cX1_augment 65 = .ok (.iload_n 3, 1) := by decide +kernel
theorem dX1_augment_66 : decode cX1_augment 66 = .ok (.invokevirtual 63, 3) := by decide +kernel
theorem dX1_augment_69 : decode cX1_augment 69 = .ok (.istore 5, 2) := by decide +kernel
theorem dX1_augment_71 : decode cX1_augment 71 = .ok (.aload_n 0, 1) := by decide +kernel
theorem dX1_augment_72 : decode cX1_augment 72 = .ok (.iload 5, 2) := by decide +kernel
theorem dX1_augment_74 : decode cX1_augment 74 = .ok (.iload_n 3, 1) := by decide +kernel
theorem dX1_augment_75 : decode cX1_augment 75 = .ok (.iload_n 2, 1) := by decide +kernel
theorem dX1_augment_76 : decode cX1_augment 76 = .ok (.ineg, 1) := by decide +kernel
theorem dX1_augment_77 : decode cX1_augment 77 = .ok (.invokevirtual 51, 3) := by decide +kernel
theorem dX1_augment_80 : decode cX1_augment 80 = .ok (.aload_n 0, 1) := by decide +kernel
theorem dX1_augment_81 : decode cX1_augment 81 = .ok (.iload_n 3, 1) := by decide +kernel
theorem dX1_augment_82 : decode cX1_augment 82 = .ok (.iload 5, 2) := by decide +kernel
theorem dX1_augment_84 : decode cX1_augment 84 = .ok (.iload_n 2, 1) := by decide +kernel
theorem dX1_augment_85 : decode cX1_augment 85 = .ok (.invokevirtual 51, 3) := by decide +kernel
theorem dX1_augment_88 : decode cX1_augment 88 = .ok (.iload 5, 2) := by decide +kernel
theorem dX1_augment_90 : decode cX1_augment 90 = .ok (.istore_n 3, 1) := by decide +kernel
theorem dX1_augment_91 : decode cX1_augment 91 = .ok (.iinc 4 1, 3) := by decide +kernel
theorem dX1_augment_94 : decode cX1_augment 94 = .ok (.goto (-41), 3) := by decide +kernel
theorem dX1_augment_97 : decode cX1_augment 97 = .ok (.iload_n 2, 1) := by decide +kernel
theorem dX1_augment_98 : decode cX1_augment 98 = .ok (.ireturn, 1) := by decide +kernel
def f_X1_augment_53 (y2 : Int32) : Nat → Int32 → Int32 → XW → Option (Int32 × XW)
  | 0, _, _, _ => none
  | n + 1, z3, z4, w => (if 7 ≤ z4 then (some (y2, w)) else (if z3 ≤ 0 then (some (y2, w)) else (bI (f_X1_previousOf z3 w) (fun r3 w3 => (bV (f_X1_addSpare r3 z3 (-y2) w3) (fun w4 => (bV (f_X1_addSpare z3 r3 y2 w4) (fun w5 => (f_X1_augment_53 y2 n r3 (z4 + 1) w5)))))))))
set_option maxRecDepth 100000 in
theorem S_X1_augment_53 {g : GC} (hl : g.1.stackTraces = false) {y2 : Int32} : ∀ (n : Nat) (z3 : Int32) (z4 : Int32) (w : XW), VE g cX1_augment 6 RX1 (some .int) [] (rmL 5 0 0) 0 0 oI 0 0 53 [(0, .ref (g.2.1 + 124)), (2, .int y2), (3, .int z3), (4, .int z4)] [] w (f_X1_augment_53 y2 n z3 z4 w) := by
  intro n
  induction n with
  | zero => intro z3 z4 w; exact v_none
  | succ n ih =>
    intro z3 z4 w
    rw [f_X1_augment_53]
    refine v_iload dX1_augment_53 3 rfl ?_
    refine v_bipush (v := 7) dX1_augment_55 (by decide) ?_
    refine v_icmp_ge (tgt := 97) dX1_augment_57 (by decide) ?_ ?_
    · refine v_iload_n dX1_augment_97 rfl 1 rfl ?_
      exact v_iret dX1_augment_98 rfl rfl (by decide) (by decide)
    · refine v_iload_n dX1_augment_60 rfl 2 rfl ?_
      refine v_if_le (tgt := 97) dX1_augment_61 (by decide) ?_ ?_
      · refine v_iload_n dX1_augment_97 rfl 1 rfl ?_
        exact v_iret dX1_augment_98 rfl rfl (by decide) (by decide)
      · refine v_aload_n dX1_augment_64 rfl 0 rfl ?_
        refine v_iload_n dX1_augment_65 rfl 2 rfl ?_
        refine v_callVi (As := [.int z3]) cv_X1_63 (S_X1_previousOf hl) tt_124 rfl rfl rfl (Nat.le_of_ble_eq_true rfl) dX1_augment_66 (CR_rm (by decide) (by decide) (by decide) (by decide)) (fun r3 w3 => ?_)
        refine v_istore dX1_augment_69 (Nat.le_of_ble_eq_true rfl) rfl ?_
        refine v_aload_n dX1_augment_71 rfl 1 rfl ?_
        refine v_iload dX1_augment_72 0 rfl ?_
        refine v_iload_n dX1_augment_74 rfl 3 rfl ?_
        refine v_iload_n dX1_augment_75 rfl 2 rfl ?_
        refine v_ineg dX1_augment_76 ?_
        refine v_callVv (As := [.int r3, .int z3, .int (-y2)]) cv_X1_51 (S_X1_addSpare hl) tt_124 rfl rfl rfl (Nat.le_of_ble_eq_true rfl) dX1_augment_77 (CR_rm (by decide) (by decide) (by decide) (by decide)) (fun w4 => ?_)
        refine v_aload_n dX1_augment_80 rfl 1 rfl ?_
        refine v_iload_n dX1_augment_81 rfl 3 rfl ?_
        refine v_iload dX1_augment_82 0 rfl ?_
        refine v_iload_n dX1_augment_84 rfl 2 rfl ?_
        refine v_callVv (As := [.int z3, .int r3, .int y2]) cv_X1_51 (S_X1_addSpare hl) tt_124 rfl rfl rfl (Nat.le_of_ble_eq_true rfl) dX1_augment_85 (CR_rm (by decide) (by decide) (by decide) (by decide)) (fun w5 => ?_)
        refine v_iload dX1_augment_88 0 rfl ?_
        refine v_istore_n dX1_augment_90 rfl (Nat.le_of_ble_eq_true rfl) rfl ?_
        refine v_iinc (v := (z4 + 1)) dX1_augment_91 (q := 4) rfl rfl (Nat.le_of_ble_eq_true rfl) rfl ?_
        refine v_goto (tgt := 53) dX1_augment_94 (by decide) ?_
        refine v_sub [3, 4, 1, 0] rfl ?_
        exact ih _ _ _
def f_X1_augment_9 (y1 : Int32) : Nat → Int32 → Int32 → Int32 → XW → Option (Int32 × XW)
  | 0, _, _, _, _ => none
  | n + 1, z2, z3, z4, w => (if 7 ≤ z4 then (f_X1_augment_53 z2 1000 y1 0 w) else (if z3 ≤ 0 then (f_X1_augment_53 z2 1000 y1 0 w) else (bI (f_X1_previousOf z3 w) (fun r1 w1 => (bI (f_X1_spareOf r1 z3 w1) (fun r2 w2 => (f_X1_augment_9 y1 n (if r2 < z2 then r2 else z2) r1 (z4 + 1) w2)))))))
set_option maxRecDepth 100000 in
theorem S_X1_augment_9 {g : GC} (hl : g.1.stackTraces = false) {y1 : Int32} : ∀ (n : Nat) (z2 : Int32) (z3 : Int32) (z4 : Int32) (w : XW), VE g cX1_augment 6 RX1 (some .int) [] (rmL 5 0 0) 0 0 oI 0 0 9 [(0, .ref (g.2.1 + 124)), (1, .int y1), (2, .int z2), (3, .int z3), (4, .int z4)] [] w (f_X1_augment_9 y1 n z2 z3 z4 w) := by
  intro n
  induction n with
  | zero => intro z2 z3 z4 w; exact v_none
  | succ n ih =>
    intro z2 z3 z4 w
    rw [f_X1_augment_9]
    refine v_iload dX1_augment_9 4 rfl ?_
    refine v_bipush (v := 7) dX1_augment_11 (by decide) ?_
    refine v_icmp_ge (tgt := 48) dX1_augment_13 (by decide) ?_ ?_
    · refine v_iload_n dX1_augment_48 rfl 1 rfl ?_
      refine v_istore_n dX1_augment_49 rfl (Nat.le_of_ble_eq_true rfl) rfl ?_
      refine v_iconst (v := 0) dX1_augment_50 (by decide) ?_
      refine v_istore dX1_augment_51 (Nat.le_of_ble_eq_true rfl) rfl ?_
      refine v_sub [2, 4, 1, 0] rfl ?_
      exact S_X1_augment_53 hl  _ _ _ _
    · refine v_iload_n dX1_augment_16 rfl 3 rfl ?_
      refine v_if_le (tgt := 48) dX1_augment_17 (by decide) ?_ ?_
      · refine v_iload_n dX1_augment_48 rfl 1 rfl ?_
        refine v_istore_n dX1_augment_49 rfl (Nat.le_of_ble_eq_true rfl) rfl ?_
        refine v_iconst (v := 0) dX1_augment_50 (by decide) ?_
        refine v_istore dX1_augment_51 (Nat.le_of_ble_eq_true rfl) rfl ?_
        refine v_sub [2, 4, 1, 0] rfl ?_
        exact S_X1_augment_53 hl  _ _ _ _
      · refine v_aload_n dX1_augment_20 rfl 0 rfl ?_
        refine v_iload_n dX1_augment_21 rfl 3 rfl ?_
        refine v_callVi (As := [.int z3]) cv_X1_63 (S_X1_previousOf hl) tt_124 rfl rfl rfl (Nat.le_of_ble_eq_true rfl) dX1_augment_22 (CR_rm (by decide) (by decide) (by decide) (by decide)) (fun r1 w1 => ?_)
        refine v_istore dX1_augment_25 (Nat.le_of_ble_eq_true rfl) rfl ?_
        refine v_iload_n dX1_augment_27 rfl 3 rfl ?_
        refine v_aload_n dX1_augment_28 rfl 1 rfl ?_
        refine v_iload dX1_augment_29 0 rfl ?_
        refine v_iload_n dX1_augment_31 rfl 4 rfl ?_
        refine v_callVi (As := [.int r1, .int z3]) cv_X1_59 (S_X1_spareOf hl) tt_124 rfl rfl rfl (Nat.le_of_ble_eq_true rfl) dX1_augment_32 (CR_rm (by decide) (by decide) (by decide) (by decide)) (fun r2 w2 => ?_)
        refine v_min gw_677 gw_552 gw_54 gw_553 dX1_augment_35 (CR_f1 _ _ _) (CR_f2 (Nat.le_of_ble_eq_true rfl) _ _ _) (by decide) (by decide) ?_
        refine v_istore_n dX1_augment_38 rfl (Nat.le_of_ble_eq_true rfl) rfl ?_
        refine v_iload dX1_augment_39 1 rfl ?_
        refine v_istore_n dX1_augment_41 rfl (Nat.le_of_ble_eq_true rfl) rfl ?_
        refine v_iinc (v := (z4 + 1)) dX1_augment_42 (q := 5) rfl rfl (Nat.le_of_ble_eq_true rfl) rfl ?_
        refine v_goto (tgt := 9) dX1_augment_45 (by decide) ?_
        refine v_sub [4, 5, 2, 1, 0] rfl ?_
        exact ih _ _ _ _
def f_X1_augment (x1 : Int32) (w : XW) : Option (Int32 × XW) := (f_X1_augment_9 x1 1000 200 x1 0 w)
set_option maxRecDepth 100000 in
theorem W_X1_augment {g : GC} (hl : g.1.stackTraces = false) {x1 : Int32} {w : XW} : VE g cX1_augment 6 RX1 (some .int) [] (rmL 5 0 0) 0 0 oI 0 0 0 [(0, .ref (g.2.1 + 124)), (1, .int x1)] [] w (f_X1_augment x1 w) := by
  unfold f_X1_augment
  refine v_sipush (v := 200) dX1_augment_0 (by decide) ?_
  refine v_istore_n dX1_augment_3 rfl (Nat.le_of_ble_eq_true rfl) rfl ?_
  refine v_iload_n dX1_augment_4 rfl 2 rfl ?_
  refine v_istore_n dX1_augment_5 rfl (Nat.le_of_ble_eq_true rfl) rfl ?_
  refine v_iconst (v := 0) dX1_augment_6 (by decide) ?_
  refine v_istore dX1_augment_7 (Nat.le_of_ble_eq_true rfl) rfl ?_
  refine v_sub [3, 4, 2, 1, 0] rfl ?_
  exact S_X1_augment_9 hl  _ _ _ _ _
theorem S_X1_augment {g : GC} (hl : g.1.stackTraces = false) {x1 : Int32} {w : XW} : ∀ q, f_X1_augment x1 w = some q → MM g (.code yX1_augment cX1_augment 6 (some .int)) yX1_augment (rmL 5 0 0) 0 0 [.ref (g.2.1 + 124), .int x1] w (oI q) := fun q hq => MM_of (own := RX1) hl (by decide) gw_676 rfl (Nat.le_of_ble_eq_true rfl) (W_X1_augment hl q hq) ⟨rfl, rfl⟩

theorem dX1_greatest_0 : decode cX1_greatest 0 = .ok (.iload_n 2, 1) := by decide +kernel
theorem dX1_greatest_1 : decode cX1_greatest 1 = .ok (.iconst 2, 1) := by decide +kernel
theorem dX1_greatest_2 : decode cX1_greatest 2 = .ok (.if_icmp .lt 9, 3) := by decide +kernel
theorem dX1_greatest_5 : decode cX1_greatest 5 = .ok (.iload_n 2, 1) := by decide +kernel
theorem dX1_greatest_6 : decode cX1_greatest 6 = .ok (.bipush 7, 2) := by decide +kernel
theorem dX1_greatest_8 : decode cX1_greatest 8 = .ok (.if_icmp .le 5, 3) := by decide +kernel
theorem dX1_greatest_11 : decode cX1_greatest 11 = .ok (.iconst 0, 1) := by decide +kernel
theorem dX1_greatest_12 : decode cX1_greatest 12 = .ok (.ireturn, 1) := by decide +kernel
theorem dX1_greatest_13 : decode cX1_greatest 13 = .ok (.aload_n 0, 1) := by decide +kernel
theorem dX1_greatest_14 : decode cX1_greatest 14 = .ok (.aload_n 1, 1) := by decide +kernel
theorem dX1_greatest_15 : decode cX1_greatest 15 = .ok (.iload_n 3, 1) := by decide +kernel
theorem dX1_greatest_16 : decode cX1_greatest 16 = .ok (.invokevirtual 21, 3) := by decide +kernel
theorem dX1_greatest_19 : decode cX1_greatest 19 = .ok (.iconst 0, 1) := by decide +kernel
theorem dX1_greatest_20 : decode cX1_greatest 20 = .ok (.istore 4, 2) := by decide +kernel
theorem dX1_greatest_22 : decode cX1_greatest 22 = .ok (.iconst 0, 1) := by decide +kernel
theorem dX1_greatest_23 : decode cX1_greatest 23 = .ok (.istore 5, 2) := by decide +kernel
theorem dX1_greatest_25 : decode cX1_greatest 25 = .ok (.iload 5, 2) := by decide +kernel
theorem dX1_greatest_27 : decode cX1_greatest 27 = .ok (.sipush 200, 3) := by decide +kernel
theorem dX1_greatest_30 : decode cX1_greatest 30 = .ok (.if_icmp .ge 32, 3) := by decide +kernel
theorem dX1_greatest_33 : decode cX1_greatest 33 = .ok (.aload_n 0, 1) := by decide +kernel
theorem dX1_greatest_34 : decode cX1_greatest 34 = .ok (.iload_n 2, 1) := by decide +kernel
theorem dX1_greatest_35 : decode cX1_greatest 35 = .ok (.invokevirtual 25, 3) := by decide +kernel
theorem dX1_greatest_38 : decode cX1_greatest 38 = .ok (.ifCond .ne 6, 3) := by decide +kernel
theorem dX1_greatest_41 : decode cX1_greatest 41 = .ok (.goto 21, 3) := by decide +kernel
theorem dX1_greatest_44 : decode cX1_greatest 44 = .ok (.iload 4, 2) := by decide +kernel
theorem dX1_greatest_46 : decode cX1_greatest 46 = .ok (.aload_n 0, 1) := by decide +kernel
theorem dX1_greatest_47 : decode cX1_greatest 47 = .ok (.iload_n 2, 1) := by decide +kernel
theorem dX1_greatest_48 : decode cX1_greatest 48 = .ok (.iconst 1, 1) := by decide +kernel
theorem dX1_greatest_49 : decode cX1_greatest 49 = .ok (.isub, 1) := by decide +kernel
theorem dX1_greatest_50 : decode cX1_greatest 50 = .ok (.invokevirtual 29, 3) := by decide +kernel
theorem dX1_greatest_53 : decode cX1_greatest 53 = .ok (.iadd, 1) := by decide +kernel
theorem dX1_greatest_54 : decode cX1_greatest 54 = .ok (.istore 4, 2) := by decide +kernel
theorem dX1_greatest_56 : decode cX1_greatest 56 = .ok (.iinc 5 1, 3) := by decide +kernel
theorem dX1_greatest_59 : decode cX1_greatest 59 = .ok (.goto (-34), 3) := by decide +kernel
theorem dX1_greatest_62 : decode cX1_greatest 62 = .ok (.iload 4, 2) := by decide +kernel
theorem dX1_greatest_64 : decode cX1_greatest 64 = .ok (.ireturn, 1) := by decide +kernel
def f_X1_greatest_25 (k1 : Nat) (y2 : Int32) : Nat → Int32 → Int32 → XW → Option (Int32 × XW)
  | 0, _, _, _ => none
  | n + 1, z4, z5, w => (if 200 ≤ z5 then (some (z4, w)) else (bI (f_X1_reachesLast y2 w) (fun r2 w2 => (if r2 = 0 then (some (z4, w2)) else (bI (f_X1_augment (y2 - 1) w2) (fun r3 w3 => (f_X1_greatest_25 k1 y2 n (z4 + r3) (z5 + 1) w3)))))))
set_option maxRecDepth 100000 in
theorem S_X1_greatest_25 {g : GC} (hl : g.1.stackTraces = false) {k1 : Nat} (hk1 : isX5 k1) {y2 : Int32} : ∀ (n : Nat) (z4 : Int32) (z5 : Int32) (w : XW), VE g cX1_greatest 6 RX1 (some .int) [] (rmL 6 0 0) 0 0 oI 0 0 25 [(0, .ref (g.2.1 + 124)), (2, .int y2), (4, .int z4), (5, .int z5)] [] w (f_X1_greatest_25 k1 y2 n z4 z5 w) := by
  intro n
  induction n with
  | zero => intro z4 z5 w; exact v_none
  | succ n ih =>
    intro z4 z5 w
    rw [f_X1_greatest_25]
    refine v_iload dX1_greatest_25 3 rfl ?_
    refine v_sipush (v := 200) dX1_greatest_27 (by decide) ?_
    refine v_icmp_ge (tgt := 62) dX1_greatest_30 (by decide) ?_ ?_
    · refine v_iload dX1_greatest_62 2 rfl ?_
      exact v_iret dX1_greatest_64 rfl rfl (by decide) (by decide)
    · refine v_aload_n dX1_greatest_33 rfl 0 rfl ?_
      refine v_iload_n dX1_greatest_34 rfl 1 rfl ?_
      refine v_callVi (As := [.int y2]) cv_X1_25 (S_X1_reachesLast hl) tt_124 rfl rfl rfl (Nat.le_of_ble_eq_true rfl) dX1_greatest_35 (CR_rm (by decide) (by decide) (by decide) (by decide)) (fun r2 w2 => ?_)
      refine v_if_ne (tgt := 44) dX1_greatest_38 (by decide) ?_ ?_
      · refine v_iload dX1_greatest_44 2 rfl ?_
        refine v_aload_n dX1_greatest_46 rfl 0 rfl ?_
        refine v_iload_n dX1_greatest_47 rfl 1 rfl ?_
        refine v_iconst (v := 1) dX1_greatest_48 (by decide) ?_
        refine v_isub dX1_greatest_49 ?_
        refine v_callVi (As := [.int (y2 - 1)]) cv_X1_29 (S_X1_augment hl) tt_124 rfl rfl rfl (Nat.le_of_ble_eq_true rfl) dX1_greatest_50 (CR_rm (by decide) (by decide) (by decide) (by decide)) (fun r3 w3 => ?_)
        refine v_iadd dX1_greatest_53 ?_
        refine v_istore dX1_greatest_54 (Nat.le_of_ble_eq_true rfl) rfl ?_
        refine v_iinc (v := (z5 + 1)) dX1_greatest_56 (q := 3) rfl rfl (Nat.le_of_ble_eq_true rfl) rfl ?_
        refine v_goto (tgt := 25) dX1_greatest_59 (by decide) ?_
        refine v_sub [2, 3, 1, 0] rfl ?_
        exact ih _ _ _
      · refine v_goto (tgt := 62) dX1_greatest_41 (by decide) ?_
        refine v_iload dX1_greatest_62 2 rfl ?_
        exact v_iret dX1_greatest_64 rfl rfl (by decide) (by decide)
def f_X1_greatest (k1 : Nat) (x2 : Int32) (x3 : Int32) (w : XW) : Option (Int32 × XW) := (if x2 < 2 then (some (0, w)) else (if x2 ≤ 7 then (bV (f_X1_openPipes k1 x3 w) (fun w1 => (f_X1_greatest_25 k1 x2 1000 0 0 w1))) else (some (0, w))))
set_option maxRecDepth 100000 in
theorem W_X1_greatest {g : GC} (hl : g.1.stackTraces = false) {k1 : Nat} (hk1 : isX5 k1) {x2 : Int32} {x3 : Int32} {w : XW} : VE g cX1_greatest 6 RX1 (some .int) [] (rmL 6 0 0) 0 0 oI 0 0 0 [(0, .ref (g.2.1 + 124)), (1, .ref (g.2.1 + k1)), (2, .int x2), (3, .int x3)] [] w (f_X1_greatest k1 x2 x3 w) := by
  unfold f_X1_greatest
  refine v_iload_n dX1_greatest_0 rfl 2 rfl ?_
  refine v_iconst (v := 2) dX1_greatest_1 (by decide) ?_
  refine v_icmp_lt (tgt := 11) dX1_greatest_2 (by decide) ?_ ?_
  · refine v_iconst (v := 0) dX1_greatest_11 (by decide) ?_
    exact v_iret dX1_greatest_12 rfl rfl (by decide) (by decide)
  · refine v_iload_n dX1_greatest_5 rfl 2 rfl ?_
    refine v_bipush (v := 7) dX1_greatest_6 (by decide) ?_
    refine v_icmp_le (tgt := 13) dX1_greatest_8 (by decide) ?_ ?_
    · refine v_aload_n dX1_greatest_13 rfl 0 rfl ?_
      refine v_aload_n dX1_greatest_14 rfl 1 rfl ?_
      refine v_iload_n dX1_greatest_15 rfl 3 rfl ?_
      refine v_callVv (As := [.ref (g.2.1 + k1), .int x3]) cv_X1_21 (S_X1_openPipes hl hk1) tt_124 rfl rfl rfl (Nat.le_of_ble_eq_true rfl) dX1_greatest_16 (CR_rm (by decide) (by decide) (by decide) (by decide)) (fun w1 => ?_)
      refine v_iconst (v := 0) dX1_greatest_19 (by decide) ?_
      refine v_istore dX1_greatest_20 (Nat.le_of_ble_eq_true rfl) rfl ?_
      refine v_iconst (v := 0) dX1_greatest_22 (by decide) ?_
      refine v_istore dX1_greatest_23 (Nat.le_of_ble_eq_true rfl) rfl ?_
      refine v_sub [2, 4, 1, 0] rfl ?_
      exact S_X1_greatest_25 hl hk1  _ _ _ _
    · refine v_iconst (v := 0) dX1_greatest_11 (by decide) ?_
      exact v_iret dX1_greatest_12 rfl rfl (by decide) (by decide)
theorem S_X1_greatest {g : GC} (hl : g.1.stackTraces = false) {k1 : Nat} (hk1 : isX5 k1) {x2 : Int32} {x3 : Int32} {w : XW} : ∀ q, f_X1_greatest k1 x2 x3 w = some q → MM g (.code yX1_greatest cX1_greatest 6 (some .int)) yX1_greatest (rmL 6 0 0) 0 0 [.ref (g.2.1 + 124), .ref (g.2.1 + k1), .int x2, .int x3] w (oI q) := fun q hq => MM_of (own := RX1) hl (by decide) gw_639 rfl (Nat.le_of_ble_eq_true rfl) (W_X1_greatest hl hk1 q hq) ⟨rfl, rfl⟩

theorem dX1_contains_0 : decode cX1_contains 0 = .ok (.iload_n 0, 1) := by decide +kernel
theorem dX1_contains_1 : decode cX1_contains 1 = .ok (.iload_n 1, 1) := by decide +kernel
theorem dX1_contains_2 : decode cX1_contains 2 = .ok (.ishr, 1) := by decide +kernel
theorem dX1_contains_3 : decode cX1_contains 3 = .ok (.iconst 1, 1) := by decide +kernel
theorem dX1_contains_4 : decode cX1_contains 4 = .ok (.iand, 1) := by decide +kernel
theorem dX1_contains_5 : decode cX1_contains 5 = .ok (.ifCond .eq 7, 3) := by decide +kernel
theorem dX1_contains_8 : decode cX1_contains 8 = .ok (.iconst 1, 1) := by decide +kernel
theorem dX1_contains_9 : decode cX1_contains 9 = .ok (.goto 4, 3) := by decide +kernel
theorem dX1_contains_12 : decode cX1_contains 12 = .ok (.iconst 0, 1) := by decide +kernel
theorem dX1_contains_13 : decode cX1_contains 13 = .ok (.ireturn, 1) := by decide +kernel
def f_X1_contains (x0 : Int32) (x1 : Int32) (w : XW) : Option (Int32 × XW) := (if ((x0 >>> (x1 &&& 31)) &&& 1) = 0 then (some (0, w)) else (some (1, w)))
set_option maxRecDepth 100000 in
theorem W_X1_contains {g : GC} (hl : g.1.stackTraces = false) {x0 : Int32} {x1 : Int32} {w : XW} : VE g cX1_contains 2 RX1 (some .boolean) [] (rmL 3 0 0) 0 0 oI 0 0 0 [(0, .int x0), (1, .int x1)] [] w (f_X1_contains x0 x1 w) := by
  unfold f_X1_contains
  refine v_iload_n dX1_contains_0 rfl 0 rfl ?_
  refine v_iload_n dX1_contains_1 rfl 1 rfl ?_
  refine v_ishr dX1_contains_2 ?_
  refine v_iconst (v := 1) dX1_contains_3 (by decide) ?_
  refine v_iand dX1_contains_4 ?_
  refine v_if_eq (tgt := 12) dX1_contains_5 (by decide) ?_ ?_
  · refine v_iconst (v := 0) dX1_contains_12 (by decide) ?_
    exact v_zret dX1_contains_13 rfl rfl rfl (by decide) (by decide)
  · refine v_iconst (v := 1) dX1_contains_8 (by decide) ?_
    refine v_goto (tgt := 13) dX1_contains_9 (by decide) ?_
    exact v_zret dX1_contains_13 rfl rfl rfl (by decide) (by decide)
theorem S_X1_contains {g : GC} (hl : g.1.stackTraces = false) {x0 : Int32} {x1 : Int32} {w : XW} : ∀ q, f_X1_contains x0 x1 w = some q → MM g (.code yX1_contains cX1_contains 2 (some .boolean)) yX1_contains (rmL 3 0 0) 0 0 [.int x0, .int x1] w (oI q) := fun q hq => MM_of (own := RX1) hl (by decide) gw_1433 rfl (Nat.le_of_ble_eq_true rfl) (W_X1_contains hl q hq) ⟨rfl, rfl⟩

theorem dX1_cutSize_0 : decode cX1_cutSize 0 = .ok (.iconst 0, 1) := by decide +kernel
theorem dX1_cutSize_1 : decode cX1_cutSize 1 = .ok (.istore_n 2, 1) := by decide +kernel
theorem dX1_cutSize_2 : decode cX1_cutSize 2 = .ok (.iconst 0, 1) := by decide +kernel
theorem dX1_cutSize_3 : decode cX1_cutSize 3 = .ok (.istore_n 3, 1) := by decide +kernel
theorem dX1_cutSize_4 : decode cX1_cutSize 4 = .ok (.iload_n 3, 1) := by decide +kernel
theorem dX1_cutSize_5 : decode cX1_cutSize 5 = .ok (.aload_n 0, 1) := by decide +kernel
theorem dX1_cutSize_6 : decode cX1_cutSize 6 = .ok (.getfield 33, 3) := by decide +kernel
theorem dX1_cutSize_9 : decode cX1_cutSize 9 = .ok (.if_icmp .ge 61, 3) := by decide +kernel
theorem dX1_cutSize_12 : decode cX1_cutSize 12 = .ok (.iload_n 1, 1) := by decide +kernel
theorem dX1_cutSize_13 : decode cX1_cutSize 13 = .ok (.aload_n 0, 1) := by decide +kernel
theorem dX1_cutSize_14 : decode cX1_cutSize 14 = .ok (.iload_n 3, 1) := by decide +kernel
theorem dX1_cutSize_15 : decode cX1_cutSize 15 = .ok (.invokevirtual 42, 3) := by decide +kernel
theorem dX1_cutSize_18 : decode cX1_cutSize 18 = .ok (.invokestatic 75, 3) := by decide +kernel
theorem dX1_cutSize_21 : decode cX1_cutSize 21 = .ok (.ifCond .eq 19, 3) := by decide +kernel
theorem dX1_cutSize_24 : decode cX1_cutSize 24 = .ok (.iload_n 1, 1) := by decide +kernel
theorem dX1_cutSize_25 : decode cX1_cutSize 25 = .ok (.aload_n 0, 1) := by decide +kernel
theorem dX1_cutSize_26 : decode cX1_cutSize 26 = .ok (.iload_n 3, 1) := by decide +kernel
theorem dX1_cutSize_27 : decode cX1_cutSize 27 = .ok (.invokevirtual 45, 3) := by decide +kernel
theorem dX1_cutSize_30 : decode cX1_cutSize 30 = .ok (.invokestatic 75, 3) := by decide +kernel
theorem dX1_cutSize_33 : decode cX1_cutSize 33 = .ok (.ifCond .ne 7, 3) := by decide +kernel
theorem dX1_cutSize_36 : decode cX1_cutSize 36 = .ok (.iconst 1, 1) := by decide +kernel
theorem dX1_cutSize_37 : decode cX1_cutSize 37 = .ok (.goto 4, 3) := by decide +kernel
theorem dX1_cutSize_40 : decode cX1_cutSize 40 = .ok (.iconst 0, 1) := by decide +kernel
theorem dX1_cutSize_41 : decode cX1_cutSize 41 = .ok (.istore 4, 2) := by decide +kernel
theorem dX1_cutSize_43 : decode cX1_cutSize 43 = .ok (.iload 4, 2) := by decide +kernel
theorem dX1_cutSize_45 : decode cX1_cutSize 45 = .ok (.ifCond .eq 19, 3) := by decide +kernel
theorem dX1_cutSize_48 : decode cX1_cutSize 48 = .ok (.aload_n 0, 1) := by decide +kernel
theorem dX1_cutSize_49 : decode cX1_cutSize 49 = .ok (.iload_n 3, 1) := by decide +kernel
theorem dX1_cutSize_50 : decode cX1_cutSize 50 = .ok (.invokevirtual 39, 3) := by decide +kernel
theorem dX1_cutSize_53 : decode cX1_cutSize 53 = .ok (.ifCond .ne 11, 3) := by decide +kernel
theorem dX1_cutSize_56 : decode cX1_cutSize 56 = .ok (.iload_n 2, 1) := by decide +kernel
theorem dX1_cutSize_57 : decode cX1_cutSize 57 = .ok (.aload_n 0, 1) := by decide +kernel
theorem dX1_cutSize_58 : decode cX1_cutSize 58 = .ok (.iload_n 3, 1) := by decide +kernel
theorem dX1_cutSize_59 : decode cX1_cutSize 59 = .ok (.invokevirtual 48, 3) := by decide +kernel
theorem dX1_cutSize_62 : decode cX1_cutSize 62 = .ok (.iadd, 1) := by decide +kernel
theorem dX1_cutSize_63 : decode cX1_cutSize 63 = .ok (.istore_n 2, 1) := by decide +kernel
theorem dX1_cutSize_64 : decode cX1_cutSize 64 = .ok (.iinc 3 1, 3) := by decide +kernel
theorem dX1_cutSize_67 : decode cX1_cutSize 67 = .ok (.goto (-63), 3) := by decide +kernel
theorem dX1_cutSize_70 : decode cX1_cutSize 70 = .ok (.iload_n 2, 1) := by decide +kernel
theorem dX1_cutSize_71 : decode cX1_cutSize 71 = .ok (.ireturn, 1) := by decide +kernel
def f_X1_cutSize_4 (k0 : Nat) (y1 : Int32) : Nat → Int32 → Int32 → XW → Option (Int32 × XW)
  | 0, _, _, _ => none
  | n + 1, z2, z3, w => (if (w.1 k0 0) ≤ z3 then (some (z2, w)) else (bI (f_X5_startOf k0 z3 w) (fun r1 w1 => (bI (f_X1_contains y1 r1 w1) (fun r2 w2 => (if r2 = 0 then (f_X1_cutSize_4 k0 y1 n z2 (z3 + 1) w2) else (bI (f_X5_endOf k0 z3 w2) (fun r3 w3 => (bI (f_X1_contains y1 r3 w3) (fun r4 w4 => (if r4 = 0 then (bI (f_X5_brokenAt k0 z3 w4) (fun r5 w5 => (if r5 = 0 then (bI (f_X5_widthOf k0 z3 w5) (fun r6 w6 => (f_X1_cutSize_4 k0 y1 n (z2 + r6) (z3 + 1) w6))) else (f_X1_cutSize_4 k0 y1 n z2 (z3 + 1) w5)))) else (f_X1_cutSize_4 k0 y1 n z2 (z3 + 1) w4))))))))))))
set_option maxRecDepth 100000 in
theorem S_X1_cutSize_4 {g : GC} (hl : g.1.stackTraces = false) {k0 : Nat} (hk0 : isX5 k0) {y1 : Int32} : ∀ (n : Nat) (z2 : Int32) (z3 : Int32) (w : XW), VE g cX1_cutSize 5 RX1 (some .int) [] (rmL 5 0 0) 0 0 oI 0 0 4 [(0, .ref (g.2.1 + k0)), (1, .int y1), (2, .int z2), (3, .int z3)] [] w (f_X1_cutSize_4 k0 y1 n z2 z3 w) := by
  intro n
  induction n with
  | zero => intro z2 z3 w; exact v_none
  | succ n ih =>
    intro z2 z3 w
    rw [f_X1_cutSize_4]
    refine v_iload_n dX1_cutSize_4 rfl 3 rfl ?_
    refine v_aload_n dX1_cutSize_5 rfl 0 rfl ?_
    refine v_getI fl_X1_33 hk0.1 rfl dX1_cutSize_6 ?_
    refine v_icmp_ge (tgt := 70) dX1_cutSize_9 (by decide) ?_ ?_
    · refine v_iload_n dX1_cutSize_70 rfl 2 rfl ?_
      exact v_iret dX1_cutSize_71 rfl rfl (by decide) (by decide)
    · refine v_iload_n dX1_cutSize_12 rfl 1 rfl ?_
      refine v_aload_n dX1_cutSize_13 rfl 0 rfl ?_
      refine v_iload_n dX1_cutSize_14 rfl 3 rfl ?_
      refine v_callVi (As := [.int z3]) cv_X1_42 (S_X5_startOf hl hk0) hk0.1 rfl rfl rfl (Nat.le_of_ble_eq_true rfl) dX1_cutSize_15 (CR_rm (by decide) (by decide) (by decide) (by decide)) (fun r1 w1 => ?_)
      refine v_callSi (As := [.int y1, .int r1]) cs_X1_75 (S_X1_contains hl) rfl rfl (Nat.le_of_ble_eq_true rfl) dX1_cutSize_18 (CR_rm (by decide) (by decide) (by decide) (by decide)) (fun r2 w2 => ?_)
      refine v_if_eq (tgt := 40) dX1_cutSize_21 (by decide) ?_ ?_
      · refine v_iconst (v := 0) dX1_cutSize_40 (by decide) ?_
        refine v_istore dX1_cutSize_41 (Nat.le_of_ble_eq_true rfl) rfl ?_
        refine v_iload dX1_cutSize_43 0 rfl ?_
        refine v_if_eqT (tgt := 64) dX1_cutSize_45 (by decide) (by decide) ?_
        refine v_iinc (v := (z3 + 1)) dX1_cutSize_64 (q := 4) rfl rfl (Nat.le_of_ble_eq_true rfl) rfl ?_
        refine v_goto (tgt := 4) dX1_cutSize_67 (by decide) ?_
        refine v_sub [2, 3, 4, 0] rfl ?_
        exact ih _ _ _
      · refine v_iload_n dX1_cutSize_24 rfl 1 rfl ?_
        refine v_aload_n dX1_cutSize_25 rfl 0 rfl ?_
        refine v_iload_n dX1_cutSize_26 rfl 3 rfl ?_
        refine v_callVi (As := [.int z3]) cv_X1_45 (S_X5_endOf hl hk0) hk0.1 rfl rfl rfl (Nat.le_of_ble_eq_true rfl) dX1_cutSize_27 (CR_rm (by decide) (by decide) (by decide) (by decide)) (fun r3 w3 => ?_)
        refine v_callSi (As := [.int y1, .int r3]) cs_X1_75 (S_X1_contains hl) rfl rfl (Nat.le_of_ble_eq_true rfl) dX1_cutSize_30 (CR_rm (by decide) (by decide) (by decide) (by decide)) (fun r4 w4 => ?_)
        refine v_if_ne (tgt := 40) dX1_cutSize_33 (by decide) ?_ ?_
        · refine v_iconst (v := 0) dX1_cutSize_40 (by decide) ?_
          refine v_istore dX1_cutSize_41 (Nat.le_of_ble_eq_true rfl) rfl ?_
          refine v_iload dX1_cutSize_43 0 rfl ?_
          refine v_if_eqT (tgt := 64) dX1_cutSize_45 (by decide) (by decide) ?_
          refine v_iinc (v := (z3 + 1)) dX1_cutSize_64 (q := 4) rfl rfl (Nat.le_of_ble_eq_true rfl) rfl ?_
          refine v_goto (tgt := 4) dX1_cutSize_67 (by decide) ?_
          refine v_sub [2, 3, 4, 0] rfl ?_
          exact ih _ _ _
        · refine v_iconst (v := 1) dX1_cutSize_36 (by decide) ?_
          refine v_goto (tgt := 41) dX1_cutSize_37 (by decide) ?_
          refine v_istore dX1_cutSize_41 (Nat.le_of_ble_eq_true rfl) rfl ?_
          refine v_iload dX1_cutSize_43 0 rfl ?_
          refine v_if_eqF (tgt := 64) dX1_cutSize_45 (by decide) (by decide) ?_
          refine v_aload_n dX1_cutSize_48 rfl 1 rfl ?_
          refine v_iload_n dX1_cutSize_49 rfl 4 rfl ?_
          refine v_callVi (As := [.int z3]) cv_X1_39 (S_X5_brokenAt hl hk0) hk0.1 rfl rfl rfl (Nat.le_of_ble_eq_true rfl) dX1_cutSize_50 (CR_rm (by decide) (by decide) (by decide) (by decide)) (fun r5 w5 => ?_)
          refine v_if_ne (tgt := 64) dX1_cutSize_53 (by decide) ?_ ?_
          · refine v_iinc (v := (z3 + 1)) dX1_cutSize_64 (q := 4) rfl rfl (Nat.le_of_ble_eq_true rfl) rfl ?_
            refine v_goto (tgt := 4) dX1_cutSize_67 (by decide) ?_
            refine v_sub [2, 3, 4, 0] rfl ?_
            exact ih _ _ _
          · refine v_iload_n dX1_cutSize_56 rfl 3 rfl ?_
            refine v_aload_n dX1_cutSize_57 rfl 1 rfl ?_
            refine v_iload_n dX1_cutSize_58 rfl 4 rfl ?_
            refine v_callVi (As := [.int z3]) cv_X1_48 (S_X5_widthOf hl hk0) hk0.1 rfl rfl rfl (Nat.le_of_ble_eq_true rfl) dX1_cutSize_59 (CR_rm (by decide) (by decide) (by decide) (by decide)) (fun r6 w6 => ?_)
            refine v_iadd dX1_cutSize_62 ?_
            refine v_istore_n dX1_cutSize_63 rfl (Nat.le_of_ble_eq_true rfl) rfl ?_
            refine v_iinc (v := (z3 + 1)) dX1_cutSize_64 (q := 4) rfl rfl (Nat.le_of_ble_eq_true rfl) rfl ?_
            refine v_goto (tgt := 4) dX1_cutSize_67 (by decide) ?_
            refine v_sub [3, 4, 1, 0] rfl ?_
            exact ih _ _ _
def f_X1_cutSize (k0 : Nat) (x1 : Int32) (w : XW) : Option (Int32 × XW) := (f_X1_cutSize_4 k0 x1 1000 0 0 w)
set_option maxRecDepth 100000 in
theorem W_X1_cutSize {g : GC} (hl : g.1.stackTraces = false) {k0 : Nat} (hk0 : isX5 k0) {x1 : Int32} {w : XW} : VE g cX1_cutSize 5 RX1 (some .int) [] (rmL 5 0 0) 0 0 oI 0 0 0 [(0, .ref (g.2.1 + k0)), (1, .int x1)] [] w (f_X1_cutSize k0 x1 w) := by
  unfold f_X1_cutSize
  refine v_iconst (v := 0) dX1_cutSize_0 (by decide) ?_
  refine v_istore_n dX1_cutSize_1 rfl (Nat.le_of_ble_eq_true rfl) rfl ?_
  refine v_iconst (v := 0) dX1_cutSize_2 (by decide) ?_
  refine v_istore_n dX1_cutSize_3 rfl (Nat.le_of_ble_eq_true rfl) rfl ?_
  refine v_sub [2, 3, 1, 0] rfl ?_
  exact S_X1_cutSize_4 hl hk0  _ _ _ _
theorem S_X1_cutSize {g : GC} (hl : g.1.stackTraces = false) {k0 : Nat} (hk0 : isX5 k0) {x1 : Int32} {w : XW} : ∀ q, f_X1_cutSize k0 x1 w = some q → MM g (.code yX1_cutSize cX1_cutSize 5 (some .int)) yX1_cutSize (rmL 5 0 0) 0 0 [.ref (g.2.1 + k0), .int x1] w (oI q) := fun q hq => MM_of (own := RX1) hl (by decide) gw_1430 rfl (Nat.le_of_ble_eq_true rfl) (W_X1_cutSize hl hk0 q hq) ⟨rfl, rfl⟩

theorem dX1_smallest_0 : decode cX1_smallest 0 = .ok (.iload_n 2, 1) := by decide +kernel
theorem dX1_smallest_1 : decode cX1_smallest 1 = .ok (.iconst 2, 1) := by decide +kernel
theorem dX1_smallest_2 : decode cX1_smallest 2 = .ok (.if_icmp .lt 9, 3) := by decide +kernel
theorem dX1_smallest_5 : decode cX1_smallest 5 = .ok (.iload_n 2, 1) := by decide +kernel
theorem dX1_smallest_6 : decode cX1_smallest 6 = .ok (.bipush 7, 2) := by decide +kernel
theorem dX1_smallest_8 : decode cX1_smallest 8 = .ok (.if_icmp .le 5, 3) := by decide +kernel
theorem dX1_smallest_11 : decode cX1_smallest 11 = .ok (.iconst 0, 1) := by decide +kernel
theorem dX1_smallest_12 : decode cX1_smallest 12 = .ok (.ireturn, 1) := by decide +kernel
theorem dX1_smallest_13 : decode cX1_smallest 13 = .ok (.sipush 200, 3) := by decide +kernel
theorem dX1_smallest_16 : decode cX1_smallest 16 = .ok (.istore_n 3, 1) := by decide +kernel
theorem dX1_smallest_17 : decode cX1_smallest 17 = .ok (.iconst 1, 1) := by decide +kernel
theorem dX1_smallest_18 : decode cX1_smallest 18 = .ok (.istore 4, 2) := by decide +kernel
theorem dX1_smallest_20 : decode cX1_smallest 20 = .ok (.iload 4, 2) := by decide +kernel
theorem dX1_smallest_22 : decode cX1_smallest 22 = .ok (.iconst 1, 1) := by decide +kernel
theorem dX1_smallest_23 : decode cX1_smallest 23 = .ok (.iload_n 2, 1) := by decide +kernel
theorem dX1_smallest_24 : decode cX1_smallest 24 = .ok (.iconst 1, 1) := by decide +kernel
theorem dX1_smallest_25 : decode cX1_smallest 25 = .ok (.isub, 1) := by decide +kernel
theorem dX1_smallest_26 : decode cX1_smallest 26 = .ok (.ishl, 1) := by decide +kernel
theorem dX1_smallest_27 : decode cX1_smallest 27 = .ok (.if_icmp .ge 20, 3) := by decide +kernel
theorem dX1_smallest_30 : decode cX1_smallest 30 = .ok (.iload_n 3, 1) := by decide +kernel
theorem dX1_smallest_31 : decode cX1_smallest 31 = .ok (.aload_n 1, 1) := by decide +kernel
theorem dX1_smallest_32 : decode cX1_smallest 32 = .ok (.iload 4, 2) := by decide +kernel
theorem dX1_smallest_34 : decode cX1_smallest 34 = .ok (.invokestatic 71, 3) := by decide +kernel
theorem dX1_smallest_37 : decode cX1_smallest 37 = .ok (.invokestatic 66, 3) := by decide +kernel
theorem dX1_smallest_40 : decode cX1_smallest 40 = .ok (.istore_n 3, 1) := by decide +kernel
theorem dX1_smallest_41 : decode cX1_smallest 41 = .ok (.iinc 4 2, 3) := by decide +kernel
theorem dX1_smallest_44 : decode cX1_smallest 44 = .ok (.goto (-24), 3) := by decide +kernel
theorem dX1_smallest_47 : decode cX1_smallest 47 = .ok (.iload_n 3, 1) := by decide +kernel
theorem dX1_smallest_48 : decode cX1_smallest 48 = .ok (.ireturn, 1) := by decide +kernel
def f_X1_smallest_20 (k1 : Nat) (y2 : Int32) : Nat → Int32 → Int32 → XW → Option (Int32 × XW)
  | 0, _, _, _ => none
  | n + 1, z3, z4, w => (if (1 <<< ((y2 - 1) &&& 31)) ≤ z4 then (some (z3, w)) else (bI (f_X1_cutSize k1 z4 w) (fun r1 w1 => (f_X1_smallest_20 k1 y2 n (if r1 < z3 then r1 else z3) (z4 + 2) w1))))
set_option maxRecDepth 100000 in
theorem S_X1_smallest_20 {g : GC} (hl : g.1.stackTraces = false) {k1 : Nat} (hk1 : isX5 k1) {y2 : Int32} : ∀ (n : Nat) (z3 : Int32) (z4 : Int32) (w : XW), VE g cX1_smallest 5 RX1 (some .int) [] (rmL 6 0 0) 0 0 oI 0 0 20 [(1, .ref (g.2.1 + k1)), (2, .int y2), (3, .int z3), (4, .int z4)] [] w (f_X1_smallest_20 k1 y2 n z3 z4 w) := by
  intro n
  induction n with
  | zero => intro z3 z4 w; exact v_none
  | succ n ih =>
    intro z3 z4 w
    rw [f_X1_smallest_20]
    refine v_iload dX1_smallest_20 3 rfl ?_
    refine v_iconst (v := 1) dX1_smallest_22 (by decide) ?_
    refine v_iload_n dX1_smallest_23 rfl 1 rfl ?_
    refine v_iconst (v := 1) dX1_smallest_24 (by decide) ?_
    refine v_isub dX1_smallest_25 ?_
    refine v_ishl dX1_smallest_26 ?_
    refine v_icmp_ge (tgt := 47) dX1_smallest_27 (by decide) ?_ ?_
    · refine v_iload_n dX1_smallest_47 rfl 2 rfl ?_
      exact v_iret dX1_smallest_48 rfl rfl (by decide) (by decide)
    · refine v_iload_n dX1_smallest_30 rfl 2 rfl ?_
      refine v_aload_n dX1_smallest_31 rfl 0 rfl ?_
      refine v_iload dX1_smallest_32 3 rfl ?_
      refine v_callSi (As := [.ref (g.2.1 + k1), .int z4]) cs_X1_71 (S_X1_cutSize hl hk1) rfl rfl (Nat.le_of_ble_eq_true rfl) dX1_smallest_34 (CR_rm (by decide) (by decide) (by decide) (by decide)) (fun r1 w1 => ?_)
      refine v_min gw_677 gw_552 gw_54 gw_553 dX1_smallest_37 (CR_f1 _ _ _) (CR_f2 (Nat.le_of_ble_eq_true rfl) _ _ _) (by decide) (by decide) ?_
      refine v_istore_n dX1_smallest_40 rfl (Nat.le_of_ble_eq_true rfl) rfl ?_
      refine v_iinc (v := (z4 + 2)) dX1_smallest_41 (q := 3) rfl rfl (Nat.le_of_ble_eq_true rfl) rfl ?_
      refine v_goto (tgt := 20) dX1_smallest_44 (by decide) ?_
      refine v_sub [2, 3, 1, 0] rfl ?_
      exact ih _ _ _
def f_X1_smallest (k1 : Nat) (x2 : Int32) (w : XW) : Option (Int32 × XW) := (if x2 < 2 then (some (0, w)) else (if x2 ≤ 7 then (f_X1_smallest_20 k1 x2 1000 200 1 w) else (some (0, w))))
set_option maxRecDepth 100000 in
theorem W_X1_smallest {g : GC} (hl : g.1.stackTraces = false) {k1 : Nat} (hk1 : isX5 k1) {x2 : Int32} {w : XW} : VE g cX1_smallest 5 RX1 (some .int) [] (rmL 6 0 0) 0 0 oI 0 0 0 [(0, .ref (g.2.1 + 124)), (1, .ref (g.2.1 + k1)), (2, .int x2)] [] w (f_X1_smallest k1 x2 w) := by
  unfold f_X1_smallest
  refine v_iload_n dX1_smallest_0 rfl 2 rfl ?_
  refine v_iconst (v := 2) dX1_smallest_1 (by decide) ?_
  refine v_icmp_lt (tgt := 11) dX1_smallest_2 (by decide) ?_ ?_
  · refine v_iconst (v := 0) dX1_smallest_11 (by decide) ?_
    exact v_iret dX1_smallest_12 rfl rfl (by decide) (by decide)
  · refine v_iload_n dX1_smallest_5 rfl 2 rfl ?_
    refine v_bipush (v := 7) dX1_smallest_6 (by decide) ?_
    refine v_icmp_le (tgt := 13) dX1_smallest_8 (by decide) ?_ ?_
    · refine v_sipush (v := 200) dX1_smallest_13 (by decide) ?_
      refine v_istore_n dX1_smallest_16 rfl (Nat.le_of_ble_eq_true rfl) rfl ?_
      refine v_iconst (v := 1) dX1_smallest_17 (by decide) ?_
      refine v_istore dX1_smallest_18 (Nat.le_of_ble_eq_true rfl) rfl ?_
      refine v_sub [3, 4, 1, 0] rfl ?_
      exact S_X1_smallest_20 hl hk1  _ _ _ _
    · refine v_iconst (v := 0) dX1_smallest_11 (by decide) ?_
      exact v_iret dX1_smallest_12 rfl rfl (by decide) (by decide)
theorem S_X1_smallest {g : GC} (hl : g.1.stackTraces = false) {k1 : Nat} (hk1 : isX5 k1) {x2 : Int32} {w : XW} : ∀ q, f_X1_smallest k1 x2 w = some q → MM g (.code yX1_smallest cX1_smallest 5 (some .int)) yX1_smallest (rmL 6 0 0) 0 0 [.ref (g.2.1 + 124), .ref (g.2.1 + k1), .int x2] w (oI q) := fun q hq => MM_of (own := RX1) hl (by decide) gw_1427 rfl (Nat.le_of_ble_eq_true rfl) (W_X1_smallest hl hk1 q hq) ⟨rfl, rfl⟩
