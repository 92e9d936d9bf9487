theorem dX11_term_0 : decode cX11_term 0 = .ok (.aload_n 0, 1) := by decide +kernel
theorem dX11_term_1 : decode cX11_term 1 = .ok (.aload_n 1, 1) := by decide +kernel
theorem dX11_term_2 : decode cX11_term 2 = .ok (.iconst 1, 1) := by decide +kernel
theorem dX11_term_3 : decode cX11_term 3 = .ok (.iconst 1, 1) := by decide +kernel
theorem dX11_term_4 : decode cX11_term 4 = .ok (.invokevirtual 234, 3) := by decide +kernel
theorem dX11_term_7 : decode cX11_term 7 = .ok (.aload_n 0, 1) := by decide +kernel
theorem dX11_term_8 : decode cX11_term 8 = .ok (.aload_n 0, 1) := by decide +kernel
theorem dX11_term_9 : decode cX11_term 9 = .ok (.getfield 189, 3) := by decide +kernel
theorem dX11_term_12 : decode cX11_term 12 = .ok (.ifCond .ne 14, 3) := by decide +kernel
theorem dX11_term_15 : decode cX11_term 15 = .ok (.aload_n 0, 1) := by decide +kernel
theorem dX11_term_16 : decode cX11_term 16 = .ok (.iconst 0, 1) := by decide +kernel
theorem dX11_term_17 : decode cX11_term 17 = .ok (.invokevirtual 186, 3) := by decide +kernel
theorem dX11_term_20 : decode cX11_term 20 = .ok (.invokestatic 102, 3) := by decide +kernel
theorem dX11_term_23 : decode cX11_term 23 = .ok (.ifCond .ne 7, 3) := by decide +kernel
theorem dX11_term_26 : decode cX11_term 26 = .ok (.iconst 1, 1) := by decide +kernel
theorem dX11_term_27 : decode cX11_term 27 = .ok (.goto 4, 3) := by decide +kernel
theorem dX11_term_30 : decode cX11_term 30 = .ok (.iconst 0, 1) := by decide +kernel
theorem dX11_term_31 : decode cX11_term 31 = .ok (.putfield 189, 3) := by decide +kernel
theorem dX11_term_34 : decode cX11_term 34 = .ok (.aload_n 0, 1) := by decide +kernel
theorem dX11_term_35 : decode cX11_term 35 = .ok (.getfield 25, 3) := by decide +kernel
theorem dX11_term_38 : decode cX11_term 38 = .ok (.iconst 4, 1) := by decide +kernel
theorem dX11_term_39 : decode cX11_term 39 = .ok (.aload_n 0, 1) := by decide +kernel
theorem dX11_term_40 : decode cX11_term 40 = .ok (.getfield 231, 3) := by decide +kernel
theorem dX11_term_43 : decode cX11_term 43 = .ok (.imul, 1) := by decide +kernel
theorem dX11_term_44 : decode cX11_term 44 = .ok (.iconst 2, 1) := by decide +kernel
theorem dX11_term_45 : decode cX11_term 45 = .ok (.iadd, 1) := by decide +kernel
theorem dX11_term_46 : decode cX11_term 46 = .ok (.aload_n 0, 1) := by decide +kernel
theorem dX11_term_47 : decode cX11_term 47 = .ok (.getfield 189, 3) := by decide +kernel
theorem dX11_term_50 : decode cX11_term 50 = .ok (.ifCond .eq 7, 3) := by decide +kernel
theorem dX11_term_53 : decode cX11_term 53 = .ok (.iconst 0, 1) := by decide +kernel
theorem dX11_term_54 : decode cX11_term 54 = .ok (.goto 8, 3) := by decide +kernel
theorem dX11_term_57 : decode cX11_term 57 = .ok (.aload_n 0, 1) := by decide +kernel
theorem dX11_term_58 : decode cX11_term 58 = .ok (.iconst 0, 1) := by decide +kernel
theorem dX11_term_59 : decode cX11_term 59 = .ok (.invokevirtual 186, 3) := by decide +kernel
theorem dX11_term_62 : decode cX11_term 62 = .ok (.iastore, 1) := by decide +kernel
theorem dX11_term_63 : decode cX11_term 63 = .ok (.aload_n 0, 1) := by decide +kernel
theorem dX11_term_64 : decode cX11_term 64 = .ok (.dup, 1) := by decide +kernel
theorem dX11_term_65 : decode cX11_term 65 = .ok (.getfield 180, 3) := by decide +kernel
theorem dX11_term_68 : decode cX11_term 68 = .ok (.aload_n 0, 1) := by decide +kernel
theorem dX11_term_69 : decode cX11_term 69 = .ok (.getfield 189, 3) := by decide +kernel
theorem dX11_term_72 : decode cX11_term 72 = .ok (.ifCond .eq 7, 3) := by decide +kernel
theorem dX11_term_75 : decode cX11_term 75 = .ok (.iconst 0, 1) := by decide +kernel
theorem dX11_term_76 : decode cX11_term 76 = .ok (.goto 4, 3) := by decide +kernel
theorem dX11_term_79 : decode cX11_term 79 = .ok (.iconst 1, 1) := by decide +kernel
theorem dX11_term_80 : decode cX11_term 80 = .ok (.iadd, 1) := by decide +kernel
theorem dX11_term_81 : decode cX11_term 81 = .ok (.putfield 180, 3) := by decide +kernel
theorem dX11_term_84 : decode cX11_term 84 = .ok (.return_, 1) := by decide +kernel
def f_X11_term (s1 : Nat) (w : XW) : Option (XW) := (bV (f_X11_number s1 1 1 w) (fun w1 => (if (w1.1 141 22) = 0 then (bI (f_X11_here 0 w1) (fun r5 w5 => (bI (f_X11_isTerm r5 w5) (fun r6 w6 => (if r6 = 0 then (if ((wset w6 141 22 1).1 141 22) = 0 then (bI (f_X11_here 0 (wset w6 141 22 1)) (fun r10 w10 => (if inB ((4 * ((wset w6 141 22 1).1 141 20)) + 2) 240 then (if ((wset w10 147 (Int32.toNatClampNeg ((4 * ((wset w6 141 22 1).1 141 20)) + 2)) r10).1 141 22) = 0 then (some (wset (wset w10 147 (Int32.toNatClampNeg ((4 * ((wset w6 141 22 1).1 141 20)) + 2)) r10) 141 18 (((wset w10 147 (Int32.toNatClampNeg ((4 * ((wset w6 141 22 1).1 141 20)) + 2)) r10).1 141 18) + 1))) else (some (wset (wset w10 147 (Int32.toNatClampNeg ((4 * ((wset w6 141 22 1).1 141 20)) + 2)) r10) 141 18 (((wset w10 147 (Int32.toNatClampNeg ((4 * ((wset w6 141 22 1).1 141 20)) + 2)) r10).1 141 18) + 0)))) else none))) else (if inB ((4 * ((wset w6 141 22 1).1 141 20)) + 2) 240 then (if ((wset (wset w6 141 22 1) 147 (Int32.toNatClampNeg ((4 * ((wset w6 141 22 1).1 141 20)) + 2)) 0).1 141 22) = 0 then (some (wset (wset (wset w6 141 22 1) 147 (Int32.toNatClampNeg ((4 * ((wset w6 141 22 1).1 141 20)) + 2)) 0) 141 18 (((wset (wset w6 141 22 1) 147 (Int32.toNatClampNeg ((4 * ((wset w6 141 22 1).1 141 20)) + 2)) 0).1 141 18) + 1))) else (some (wset (wset (wset w6 141 22 1) 147 (Int32.toNatClampNeg ((4 * ((wset w6 141 22 1).1 141 20)) + 2)) 0) 141 18 (((wset (wset w6 141 22 1) 147 (Int32.toNatClampNeg ((4 * ((wset w6 141 22 1).1 141 20)) + 2)) 0).1 141 18) + 0)))) else none)) else (if ((wset w6 141 22 0).1 141 22) = 0 then (bI (f_X11_here 0 (wset w6 141 22 0)) (fun r7 w7 => (if inB ((4 * ((wset w6 141 22 0).1 141 20)) + 2) 240 then (if ((wset w7 147 (Int32.toNatClampNeg ((4 * ((wset w6 141 22 0).1 141 20)) + 2)) r7).1 141 22) = 0 then (some (wset (wset w7 147 (Int32.toNatClampNeg ((4 * ((wset w6 141 22 0).1 141 20)) + 2)) r7) 141 18 (((wset w7 147 (Int32.toNatClampNeg ((4 * ((wset w6 141 22 0).1 141 20)) + 2)) r7).1 141 18) + 1))) else (some (wset (wset w7 147 (Int32.toNatClampNeg ((4 * ((wset w6 141 22 0).1 141 20)) + 2)) r7) 141 18 (((wset w7 147 (Int32.toNatClampNeg ((4 * ((wset w6 141 22 0).1 141 20)) + 2)) r7).1 141 18) + 0)))) else none))) else (if inB ((4 * ((wset w6 141 22 0).1 141 20)) + 2) 240 then (if ((wset (wset w6 141 22 0) 147 (Int32.toNatClampNeg ((4 * ((wset w6 141 22 0).1 141 20)) + 2)) 0).1 141 22) = 0 then (some (wset (wset (wset w6 141 22 0) 147 (Int32.toNatClampNeg ((4 * ((wset w6 141 22 0).1 141 20)) + 2)) 0) 141 18 (((wset (wset w6 141 22 0) 147 (Int32.toNatClampNeg ((4 * ((wset w6 141 22 0).1 141 20)) + 2)) 0).1 141 18) + 1))) else (some (wset (wset (wset w6 141 22 0) 147 (Int32.toNatClampNeg ((4 * ((wset w6 141 22 0).1 141 20)) + 2)) 0) 141 18 (((wset (wset w6 141 22 0) 147 (Int32.toNatClampNeg ((4 * ((wset w6 141 22 0).1 141 20)) + 2)) 0).1 141 18) + 0)))) else none))))))) else (if ((wset w1 141 22 1).1 141 22) = 0 then (bI (f_X11_here 0 (wset w1 141 22 1)) (fun r2 w2 => (if inB ((4 * ((wset w1 141 22 1).1 141 20)) + 2) 240 then (if ((wset w2 147 (Int32.toNatClampNeg ((4 * ((wset w1 141 22 1).1 141 20)) + 2)) r2).1 141 22) = 0 then (some (wset (wset w2 147 (Int32.toNatClampNeg ((4 * ((wset w1 141 22 1).1 141 20)) + 2)) r2) 141 18 (((wset w2 147 (Int32.toNatClampNeg ((4 * ((wset w1 141 22 1).1 141 20)) + 2)) r2).1 141 18) + 1))) else (some (wset (wset w2 147 (Int32.toNatClampNeg ((4 * ((wset w1 141 22 1).1 141 20)) + 2)) r2) 141 18 (((wset w2 147 (Int32.toNatClampNeg ((4 * ((wset w1 141 22 1).1 141 20)) + 2)) r2).1 141 18) + 0)))) else none))) else (if inB ((4 * ((wset w1 141 22 1).1 141 20)) + 2) 240 then (if ((wset (wset w1 141 22 1) 147 (Int32.toNatClampNeg ((4 * ((wset w1 141 22 1).1 141 20)) + 2)) 0).1 141 22) = 0 then (some (wset (wset (wset w1 141 22 1) 147 (Int32.toNatClampNeg ((4 * ((wset w1 141 22 1).1 141 20)) + 2)) 0) 141 18 (((wset (wset w1 141 22 1) 147 (Int32.toNatClampNeg ((4 * ((wset w1 141 22 1).1 141 20)) + 2)) 0).1 141 18) + 1))) else (some (wset (wset (wset w1 141 22 1) 147 (Int32.toNatClampNeg ((4 * ((wset w1 141 22 1).1 141 20)) + 2)) 0) 141 18 (((wset (wset w1 141 22 1) 147 (Int32.toNatClampNeg ((4 * ((wset w1 141 22 1).1 141 20)) + 2)) 0).1 141 18) + 0)))) else none)))))
set_option maxRecDepth 100000 in
theorem W_X11_term {g : GC} (hl : g.1.stackTraces = false) {s1 : Nat} {w : XW} : VE g cX11_term 2 RX11 none [] (rmL 7 0 0) 0 0 oV 0 0 0 [(0, .ref (g.2.1 + 141)), (1, .ref (g.2.2.2.2.1 s1))] [] w (f_X11_term s1 w) := by
  unfold f_X11_term
  refine v_aload_n dX11_term_0 rfl 0 rfl ?_
  refine v_aload_n dX11_term_1 rfl 1 rfl ?_
  refine v_iconst (v := 1) dX11_term_2 (by decide) ?_
  refine v_iconst (v := 1) dX11_term_3 (by decide) ?_
  refine v_callVv (As := [.ref (g.2.2.2.2.1 s1), .int 1, .int 1]) cv_X11_234 (S_X11_number hl) tt_141 rfl rfl rfl (Nat.le_of_ble_eq_true rfl) dX11_term_4 (CR_rm (by decide) (by decide) (by decide) (by decide)) (fun w1 => ?_)
  refine v_aload_n dX11_term_7 rfl 0 rfl ?_
  refine v_aload_n dX11_term_8 rfl 0 rfl ?_
  refine v_getI fl_X11_189 tt_141 rfl dX11_term_9 ?_
  refine v_if_ne (tgt := 26) dX11_term_12 (by decide) ?_ ?_
  · refine v_iconst (v := 1) dX11_term_26 (by decide) ?_
    refine v_goto (tgt := 31) dX11_term_27 (by decide) ?_
    refine v_putI fl_X11_189 tt_141 rfl (ty0 := .boolean) rfl rfl rfl dX11_term_31 ?_
    refine v_aload_n dX11_term_34 rfl 0 rfl ?_
    refine v_getR fl_X11_25 tt_141 rfl dX11_term_35 ?_
    refine v_iconst (v := 4) dX11_term_38 (by decide) ?_
    refine v_aload_n dX11_term_39 rfl 0 rfl ?_
    refine v_getI fl_X11_231 tt_141 rfl dX11_term_40 ?_
    refine v_imul dX11_term_43 ?_
    refine v_iconst (v := 2) dX11_term_44 (by decide) ?_
    refine v_iadd dX11_term_45 ?_
    refine v_aload_n dX11_term_46 rfl 0 rfl ?_
    refine v_getI fl_X11_189 tt_141 rfl dX11_term_47 ?_
    refine v_if_eq (tgt := 57) dX11_term_50 (by decide) ?_ ?_
    · refine v_aload_n dX11_term_57 rfl 0 rfl ?_
      refine v_iconst (v := 0) dX11_term_58 (by decide) ?_
      refine v_callVi (As := [.int 0]) cv_X11_186 (S_X11_here hl) tt_141 rfl rfl rfl (Nat.le_of_ble_eq_true rfl) dX11_term_59 (CR_rm (by decide) (by decide) (by decide) (by decide)) (fun r2 w2 => ?_)
      refine v_guard (fun h3 => ?_)
      refine v_iast tt_147 h3 dX11_term_62 ?_
      refine v_aload_n dX11_term_63 rfl 0 rfl ?_
      refine v_dup dX11_term_64 rfl ?_
      refine v_getI fl_X11_180 tt_141 rfl dX11_term_65 ?_
      refine v_aload_n dX11_term_68 rfl 0 rfl ?_
      refine v_getI fl_X11_189 tt_141 rfl dX11_term_69 ?_
      refine v_if_eq (tgt := 79) dX11_term_72 (by decide) ?_ ?_
      · refine v_iconst (v := 1) dX11_term_79 (by decide) ?_
        refine v_iadd dX11_term_80 ?_
        refine v_putI fl_X11_180 tt_141 rfl (ty0 := .int) rfl rfl rfl dX11_term_81 ?_
        exact v_vret dX11_term_84 rfl rfl (by decide) (by decide)
      · refine v_iconst (v := 0) dX11_term_75 (by decide) ?_
        refine v_goto (tgt := 80) dX11_term_76 (by decide) ?_
        refine v_iadd dX11_term_80 ?_
        refine v_putI fl_X11_180 tt_141 rfl (ty0 := .int) rfl rfl rfl dX11_term_81 ?_
        exact v_vret dX11_term_84 rfl rfl (by decide) (by decide)
    · refine v_iconst (v := 0) dX11_term_53 (by decide) ?_
      refine v_goto (tgt := 62) dX11_term_54 (by decide) ?_
      refine v_guard (fun h4 => ?_)
      refine v_iast tt_147 h4 dX11_term_62 ?_
      refine v_aload_n dX11_term_63 rfl 0 rfl ?_
      refine v_dup dX11_term_64 rfl ?_
      refine v_getI fl_X11_180 tt_141 rfl dX11_term_65 ?_
      refine v_aload_n dX11_term_68 rfl 0 rfl ?_
      refine v_getI fl_X11_189 tt_141 rfl dX11_term_69 ?_
      refine v_if_eq (tgt := 79) dX11_term_72 (by decide) ?_ ?_
      · refine v_iconst (v := 1) dX11_term_79 (by decide) ?_
        refine v_iadd dX11_term_80 ?_
        refine v_putI fl_X11_180 tt_141 rfl (ty0 := .int) rfl rfl rfl dX11_term_81 ?_
        exact v_vret dX11_term_84 rfl rfl (by decide) (by decide)
      · refine v_iconst (v := 0) dX11_term_75 (by decide) ?_
        refine v_goto (tgt := 80) dX11_term_76 (by decide) ?_
        refine v_iadd dX11_term_80 ?_
        refine v_putI fl_X11_180 tt_141 rfl (ty0 := .int) rfl rfl rfl dX11_term_81 ?_
        exact v_vret dX11_term_84 rfl rfl (by decide) (by decide)
  · refine v_aload_n dX11_term_15 rfl 0 rfl ?_
    refine v_iconst (v := 0) dX11_term_16 (by decide) ?_
    refine v_callVi (As := [.int 0]) cv_X11_186 (S_X11_here hl) tt_141 rfl rfl rfl (Nat.le_of_ble_eq_true rfl) dX11_term_17 (CR_rm (by decide) (by decide) (by decide) (by decide)) (fun r5 w5 => ?_)
    refine v_callSi (As := [.int r5]) cs_X11_102 (S_X11_isTerm hl) rfl rfl (Nat.le_of_ble_eq_true rfl) dX11_term_20 (CR_rm (by decide) (by decide) (by decide) (by decide)) (fun r6 w6 => ?_)
    refine v_if_ne (tgt := 30) dX11_term_23 (by decide) ?_ ?_
    · refine v_iconst (v := 0) dX11_term_30 (by decide) ?_
      refine v_putI fl_X11_189 tt_141 rfl (ty0 := .boolean) rfl rfl rfl dX11_term_31 ?_
      refine v_aload_n dX11_term_34 rfl 0 rfl ?_
      refine v_getR fl_X11_25 tt_141 rfl dX11_term_35 ?_
      refine v_iconst (v := 4) dX11_term_38 (by decide) ?_
      refine v_aload_n dX11_term_39 rfl 0 rfl ?_
      refine v_getI fl_X11_231 tt_141 rfl dX11_term_40 ?_
      refine v_imul dX11_term_43 ?_
      refine v_iconst (v := 2) dX11_term_44 (by decide) ?_
      refine v_iadd dX11_term_45 ?_
      refine v_aload_n dX11_term_46 rfl 0 rfl ?_
      refine v_getI fl_X11_189 tt_141 rfl dX11_term_47 ?_
      refine v_if_eq (tgt := 57) dX11_term_50 (by decide) ?_ ?_
      · refine v_aload_n dX11_term_57 rfl 0 rfl ?_
        refine v_iconst (v := 0) dX11_term_58 (by decide) ?_
        refine v_callVi (As := [.int 0]) cv_X11_186 (S_X11_here hl) tt_141 rfl rfl rfl (Nat.le_of_ble_eq_true rfl) dX11_term_59 (CR_rm (by decide) (by decide) (by decide) (by decide)) (fun r7 w7 => ?_)
        refine v_guard (fun h8 => ?_)
        refine v_iast tt_147 h8 dX11_term_62 ?_
        refine v_aload_n dX11_term_63 rfl 0 rfl ?_
        refine v_dup dX11_term_64 rfl ?_
        refine v_getI fl_X11_180 tt_141 rfl dX11_term_65 ?_
        refine v_aload_n dX11_term_68 rfl 0 rfl ?_
        refine v_getI fl_X11_189 tt_141 rfl dX11_term_69 ?_
        refine v_if_eq (tgt := 79) dX11_term_72 (by decide) ?_ ?_
        · refine v_iconst (v := 1) dX11_term_79 (by decide) ?_
          refine v_iadd dX11_term_80 ?_
          refine v_putI fl_X11_180 tt_141 rfl (ty0 := .int) rfl rfl rfl dX11_term_81 ?_
          exact v_vret dX11_term_84 rfl rfl (by decide) (by decide)
        · refine v_iconst (v := 0) dX11_term_75 (by decide) ?_
          refine v_goto (tgt := 80) dX11_term_76 (by decide) ?_
          refine v_iadd dX11_term_80 ?_
          refine v_putI fl_X11_180 tt_141 rfl (ty0 := .int) rfl rfl rfl dX11_term_81 ?_
          exact v_vret dX11_term_84 rfl rfl (by decide) (by decide)
      · refine v_iconst (v := 0) dX11_term_53 (by decide) ?_
        refine v_goto (tgt := 62) dX11_term_54 (by decide) ?_
        refine v_guard (fun h9 => ?_)
        refine v_iast tt_147 h9 dX11_term_62 ?_
        refine v_aload_n dX11_term_63 rfl 0 rfl ?_
        refine v_dup dX11_term_64 rfl ?_
        refine v_getI fl_X11_180 tt_141 rfl dX11_term_65 ?_
        refine v_aload_n dX11_term_68 rfl 0 rfl ?_
        refine v_getI fl_X11_189 tt_141 rfl dX11_term_69 ?_
        refine v_if_eq (tgt := 79) dX11_term_72 (by decide) ?_ ?_
        · refine v_iconst (v := 1) dX11_term_79 (by decide) ?_
          refine v_iadd dX11_term_80 ?_
          refine v_putI fl_X11_180 tt_141 rfl (ty0 := .int) rfl rfl rfl dX11_term_81 ?_
          exact v_vret dX11_term_84 rfl rfl (by decide) (by decide)
        · refine v_iconst (v := 0) dX11_term_75 (by decide) ?_
          refine v_goto (tgt := 80) dX11_term_76 (by decide) ?_
          refine v_iadd dX11_term_80 ?_
          refine v_putI fl_X11_180 tt_141 rfl (ty0 := .int) rfl rfl rfl dX11_term_81 ?_
          exact v_vret dX11_term_84 rfl rfl (by decide) (by decide)
    · refine v_iconst (v := 1) dX11_term_26 (by decide) ?_
      refine v_goto (tgt := 31) dX11_term_27 (by decide) ?_
      refine v_putI fl_X11_189 tt_141 rfl (ty0 := .boolean) rfl rfl rfl dX11_term_31 ?_
      refine v_aload_n dX11_term_34 rfl 0 rfl ?_
      refine v_getR fl_X11_25 tt_141 rfl dX11_term_35 ?_
      refine v_iconst (v := 4) dX11_term_38 (by decide) ?_
      refine v_aload_n dX11_term_39 rfl 0 rfl ?_
      refine v_getI fl_X11_231 tt_141 rfl dX11_term_40 ?_
      refine v_imul dX11_term_43 ?_
      refine v_iconst (v := 2) dX11_term_44 (by decide) ?_
      refine v_iadd dX11_term_45 ?_
      refine v_aload_n dX11_term_46 rfl 0 rfl ?_
      refine v_getI fl_X11_189 tt_141 rfl dX11_term_47 ?_
      refine v_if_eq (tgt := 57) dX11_term_50 (by decide) ?_ ?_
      · refine v_aload_n dX11_term_57 rfl 0 rfl ?_
        refine v_iconst (v := 0) dX11_term_58 (by decide) ?_
        refine v_callVi (As := [.int 0]) cv_X11_186 (S_X11_here hl) tt_141 rfl rfl rfl (Nat.le_of_ble_eq_true rfl) dX11_term_59 (CR_rm (by decide) (by decide) (by decide) (by decide)) (fun r10 w10 => ?_)
        refine v_guard (fun h11 => ?_)
        refine v_iast tt_147 h11 dX11_term_62 ?_
        refine v_aload_n dX11_term_63 rfl 0 rfl ?_
        refine v_dup dX11_term_64 rfl ?_
        refine v_getI fl_X11_180 tt_141 rfl dX11_term_65 ?_
        refine v_aload_n dX11_term_68 rfl 0 rfl ?_
        refine v_getI fl_X11_189 tt_141 rfl dX11_term_69 ?_
        refine v_if_eq (tgt := 79) dX11_term_72 (by decide) ?_ ?_
        · refine v_iconst (v := 1) dX11_term_79 (by decide) ?_
          refine v_iadd dX11_term_80 ?_
          refine v_putI fl_X11_180 tt_141 rfl (ty0 := .int) rfl rfl rfl dX11_term_81 ?_
          exact v_vret dX11_term_84 rfl rfl (by decide) (by decide)
        · refine v_iconst (v := 0) dX11_term_75 (by decide) ?_
          refine v_goto (tgt := 80) dX11_term_76 (by decide) ?_
          refine v_iadd dX11_term_80 ?_
          refine v_putI fl_X11_180 tt_141 rfl (ty0 := .int) rfl rfl rfl dX11_term_81 ?_
          exact v_vret dX11_term_84 rfl rfl (by decide) (by decide)
      · refine v_iconst (v := 0) dX11_term_53 (by decide) ?_
        refine v_goto (tgt := 62) dX11_term_54 (by decide) ?_
        refine v_guard (fun h12 => ?_)
        refine v_iast tt_147 h12 dX11_term_62 ?_
        refine v_aload_n dX11_term_63 rfl 0 rfl ?_
        refine v_dup dX11_term_64 rfl ?_
        refine v_getI fl_X11_180 tt_141 rfl dX11_term_65 ?_
        refine v_aload_n dX11_term_68 rfl 0 rfl ?_
        refine v_getI fl_X11_189 tt_141 rfl dX11_term_69 ?_
        refine v_if_eq (tgt := 79) dX11_term_72 (by decide) ?_ ?_
        · refine v_iconst (v := 1) dX11_term_79 (by decide) ?_
          refine v_iadd dX11_term_80 ?_
          refine v_putI fl_X11_180 tt_141 rfl (ty0 := .int) rfl rfl rfl dX11_term_81 ?_
          exact v_vret dX11_term_84 rfl rfl (by decide) (by decide)
        · refine v_iconst (v := 0) dX11_term_75 (by decide) ?_
          refine v_goto (tgt := 80) dX11_term_76 (by decide) ?_
          refine v_iadd dX11_term_80 ?_
          refine v_putI fl_X11_180 tt_141 rfl (ty0 := .int) rfl rfl rfl dX11_term_81 ?_
          exact v_vret dX11_term_84 rfl rfl (by decide) (by decide)
theorem S_X11_term {g : GC} (hl : g.1.stackTraces = false) {s1 : Nat} {w : XW} : ∀ q, f_X11_term s1 w = some q → MM g (.code yX11_term cX11_term 2 none) yX11_term (rmL 7 0 0) 0 0 [.ref (g.2.1 + 141), .ref (g.2.2.2.2.1 s1)] w (oV q) := fun q hq => MM_of (own := RX11) hl (by decide) gw_1880 rfl (Nat.le_of_ble_eq_true rfl) (W_X11_term hl q hq) ⟨rfl, rfl⟩

theorem dX11_readsOne_0 : decode cX11_readsOne 0 = .ok (.aload_n 0, 1) := by decide +kernel
theorem dX11_readsOne_1 : decode cX11_readsOne 1 = .ok (.iconst 0, 1) := by decide +kernel
theorem dX11_readsOne_2 : decode cX11_readsOne 2 = .ok (.invokevirtual 186, 3) := by decide +kernel
theorem dX11_readsOne_5 : decode cX11_readsOne 5 = .ok (.istore_n 1, 1) := by decide +kernel
theorem dX11_readsOne_6 : decode cX11_readsOne 6 = .ok (.iload_n 1, 1) := by decide +kernel
theorem dX11_readsOne_7 : decode cX11_readsOne 7 = .ok (.bipush 112, 2) := by decide +kernel
theorem dX11_readsOne_9 : decode cX11_readsOne 9 = .ok (.if_icmp .ne 17, 3) := by decide +kernel
theorem dX11_readsOne_12 : decode cX11_readsOne 12 = .ok (.aload_n 0, 1) := by decide +kernel
theorem dX11_readsOne_13 : decode cX11_readsOne 13 = .ok (.iconst 1, 1) := by decide +kernel
theorem dX11_readsOne_14 : decode cX11_readsOne 14 = .ok (.invokevirtual 186, 3) := by decide +kernel
theorem dX11_readsOne_17 : decode cX11_readsOne 17 = .ok (.bipush 105, 2) := by decide +kernel
theorem dX11_readsOne_19 : decode cX11_readsOne 19 = .ok (.if_icmp .ne 7, 3) := by decide +kernel
theorem dX11_readsOne_22 : decode cX11_readsOne 22 = .ok (.iconst 1, 1) := by decide +kernel
theorem dX11_readsOne_23 : decode cX11_readsOne 23 = .ok (.goto 4, 3) := by decide +kernel
theorem dX11_readsOne_26 : decode cX11_readsOne 26 = .ok (.iconst 0, 1) := by decide +kernel
theorem dX11_readsOne_27 : decode cX11_readsOne 27 = .ok (.istore_n 2, 1) := by decide +kernel
theorem dX11_readsOne_28 : decode cX11_readsOne 28 = .ok (.aload_n 0, 1) := by decide +kernel
theorem dX11_readsOne_29 : decode cX11_readsOne 29 = .ok (.getfield 25, 3) := by decide +kernel
theorem dX11_readsOne_32 : decode cX11_readsOne 32 = .ok (.iconst 4, 1) := by decide +kernel
theorem dX11_readsOne_33 : decode cX11_readsOne 33 = .ok (.aload_n 0, 1) := by decide +kernel
theorem dX11_readsOne_34 : decode cX11_readsOne 34 = .ok (.getfield 231, 3) := by decide +kernel
theorem dX11_readsOne_37 : decode cX11_readsOne 37 = .ok (.imul, 1) := by decide +kernel
theorem dX11_readsOne_38 : decode cX11_readsOne 38 = .ok (.iload_n 2, 1) := by decide +kernel
theorem dX11_readsOne_39 : decode cX11_readsOne 39 = .ok (.ifCond .eq 8, 3) := by decide +kernel
theorem dX11_readsOne_42 : decode cX11_readsOne 42 = .ok (.bipush 105, 2) := by decide +kernel
theorem dX11_readsOne_44 : decode cX11_readsOne 44 = .ok (.goto 4, 3) := by decide +kernel
theorem dX11_readsOne_47 : decode cX11_readsOne 47 = .ok (.iload_n 1, 1) := by decide +kernel
theorem dX11_readsOne_48 : decode cX11_readsOne 48 = .ok (.iastore, 1) := by decide +kernel
theorem dX11_readsOne_49 : decode cX11_readsOne 49 = .ok (.iload_n 1, 1) := by decide +kernel
theorem dX11_readsOne_50 : decode cX11_readsOne 50 = .ok (.tableswitch 242 97 117 #[98, 198, 186, 222, 242, 165, 242, 242, 242, 242, 242, 242, 210, 242, 176, 107, 242, 242, 232, 147, 156], 98) := by decide +kernel
theorem dX11_readsOne_148 : decode cX11_readsOne 148 = .ok (.aload_n 0, 1) := by decide +kernel
theorem dX11_readsOne_149 : decode cX11_readsOne 149 = .ok (.ldc 238, 2) := by decide +kernel
theorem dX11_readsOne_151 : decode cX11_readsOne 151 = .ok (.invokevirtual 227, 3) := by decide +kernel
theorem dX11_readsOne_154 : decode cX11_readsOne 154 = .ok (.goto 143, 3) := by decide +kernel
theorem dX11_readsOne_157 : decode cX11_readsOne 157 = .ok (.aload_n 0, 1) := by decide +kernel
theorem dX11_readsOne_158 : decode cX11_readsOne 158 = .ok (.iload_n 2, 1) := by decide +kernel
theorem dX11_readsOne_159 : decode cX11_readsOne 159 = .ok (.ifCond .eq 8, 3) := by decide +kernel
theorem dX11_readsOne_162 : decode cX11_readsOne 162 = .ok (.ldc 240, 2) := by decide +kernel
theorem dX11_readsOne_164 : decode cX11_readsOne 164 = .ok (.goto 5, 3) := by decide +kernel
theorem dX11_readsOne_167 : decode cX11_readsOne 167 = .ok (.ldc 242, 2) := by decide +kernel
theorem dX11_readsOne_169 : decode cX11_readsOne 169 = .ok (.iconst 1, 1) := by decide +kernel
theorem dX11_readsOne_170 : decode cX11_readsOne 170 = .ok (.iconst 1, 1) := by decide +kernel
theorem dX11_readsOne_171 : decode cX11_readsOne 171 = .ok (.invokevirtual 234, 3) := by decide +kernel
theorem dX11_readsOne_174 : decode cX11_readsOne 174 = .ok (.iload_n 2, 1) := by decide +kernel
theorem dX11_readsOne_175 : decode cX11_readsOne 175 = .ok (.ifCond .eq 11, 3) := by decide +kernel
theorem dX11_readsOne_178 : decode cX11_readsOne 178 = .ok (.aload_n 0, 1) := by decide +kernel
theorem dX11_readsOne_179 : decode cX11_readsOne 179 = .ok (.ldc 244, 2) := by decide +kernel
theorem dX11_readsOne_181 : decode cX11_readsOne 181 = .ok (.iconst 2, 1) := by decide +kernel
theorem dX11_readsOne_182 : decode cX11_readsOne 182 = .ok (.iconst 1, 1) := by decide +kernel
theorem dX11_readsOne_183 : decode cX11_readsOne 183 = .ok (.invokevirtual 234, 3) := by decide +kernel
theorem dX11_readsOne_186 : decode cX11_readsOne 186 = .ok (.aload_n 0, 1) := by decide +kernel
theorem dX11_readsOne_187 : decode cX11_readsOne 187 = .ok (.ldc 246, 2) := by decide +kernel
theorem dX11_readsOne_189 : decode cX11_readsOne 189 = .ok (.iconst 3, 1) := by decide +kernel
theorem dX11_readsOne_190 : decode cX11_readsOne 190 = .ok (.iconst 2, 1) := by decide +kernel
theorem dX11_readsOne_191 : decode cX11_readsOne 191 = .ok (.invokevirtual 234, 3) := by decide +kernel
theorem dX11_readsOne_194 : decode cX11_readsOne 194 = .ok (.goto 103, 3) := by decide +kernel
theorem dX11_readsOne_197 : decode cX11_readsOne 197 = .ok (.aload_n 0, 1) := by decide +kernel
theorem dX11_readsOne_198 : decode cX11_readsOne 198 = .ok (.ldc 248, 2) := by decide +kernel
theorem dX11_readsOne_200 : decode cX11_readsOne 200 = .ok (.invokevirtual 250, 3) := by decide +kernel
theorem dX11_readsOne_203 : decode cX11_readsOne 203 = .ok (.goto 94, 3) := by decide +kernel
theorem dX11_readsOne_206 : decode cX11_readsOne 206 = .ok (.aload_n 0, 1) := by decide +kernel
theorem dX11_readsOne_207 : decode cX11_readsOne 207 = .ok (.ldc 253, 2) := by decide +kernel
theorem dX11_readsOne_209 : decode cX11_readsOne 209 = .ok (.invokevirtual 250, 3) := by decide +kernel
theorem dX11_readsOne_212 : decode cX11_readsOne 212 = .ok (.goto 85, 3) := by decide +kernel
theorem dX11_readsOne_215 : decode cX11_readsOne 215 = .ok (.aload_n 0, 1) := by decide +kernel
theorem dX11_readsOne_216 : decode cX11_readsOne 216 = .ok (.ldc 255, 2) := by decide +kernel
theorem dX11_readsOne_218 : decode cX11_readsOne 218 = .ok (.iconst 1, 1) := by decide +kernel
theorem dX11_readsOne_219 : decode cX11_readsOne 219 = .ok (.iconst 1, 1) := by decide +kernel
theorem dX11_readsOne_220 : decode cX11_readsOne 220 = .ok (.invokevirtual 234, 3) := by decide +kernel
theorem dX11_readsOne_223 : decode cX11_readsOne 223 = .ok (.goto 74, 3) := by decide +kernel
theorem dX11_readsOne_226 : decode cX11_readsOne 226 = .ok (.aload_n 0, 1) := by decide +kernel
theorem dX11_readsOne_227 : decode cX11_readsOne 227 = .ok (.ldc_w 257, 3) := by decide +kernel
theorem dX11_readsOne_230 : decode cX11_readsOne 230 = .ok (.invokevirtual 227, 3) := by decide +kernel
theorem dX11_readsOne_233 : decode cX11_readsOne 233 = .ok (.goto 64, 3) := by decide +kernel
theorem dX11_readsOne_236 : decode cX11_readsOne 236 = .ok (.aload_n 0, 1) := by decide +kernel
theorem dX11_readsOne_237 : decode cX11_readsOne 237 = .ok (.ldc_w 258, 3) := by decide +kernel
theorem dX11_readsOne_240 : decode cX11_readsOne 240 = .ok (.iconst 1, 1) := by decide +kernel
theorem dX11_readsOne_241 : decode cX11_readsOne 241 = .ok (.iconst 1, 1) := by decide +kernel
theorem dX11_readsOne_242 : decode cX11_readsOne 242 = .ok (.invokevirtual 234, 3) := by decide +kernel
theorem dX11_readsOne_245 : decode cX11_readsOne 245 = .ok (.goto 52, 3) := by decide +kernel
theorem dX11_readsOne_248 : decode cX11_readsOne 248 = .ok (.aload_n 0, 1) := by decide +kernel
theorem dX11_readsOne_249 : decode cX11_readsOne 249 = .ok (.ldc_w 260, 3) := by decide +kernel
theorem dX11_readsOne_252 : decode cX11_readsOne 252 = .ok (.iconst 1, 1) := by decide +kernel
theorem dX11_readsOne_253 : decode cX11_readsOne 253 = .ok (.iconst 1, 1) := by decide +kernel
theorem dX11_readsOne_254 : decode cX11_readsOne 254 = .ok (.invokevirtual 234, 3) := by decide +kernel
theorem dX11_readsOne_257 : decode cX11_readsOne 257 = .ok (.goto 40, 3) := by decide +kernel
theorem dX11_readsOne_260 : decode cX11_readsOne 260 = .ok (.aload_n 0, 1) := by decide +kernel
theorem dX11_readsOne_261 : decode cX11_readsOne 261 = .ok (.ldc_w 262, 3) := by decide +kernel
theorem dX11_readsOne_264 : decode cX11_readsOne 264 = .ok (.iconst 1, 1) := by decide +kernel
theorem dX11_readsOne_265 : decode cX11_readsOne 265 = .ok (.iconst 1, 1) := by decide +kernel
theorem dX11_readsOne_266 : decode cX11_readsOne 266 = .ok (.invokevirtual 234, 3) := by decide +kernel
theorem dX11_readsOne_269 : decode cX11_readsOne 269 = .ok (.goto 28, 3) := by decide +kernel
theorem dX11_readsOne_272 : decode cX11_readsOne 272 = .ok (.aload_n 0, 1) := by decide +kernel
theorem dX11_readsOne_273 : decode cX11_readsOne 273 = .ok (.ldc_w 264, 3) := by decide +kernel
theorem dX11_readsOne_276 : decode cX11_readsOne 276 = .ok (.invokevirtual 227, 3) := by decide +kernel
theorem dX11_readsOne_279 : decode cX11_readsOne 279 = .ok (.goto 18, 3) := by decide +kernel
theorem dX11_readsOne_282 : decode cX11_readsOne 282 = .ok (.aload_n 0, 1) := by decide +kernel
theorem dX11_readsOne_283 : decode cX11_readsOne 283 = .ok (.ldc_w 266, 3) := by decide +kernel
theorem dX11_readsOne_286 : decode cX11_readsOne 286 = .ok (.invokevirtual 227, 3) := by decide +kernel
theorem dX11_readsOne_289 : decode cX11_readsOne 289 = .ok (.goto 8, 3) := by decide +kernel
theorem dX11_readsOne_292 : decode cX11_readsOne 292 = .ok (.aload_n 0, 1) := by decide +kernel
theorem dX11_readsOne_293 : decode cX11_readsOne 293 = .ok (.iconst 1, 1) := by decide +kernel
theorem dX11_readsOne_294 : decode cX11_readsOne 294 = .ok (.putfield 189, 3) := by decide +kernel
theorem dX11_readsOne_297 : decode cX11_readsOne 297 = .ok (.aload_n 0, 1) := by decide +kernel
theorem dX11_readsOne_298 : decode cX11_readsOne 298 = .ok (.dup, 1) := by decide +kernel
theorem dX11_readsOne_299 : decode cX11_readsOne 299 = .ok (.getfield 231, 3) := by decide +kernel
theorem dX11_readsOne_302 : decode cX11_readsOne 302 = .ok (.iconst 1, 1) := by decide +kernel
theorem dX11_readsOne_303 : decode cX11_readsOne 303 = .ok (.iadd, 1) := by decide +kernel
theorem dX11_readsOne_304 : decode cX11_readsOne 304 = .ok (.putfield 231, 3) := by decide +kernel
theorem dX11_readsOne_307 : decode cX11_readsOne 307 = .ok (.return_, 1) := by decide +kernel
def f_X11_readsOne (w : XW) : Option (XW) := (bI (f_X11_here 0 w) (fun r1 w1 => (if r1 = 112 then (bI (f_X11_here 1 w1) (fun r36 w36 => (if r36 = 105 then (if inB (4 * (w36.1 141 20)) 240 then (if r1 = 97 then (bV (f_X11_says 12 (wset w36 147 (Int32.toNatClampNeg (4 * (w36.1 141 20))) 105)) (fun w73 => (some (wset w73 141 20 ((w73.1 141 20) + 1))))) else (if r1 = 98 then (bV (f_X11_number 22 1 1 (wset w36 147 (Int32.toNatClampNeg (4 * (w36.1 141 20))) 105)) (fun w75 => (some (wset w75 141 20 ((w75.1 141 20) + 1))))) else (if r1 = 99 then (bV (f_X11_number 21 1 1 (wset w36 147 (Int32.toNatClampNeg (4 * (w36.1 141 20))) 105)) (fun w77 => (some (wset w77 141 20 ((w77.1 141 20) + 1))))) else (if r1 = 100 then (bV (f_X11_says 24 (wset w36 147 (Int32.toNatClampNeg (4 * (w36.1 141 20))) 105)) (fun w79 => (some (wset w79 141 20 ((w79.1 141 20) + 1))))) else (if r1 = 101 then (some (wset (wset (wset w36 147 (Int32.toNatClampNeg (4 * (w36.1 141 20))) 105) 141 22 1) 141 20 (((wset (wset w36 147 (Int32.toNatClampNeg (4 * (w36.1 141 20))) 105) 141 22 1).1 141 20) + 1))) else (if r1 = 102 then (bV (f_X11_number 19 1 1 (wset w36 147 (Int32.toNatClampNeg (4 * (w36.1 141 20))) 105)) (fun w82 => (some (wset w82 141 20 ((w82.1 141 20) + 1))))) else (if r1 = 103 then (some (wset (wset (wset w36 147 (Int32.toNatClampNeg (4 * (w36.1 141 20))) 105) 141 22 1) 141 20 (((wset (wset w36 147 (Int32.toNatClampNeg (4 * (w36.1 141 20))) 105) 141 22 1).1 141 20) + 1))) else (if r1 = 104 then (some (wset (wset (wset w36 147 (Int32.toNatClampNeg (4 * (w36.1 141 20))) 105) 141 22 1) 141 20 (((wset (wset w36 147 (Int32.toNatClampNeg (4 * (w36.1 141 20))) 105) 141 22 1).1 141 20) + 1))) else (if r1 = 105 then (some (wset (wset (wset w36 147 (Int32.toNatClampNeg (4 * (w36.1 141 20))) 105) 141 22 1) 141 20 (((wset (wset w36 147 (Int32.toNatClampNeg (4 * (w36.1 141 20))) 105) 141 22 1).1 141 20) + 1))) else (if r1 = 106 then (some (wset (wset (wset w36 147 (Int32.toNatClampNeg (4 * (w36.1 141 20))) 105) 141 22 1) 141 20 (((wset (wset w36 147 (Int32.toNatClampNeg (4 * (w36.1 141 20))) 105) 141 22 1).1 141 20) + 1))) else (if r1 = 107 then (some (wset (wset (wset w36 147 (Int32.toNatClampNeg (4 * (w36.1 141 20))) 105) 141 22 1) 141 20 (((wset (wset w36 147 (Int32.toNatClampNeg (4 * (w36.1 141 20))) 105) 141 22 1).1 141 20) + 1))) else (if r1 = 108 then (some (wset (wset (wset w36 147 (Int32.toNatClampNeg (4 * (w36.1 141 20))) 105) 141 22 1) 141 20 (((wset (wset w36 147 (Int32.toNatClampNeg (4 * (w36.1 141 20))) 105) 141 22 1).1 141 20) + 1))) else (if r1 = 109 then (bV (f_X11_number 23 1 1 (wset w36 147 (Int32.toNatClampNeg (4 * (w36.1 141 20))) 105)) (fun w90 => (some (wset w90 141 20 ((w90.1 141 20) + 1))))) else (if r1 = 110 then (some (wset (wset (wset w36 147 (Int32.toNatClampNeg (4 * (w36.1 141 20))) 105) 141 22 1) 141 20 (((wset (wset w36 147 (Int32.toNatClampNeg (4 * (w36.1 141 20))) 105) 141 22 1).1 141 20) + 1))) else (if r1 = 111 then (bV (f_X11_says 20 (wset w36 147 (Int32.toNatClampNeg (4 * (w36.1 141 20))) 105)) (fun w93 => (some (wset w93 141 20 ((w93.1 141 20) + 1))))) else (if r1 = 112 then (bV (f_X11_number 13 1 1 (wset w36 147 (Int32.toNatClampNeg (4 * (w36.1 141 20))) 105)) (fun w95 => (bV (f_X11_number 15 2 1 w95) (fun w96 => (bV (f_X11_number 16 3 2 w96) (fun w97 => (some (wset w97 141 20 ((w97.1 141 20) + 1))))))))) else (if r1 = 113 then (some (wset (wset (wset w36 147 (Int32.toNatClampNeg (4 * (w36.1 141 20))) 105) 141 22 1) 141 20 (((wset (wset w36 147 (Int32.toNatClampNeg (4 * (w36.1 141 20))) 105) 141 22 1).1 141 20) + 1))) else (if r1 = 114 then (some (wset (wset (wset w36 147 (Int32.toNatClampNeg (4 * (w36.1 141 20))) 105) 141 22 1) 141 20 (((wset (wset w36 147 (Int32.toNatClampNeg (4 * (w36.1 141 20))) 105) 141 22 1).1 141 20) + 1))) else (if r1 = 115 then (bV (f_X11_says 25 (wset w36 147 (Int32.toNatClampNeg (4 * (w36.1 141 20))) 105)) (fun w101 => (some (wset w101 141 20 ((w101.1 141 20) + 1))))) else (if r1 = 116 then (bV (f_X11_term 17 (wset w36 147 (Int32.toNatClampNeg (4 * (w36.1 141 20))) 105)) (fun w103 => (some (wset w103 141 20 ((w103.1 141 20) + 1))))) else (if r1 = 117 then (bV (f_X11_term 18 (wset w36 147 (Int32.toNatClampNeg (4 * (w36.1 141 20))) 105)) (fun w105 => (some (wset w105 141 20 ((w105.1 141 20) + 1))))) else (some (wset (wset (wset w36 147 (Int32.toNatClampNeg (4 * (w36.1 141 20))) 105) 141 22 1) 141 20 (((wset (wset w36 147 (Int32.toNatClampNeg (4 * (w36.1 141 20))) 105) 141 22 1).1 141 20) + 1)))))))))))))))))))))))) else none) else (if inB (4 * (w36.1 141 20)) 240 then (if r1 = 97 then (bV (f_X11_says 12 (wset w36 147 (Int32.toNatClampNeg (4 * (w36.1 141 20))) r1)) (fun w39 => (some (wset w39 141 20 ((w39.1 141 20) + 1))))) else (if r1 = 98 then (bV (f_X11_number 22 1 1 (wset w36 147 (Int32.toNatClampNeg (4 * (w36.1 141 20))) r1)) (fun w41 => (some (wset w41 141 20 ((w41.1 141 20) + 1))))) else (if r1 = 99 then (bV (f_X11_number 21 1 1 (wset w36 147 (Int32.toNatClampNeg (4 * (w36.1 141 20))) r1)) (fun w43 => (some (wset w43 141 20 ((w43.1 141 20) + 1))))) else (if r1 = 100 then (bV (f_X11_says 24 (wset w36 147 (Int32.toNatClampNeg (4 * (w36.1 141 20))) r1)) (fun w45 => (some (wset w45 141 20 ((w45.1 141 20) + 1))))) else (if r1 = 101 then (some (wset (wset (wset w36 147 (Int32.toNatClampNeg (4 * (w36.1 141 20))) r1) 141 22 1) 141 20 (((wset (wset w36 147 (Int32.toNatClampNeg (4 * (w36.1 141 20))) r1) 141 22 1).1 141 20) + 1))) else (if r1 = 102 then (bV (f_X11_number 19 1 1 (wset w36 147 (Int32.toNatClampNeg (4 * (w36.1 141 20))) r1)) (fun w48 => (some (wset w48 141 20 ((w48.1 141 20) + 1))))) else (if r1 = 103 then (some (wset (wset (wset w36 147 (Int32.toNatClampNeg (4 * (w36.1 141 20))) r1) 141 22 1) 141 20 (((wset (wset w36 147 (Int32.toNatClampNeg (4 * (w36.1 141 20))) r1) 141 22 1).1 141 20) + 1))) else (if r1 = 104 then (some (wset (wset (wset w36 147 (Int32.toNatClampNeg (4 * (w36.1 141 20))) r1) 141 22 1) 141 20 (((wset (wset w36 147 (Int32.toNatClampNeg (4 * (w36.1 141 20))) r1) 141 22 1).1 141 20) + 1))) else (if r1 = 105 then (some (wset (wset (wset w36 147 (Int32.toNatClampNeg (4 * (w36.1 141 20))) r1) 141 22 1) 141 20 (((wset (wset w36 147 (Int32.toNatClampNeg (4 * (w36.1 141 20))) r1) 141 22 1).1 141 20) + 1))) else (if r1 = 106 then (some (wset (wset (wset w36 147 (Int32.toNatClampNeg (4 * (w36.1 141 20))) r1) 141 22 1) 141 20 (((wset (wset w36 147 (Int32.toNatClampNeg (4 * (w36.1 141 20))) r1) 141 22 1).1 141 20) + 1))) else (if r1 = 107 then (some (wset (wset (wset w36 147 (Int32.toNatClampNeg (4 * (w36.1 141 20))) r1) 141 22 1) 141 20 (((wset (wset w36 147 (Int32.toNatClampNeg (4 * (w36.1 141 20))) r1) 141 22 1).1 141 20) + 1))) else (if r1 = 108 then (some (wset (wset (wset w36 147 (Int32.toNatClampNeg (4 * (w36.1 141 20))) r1) 141 22 1) 141 20 (((wset (wset w36 147 (Int32.toNatClampNeg (4 * (w36.1 141 20))) r1) 141 22 1).1 141 20) + 1))) else (if r1 = 109 then (bV (f_X11_number 23 1 1 (wset w36 147 (Int32.toNatClampNeg (4 * (w36.1 141 20))) r1)) (fun w56 => (some (wset w56 141 20 ((w56.1 141 20) + 1))))) else (if r1 = 110 then (some (wset (wset (wset w36 147 (Int32.toNatClampNeg (4 * (w36.1 141 20))) r1) 141 22 1) 141 20 (((wset (wset w36 147 (Int32.toNatClampNeg (4 * (w36.1 141 20))) r1) 141 22 1).1 141 20) + 1))) else (if r1 = 111 then (bV (f_X11_says 20 (wset w36 147 (Int32.toNatClampNeg (4 * (w36.1 141 20))) r1)) (fun w59 => (some (wset w59 141 20 ((w59.1 141 20) + 1))))) else (if r1 = 112 then (bV (f_X11_number 14 1 1 (wset w36 147 (Int32.toNatClampNeg (4 * (w36.1 141 20))) r1)) (fun w61 => (bV (f_X11_number 16 3 2 w61) (fun w62 => (some (wset w62 141 20 ((w62.1 141 20) + 1))))))) else (if r1 = 113 then (some (wset (wset (wset w36 147 (Int32.toNatClampNeg (4 * (w36.1 141 20))) r1) 141 22 1) 141 20 (((wset (wset w36 147 (Int32.toNatClampNeg (4 * (w36.1 141 20))) r1) 141 22 1).1 141 20) + 1))) else (if r1 = 114 then (some (wset (wset (wset w36 147 (Int32.toNatClampNeg (4 * (w36.1 141 20))) r1) 141 22 1) 141 20 (((wset (wset w36 147 (Int32.toNatClampNeg (4 * (w36.1 141 20))) r1) 141 22 1).1 141 20) + 1))) else (if r1 = 115 then (bV (f_X11_says 25 (wset w36 147 (Int32.toNatClampNeg (4 * (w36.1 141 20))) r1)) (fun w66 => (some (wset w66 141 20 ((w66.1 141 20) + 1))))) else (if r1 = 116 then (bV (f_X11_term 17 (wset w36 147 (Int32.toNatClampNeg (4 * (w36.1 141 20))) r1)) (fun w68 => (some (wset w68 141 20 ((w68.1 141 20) + 1))))) else (if r1 = 117 then (bV (f_X11_term 18 (wset w36 147 (Int32.toNatClampNeg (4 * (w36.1 141 20))) r1)) (fun w70 => (some (wset w70 141 20 ((w70.1 141 20) + 1))))) else (some (wset (wset (wset w36 147 (Int32.toNatClampNeg (4 * (w36.1 141 20))) r1) 141 22 1) 141 20 (((wset (wset w36 147 (Int32.toNatClampNeg (4 * (w36.1 141 20))) r1) 141 22 1).1 141 20) + 1)))))))))))))))))))))))) else none)))) else (if inB (4 * (w1.1 141 20)) 240 then (if r1 = 97 then (bV (f_X11_says 12 (wset w1 147 (Int32.toNatClampNeg (4 * (w1.1 141 20))) r1)) (fun w4 => (some (wset w4 141 20 ((w4.1 141 20) + 1))))) else (if r1 = 98 then (bV (f_X11_number 22 1 1 (wset w1 147 (Int32.toNatClampNeg (4 * (w1.1 141 20))) r1)) (fun w6 => (some (wset w6 141 20 ((w6.1 141 20) + 1))))) else (if r1 = 99 then (bV (f_X11_number 21 1 1 (wset w1 147 (Int32.toNatClampNeg (4 * (w1.1 141 20))) r1)) (fun w8 => (some (wset w8 141 20 ((w8.1 141 20) + 1))))) else (if r1 = 100 then (bV (f_X11_says 24 (wset w1 147 (Int32.toNatClampNeg (4 * (w1.1 141 20))) r1)) (fun w10 => (some (wset w10 141 20 ((w10.1 141 20) + 1))))) else (if r1 = 101 then (some (wset (wset (wset w1 147 (Int32.toNatClampNeg (4 * (w1.1 141 20))) r1) 141 22 1) 141 20 (((wset (wset w1 147 (Int32.toNatClampNeg (4 * (w1.1 141 20))) r1) 141 22 1).1 141 20) + 1))) else (if r1 = 102 then (bV (f_X11_number 19 1 1 (wset w1 147 (Int32.toNatClampNeg (4 * (w1.1 141 20))) r1)) (fun w13 => (some (wset w13 141 20 ((w13.1 141 20) + 1))))) else (if r1 = 103 then (some (wset (wset (wset w1 147 (Int32.toNatClampNeg (4 * (w1.1 141 20))) r1) 141 22 1) 141 20 (((wset (wset w1 147 (Int32.toNatClampNeg (4 * (w1.1 141 20))) r1) 141 22 1).1 141 20) + 1))) else (if r1 = 104 then (some (wset (wset (wset w1 147 (Int32.toNatClampNeg (4 * (w1.1 141 20))) r1) 141 22 1) 141 20 (((wset (wset w1 147 (Int32.toNatClampNeg (4 * (w1.1 141 20))) r1) 141 22 1).1 141 20) + 1))) else (if r1 = 105 then (some (wset (wset (wset w1 147 (Int32.toNatClampNeg (4 * (w1.1 141 20))) r1) 141 22 1) 141 20 (((wset (wset w1 147 (Int32.toNatClampNeg (4 * (w1.1 141 20))) r1) 141 22 1).1 141 20) + 1))) else (if r1 = 106 then (some (wset (wset (wset w1 147 (Int32.toNatClampNeg (4 * (w1.1 141 20))) r1) 141 22 1) 141 20 (((wset (wset w1 147 (Int32.toNatClampNeg (4 * (w1.1 141 20))) r1) 141 22 1).1 141 20) + 1))) else (if r1 = 107 then (some (wset (wset (wset w1 147 (Int32.toNatClampNeg (4 * (w1.1 141 20))) r1) 141 22 1) 141 20 (((wset (wset w1 147 (Int32.toNatClampNeg (4 * (w1.1 141 20))) r1) 141 22 1).1 141 20) + 1))) else (if r1 = 108 then (some (wset (wset (wset w1 147 (Int32.toNatClampNeg (4 * (w1.1 141 20))) r1) 141 22 1) 141 20 (((wset (wset w1 147 (Int32.toNatClampNeg (4 * (w1.1 141 20))) r1) 141 22 1).1 141 20) + 1))) else (if r1 = 109 then (bV (f_X11_number 23 1 1 (wset w1 147 (Int32.toNatClampNeg (4 * (w1.1 141 20))) r1)) (fun w21 => (some (wset w21 141 20 ((w21.1 141 20) + 1))))) else (if r1 = 110 then (some (wset (wset (wset w1 147 (Int32.toNatClampNeg (4 * (w1.1 141 20))) r1) 141 22 1) 141 20 (((wset (wset w1 147 (Int32.toNatClampNeg (4 * (w1.1 141 20))) r1) 141 22 1).1 141 20) + 1))) else (if r1 = 111 then (bV (f_X11_says 20 (wset w1 147 (Int32.toNatClampNeg (4 * (w1.1 141 20))) r1)) (fun w24 => (some (wset w24 141 20 ((w24.1 141 20) + 1))))) else (if r1 = 112 then (bV (f_X11_number 14 1 1 (wset w1 147 (Int32.toNatClampNeg (4 * (w1.1 141 20))) r1)) (fun w26 => (bV (f_X11_number 16 3 2 w26) (fun w27 => (some (wset w27 141 20 ((w27.1 141 20) + 1))))))) else (if r1 = 113 then (some (wset (wset (wset w1 147 (Int32.toNatClampNeg (4 * (w1.1 141 20))) r1) 141 22 1) 141 20 (((wset (wset w1 147 (Int32.toNatClampNeg (4 * (w1.1 141 20))) r1) 141 22 1).1 141 20) + 1))) else (if r1 = 114 then (some (wset (wset (wset w1 147 (Int32.toNatClampNeg (4 * (w1.1 141 20))) r1) 141 22 1) 141 20 (((wset (wset w1 147 (Int32.toNatClampNeg (4 * (w1.1 141 20))) r1) 141 22 1).1 141 20) + 1))) else (if r1 = 115 then (bV (f_X11_says 25 (wset w1 147 (Int32.toNatClampNeg (4 * (w1.1 141 20))) r1)) (fun w31 => (some (wset w31 141 20 ((w31.1 141 20) + 1))))) else (if r1 = 116 then (bV (f_X11_term 17 (wset w1 147 (Int32.toNatClampNeg (4 * (w1.1 141 20))) r1)) (fun w33 => (some (wset w33 141 20 ((w33.1 141 20) + 1))))) else (if r1 = 117 then (bV (f_X11_term 18 (wset w1 147 (Int32.toNatClampNeg (4 * (w1.1 141 20))) r1)) (fun w35 => (some (wset w35 141 20 ((w35.1 141 20) + 1))))) else (some (wset (wset (wset w1 147 (Int32.toNatClampNeg (4 * (w1.1 141 20))) r1) 141 22 1) 141 20 (((wset (wset w1 147 (Int32.toNatClampNeg (4 * (w1.1 141 20))) r1) 141 22 1).1 141 20) + 1)))))))))))))))))))))))) else none))))
set_option maxRecDepth 100000 in
theorem W_X11_readsOne {g : GC} (hl : g.1.stackTraces = false) {w : XW} : VE g cX11_readsOne 3 RX11 none [] (rmL 8 0 0) 0 0 oV 0 0 0 [(0, .ref (g.2.1 + 141))] [] w (f_X11_readsOne  w) := by
  unfold f_X11_readsOne
  refine v_aload_n dX11_readsOne_0 rfl 0 rfl ?_
  refine v_iconst (v := 0) dX11_readsOne_1 (by decide) ?_
  refine v_callVi (As := [.int 0]) cv_X11_186 (S_X11_here hl) tt_141 rfl rfl rfl (Nat.le_of_ble_eq_true rfl) dX11_readsOne_2 (CR_rm (by decide) (by decide) (by decide) (by decide)) (fun r1 w1 => ?_)
  refine v_istore_n dX11_readsOne_5 rfl (Nat.le_of_ble_eq_true rfl) rfl ?_
  refine v_iload_n dX11_readsOne_6 rfl 0 rfl ?_
  refine v_bipush (v := 112) dX11_readsOne_7 (by decide) ?_
  refine v_icmp_ne (tgt := 26) dX11_readsOne_9 (by decide) ?_ ?_
  · refine v_iconst (v := 0) dX11_readsOne_26 (by decide) ?_
    refine v_istore_n dX11_readsOne_27 rfl (Nat.le_of_ble_eq_true rfl) rfl ?_
    refine v_aload_n dX11_readsOne_28 rfl 2 rfl ?_
    refine v_getR fl_X11_25 tt_141 rfl dX11_readsOne_29 ?_
    refine v_iconst (v := 4) dX11_readsOne_32 (by decide) ?_
    refine v_aload_n dX11_readsOne_33 rfl 2 rfl ?_
    refine v_getI fl_X11_231 tt_141 rfl dX11_readsOne_34 ?_
    refine v_imul dX11_readsOne_37 ?_
    refine v_iload_n dX11_readsOne_38 rfl 0 rfl ?_
    refine v_if_eqT (tgt := 47) dX11_readsOne_39 (by decide) (by decide) ?_
    refine v_iload_n dX11_readsOne_47 rfl 1 rfl ?_
    refine v_guard (fun h2 => ?_)
    refine v_iast tt_147 h2 dX11_readsOne_48 ?_
    refine v_iload_n dX11_readsOne_49 rfl 1 rfl ?_
    refine v_split (fun h3 => ?_) (fun h3 => ?_)
    · refine v_tsIn (tgt := 148) (off := (98)) 97 h3 dX11_readsOne_50 (by decide) (by decide) (by decide) (by decide) ?_
      refine v_aload_n dX11_readsOne_148 rfl 2 rfl ?_
      refine v_ldcS (i := 12) rfl dX11_readsOne_149 ?_
      refine v_callVv (As := [.ref (g.2.2.2.2.1 12)]) cv_X11_227 (S_X11_says hl) tt_141 rfl rfl rfl (Nat.le_of_ble_eq_true rfl) dX11_readsOne_151 (CR_rm (by decide) (by decide) (by decide) (by decide)) (fun w4 => ?_)
      refine v_goto (tgt := 297) dX11_readsOne_154 (by decide) ?_
      refine v_aload_n dX11_readsOne_297 rfl 2 rfl ?_
      refine v_dup dX11_readsOne_298 rfl ?_
      refine v_getI fl_X11_231 tt_141 rfl dX11_readsOne_299 ?_
      refine v_iconst (v := 1) dX11_readsOne_302 (by decide) ?_
      refine v_iadd dX11_readsOne_303 ?_
      refine v_putI fl_X11_231 tt_141 rfl (ty0 := .int) rfl rfl rfl dX11_readsOne_304 ?_
      exact v_vret dX11_readsOne_307 rfl rfl (by decide) (by decide)
    refine v_split (fun h5 => ?_) (fun h5 => ?_)
    · refine v_tsIn (tgt := 248) (off := (198)) 98 h5 dX11_readsOne_50 (by decide) (by decide) (by decide) (by decide) ?_
      refine v_aload_n dX11_readsOne_248 rfl 2 rfl ?_
      refine v_ldcSw (i := 22) rfl dX11_readsOne_249 ?_
      refine v_iconst (v := 1) dX11_readsOne_252 (by decide) ?_
      refine v_iconst (v := 1) dX11_readsOne_253 (by decide) ?_
      refine v_callVv (As := [.ref (g.2.2.2.2.1 22), .int 1, .int 1]) cv_X11_234 (S_X11_number hl) tt_141 rfl rfl rfl (Nat.le_of_ble_eq_true rfl) dX11_readsOne_254 (CR_rm (by decide) (by decide) (by decide) (by decide)) (fun w6 => ?_)
      refine v_goto (tgt := 297) dX11_readsOne_257 (by decide) ?_
      refine v_aload_n dX11_readsOne_297 rfl 2 rfl ?_
      refine v_dup dX11_readsOne_298 rfl ?_
      refine v_getI fl_X11_231 tt_141 rfl dX11_readsOne_299 ?_
      refine v_iconst (v := 1) dX11_readsOne_302 (by decide) ?_
      refine v_iadd dX11_readsOne_303 ?_
      refine v_putI fl_X11_231 tt_141 rfl (ty0 := .int) rfl rfl rfl dX11_readsOne_304 ?_
      exact v_vret dX11_readsOne_307 rfl rfl (by decide) (by decide)
    refine v_split (fun h7 => ?_) (fun h7 => ?_)
    · refine v_tsIn (tgt := 236) (off := (186)) 99 h7 dX11_readsOne_50 (by decide) (by decide) (by decide) (by decide) ?_
      refine v_aload_n dX11_readsOne_236 rfl 2 rfl ?_
      refine v_ldcSw (i := 21) rfl dX11_readsOne_237 ?_
      refine v_iconst (v := 1) dX11_readsOne_240 (by decide) ?_
      refine v_iconst (v := 1) dX11_readsOne_241 (by decide) ?_
      refine v_callVv (As := [.ref (g.2.2.2.2.1 21), .int 1, .int 1]) cv_X11_234 (S_X11_number hl) tt_141 rfl rfl rfl (Nat.le_of_ble_eq_true rfl) dX11_readsOne_242 (CR_rm (by decide) (by decide) (by decide) (by decide)) (fun w8 => ?_)
      refine v_goto (tgt := 297) dX11_readsOne_245 (by decide) ?_
      refine v_aload_n dX11_readsOne_297 rfl 2 rfl ?_
      refine v_dup dX11_readsOne_298 rfl ?_
      refine v_getI fl_X11_231 tt_141 rfl dX11_readsOne_299 ?_
      refine v_iconst (v := 1) dX11_readsOne_302 (by decide) ?_
      refine v_iadd dX11_readsOne_303 ?_
      refine v_putI fl_X11_231 tt_141 rfl (ty0 := .int) rfl rfl rfl dX11_readsOne_304 ?_
      exact v_vret dX11_readsOne_307 rfl rfl (by decide) (by decide)
    refine v_split (fun h9 => ?_) (fun h9 => ?_)
    · refine v_tsIn (tgt := 272) (off := (222)) 100 h9 dX11_readsOne_50 (by decide) (by decide) (by decide) (by decide) ?_
      refine v_aload_n dX11_readsOne_272 rfl 2 rfl ?_
      refine v_ldcSw (i := 24) rfl dX11_readsOne_273 ?_
      refine v_callVv (As := [.ref (g.2.2.2.2.1 24)]) cv_X11_227 (S_X11_says hl) tt_141 rfl rfl rfl (Nat.le_of_ble_eq_true rfl) dX11_readsOne_276 (CR_rm (by decide) (by decide) (by decide) (by decide)) (fun w10 => ?_)
      refine v_goto (tgt := 297) dX11_readsOne_279 (by decide) ?_
      refine v_aload_n dX11_readsOne_297 rfl 2 rfl ?_
      refine v_dup dX11_readsOne_298 rfl ?_
      refine v_getI fl_X11_231 tt_141 rfl dX11_readsOne_299 ?_
      refine v_iconst (v := 1) dX11_readsOne_302 (by decide) ?_
      refine v_iadd dX11_readsOne_303 ?_
      refine v_putI fl_X11_231 tt_141 rfl (ty0 := .int) rfl rfl rfl dX11_readsOne_304 ?_
      exact v_vret dX11_readsOne_307 rfl rfl (by decide) (by decide)
    refine v_split (fun h11 => ?_) (fun h11 => ?_)
    · refine v_tsIn (tgt := 292) (off := (242)) 101 h11 dX11_readsOne_50 (by decide) (by decide) (by decide) (by decide) ?_
      refine v_aload_n dX11_readsOne_292 rfl 2 rfl ?_
      refine v_iconst (v := 1) dX11_readsOne_293 (by decide) ?_
      refine v_putI fl_X11_189 tt_141 rfl (ty0 := .boolean) rfl rfl rfl dX11_readsOne_294 ?_
      refine v_aload_n dX11_readsOne_297 rfl 2 rfl ?_
      refine v_dup dX11_readsOne_298 rfl ?_
      refine v_getI fl_X11_231 tt_141 rfl dX11_readsOne_299 ?_
      refine v_iconst (v := 1) dX11_readsOne_302 (by decide) ?_
      refine v_iadd dX11_readsOne_303 ?_
      refine v_putI fl_X11_231 tt_141 rfl (ty0 := .int) rfl rfl rfl dX11_readsOne_304 ?_
      exact v_vret dX11_readsOne_307 rfl rfl (by decide) (by decide)
    refine v_split (fun h12 => ?_) (fun h12 => ?_)
    · refine v_tsIn (tgt := 215) (off := (165)) 102 h12 dX11_readsOne_50 (by decide) (by decide) (by decide) (by decide) ?_
      refine v_aload_n dX11_readsOne_215 rfl 2 rfl ?_
      refine v_ldcS (i := 19) rfl dX11_readsOne_216 ?_
      refine v_iconst (v := 1) dX11_readsOne_218 (by decide) ?_
      refine v_iconst (v := 1) dX11_readsOne_219 (by decide) ?_
      refine v_callVv (As := [.ref (g.2.2.2.2.1 19), .int 1, .int 1]) cv_X11_234 (S_X11_number hl) tt_141 rfl rfl rfl (Nat.le_of_ble_eq_true rfl) dX11_readsOne_220 (CR_rm (by decide) (by decide) (by decide) (by decide)) (fun w13 => ?_)
      refine v_goto (tgt := 297) dX11_readsOne_223 (by decide) ?_
      refine v_aload_n dX11_readsOne_297 rfl 2 rfl ?_
      refine v_dup dX11_readsOne_298 rfl ?_
      refine v_getI fl_X11_231 tt_141 rfl dX11_readsOne_299 ?_
      refine v_iconst (v := 1) dX11_readsOne_302 (by decide) ?_
      refine v_iadd dX11_readsOne_303 ?_
      refine v_putI fl_X11_231 tt_141 rfl (ty0 := .int) rfl rfl rfl dX11_readsOne_304 ?_
      exact v_vret dX11_readsOne_307 rfl rfl (by decide) (by decide)
    refine v_split (fun h14 => ?_) (fun h14 => ?_)
    · refine v_tsIn (tgt := 292) (off := (242)) 103 h14 dX11_readsOne_50 (by decide) (by decide) (by decide) (by decide) ?_
      refine v_aload_n dX11_readsOne_292 rfl 2 rfl ?_
      refine v_iconst (v := 1) dX11_readsOne_293 (by decide) ?_
      refine v_putI fl_X11_189 tt_141 rfl (ty0 := .boolean) rfl rfl rfl dX11_readsOne_294 ?_
      refine v_aload_n dX11_readsOne_297 rfl 2 rfl ?_
      refine v_dup dX11_readsOne_298 rfl ?_
      refine v_getI fl_X11_231 tt_141 rfl dX11_readsOne_299 ?_
      refine v_iconst (v := 1) dX11_readsOne_302 (by decide) ?_
      refine v_iadd dX11_readsOne_303 ?_
      refine v_putI fl_X11_231 tt_141 rfl (ty0 := .int) rfl rfl rfl dX11_readsOne_304 ?_
      exact v_vret dX11_readsOne_307 rfl rfl (by decide) (by decide)
    refine v_split (fun h15 => ?_) (fun h15 => ?_)
    · refine v_tsIn (tgt := 292) (off := (242)) 104 h15 dX11_readsOne_50 (by decide) (by decide) (by decide) (by decide) ?_
      refine v_aload_n dX11_readsOne_292 rfl 2 rfl ?_
      refine v_iconst (v := 1) dX11_readsOne_293 (by decide) ?_
      refine v_putI fl_X11_189 tt_141 rfl (ty0 := .boolean) rfl rfl rfl dX11_readsOne_294 ?_
      refine v_aload_n dX11_readsOne_297 rfl 2 rfl ?_
      refine v_dup dX11_readsOne_298 rfl ?_
      refine v_getI fl_X11_231 tt_141 rfl dX11_readsOne_299 ?_
      refine v_iconst (v := 1) dX11_readsOne_302 (by decide) ?_
      refine v_iadd dX11_readsOne_303 ?_
      refine v_putI fl_X11_231 tt_141 rfl (ty0 := .int) rfl rfl rfl dX11_readsOne_304 ?_
      exact v_vret dX11_readsOne_307 rfl rfl (by decide) (by decide)
    refine v_split (fun h16 => ?_) (fun h16 => ?_)
    · refine v_tsIn (tgt := 292) (off := (242)) 105 h16 dX11_readsOne_50 (by decide) (by decide) (by decide) (by decide) ?_
      refine v_aload_n dX11_readsOne_292 rfl 2 rfl ?_
      refine v_iconst (v := 1) dX11_readsOne_293 (by decide) ?_
      refine v_putI fl_X11_189 tt_141 rfl (ty0 := .boolean) rfl rfl rfl dX11_readsOne_294 ?_
      refine v_aload_n dX11_readsOne_297 rfl 2 rfl ?_
      refine v_dup dX11_readsOne_298 rfl ?_
      refine v_getI fl_X11_231 tt_141 rfl dX11_readsOne_299 ?_
      refine v_iconst (v := 1) dX11_readsOne_302 (by decide) ?_
      refine v_iadd dX11_readsOne_303 ?_
      refine v_putI fl_X11_231 tt_141 rfl (ty0 := .int) rfl rfl rfl dX11_readsOne_304 ?_
      exact v_vret dX11_readsOne_307 rfl rfl (by decide) (by decide)
    refine v_split (fun h17 => ?_) (fun h17 => ?_)
    · refine v_tsIn (tgt := 292) (off := (242)) 106 h17 dX11_readsOne_50 (by decide) (by decide) (by decide) (by decide) ?_
      refine v_aload_n dX11_readsOne_292 rfl 2 rfl ?_
      refine v_iconst (v := 1) dX11_readsOne_293 (by decide) ?_
      refine v_putI fl_X11_189 tt_141 rfl (ty0 := .boolean) rfl rfl rfl dX11_readsOne_294 ?_
      refine v_aload_n dX11_readsOne_297 rfl 2 rfl ?_
      refine v_dup dX11_readsOne_298 rfl ?_
      refine v_getI fl_X11_231 tt_141 rfl dX11_readsOne_299 ?_
      refine v_iconst (v := 1) dX11_readsOne_302 (by decide) ?_
      refine v_iadd dX11_readsOne_303 ?_
      refine v_putI fl_X11_231 tt_141 rfl (ty0 := .int) rfl rfl rfl dX11_readsOne_304 ?_
      exact v_vret dX11_readsOne_307 rfl rfl (by decide) (by decide)
    refine v_split (fun h18 => ?_) (fun h18 => ?_)
    · refine v_tsIn (tgt := 292) (off := (242)) 107 h18 dX11_readsOne_50 (by decide) (by decide) (by decide) (by decide) ?_
      refine v_aload_n dX11_readsOne_292 rfl 2 rfl ?_
      refine v_iconst (v := 1) dX11_readsOne_293 (by decide) ?_
      refine v_putI fl_X11_189 tt_141 rfl (ty0 := .boolean) rfl rfl rfl dX11_readsOne_294 ?_
      refine v_aload_n dX11_readsOne_297 rfl 2 rfl ?_
      refine v_dup dX11_readsOne_298 rfl ?_
      refine v_getI fl_X11_231 tt_141 rfl dX11_readsOne_299 ?_
      refine v_iconst (v := 1) dX11_readsOne_302 (by decide) ?_
      refine v_iadd dX11_readsOne_303 ?_
      refine v_putI fl_X11_231 tt_141 rfl (ty0 := .int) rfl rfl rfl dX11_readsOne_304 ?_
      exact v_vret dX11_readsOne_307 rfl rfl (by decide) (by decide)
    refine v_split (fun h19 => ?_) (fun h19 => ?_)
    · refine v_tsIn (tgt := 292) (off := (242)) 108 h19 dX11_readsOne_50 (by decide) (by decide) (by decide) (by decide) ?_
      refine v_aload_n dX11_readsOne_292 rfl 2 rfl ?_
      refine v_iconst (v := 1) dX11_readsOne_293 (by decide) ?_
      refine v_putI fl_X11_189 tt_141 rfl (ty0 := .boolean) rfl rfl rfl dX11_readsOne_294 ?_
      refine v_aload_n dX11_readsOne_297 rfl 2 rfl ?_
      refine v_dup dX11_readsOne_298 rfl ?_
      refine v_getI fl_X11_231 tt_141 rfl dX11_readsOne_299 ?_
      refine v_iconst (v := 1) dX11_readsOne_302 (by decide) ?_
      refine v_iadd dX11_readsOne_303 ?_
      refine v_putI fl_X11_231 tt_141 rfl (ty0 := .int) rfl rfl rfl dX11_readsOne_304 ?_
      exact v_vret dX11_readsOne_307 rfl rfl (by decide) (by decide)
    refine v_split (fun h20 => ?_) (fun h20 => ?_)
    · refine v_tsIn (tgt := 260) (off := (210)) 109 h20 dX11_readsOne_50 (by decide) (by decide) (by decide) (by decide) ?_
      refine v_aload_n dX11_readsOne_260 rfl 2 rfl ?_
      refine v_ldcSw (i := 23) rfl dX11_readsOne_261 ?_
      refine v_iconst (v := 1) dX11_readsOne_264 (by decide) ?_
      refine v_iconst (v := 1) dX11_readsOne_265 (by decide) ?_
      refine v_callVv (As := [.ref (g.2.2.2.2.1 23), .int 1, .int 1]) cv_X11_234 (S_X11_number hl) tt_141 rfl rfl rfl (Nat.le_of_ble_eq_true rfl) dX11_readsOne_266 (CR_rm (by decide) (by decide) (by decide) (by decide)) (fun w21 => ?_)
      refine v_goto (tgt := 297) dX11_readsOne_269 (by decide) ?_
      refine v_aload_n dX11_readsOne_297 rfl 2 rfl ?_
      refine v_dup dX11_readsOne_298 rfl ?_
      refine v_getI fl_X11_231 tt_141 rfl dX11_readsOne_299 ?_
      refine v_iconst (v := 1) dX11_readsOne_302 (by decide) ?_
      refine v_iadd dX11_readsOne_303 ?_
      refine v_putI fl_X11_231 tt_141 rfl (ty0 := .int) rfl rfl rfl dX11_readsOne_304 ?_
      exact v_vret dX11_readsOne_307 rfl rfl (by decide) (by decide)
    refine v_split (fun h22 => ?_) (fun h22 => ?_)
    · refine v_tsIn (tgt := 292) (off := (242)) 110 h22 dX11_readsOne_50 (by decide) (by decide) (by decide) (by decide) ?_
      refine v_aload_n dX11_readsOne_292 rfl 2 rfl ?_
      refine v_iconst (v := 1) dX11_readsOne_293 (by decide) ?_
      refine v_putI fl_X11_189 tt_141 rfl (ty0 := .boolean) rfl rfl rfl dX11_readsOne_294 ?_
      refine v_aload_n dX11_readsOne_297 rfl 2 rfl ?_
      refine v_dup dX11_readsOne_298 rfl ?_
      refine v_getI fl_X11_231 tt_141 rfl dX11_readsOne_299 ?_
      refine v_iconst (v := 1) dX11_readsOne_302 (by decide) ?_
      refine v_iadd dX11_readsOne_303 ?_
      refine v_putI fl_X11_231 tt_141 rfl (ty0 := .int) rfl rfl rfl dX11_readsOne_304 ?_
      exact v_vret dX11_readsOne_307 rfl rfl (by decide) (by decide)
    refine v_split (fun h23 => ?_) (fun h23 => ?_)
    · refine v_tsIn (tgt := 226) (off := (176)) 111 h23 dX11_readsOne_50 (by decide) (by decide) (by decide) (by decide) ?_
      refine v_aload_n dX11_readsOne_226 rfl 2 rfl ?_
      refine v_ldcSw (i := 20) rfl dX11_readsOne_227 ?_
      refine v_callVv (As := [.ref (g.2.2.2.2.1 20)]) cv_X11_227 (S_X11_says hl) tt_141 rfl rfl rfl (Nat.le_of_ble_eq_true rfl) dX11_readsOne_230 (CR_rm (by decide) (by decide) (by decide) (by decide)) (fun w24 => ?_)
      refine v_goto (tgt := 297) dX11_readsOne_233 (by decide) ?_
      refine v_aload_n dX11_readsOne_297 rfl 2 rfl ?_
      refine v_dup dX11_readsOne_298 rfl ?_
      refine v_getI fl_X11_231 tt_141 rfl dX11_readsOne_299 ?_
      refine v_iconst (v := 1) dX11_readsOne_302 (by decide) ?_
      refine v_iadd dX11_readsOne_303 ?_
      refine v_putI fl_X11_231 tt_141 rfl (ty0 := .int) rfl rfl rfl dX11_readsOne_304 ?_
      exact v_vret dX11_readsOne_307 rfl rfl (by decide) (by decide)
    refine v_split (fun h25 => ?_) (fun h25 => ?_)
    · refine v_tsIn (tgt := 157) (off := (107)) 112 h25 dX11_readsOne_50 (by decide) (by decide) (by decide) (by decide) ?_
      refine v_aload_n dX11_readsOne_157 rfl 2 rfl ?_
      refine v_iload_n dX11_readsOne_158 rfl 0 rfl ?_
      refine v_if_eqT (tgt := 167) dX11_readsOne_159 (by decide) (by decide) ?_
      refine v_ldcS (i := 14) rfl dX11_readsOne_167 ?_
      refine v_iconst (v := 1) dX11_readsOne_169 (by decide) ?_
      refine v_iconst (v := 1) dX11_readsOne_170 (by decide) ?_
      refine v_callVv (As := [.ref (g.2.2.2.2.1 14), .int 1, .int 1]) cv_X11_234 (S_X11_number hl) tt_141 rfl rfl rfl (Nat.le_of_ble_eq_true rfl) dX11_readsOne_171 (CR_rm (by decide) (by decide) (by decide) (by decide)) (fun w26 => ?_)
      refine v_iload_n dX11_readsOne_174 rfl 0 rfl ?_
      refine v_if_eqT (tgt := 186) dX11_readsOne_175 (by decide) (by decide) ?_
      refine v_aload_n dX11_readsOne_186 rfl 2 rfl ?_
      refine v_ldcS (i := 16) rfl dX11_readsOne_187 ?_
      refine v_iconst (v := 3) dX11_readsOne_189 (by decide) ?_
      refine v_iconst (v := 2) dX11_readsOne_190 (by decide) ?_
      refine v_callVv (As := [.ref (g.2.2.2.2.1 16), .int 3, .int 2]) cv_X11_234 (S_X11_number hl) tt_141 rfl rfl rfl (Nat.le_of_ble_eq_true rfl) dX11_readsOne_191 (CR_rm (by decide) (by decide) (by decide) (by decide)) (fun w27 => ?_)
      refine v_goto (tgt := 297) dX11_readsOne_194 (by decide) ?_
      refine v_aload_n dX11_readsOne_297 rfl 2 rfl ?_
      refine v_dup dX11_readsOne_298 rfl ?_
      refine v_getI fl_X11_231 tt_141 rfl dX11_readsOne_299 ?_
      refine v_iconst (v := 1) dX11_readsOne_302 (by decide) ?_
      refine v_iadd dX11_readsOne_303 ?_
      refine v_putI fl_X11_231 tt_141 rfl (ty0 := .int) rfl rfl rfl dX11_readsOne_304 ?_
      exact v_vret dX11_readsOne_307 rfl rfl (by decide) (by decide)
    refine v_split (fun h28 => ?_) (fun h28 => ?_)
    · refine v_tsIn (tgt := 292) (off := (242)) 113 h28 dX11_readsOne_50 (by decide) (by decide) (by decide) (by decide) ?_
      refine v_aload_n dX11_readsOne_292 rfl 2 rfl ?_
      refine v_iconst (v := 1) dX11_readsOne_293 (by decide) ?_
      refine v_putI fl_X11_189 tt_141 rfl (ty0 := .boolean) rfl rfl rfl dX11_readsOne_294 ?_
      refine v_aload_n dX11_readsOne_297 rfl 2 rfl ?_
      refine v_dup dX11_readsOne_298 rfl ?_
      refine v_getI fl_X11_231 tt_141 rfl dX11_readsOne_299 ?_
      refine v_iconst (v := 1) dX11_readsOne_302 (by decide) ?_
      refine v_iadd dX11_readsOne_303 ?_
      refine v_putI fl_X11_231 tt_141 rfl (ty0 := .int) rfl rfl rfl dX11_readsOne_304 ?_
      exact v_vret dX11_readsOne_307 rfl rfl (by decide) (by decide)
    refine v_split (fun h29 => ?_) (fun h29 => ?_)
    · refine v_tsIn (tgt := 292) (off := (242)) 114 h29 dX11_readsOne_50 (by decide) (by decide) (by decide) (by decide) ?_
      refine v_aload_n dX11_readsOne_292 rfl 2 rfl ?_
      refine v_iconst (v := 1) dX11_readsOne_293 (by decide) ?_
      refine v_putI fl_X11_189 tt_141 rfl (ty0 := .boolean) rfl rfl rfl dX11_readsOne_294 ?_
      refine v_aload_n dX11_readsOne_297 rfl 2 rfl ?_
      refine v_dup dX11_readsOne_298 rfl ?_
      refine v_getI fl_X11_231 tt_141 rfl dX11_readsOne_299 ?_
      refine v_iconst (v := 1) dX11_readsOne_302 (by decide) ?_
      refine v_iadd dX11_readsOne_303 ?_
      refine v_putI fl_X11_231 tt_141 rfl (ty0 := .int) rfl rfl rfl dX11_readsOne_304 ?_
      exact v_vret dX11_readsOne_307 rfl rfl (by decide) (by decide)
    refine v_split (fun h30 => ?_) (fun h30 => ?_)
    · refine v_tsIn (tgt := 282) (off := (232)) 115 h30 dX11_readsOne_50 (by decide) (by decide) (by decide) (by decide) ?_
      refine v_aload_n dX11_readsOne_282 rfl 2 rfl ?_
      refine v_ldcSw (i := 25) rfl dX11_readsOne_283 ?_
      refine v_callVv (As := [.ref (g.2.2.2.2.1 25)]) cv_X11_227 (S_X11_says hl) tt_141 rfl rfl rfl (Nat.le_of_ble_eq_true rfl) dX11_readsOne_286 (CR_rm (by decide) (by decide) (by decide) (by decide)) (fun w31 => ?_)
      refine v_goto (tgt := 297) dX11_readsOne_289 (by decide) ?_
      refine v_aload_n dX11_readsOne_297 rfl 2 rfl ?_
      refine v_dup dX11_readsOne_298 rfl ?_
      refine v_getI fl_X11_231 tt_141 rfl dX11_readsOne_299 ?_
      refine v_iconst (v := 1) dX11_readsOne_302 (by decide) ?_
      refine v_iadd dX11_readsOne_303 ?_
      refine v_putI fl_X11_231 tt_141 rfl (ty0 := .int) rfl rfl rfl dX11_readsOne_304 ?_
      exact v_vret dX11_readsOne_307 rfl rfl (by decide) (by decide)
    refine v_split (fun h32 => ?_) (fun h32 => ?_)
    · refine v_tsIn (tgt := 197) (off := (147)) 116 h32 dX11_readsOne_50 (by decide) (by decide) (by decide) (by decide) ?_
      refine v_aload_n dX11_readsOne_197 rfl 2 rfl ?_
      refine v_ldcS (i := 17) rfl dX11_readsOne_198 ?_
      refine v_callVv (As := [.ref (g.2.2.2.2.1 17)]) cv_X11_250 (S_X11_term hl) tt_141 rfl rfl rfl (Nat.le_of_ble_eq_true rfl) dX11_readsOne_200 (CR_rm (by decide) (by decide) (by decide) (by decide)) (fun w33 => ?_)
      refine v_goto (tgt := 297) dX11_readsOne_203 (by decide) ?_
      refine v_aload_n dX11_readsOne_297 rfl 2 rfl ?_
      refine v_dup dX11_readsOne_298 rfl ?_
      refine v_getI fl_X11_231 tt_141 rfl dX11_readsOne_299 ?_
      refine v_iconst (v := 1) dX11_readsOne_302 (by decide) ?_
      refine v_iadd dX11_readsOne_303 ?_
      refine v_putI fl_X11_231 tt_141 rfl (ty0 := .int) rfl rfl rfl dX11_readsOne_304 ?_
      exact v_vret dX11_readsOne_307 rfl rfl (by decide) (by decide)
    refine v_split (fun h34 => ?_) (fun h34 => ?_)
    · refine v_tsIn (tgt := 206) (off := (156)) 117 h34 dX11_readsOne_50 (by decide) (by decide) (by decide) (by decide) ?_
      refine v_aload_n dX11_readsOne_206 rfl 2 rfl ?_
      refine v_ldcS (i := 18) rfl dX11_readsOne_207 ?_
      refine v_callVv (As := [.ref (g.2.2.2.2.1 18)]) cv_X11_250 (S_X11_term hl) tt_141 rfl rfl rfl (Nat.le_of_ble_eq_true rfl) dX11_readsOne_209 (CR_rm (by decide) (by decide) (by decide) (by decide)) (fun w35 => ?_)
      refine v_goto (tgt := 297) dX11_readsOne_212 (by decide) ?_
      refine v_aload_n dX11_readsOne_297 rfl 2 rfl ?_
      refine v_dup dX11_readsOne_298 rfl ?_
      refine v_getI fl_X11_231 tt_141 rfl dX11_readsOne_299 ?_
      refine v_iconst (v := 1) dX11_readsOne_302 (by decide) ?_
      refine v_iadd dX11_readsOne_303 ?_
      refine v_putI fl_X11_231 tt_141 rfl (ty0 := .int) rfl rfl rfl dX11_readsOne_304 ?_
      exact v_vret dX11_readsOne_307 rfl rfl (by decide) (by decide)
    have h3 := v_tsNe (z := 97) (by decide) h3
    have h5 := v_tsNe (z := 98) (by decide) h5
    have h7 := v_tsNe (z := 99) (by decide) h7
    have h9 := v_tsNe (z := 100) (by decide) h9
    have h11 := v_tsNe (z := 101) (by decide) h11
    have h12 := v_tsNe (z := 102) (by decide) h12
    have h14 := v_tsNe (z := 103) (by decide) h14
    have h15 := v_tsNe (z := 104) (by decide) h15
    have h16 := v_tsNe (z := 105) (by decide) h16
    have h17 := v_tsNe (z := 106) (by decide) h17
    have h18 := v_tsNe (z := 107) (by decide) h18
    have h19 := v_tsNe (z := 108) (by decide) h19
    have h20 := v_tsNe (z := 109) (by decide) h20
    have h22 := v_tsNe (z := 110) (by decide) h22
    have h23 := v_tsNe (z := 111) (by decide) h23
    have h25 := v_tsNe (z := 112) (by decide) h25
    have h28 := v_tsNe (z := 113) (by decide) h28
    have h29 := v_tsNe (z := 114) (by decide) h29
    have h30 := v_tsNe (z := 115) (by decide) h30
    have h32 := v_tsNe (z := 116) (by decide) h32
    have h34 := v_tsNe (z := 117) (by decide) h34
    refine v_tsOut (tgt := 292) dX11_readsOne_50 (by omega) (by decide) ?_
    refine v_aload_n dX11_readsOne_292 rfl 2 rfl ?_
    refine v_iconst (v := 1) dX11_readsOne_293 (by decide) ?_
    refine v_putI fl_X11_189 tt_141 rfl (ty0 := .boolean) rfl rfl rfl dX11_readsOne_294 ?_
    refine v_aload_n dX11_readsOne_297 rfl 2 rfl ?_
    refine v_dup dX11_readsOne_298 rfl ?_
    refine v_getI fl_X11_231 tt_141 rfl dX11_readsOne_299 ?_
    refine v_iconst (v := 1) dX11_readsOne_302 (by decide) ?_
    refine v_iadd dX11_readsOne_303 ?_
    refine v_putI fl_X11_231 tt_141 rfl (ty0 := .int) rfl rfl rfl dX11_readsOne_304 ?_
    exact v_vret dX11_readsOne_307 rfl rfl (by decide) (by decide)
  · refine v_aload_n dX11_readsOne_12 rfl 1 rfl ?_
    refine v_iconst (v := 1) dX11_readsOne_13 (by decide) ?_
    refine v_callVi (As := [.int 1]) cv_X11_186 (S_X11_here hl) tt_141 rfl rfl rfl (Nat.le_of_ble_eq_true rfl) dX11_readsOne_14 (CR_rm (by decide) (by decide) (by decide) (by decide)) (fun r36 w36 => ?_)
    refine v_bipush (v := 105) dX11_readsOne_17 (by decide) ?_
    refine v_icmp_ne (tgt := 26) dX11_readsOne_19 (by decide) ?_ ?_
    · refine v_iconst (v := 0) dX11_readsOne_26 (by decide) ?_
      refine v_istore_n dX11_readsOne_27 rfl (Nat.le_of_ble_eq_true rfl) rfl ?_
      refine v_aload_n dX11_readsOne_28 rfl 2 rfl ?_
      refine v_getR fl_X11_25 tt_141 rfl dX11_readsOne_29 ?_
      refine v_iconst (v := 4) dX11_readsOne_32 (by decide) ?_
      refine v_aload_n dX11_readsOne_33 rfl 2 rfl ?_
      refine v_getI fl_X11_231 tt_141 rfl dX11_readsOne_34 ?_
      refine v_imul dX11_readsOne_37 ?_
      refine v_iload_n dX11_readsOne_38 rfl 0 rfl ?_
      refine v_if_eqT (tgt := 47) dX11_readsOne_39 (by decide) (by decide) ?_
      refine v_iload_n dX11_readsOne_47 rfl 1 rfl ?_
      refine v_guard (fun h37 => ?_)
      refine v_iast tt_147 h37 dX11_readsOne_48 ?_
      refine v_iload_n dX11_readsOne_49 rfl 1 rfl ?_
      refine v_split (fun h38 => ?_) (fun h38 => ?_)
      · refine v_tsIn (tgt := 148) (off := (98)) 97 h38 dX11_readsOne_50 (by decide) (by decide) (by decide) (by decide) ?_
        refine v_aload_n dX11_readsOne_148 rfl 2 rfl ?_
        refine v_ldcS (i := 12) rfl dX11_readsOne_149 ?_
        refine v_callVv (As := [.ref (g.2.2.2.2.1 12)]) cv_X11_227 (S_X11_says hl) tt_141 rfl rfl rfl (Nat.le_of_ble_eq_true rfl) dX11_readsOne_151 (CR_rm (by decide) (by decide) (by decide) (by decide)) (fun w39 => ?_)
        refine v_goto (tgt := 297) dX11_readsOne_154 (by decide) ?_
        refine v_aload_n dX11_readsOne_297 rfl 2 rfl ?_
        refine v_dup dX11_readsOne_298 rfl ?_
        refine v_getI fl_X11_231 tt_141 rfl dX11_readsOne_299 ?_
        refine v_iconst (v := 1) dX11_readsOne_302 (by decide) ?_
        refine v_iadd dX11_readsOne_303 ?_
        refine v_putI fl_X11_231 tt_141 rfl (ty0 := .int) rfl rfl rfl dX11_readsOne_304 ?_
        exact v_vret dX11_readsOne_307 rfl rfl (by decide) (by decide)
      refine v_split (fun h40 => ?_) (fun h40 => ?_)
      · refine v_tsIn (tgt := 248) (off := (198)) 98 h40 dX11_readsOne_50 (by decide) (by decide) (by decide) (by decide) ?_
        refine v_aload_n dX11_readsOne_248 rfl 2 rfl ?_
        refine v_ldcSw (i := 22) rfl dX11_readsOne_249 ?_
        refine v_iconst (v := 1) dX11_readsOne_252 (by decide) ?_
        refine v_iconst (v := 1) dX11_readsOne_253 (by decide) ?_
        refine v_callVv (As := [.ref (g.2.2.2.2.1 22), .int 1, .int 1]) cv_X11_234 (S_X11_number hl) tt_141 rfl rfl rfl (Nat.le_of_ble_eq_true rfl) dX11_readsOne_254 (CR_rm (by decide) (by decide) (by decide) (by decide)) (fun w41 => ?_)
        refine v_goto (tgt := 297) dX11_readsOne_257 (by decide) ?_
        refine v_aload_n dX11_readsOne_297 rfl 2 rfl ?_
        refine v_dup dX11_readsOne_298 rfl ?_
        refine v_getI fl_X11_231 tt_141 rfl dX11_readsOne_299 ?_
        refine v_iconst (v := 1) dX11_readsOne_302 (by decide) ?_
        refine v_iadd dX11_readsOne_303 ?_
        refine v_putI fl_X11_231 tt_141 rfl (ty0 := .int) rfl rfl rfl dX11_readsOne_304 ?_
        exact v_vret dX11_readsOne_307 rfl rfl (by decide) (by decide)
      refine v_split (fun h42 => ?_) (fun h42 => ?_)
      · refine v_tsIn (tgt := 236) (off := (186)) 99 h42 dX11_readsOne_50 (by decide) (by decide) (by decide) (by decide) ?_
        refine v_aload_n dX11_readsOne_236 rfl 2 rfl ?_
        refine v_ldcSw (i := 21) rfl dX11_readsOne_237 ?_
        refine v_iconst (v := 1) dX11_readsOne_240 (by decide) ?_
        refine v_iconst (v := 1) dX11_readsOne_241 (by decide) ?_
        refine v_callVv (As := [.ref (g.2.2.2.2.1 21), .int 1, .int 1]) cv_X11_234 (S_X11_number hl) tt_141 rfl rfl rfl (Nat.le_of_ble_eq_true rfl) dX11_readsOne_242 (CR_rm (by decide) (by decide) (by decide) (by decide)) (fun w43 => ?_)
        refine v_goto (tgt := 297) dX11_readsOne_245 (by decide) ?_
        refine v_aload_n dX11_readsOne_297 rfl 2 rfl ?_
        refine v_dup dX11_readsOne_298 rfl ?_
        refine v_getI fl_X11_231 tt_141 rfl dX11_readsOne_299 ?_
        refine v_iconst (v := 1) dX11_readsOne_302 (by decide) ?_
        refine v_iadd dX11_readsOne_303 ?_
        refine v_putI fl_X11_231 tt_141 rfl (ty0 := .int) rfl rfl rfl dX11_readsOne_304 ?_
        exact v_vret dX11_readsOne_307 rfl rfl (by decide) (by decide)
      refine v_split (fun h44 => ?_) (fun h44 => ?_)
      · refine v_tsIn (tgt := 272) (off := (222)) 100 h44 dX11_readsOne_50 (by decide) (by decide) (by decide) (by decide) ?_
        refine v_aload_n dX11_readsOne_272 rfl 2 rfl ?_
        refine v_ldcSw (i := 24) rfl dX11_readsOne_273 ?_
        refine v_callVv (As := [.ref (g.2.2.2.2.1 24)]) cv_X11_227 (S_X11_says hl) tt_141 rfl rfl rfl (Nat.le_of_ble_eq_true rfl) dX11_readsOne_276 (CR_rm (by decide) (by decide) (by decide) (by decide)) (fun w45 => ?_)
        refine v_goto (tgt := 297) dX11_readsOne_279 (by decide) ?_
        refine v_aload_n dX11_readsOne_297 rfl 2 rfl ?_
        refine v_dup dX11_readsOne_298 rfl ?_
        refine v_getI fl_X11_231 tt_141 rfl dX11_readsOne_299 ?_
        refine v_iconst (v := 1) dX11_readsOne_302 (by decide) ?_
        refine v_iadd dX11_readsOne_303 ?_
        refine v_putI fl_X11_231 tt_141 rfl (ty0 := .int) rfl rfl rfl dX11_readsOne_304 ?_
        exact v_vret dX11_readsOne_307 rfl rfl (by decide) (by decide)
      refine v_split (fun h46 => ?_) (fun h46 => ?_)
      · refine v_tsIn (tgt := 292) (off := (242)) 101 h46 dX11_readsOne_50 (by decide) (by decide) (by decide) (by decide) ?_
        refine v_aload_n dX11_readsOne_292 rfl 2 rfl ?_
        refine v_iconst (v := 1) dX11_readsOne_293 (by decide) ?_
        refine v_putI fl_X11_189 tt_141 rfl (ty0 := .boolean) rfl rfl rfl dX11_readsOne_294 ?_
        refine v_aload_n dX11_readsOne_297 rfl 2 rfl ?_
        refine v_dup dX11_readsOne_298 rfl ?_
        refine v_getI fl_X11_231 tt_141 rfl dX11_readsOne_299 ?_
        refine v_iconst (v := 1) dX11_readsOne_302 (by decide) ?_
        refine v_iadd dX11_readsOne_303 ?_
        refine v_putI fl_X11_231 tt_141 rfl (ty0 := .int) rfl rfl rfl dX11_readsOne_304 ?_
        exact v_vret dX11_readsOne_307 rfl rfl (by decide) (by decide)
      refine v_split (fun h47 => ?_) (fun h47 => ?_)
      · refine v_tsIn (tgt := 215) (off := (165)) 102 h47 dX11_readsOne_50 (by decide) (by decide) (by decide) (by decide) ?_
        refine v_aload_n dX11_readsOne_215 rfl 2 rfl ?_
        refine v_ldcS (i := 19) rfl dX11_readsOne_216 ?_
        refine v_iconst (v := 1) dX11_readsOne_218 (by decide) ?_
        refine v_iconst (v := 1) dX11_readsOne_219 (by decide) ?_
        refine v_callVv (As := [.ref (g.2.2.2.2.1 19), .int 1, .int 1]) cv_X11_234 (S_X11_number hl) tt_141 rfl rfl rfl (Nat.le_of_ble_eq_true rfl) dX11_readsOne_220 (CR_rm (by decide) (by decide) (by decide) (by decide)) (fun w48 => ?_)
        refine v_goto (tgt := 297) dX11_readsOne_223 (by decide) ?_
        refine v_aload_n dX11_readsOne_297 rfl 2 rfl ?_
        refine v_dup dX11_readsOne_298 rfl ?_
        refine v_getI fl_X11_231 tt_141 rfl dX11_readsOne_299 ?_
        refine v_iconst (v := 1) dX11_readsOne_302 (by decide) ?_
        refine v_iadd dX11_readsOne_303 ?_
        refine v_putI fl_X11_231 tt_141 rfl (ty0 := .int) rfl rfl rfl dX11_readsOne_304 ?_
        exact v_vret dX11_readsOne_307 rfl rfl (by decide) (by decide)
      refine v_split (fun h49 => ?_) (fun h49 => ?_)
      · refine v_tsIn (tgt := 292) (off := (242)) 103 h49 dX11_readsOne_50 (by decide) (by decide) (by decide) (by decide) ?_
        refine v_aload_n dX11_readsOne_292 rfl 2 rfl ?_
        refine v_iconst (v := 1) dX11_readsOne_293 (by decide) ?_
        refine v_putI fl_X11_189 tt_141 rfl (ty0 := .boolean) rfl rfl rfl dX11_readsOne_294 ?_
        refine v_aload_n dX11_readsOne_297 rfl 2 rfl ?_
        refine v_dup dX11_readsOne_298 rfl ?_
        refine v_getI fl_X11_231 tt_141 rfl dX11_readsOne_299 ?_
        refine v_iconst (v := 1) dX11_readsOne_302 (by decide) ?_
        refine v_iadd dX11_readsOne_303 ?_
        refine v_putI fl_X11_231 tt_141 rfl (ty0 := .int) rfl rfl rfl dX11_readsOne_304 ?_
        exact v_vret dX11_readsOne_307 rfl rfl (by decide) (by decide)
      refine v_split (fun h50 => ?_) (fun h50 => ?_)
      · refine v_tsIn (tgt := 292) (off := (242)) 104 h50 dX11_readsOne_50 (by decide) (by decide) (by decide) (by decide) ?_
        refine v_aload_n dX11_readsOne_292 rfl 2 rfl ?_
        refine v_iconst (v := 1) dX11_readsOne_293 (by decide) ?_
        refine v_putI fl_X11_189 tt_141 rfl (ty0 := .boolean) rfl rfl rfl dX11_readsOne_294 ?_
        refine v_aload_n dX11_readsOne_297 rfl 2 rfl ?_
        refine v_dup dX11_readsOne_298 rfl ?_
        refine v_getI fl_X11_231 tt_141 rfl dX11_readsOne_299 ?_
        refine v_iconst (v := 1) dX11_readsOne_302 (by decide) ?_
        refine v_iadd dX11_readsOne_303 ?_
        refine v_putI fl_X11_231 tt_141 rfl (ty0 := .int) rfl rfl rfl dX11_readsOne_304 ?_
        exact v_vret dX11_readsOne_307 rfl rfl (by decide) (by decide)
      refine v_split (fun h51 => ?_) (fun h51 => ?_)
      · refine v_tsIn (tgt := 292) (off := (242)) 105 h51 dX11_readsOne_50 (by decide) (by decide) (by decide) (by decide) ?_
        refine v_aload_n dX11_readsOne_292 rfl 2 rfl ?_
        refine v_iconst (v := 1) dX11_readsOne_293 (by decide) ?_
        refine v_putI fl_X11_189 tt_141 rfl (ty0 := .boolean) rfl rfl rfl dX11_readsOne_294 ?_
        refine v_aload_n dX11_readsOne_297 rfl 2 rfl ?_
        refine v_dup dX11_readsOne_298 rfl ?_
        refine v_getI fl_X11_231 tt_141 rfl dX11_readsOne_299 ?_
        refine v_iconst (v := 1) dX11_readsOne_302 (by decide) ?_
        refine v_iadd dX11_readsOne_303 ?_
        refine v_putI fl_X11_231 tt_141 rfl (ty0 := .int) rfl rfl rfl dX11_readsOne_304 ?_
        exact v_vret dX11_readsOne_307 rfl rfl (by decide) (by decide)
      refine v_split (fun h52 => ?_) (fun h52 => ?_)
      · refine v_tsIn (tgt := 292) (off := (242)) 106 h52 dX11_readsOne_50 (by decide) (by decide) (by decide) (by decide) ?_
        refine v_aload_n dX11_readsOne_292 rfl 2 rfl ?_
        refine v_iconst (v := 1) dX11_readsOne_293 (by decide) ?_
        refine v_putI fl_X11_189 tt_141 rfl (ty0 := .boolean) rfl rfl rfl dX11_readsOne_294 ?_
        refine v_aload_n dX11_readsOne_297 rfl 2 rfl ?_
        refine v_dup dX11_readsOne_298 rfl ?_
        refine v_getI fl_X11_231 tt_141 rfl dX11_readsOne_299 ?_
        refine v_iconst (v := 1) dX11_readsOne_302 (by decide) ?_
        refine v_iadd dX11_readsOne_303 ?_
        refine v_putI fl_X11_231 tt_141 rfl (ty0 := .int) rfl rfl rfl dX11_readsOne_304 ?_
        exact v_vret dX11_readsOne_307 rfl rfl (by decide) (by decide)
      refine v_split (fun h53 => ?_) (fun h53 => ?_)
      · refine v_tsIn (tgt := 292) (off := (242)) 107 h53 dX11_readsOne_50 (by decide) (by decide) (by decide) (by decide) ?_
        refine v_aload_n dX11_readsOne_292 rfl 2 rfl ?_
        refine v_iconst (v := 1) dX11_readsOne_293 (by decide) ?_
        refine v_putI fl_X11_189 tt_141 rfl (ty0 := .boolean) rfl rfl rfl dX11_readsOne_294 ?_
        refine v_aload_n dX11_readsOne_297 rfl 2 rfl ?_
        refine v_dup dX11_readsOne_298 rfl ?_
        refine v_getI fl_X11_231 tt_141 rfl dX11_readsOne_299 ?_
        refine v_iconst (v := 1) dX11_readsOne_302 (by decide) ?_
        refine v_iadd dX11_readsOne_303 ?_
        refine v_putI fl_X11_231 tt_141 rfl (ty0 := .int) rfl rfl rfl dX11_readsOne_304 ?_
        exact v_vret dX11_readsOne_307 rfl rfl (by decide) (by decide)
      refine v_split (fun h54 => ?_) (fun h54 => ?_)
      · refine v_tsIn (tgt := 292) (off := (242)) 108 h54 dX11_readsOne_50 (by decide) (by decide) (by decide) (by decide) ?_
        refine v_aload_n dX11_readsOne_292 rfl 2 rfl ?_
        refine v_iconst (v := 1) dX11_readsOne_293 (by decide) ?_
        refine v_putI fl_X11_189 tt_141 rfl (ty0 := .boolean) rfl rfl rfl dX11_readsOne_294 ?_
        refine v_aload_n dX11_readsOne_297 rfl 2 rfl ?_
        refine v_dup dX11_readsOne_298 rfl ?_
        refine v_getI fl_X11_231 tt_141 rfl dX11_readsOne_299 ?_
        refine v_iconst (v := 1) dX11_readsOne_302 (by decide) ?_
        refine v_iadd dX11_readsOne_303 ?_
        refine v_putI fl_X11_231 tt_141 rfl (ty0 := .int) rfl rfl rfl dX11_readsOne_304 ?_
        exact v_vret dX11_readsOne_307 rfl rfl (by decide) (by decide)
      refine v_split (fun h55 => ?_) (fun h55 => ?_)
      · refine v_tsIn (tgt := 260) (off := (210)) 109 h55 dX11_readsOne_50 (by decide) (by decide) (by decide) (by decide) ?_
        refine v_aload_n dX11_readsOne_260 rfl 2 rfl ?_
        refine v_ldcSw (i := 23) rfl dX11_readsOne_261 ?_
        refine v_iconst (v := 1) dX11_readsOne_264 (by decide) ?_
        refine v_iconst (v := 1) dX11_readsOne_265 (by decide) ?_
        refine v_callVv (As := [.ref (g.2.2.2.2.1 23), .int 1, .int 1]) cv_X11_234 (S_X11_number hl) tt_141 rfl rfl rfl (Nat.le_of_ble_eq_true rfl) dX11_readsOne_266 (CR_rm (by decide) (by decide) (by decide) (by decide)) (fun w56 => ?_)
        refine v_goto (tgt := 297) dX11_readsOne_269 (by decide) ?_
        refine v_aload_n dX11_readsOne_297 rfl 2 rfl ?_
        refine v_dup dX11_readsOne_298 rfl ?_
        refine v_getI fl_X11_231 tt_141 rfl dX11_readsOne_299 ?_
        refine v_iconst (v := 1) dX11_readsOne_302 (by decide) ?_
        refine v_iadd dX11_readsOne_303 ?_
        refine v_putI fl_X11_231 tt_141 rfl (ty0 := .int) rfl rfl rfl dX11_readsOne_304 ?_
        exact v_vret dX11_readsOne_307 rfl rfl (by decide) (by decide)
      refine v_split (fun h57 => ?_) (fun h57 => ?_)
      · refine v_tsIn (tgt := 292) (off := (242)) 110 h57 dX11_readsOne_50 (by decide) (by decide) (by decide) (by decide) ?_
        refine v_aload_n dX11_readsOne_292 rfl 2 rfl ?_
        refine v_iconst (v := 1) dX11_readsOne_293 (by decide) ?_
        refine v_putI fl_X11_189 tt_141 rfl (ty0 := .boolean) rfl rfl rfl dX11_readsOne_294 ?_
        refine v_aload_n dX11_readsOne_297 rfl 2 rfl ?_
        refine v_dup dX11_readsOne_298 rfl ?_
        refine v_getI fl_X11_231 tt_141 rfl dX11_readsOne_299 ?_
        refine v_iconst (v := 1) dX11_readsOne_302 (by decide) ?_
        refine v_iadd dX11_readsOne_303 ?_
        refine v_putI fl_X11_231 tt_141 rfl (ty0 := .int) rfl rfl rfl dX11_readsOne_304 ?_
        exact v_vret dX11_readsOne_307 rfl rfl (by decide) (by decide)
      refine v_split (fun h58 => ?_) (fun h58 => ?_)
      · refine v_tsIn (tgt := 226) (off := (176)) 111 h58 dX11_readsOne_50 (by decide) (by decide) (by decide) (by decide) ?_
        refine v_aload_n dX11_readsOne_226 rfl 2 rfl ?_
        refine v_ldcSw (i := 20) rfl dX11_readsOne_227 ?_
        refine v_callVv (As := [.ref (g.2.2.2.2.1 20)]) cv_X11_227 (S_X11_says hl) tt_141 rfl rfl rfl (Nat.le_of_ble_eq_true rfl) dX11_readsOne_230 (CR_rm (by decide) (by decide) (by decide) (by decide)) (fun w59 => ?_)
        refine v_goto (tgt := 297) dX11_readsOne_233 (by decide) ?_
        refine v_aload_n dX11_readsOne_297 rfl 2 rfl ?_
        refine v_dup dX11_readsOne_298 rfl ?_
        refine v_getI fl_X11_231 tt_141 rfl dX11_readsOne_299 ?_
        refine v_iconst (v := 1) dX11_readsOne_302 (by decide) ?_
        refine v_iadd dX11_readsOne_303 ?_
        refine v_putI fl_X11_231 tt_141 rfl (ty0 := .int) rfl rfl rfl dX11_readsOne_304 ?_
        exact v_vret dX11_readsOne_307 rfl rfl (by decide) (by decide)
      refine v_split (fun h60 => ?_) (fun h60 => ?_)
      · refine v_tsIn (tgt := 157) (off := (107)) 112 h60 dX11_readsOne_50 (by decide) (by decide) (by decide) (by decide) ?_
        refine v_aload_n dX11_readsOne_157 rfl 2 rfl ?_
        refine v_iload_n dX11_readsOne_158 rfl 0 rfl ?_
        refine v_if_eqT (tgt := 167) dX11_readsOne_159 (by decide) (by decide) ?_
        refine v_ldcS (i := 14) rfl dX11_readsOne_167 ?_
        refine v_iconst (v := 1) dX11_readsOne_169 (by decide) ?_
        refine v_iconst (v := 1) dX11_readsOne_170 (by decide) ?_
        refine v_callVv (As := [.ref (g.2.2.2.2.1 14), .int 1, .int 1]) cv_X11_234 (S_X11_number hl) tt_141 rfl rfl rfl (Nat.le_of_ble_eq_true rfl) dX11_readsOne_171 (CR_rm (by decide) (by decide) (by decide) (by decide)) (fun w61 => ?_)
        refine v_iload_n dX11_readsOne_174 rfl 0 rfl ?_
        refine v_if_eqT (tgt := 186) dX11_readsOne_175 (by decide) (by decide) ?_
        refine v_aload_n dX11_readsOne_186 rfl 2 rfl ?_
        refine v_ldcS (i := 16) rfl dX11_readsOne_187 ?_
        refine v_iconst (v := 3) dX11_readsOne_189 (by decide) ?_
        refine v_iconst (v := 2) dX11_readsOne_190 (by decide) ?_
        refine v_callVv (As := [.ref (g.2.2.2.2.1 16), .int 3, .int 2]) cv_X11_234 (S_X11_number hl) tt_141 rfl rfl rfl (Nat.le_of_ble_eq_true rfl) dX11_readsOne_191 (CR_rm (by decide) (by decide) (by decide) (by decide)) (fun w62 => ?_)
        refine v_goto (tgt := 297) dX11_readsOne_194 (by decide) ?_
        refine v_aload_n dX11_readsOne_297 rfl 2 rfl ?_
        refine v_dup dX11_readsOne_298 rfl ?_
        refine v_getI fl_X11_231 tt_141 rfl dX11_readsOne_299 ?_
        refine v_iconst (v := 1) dX11_readsOne_302 (by decide) ?_
        refine v_iadd dX11_readsOne_303 ?_
        refine v_putI fl_X11_231 tt_141 rfl (ty0 := .int) rfl rfl rfl dX11_readsOne_304 ?_
        exact v_vret dX11_readsOne_307 rfl rfl (by decide) (by decide)
      refine v_split (fun h63 => ?_) (fun h63 => ?_)
      · refine v_tsIn (tgt := 292) (off := (242)) 113 h63 dX11_readsOne_50 (by decide) (by decide) (by decide) (by decide) ?_
        refine v_aload_n dX11_readsOne_292 rfl 2 rfl ?_
        refine v_iconst (v := 1) dX11_readsOne_293 (by decide) ?_
        refine v_putI fl_X11_189 tt_141 rfl (ty0 := .boolean) rfl rfl rfl dX11_readsOne_294 ?_
        refine v_aload_n dX11_readsOne_297 rfl 2 rfl ?_
        refine v_dup dX11_readsOne_298 rfl ?_
        refine v_getI fl_X11_231 tt_141 rfl dX11_readsOne_299 ?_
        refine v_iconst (v := 1) dX11_readsOne_302 (by decide) ?_
        refine v_iadd dX11_readsOne_303 ?_
        refine v_putI fl_X11_231 tt_141 rfl (ty0 := .int) rfl rfl rfl dX11_readsOne_304 ?_
        exact v_vret dX11_readsOne_307 rfl rfl (by decide) (by decide)
      refine v_split (fun h64 => ?_) (fun h64 => ?_)
      · refine v_tsIn (tgt := 292) (off := (242)) 114 h64 dX11_readsOne_50 (by decide) (by decide) (by decide) (by decide) ?_
        refine v_aload_n dX11_readsOne_292 rfl 2 rfl ?_
        refine v_iconst (v := 1) dX11_readsOne_293 (by decide) ?_
        refine v_putI fl_X11_189 tt_141 rfl (ty0 := .boolean) rfl rfl rfl dX11_readsOne_294 ?_
        refine v_aload_n dX11_readsOne_297 rfl 2 rfl ?_
        refine v_dup dX11_readsOne_298 rfl ?_
        refine v_getI fl_X11_231 tt_141 rfl dX11_readsOne_299 ?_
        refine v_iconst (v := 1) dX11_readsOne_302 (by decide) ?_
        refine v_iadd dX11_readsOne_303 ?_
        refine v_putI fl_X11_231 tt_141 rfl (ty0 := .int) rfl rfl rfl dX11_readsOne_304 ?_
        exact v_vret dX11_readsOne_307 rfl rfl (by decide) (by decide)
      refine v_split (fun h65 => ?_) (fun h65 => ?_)
      · refine v_tsIn (tgt := 282) (off := (232)) 115 h65 dX11_readsOne_50 (by decide) (by decide) (by decide) (by decide) ?_
        refine v_aload_n dX11_readsOne_282 rfl 2 rfl ?_
        refine v_ldcSw (i := 25) rfl dX11_readsOne_283 ?_
        refine v_callVv (As := [.ref (g.2.2.2.2.1 25)]) cv_X11_227 (S_X11_says hl) tt_141 rfl rfl rfl (Nat.le_of_ble_eq_true rfl) dX11_readsOne_286 (CR_rm (by decide) (by decide) (by decide) (by decide)) (fun w66 => ?_)
        refine v_goto (tgt := 297) dX11_readsOne_289 (by decide) ?_
        refine v_aload_n dX11_readsOne_297 rfl 2 rfl ?_
        refine v_dup dX11_readsOne_298 rfl ?_
        refine v_getI fl_X11_231 tt_141 rfl dX11_readsOne_299 ?_
        refine v_iconst (v := 1) dX11_readsOne_302 (by decide) ?_
        refine v_iadd dX11_readsOne_303 ?_
        refine v_putI fl_X11_231 tt_141 rfl (ty0 := .int) rfl rfl rfl dX11_readsOne_304 ?_
        exact v_vret dX11_readsOne_307 rfl rfl (by decide) (by decide)
      refine v_split (fun h67 => ?_) (fun h67 => ?_)
      · refine v_tsIn (tgt := 197) (off := (147)) 116 h67 dX11_readsOne_50 (by decide) (by decide) (by decide) (by decide) ?_
        refine v_aload_n dX11_readsOne_197 rfl 2 rfl ?_
        refine v_ldcS (i := 17) rfl dX11_readsOne_198 ?_
        refine v_callVv (As := [.ref (g.2.2.2.2.1 17)]) cv_X11_250 (S_X11_term hl) tt_141 rfl rfl rfl (Nat.le_of_ble_eq_true rfl) dX11_readsOne_200 (CR_rm (by decide) (by decide) (by decide) (by decide)) (fun w68 => ?_)
        refine v_goto (tgt := 297) dX11_readsOne_203 (by decide) ?_
        refine v_aload_n dX11_readsOne_297 rfl 2 rfl ?_
        refine v_dup dX11_readsOne_298 rfl ?_
        refine v_getI fl_X11_231 tt_141 rfl dX11_readsOne_299 ?_
        refine v_iconst (v := 1) dX11_readsOne_302 (by decide) ?_
        refine v_iadd dX11_readsOne_303 ?_
        refine v_putI fl_X11_231 tt_141 rfl (ty0 := .int) rfl rfl rfl dX11_readsOne_304 ?_
        exact v_vret dX11_readsOne_307 rfl rfl (by decide) (by decide)
      refine v_split (fun h69 => ?_) (fun h69 => ?_)
      · refine v_tsIn (tgt := 206) (off := (156)) 117 h69 dX11_readsOne_50 (by decide) (by decide) (by decide) (by decide) ?_
        refine v_aload_n dX11_readsOne_206 rfl 2 rfl ?_
        refine v_ldcS (i := 18) rfl dX11_readsOne_207 ?_
        refine v_callVv (As := [.ref (g.2.2.2.2.1 18)]) cv_X11_250 (S_X11_term hl) tt_141 rfl rfl rfl (Nat.le_of_ble_eq_true rfl) dX11_readsOne_209 (CR_rm (by decide) (by decide) (by decide) (by decide)) (fun w70 => ?_)
        refine v_goto (tgt := 297) dX11_readsOne_212 (by decide) ?_
        refine v_aload_n dX11_readsOne_297 rfl 2 rfl ?_
        refine v_dup dX11_readsOne_298 rfl ?_
        refine v_getI fl_X11_231 tt_141 rfl dX11_readsOne_299 ?_
        refine v_iconst (v := 1) dX11_readsOne_302 (by decide) ?_
        refine v_iadd dX11_readsOne_303 ?_
        refine v_putI fl_X11_231 tt_141 rfl (ty0 := .int) rfl rfl rfl dX11_readsOne_304 ?_
        exact v_vret dX11_readsOne_307 rfl rfl (by decide) (by decide)
      have h38 := v_tsNe (z := 97) (by decide) h38
      have h40 := v_tsNe (z := 98) (by decide) h40
      have h42 := v_tsNe (z := 99) (by decide) h42
      have h44 := v_tsNe (z := 100) (by decide) h44
      have h46 := v_tsNe (z := 101) (by decide) h46
      have h47 := v_tsNe (z := 102) (by decide) h47
      have h49 := v_tsNe (z := 103) (by decide) h49
      have h50 := v_tsNe (z := 104) (by decide) h50
      have h51 := v_tsNe (z := 105) (by decide) h51
      have h52 := v_tsNe (z := 106) (by decide) h52
      have h53 := v_tsNe (z := 107) (by decide) h53
      have h54 := v_tsNe (z := 108) (by decide) h54
      have h55 := v_tsNe (z := 109) (by decide) h55
      have h57 := v_tsNe (z := 110) (by decide) h57
      have h58 := v_tsNe (z := 111) (by decide) h58
      have h60 := v_tsNe (z := 112) (by decide) h60
      have h63 := v_tsNe (z := 113) (by decide) h63
      have h64 := v_tsNe (z := 114) (by decide) h64
      have h65 := v_tsNe (z := 115) (by decide) h65
      have h67 := v_tsNe (z := 116) (by decide) h67
      have h69 := v_tsNe (z := 117) (by decide) h69
      refine v_tsOut (tgt := 292) dX11_readsOne_50 (by omega) (by decide) ?_
      refine v_aload_n dX11_readsOne_292 rfl 2 rfl ?_
      refine v_iconst (v := 1) dX11_readsOne_293 (by decide) ?_
      refine v_putI fl_X11_189 tt_141 rfl (ty0 := .boolean) rfl rfl rfl dX11_readsOne_294 ?_
      refine v_aload_n dX11_readsOne_297 rfl 2 rfl ?_
      refine v_dup dX11_readsOne_298 rfl ?_
      refine v_getI fl_X11_231 tt_141 rfl dX11_readsOne_299 ?_
      refine v_iconst (v := 1) dX11_readsOne_302 (by decide) ?_
      refine v_iadd dX11_readsOne_303 ?_
      refine v_putI fl_X11_231 tt_141 rfl (ty0 := .int) rfl rfl rfl dX11_readsOne_304 ?_
      exact v_vret dX11_readsOne_307 rfl rfl (by decide) (by decide)
    · refine v_iconst (v := 1) dX11_readsOne_22 (by decide) ?_
      refine v_goto (tgt := 27) dX11_readsOne_23 (by decide) ?_
      refine v_istore_n dX11_readsOne_27 rfl (Nat.le_of_ble_eq_true rfl) rfl ?_
      refine v_aload_n dX11_readsOne_28 rfl 2 rfl ?_
      refine v_getR fl_X11_25 tt_141 rfl dX11_readsOne_29 ?_
      refine v_iconst (v := 4) dX11_readsOne_32 (by decide) ?_
      refine v_aload_n dX11_readsOne_33 rfl 2 rfl ?_
      refine v_getI fl_X11_231 tt_141 rfl dX11_readsOne_34 ?_
      refine v_imul dX11_readsOne_37 ?_
      refine v_iload_n dX11_readsOne_38 rfl 0 rfl ?_
      refine v_if_eqF (tgt := 47) dX11_readsOne_39 (by decide) (by decide) ?_
      refine v_bipush (v := 105) dX11_readsOne_42 (by decide) ?_
      refine v_goto (tgt := 48) dX11_readsOne_44 (by decide) ?_
      refine v_guard (fun h71 => ?_)
      refine v_iast tt_147 h71 dX11_readsOne_48 ?_
      refine v_iload_n dX11_readsOne_49 rfl 1 rfl ?_
      refine v_split (fun h72 => ?_) (fun h72 => ?_)
      · refine v_tsIn (tgt := 148) (off := (98)) 97 h72 dX11_readsOne_50 (by decide) (by decide) (by decide) (by decide) ?_
        refine v_aload_n dX11_readsOne_148 rfl 2 rfl ?_
        refine v_ldcS (i := 12) rfl dX11_readsOne_149 ?_
        refine v_callVv (As := [.ref (g.2.2.2.2.1 12)]) cv_X11_227 (S_X11_says hl) tt_141 rfl rfl rfl (Nat.le_of_ble_eq_true rfl) dX11_readsOne_151 (CR_rm (by decide) (by decide) (by decide) (by decide)) (fun w73 => ?_)
        refine v_goto (tgt := 297) dX11_readsOne_154 (by decide) ?_
        refine v_aload_n dX11_readsOne_297 rfl 2 rfl ?_
        refine v_dup dX11_readsOne_298 rfl ?_
        refine v_getI fl_X11_231 tt_141 rfl dX11_readsOne_299 ?_
        refine v_iconst (v := 1) dX11_readsOne_302 (by decide) ?_
        refine v_iadd dX11_readsOne_303 ?_
        refine v_putI fl_X11_231 tt_141 rfl (ty0 := .int) rfl rfl rfl dX11_readsOne_304 ?_
        exact v_vret dX11_readsOne_307 rfl rfl (by decide) (by decide)
      refine v_split (fun h74 => ?_) (fun h74 => ?_)
      · refine v_tsIn (tgt := 248) (off := (198)) 98 h74 dX11_readsOne_50 (by decide) (by decide) (by decide) (by decide) ?_
        refine v_aload_n dX11_readsOne_248 rfl 2 rfl ?_
        refine v_ldcSw (i := 22) rfl dX11_readsOne_249 ?_
        refine v_iconst (v := 1) dX11_readsOne_252 (by decide) ?_
        refine v_iconst (v := 1) dX11_readsOne_253 (by decide) ?_
        refine v_callVv (As := [.ref (g.2.2.2.2.1 22), .int 1, .int 1]) cv_X11_234 (S_X11_number hl) tt_141 rfl rfl rfl (Nat.le_of_ble_eq_true rfl) dX11_readsOne_254 (CR_rm (by decide) (by decide) (by decide) (by decide)) (fun w75 => ?_)
        refine v_goto (tgt := 297) dX11_readsOne_257 (by decide) ?_
        refine v_aload_n dX11_readsOne_297 rfl 2 rfl ?_
        refine v_dup dX11_readsOne_298 rfl ?_
        refine v_getI fl_X11_231 tt_141 rfl dX11_readsOne_299 ?_
        refine v_iconst (v := 1) dX11_readsOne_302 (by decide) ?_
        refine v_iadd dX11_readsOne_303 ?_
        refine v_putI fl_X11_231 tt_141 rfl (ty0 := .int) rfl rfl rfl dX11_readsOne_304 ?_
        exact v_vret dX11_readsOne_307 rfl rfl (by decide) (by decide)
      refine v_split (fun h76 => ?_) (fun h76 => ?_)
      · refine v_tsIn (tgt := 236) (off := (186)) 99 h76 dX11_readsOne_50 (by decide) (by decide) (by decide) (by decide) ?_
        refine v_aload_n dX11_readsOne_236 rfl 2 rfl ?_
        refine v_ldcSw (i := 21) rfl dX11_readsOne_237 ?_
        refine v_iconst (v := 1) dX11_readsOne_240 (by decide) ?_
        refine v_iconst (v := 1) dX11_readsOne_241 (by decide) ?_
        refine v_callVv (As := [.ref (g.2.2.2.2.1 21), .int 1, .int 1]) cv_X11_234 (S_X11_number hl) tt_141 rfl rfl rfl (Nat.le_of_ble_eq_true rfl) dX11_readsOne_242 (CR_rm (by decide) (by decide) (by decide) (by decide)) (fun w77 => ?_)
        refine v_goto (tgt := 297) dX11_readsOne_245 (by decide) ?_
        refine v_aload_n dX11_readsOne_297 rfl 2 rfl ?_
        refine v_dup dX11_readsOne_298 rfl ?_
        refine v_getI fl_X11_231 tt_141 rfl dX11_readsOne_299 ?_
        refine v_iconst (v := 1) dX11_readsOne_302 (by decide) ?_
        refine v_iadd dX11_readsOne_303 ?_
        refine v_putI fl_X11_231 tt_141 rfl (ty0 := .int) rfl rfl rfl dX11_readsOne_304 ?_
        exact v_vret dX11_readsOne_307 rfl rfl (by decide) (by decide)
      refine v_split (fun h78 => ?_) (fun h78 => ?_)
      · refine v_tsIn (tgt := 272) (off := (222)) 100 h78 dX11_readsOne_50 (by decide) (by decide) (by decide) (by decide) ?_
        refine v_aload_n dX11_readsOne_272 rfl 2 rfl ?_
        refine v_ldcSw (i := 24) rfl dX11_readsOne_273 ?_
        refine v_callVv (As := [.ref (g.2.2.2.2.1 24)]) cv_X11_227 (S_X11_says hl) tt_141 rfl rfl rfl (Nat.le_of_ble_eq_true rfl) dX11_readsOne_276 (CR_rm (by decide) (by decide) (by decide) (by decide)) (fun w79 => ?_)
        refine v_goto (tgt := 297) dX11_readsOne_279 (by decide) ?_
        refine v_aload_n dX11_readsOne_297 rfl 2 rfl ?_
        refine v_dup dX11_readsOne_298 rfl ?_
        refine v_getI fl_X11_231 tt_141 rfl dX11_readsOne_299 ?_
        refine v_iconst (v := 1) dX11_readsOne_302 (by decide) ?_
        refine v_iadd dX11_readsOne_303 ?_
        refine v_putI fl_X11_231 tt_141 rfl (ty0 := .int) rfl rfl rfl dX11_readsOne_304 ?_
        exact v_vret dX11_readsOne_307 rfl rfl (by decide) (by decide)
      refine v_split (fun h80 => ?_) (fun h80 => ?_)
      · refine v_tsIn (tgt := 292) (off := (242)) 101 h80 dX11_readsOne_50 (by decide) (by decide) (by decide) (by decide) ?_
        refine v_aload_n dX11_readsOne_292 rfl 2 rfl ?_
        refine v_iconst (v := 1) dX11_readsOne_293 (by decide) ?_
        refine v_putI fl_X11_189 tt_141 rfl (ty0 := .boolean) rfl rfl rfl dX11_readsOne_294 ?_
        refine v_aload_n dX11_readsOne_297 rfl 2 rfl ?_
        refine v_dup dX11_readsOne_298 rfl ?_
        refine v_getI fl_X11_231 tt_141 rfl dX11_readsOne_299 ?_
        refine v_iconst (v := 1) dX11_readsOne_302 (by decide) ?_
        refine v_iadd dX11_readsOne_303 ?_
        refine v_putI fl_X11_231 tt_141 rfl (ty0 := .int) rfl rfl rfl dX11_readsOne_304 ?_
        exact v_vret dX11_readsOne_307 rfl rfl (by decide) (by decide)
      refine v_split (fun h81 => ?_) (fun h81 => ?_)
      · refine v_tsIn (tgt := 215) (off := (165)) 102 h81 dX11_readsOne_50 (by decide) (by decide) (by decide) (by decide) ?_
        refine v_aload_n dX11_readsOne_215 rfl 2 rfl ?_
        refine v_ldcS (i := 19) rfl dX11_readsOne_216 ?_
        refine v_iconst (v := 1) dX11_readsOne_218 (by decide) ?_
        refine v_iconst (v := 1) dX11_readsOne_219 (by decide) ?_
        refine v_callVv (As := [.ref (g.2.2.2.2.1 19), .int 1, .int 1]) cv_X11_234 (S_X11_number hl) tt_141 rfl rfl rfl (Nat.le_of_ble_eq_true rfl) dX11_readsOne_220 (CR_rm (by decide) (by decide) (by decide) (by decide)) (fun w82 => ?_)
        refine v_goto (tgt := 297) dX11_readsOne_223 (by decide) ?_
        refine v_aload_n dX11_readsOne_297 rfl 2 rfl ?_
        refine v_dup dX11_readsOne_298 rfl ?_
        refine v_getI fl_X11_231 tt_141 rfl dX11_readsOne_299 ?_
        refine v_iconst (v := 1) dX11_readsOne_302 (by decide) ?_
        refine v_iadd dX11_readsOne_303 ?_
        refine v_putI fl_X11_231 tt_141 rfl (ty0 := .int) rfl rfl rfl dX11_readsOne_304 ?_
        exact v_vret dX11_readsOne_307 rfl rfl (by decide) (by decide)
      refine v_split (fun h83 => ?_) (fun h83 => ?_)
      · refine v_tsIn (tgt := 292) (off := (242)) 103 h83 dX11_readsOne_50 (by decide) (by decide) (by decide) (by decide) ?_
        refine v_aload_n dX11_readsOne_292 rfl 2 rfl ?_
        refine v_iconst (v := 1) dX11_readsOne_293 (by decide) ?_
        refine v_putI fl_X11_189 tt_141 rfl (ty0 := .boolean) rfl rfl rfl dX11_readsOne_294 ?_
        refine v_aload_n dX11_readsOne_297 rfl 2 rfl ?_
        refine v_dup dX11_readsOne_298 rfl ?_
        refine v_getI fl_X11_231 tt_141 rfl dX11_readsOne_299 ?_
        refine v_iconst (v := 1) dX11_readsOne_302 (by decide) ?_
        refine v_iadd dX11_readsOne_303 ?_
        refine v_putI fl_X11_231 tt_141 rfl (ty0 := .int) rfl rfl rfl dX11_readsOne_304 ?_
        exact v_vret dX11_readsOne_307 rfl rfl (by decide) (by decide)
      refine v_split (fun h84 => ?_) (fun h84 => ?_)
      · refine v_tsIn (tgt := 292) (off := (242)) 104 h84 dX11_readsOne_50 (by decide) (by decide) (by decide) (by decide) ?_
        refine v_aload_n dX11_readsOne_292 rfl 2 rfl ?_
        refine v_iconst (v := 1) dX11_readsOne_293 (by decide) ?_
        refine v_putI fl_X11_189 tt_141 rfl (ty0 := .boolean) rfl rfl rfl dX11_readsOne_294 ?_
        refine v_aload_n dX11_readsOne_297 rfl 2 rfl ?_
        refine v_dup dX11_readsOne_298 rfl ?_
        refine v_getI fl_X11_231 tt_141 rfl dX11_readsOne_299 ?_
        refine v_iconst (v := 1) dX11_readsOne_302 (by decide) ?_
        refine v_iadd dX11_readsOne_303 ?_
        refine v_putI fl_X11_231 tt_141 rfl (ty0 := .int) rfl rfl rfl dX11_readsOne_304 ?_
        exact v_vret dX11_readsOne_307 rfl rfl (by decide) (by decide)
      refine v_split (fun h85 => ?_) (fun h85 => ?_)
      · refine v_tsIn (tgt := 292) (off := (242)) 105 h85 dX11_readsOne_50 (by decide) (by decide) (by decide) (by decide) ?_
        refine v_aload_n dX11_readsOne_292 rfl 2 rfl ?_
        refine v_iconst (v := 1) dX11_readsOne_293 (by decide) ?_
        refine v_putI fl_X11_189 tt_141 rfl (ty0 := .boolean) rfl rfl rfl dX11_readsOne_294 ?_
        refine v_aload_n dX11_readsOne_297 rfl 2 rfl ?_
        refine v_dup dX11_readsOne_298 rfl ?_
        refine v_getI fl_X11_231 tt_141 rfl dX11_readsOne_299 ?_
        refine v_iconst (v := 1) dX11_readsOne_302 (by decide) ?_
        refine v_iadd dX11_readsOne_303 ?_
        refine v_putI fl_X11_231 tt_141 rfl (ty0 := .int) rfl rfl rfl dX11_readsOne_304 ?_
        exact v_vret dX11_readsOne_307 rfl rfl (by decide) (by decide)
      refine v_split (fun h86 => ?_) (fun h86 => ?_)
      · refine v_tsIn (tgt := 292) (off := (242)) 106 h86 dX11_readsOne_50 (by decide) (by decide) (by decide) (by decide) ?_
        refine v_aload_n dX11_readsOne_292 rfl 2 rfl ?_
        refine v_iconst (v := 1) dX11_readsOne_293 (by decide) ?_
        refine v_putI fl_X11_189 tt_141 rfl (ty0 := .boolean) rfl rfl rfl dX11_readsOne_294 ?_
        refine v_aload_n dX11_readsOne_297 rfl 2 rfl ?_
        refine v_dup dX11_readsOne_298 rfl ?_
        refine v_getI fl_X11_231 tt_141 rfl dX11_readsOne_299 ?_
        refine v_iconst (v := 1) dX11_readsOne_302 (by decide) ?_
        refine v_iadd dX11_readsOne_303 ?_
        refine v_putI fl_X11_231 tt_141 rfl (ty0 := .int) rfl rfl rfl dX11_readsOne_304 ?_
        exact v_vret dX11_readsOne_307 rfl rfl (by decide) (by decide)
      refine v_split (fun h87 => ?_) (fun h87 => ?_)
      · refine v_tsIn (tgt := 292) (off := (242)) 107 h87 dX11_readsOne_50 (by decide) (by decide) (by decide) (by decide) ?_
        refine v_aload_n dX11_readsOne_292 rfl 2 rfl ?_
        refine v_iconst (v := 1) dX11_readsOne_293 (by decide) ?_
        refine v_putI fl_X11_189 tt_141 rfl (ty0 := .boolean) rfl rfl rfl dX11_readsOne_294 ?_
        refine v_aload_n dX11_readsOne_297 rfl 2 rfl ?_
        refine v_dup dX11_readsOne_298 rfl ?_
        refine v_getI fl_X11_231 tt_141 rfl dX11_readsOne_299 ?_
        refine v_iconst (v := 1) dX11_readsOne_302 (by decide) ?_
        refine v_iadd dX11_readsOne_303 ?_
        refine v_putI fl_X11_231 tt_141 rfl (ty0 := .int) rfl rfl rfl dX11_readsOne_304 ?_
        exact v_vret dX11_readsOne_307 rfl rfl (by decide) (by decide)
      refine v_split (fun h88 => ?_) (fun h88 => ?_)
      · refine v_tsIn (tgt := 292) (off := (242)) 108 h88 dX11_readsOne_50 (by decide) (by decide) (by decide) (by decide) ?_
        refine v_aload_n dX11_readsOne_292 rfl 2 rfl ?_
        refine v_iconst (v := 1) dX11_readsOne_293 (by decide) ?_
        refine v_putI fl_X11_189 tt_141 rfl (ty0 := .boolean) rfl rfl rfl dX11_readsOne_294 ?_
        refine v_aload_n dX11_readsOne_297 rfl 2 rfl ?_
        refine v_dup dX11_readsOne_298 rfl ?_
        refine v_getI fl_X11_231 tt_141 rfl dX11_readsOne_299 ?_
        refine v_iconst (v := 1) dX11_readsOne_302 (by decide) ?_
        refine v_iadd dX11_readsOne_303 ?_
        refine v_putI fl_X11_231 tt_141 rfl (ty0 := .int) rfl rfl rfl dX11_readsOne_304 ?_
        exact v_vret dX11_readsOne_307 rfl rfl (by decide) (by decide)
      refine v_split (fun h89 => ?_) (fun h89 => ?_)
      · refine v_tsIn (tgt := 260) (off := (210)) 109 h89 dX11_readsOne_50 (by decide) (by decide) (by decide) (by decide) ?_
        refine v_aload_n dX11_readsOne_260 rfl 2 rfl ?_
        refine v_ldcSw (i := 23) rfl dX11_readsOne_261 ?_
        refine v_iconst (v := 1) dX11_readsOne_264 (by decide) ?_
        refine v_iconst (v := 1) dX11_readsOne_265 (by decide) ?_
        refine v_callVv (As := [.ref (g.2.2.2.2.1 23), .int 1, .int 1]) cv_X11_234 (S_X11_number hl) tt_141 rfl rfl rfl (Nat.le_of_ble_eq_true rfl) dX11_readsOne_266 (CR_rm (by decide) (by decide) (by decide) (by decide)) (fun w90 => ?_)
        refine v_goto (tgt := 297) dX11_readsOne_269 (by decide) ?_
        refine v_aload_n dX11_readsOne_297 rfl 2 rfl ?_
        refine v_dup dX11_readsOne_298 rfl ?_
        refine v_getI fl_X11_231 tt_141 rfl dX11_readsOne_299 ?_
        refine v_iconst (v := 1) dX11_readsOne_302 (by decide) ?_
        refine v_iadd dX11_readsOne_303 ?_
        refine v_putI fl_X11_231 tt_141 rfl (ty0 := .int) rfl rfl rfl dX11_readsOne_304 ?_
        exact v_vret dX11_readsOne_307 rfl rfl (by decide) (by decide)
      refine v_split (fun h91 => ?_) (fun h91 => ?_)
      · refine v_tsIn (tgt := 292) (off := (242)) 110 h91 dX11_readsOne_50 (by decide) (by decide) (by decide) (by decide) ?_
        refine v_aload_n dX11_readsOne_292 rfl 2 rfl ?_
        refine v_iconst (v := 1) dX11_readsOne_293 (by decide) ?_
        refine v_putI fl_X11_189 tt_141 rfl (ty0 := .boolean) rfl rfl rfl dX11_readsOne_294 ?_
        refine v_aload_n dX11_readsOne_297 rfl 2 rfl ?_
        refine v_dup dX11_readsOne_298 rfl ?_
        refine v_getI fl_X11_231 tt_141 rfl dX11_readsOne_299 ?_
        refine v_iconst (v := 1) dX11_readsOne_302 (by decide) ?_
        refine v_iadd dX11_readsOne_303 ?_
        refine v_putI fl_X11_231 tt_141 rfl (ty0 := .int) rfl rfl rfl dX11_readsOne_304 ?_
        exact v_vret dX11_readsOne_307 rfl rfl (by decide) (by decide)
      refine v_split (fun h92 => ?_) (fun h92 => ?_)
      · refine v_tsIn (tgt := 226) (off := (176)) 111 h92 dX11_readsOne_50 (by decide) (by decide) (by decide) (by decide) ?_
        refine v_aload_n dX11_readsOne_226 rfl 2 rfl ?_
        refine v_ldcSw (i := 20) rfl dX11_readsOne_227 ?_
        refine v_callVv (As := [.ref (g.2.2.2.2.1 20)]) cv_X11_227 (S_X11_says hl) tt_141 rfl rfl rfl (Nat.le_of_ble_eq_true rfl) dX11_readsOne_230 (CR_rm (by decide) (by decide) (by decide) (by decide)) (fun w93 => ?_)
        refine v_goto (tgt := 297) dX11_readsOne_233 (by decide) ?_
        refine v_aload_n dX11_readsOne_297 rfl 2 rfl ?_
        refine v_dup dX11_readsOne_298 rfl ?_
        refine v_getI fl_X11_231 tt_141 rfl dX11_readsOne_299 ?_
        refine v_iconst (v := 1) dX11_readsOne_302 (by decide) ?_
        refine v_iadd dX11_readsOne_303 ?_
        refine v_putI fl_X11_231 tt_141 rfl (ty0 := .int) rfl rfl rfl dX11_readsOne_304 ?_
        exact v_vret dX11_readsOne_307 rfl rfl (by decide) (by decide)
      refine v_split (fun h94 => ?_) (fun h94 => ?_)
      · refine v_tsIn (tgt := 157) (off := (107)) 112 h94 dX11_readsOne_50 (by decide) (by decide) (by decide) (by decide) ?_
        refine v_aload_n dX11_readsOne_157 rfl 2 rfl ?_
        refine v_iload_n dX11_readsOne_158 rfl 0 rfl ?_
        refine v_if_eqF (tgt := 167) dX11_readsOne_159 (by decide) (by decide) ?_
        refine v_ldcS (i := 13) rfl dX11_readsOne_162 ?_
        refine v_goto (tgt := 169) dX11_readsOne_164 (by decide) ?_
        refine v_iconst (v := 1) dX11_readsOne_169 (by decide) ?_
        refine v_iconst (v := 1) dX11_readsOne_170 (by decide) ?_
        refine v_callVv (As := [.ref (g.2.2.2.2.1 13), .int 1, .int 1]) cv_X11_234 (S_X11_number hl) tt_141 rfl rfl rfl (Nat.le_of_ble_eq_true rfl) dX11_readsOne_171 (CR_rm (by decide) (by decide) (by decide) (by decide)) (fun w95 => ?_)
        refine v_iload_n dX11_readsOne_174 rfl 0 rfl ?_
        refine v_if_eqF (tgt := 186) dX11_readsOne_175 (by decide) (by decide) ?_
        refine v_aload_n dX11_readsOne_178 rfl 2 rfl ?_
        refine v_ldcS (i := 15) rfl dX11_readsOne_179 ?_
        refine v_iconst (v := 2) dX11_readsOne_181 (by decide) ?_
        refine v_iconst (v := 1) dX11_readsOne_182 (by decide) ?_
        refine v_callVv (As := [.ref (g.2.2.2.2.1 15), .int 2, .int 1]) cv_X11_234 (S_X11_number hl) tt_141 rfl rfl rfl (Nat.le_of_ble_eq_true rfl) dX11_readsOne_183 (CR_rm (by decide) (by decide) (by decide) (by decide)) (fun w96 => ?_)
        refine v_aload_n dX11_readsOne_186 rfl 2 rfl ?_
        refine v_ldcS (i := 16) rfl dX11_readsOne_187 ?_
        refine v_iconst (v := 3) dX11_readsOne_189 (by decide) ?_
        refine v_iconst (v := 2) dX11_readsOne_190 (by decide) ?_
        refine v_callVv (As := [.ref (g.2.2.2.2.1 16), .int 3, .int 2]) cv_X11_234 (S_X11_number hl) tt_141 rfl rfl rfl (Nat.le_of_ble_eq_true rfl) dX11_readsOne_191 (CR_rm (by decide) (by decide) (by decide) (by decide)) (fun w97 => ?_)
        refine v_goto (tgt := 297) dX11_readsOne_194 (by decide) ?_
        refine v_aload_n dX11_readsOne_297 rfl 2 rfl ?_
        refine v_dup dX11_readsOne_298 rfl ?_
        refine v_getI fl_X11_231 tt_141 rfl dX11_readsOne_299 ?_
        refine v_iconst (v := 1) dX11_readsOne_302 (by decide) ?_
        refine v_iadd dX11_readsOne_303 ?_
        refine v_putI fl_X11_231 tt_141 rfl (ty0 := .int) rfl rfl rfl dX11_readsOne_304 ?_
        exact v_vret dX11_readsOne_307 rfl rfl (by decide) (by decide)
      refine v_split (fun h98 => ?_) (fun h98 => ?_)
      · refine v_tsIn (tgt := 292) (off := (242)) 113 h98 dX11_readsOne_50 (by decide) (by decide) (by decide) (by decide) ?_
        refine v_aload_n dX11_readsOne_292 rfl 2 rfl ?_
        refine v_iconst (v := 1) dX11_readsOne_293 (by decide) ?_
        refine v_putI fl_X11_189 tt_141 rfl (ty0 := .boolean) rfl rfl rfl dX11_readsOne_294 ?_
        refine v_aload_n dX11_readsOne_297 rfl 2 rfl ?_
        refine v_dup dX11_readsOne_298 rfl ?_
        refine v_getI fl_X11_231 tt_141 rfl dX11_readsOne_299 ?_
        refine v_iconst (v := 1) dX11_readsOne_302 (by decide) ?_
        refine v_iadd dX11_readsOne_303 ?_
        refine v_putI fl_X11_231 tt_141 rfl (ty0 := .int) rfl rfl rfl dX11_readsOne_304 ?_
        exact v_vret dX11_readsOne_307 rfl rfl (by decide) (by decide)
      refine v_split (fun h99 => ?_) (fun h99 => ?_)
      · refine v_tsIn (tgt := 292) (off := (242)) 114 h99 dX11_readsOne_50 (by decide) (by decide) (by decide) (by decide) ?_
        refine v_aload_n dX11_readsOne_292 rfl 2 rfl ?_
        refine v_iconst (v := 1) dX11_readsOne_293 (by decide) ?_
        refine v_putI fl_X11_189 tt_141 rfl (ty0 := .boolean) rfl rfl rfl dX11_readsOne_294 ?_
        refine v_aload_n dX11_readsOne_297 rfl 2 rfl ?_
        refine v_dup dX11_readsOne_298 rfl ?_
        refine v_getI fl_X11_231 tt_141 rfl dX11_readsOne_299 ?_
        refine v_iconst (v := 1) dX11_readsOne_302 (by decide) ?_
        refine v_iadd dX11_readsOne_303 ?_
        refine v_putI fl_X11_231 tt_141 rfl (ty0 := .int) rfl rfl rfl dX11_readsOne_304 ?_
        exact v_vret dX11_readsOne_307 rfl rfl (by decide) (by decide)
      refine v_split (fun h100 => ?_) (fun h100 => ?_)
      · refine v_tsIn (tgt := 282) (off := (232)) 115 h100 dX11_readsOne_50 (by decide) (by decide) (by decide) (by decide) ?_
        refine v_aload_n dX11_readsOne_282 rfl 2 rfl ?_
        refine v_ldcSw (i := 25) rfl dX11_readsOne_283 ?_
        refine v_callVv (As := [.ref (g.2.2.2.2.1 25)]) cv_X11_227 (S_X11_says hl) tt_141 rfl rfl rfl (Nat.le_of_ble_eq_true rfl) dX11_readsOne_286 (CR_rm (by decide) (by decide) (by decide) (by decide)) (fun w101 => ?_)
        refine v_goto (tgt := 297) dX11_readsOne_289 (by decide) ?_
        refine v_aload_n dX11_readsOne_297 rfl 2 rfl ?_
        refine v_dup dX11_readsOne_298 rfl ?_
        refine v_getI fl_X11_231 tt_141 rfl dX11_readsOne_299 ?_
        refine v_iconst (v := 1) dX11_readsOne_302 (by decide) ?_
        refine v_iadd dX11_readsOne_303 ?_
        refine v_putI fl_X11_231 tt_141 rfl (ty0 := .int) rfl rfl rfl dX11_readsOne_304 ?_
        exact v_vret dX11_readsOne_307 rfl rfl (by decide) (by decide)
      refine v_split (fun h102 => ?_) (fun h102 => ?_)
      · refine v_tsIn (tgt := 197) (off := (147)) 116 h102 dX11_readsOne_50 (by decide) (by decide) (by decide) (by decide) ?_
        refine v_aload_n dX11_readsOne_197 rfl 2 rfl ?_
        refine v_ldcS (i := 17) rfl dX11_readsOne_198 ?_
        refine v_callVv (As := [.ref (g.2.2.2.2.1 17)]) cv_X11_250 (S_X11_term hl) tt_141 rfl rfl rfl (Nat.le_of_ble_eq_true rfl) dX11_readsOne_200 (CR_rm (by decide) (by decide) (by decide) (by decide)) (fun w103 => ?_)
        refine v_goto (tgt := 297) dX11_readsOne_203 (by decide) ?_
        refine v_aload_n dX11_readsOne_297 rfl 2 rfl ?_
        refine v_dup dX11_readsOne_298 rfl ?_
        refine v_getI fl_X11_231 tt_141 rfl dX11_readsOne_299 ?_
        refine v_iconst (v := 1) dX11_readsOne_302 (by decide) ?_
        refine v_iadd dX11_readsOne_303 ?_
        refine v_putI fl_X11_231 tt_141 rfl (ty0 := .int) rfl rfl rfl dX11_readsOne_304 ?_
        exact v_vret dX11_readsOne_307 rfl rfl (by decide) (by decide)
      refine v_split (fun h104 => ?_) (fun h104 => ?_)
      · refine v_tsIn (tgt := 206) (off := (156)) 117 h104 dX11_readsOne_50 (by decide) (by decide) (by decide) (by decide) ?_
        refine v_aload_n dX11_readsOne_206 rfl 2 rfl ?_
        refine v_ldcS (i := 18) rfl dX11_readsOne_207 ?_
        refine v_callVv (As := [.ref (g.2.2.2.2.1 18)]) cv_X11_250 (S_X11_term hl) tt_141 rfl rfl rfl (Nat.le_of_ble_eq_true rfl) dX11_readsOne_209 (CR_rm (by decide) (by decide) (by decide) (by decide)) (fun w105 => ?_)
        refine v_goto (tgt := 297) dX11_readsOne_212 (by decide) ?_
        refine v_aload_n dX11_readsOne_297 rfl 2 rfl ?_
        refine v_dup dX11_readsOne_298 rfl ?_
        refine v_getI fl_X11_231 tt_141 rfl dX11_readsOne_299 ?_
        refine v_iconst (v := 1) dX11_readsOne_302 (by decide) ?_
        refine v_iadd dX11_readsOne_303 ?_
        refine v_putI fl_X11_231 tt_141 rfl (ty0 := .int) rfl rfl rfl dX11_readsOne_304 ?_
        exact v_vret dX11_readsOne_307 rfl rfl (by decide) (by decide)
      have h72 := v_tsNe (z := 97) (by decide) h72
      have h74 := v_tsNe (z := 98) (by decide) h74
      have h76 := v_tsNe (z := 99) (by decide) h76
      have h78 := v_tsNe (z := 100) (by decide) h78
      have h80 := v_tsNe (z := 101) (by decide) h80
      have h81 := v_tsNe (z := 102) (by decide) h81
      have h83 := v_tsNe (z := 103) (by decide) h83
      have h84 := v_tsNe (z := 104) (by decide) h84
      have h85 := v_tsNe (z := 105) (by decide) h85
      have h86 := v_tsNe (z := 106) (by decide) h86
      have h87 := v_tsNe (z := 107) (by decide) h87
      have h88 := v_tsNe (z := 108) (by decide) h88
      have h89 := v_tsNe (z := 109) (by decide) h89
      have h91 := v_tsNe (z := 110) (by decide) h91
      have h92 := v_tsNe (z := 111) (by decide) h92
      have h94 := v_tsNe (z := 112) (by decide) h94
      have h98 := v_tsNe (z := 113) (by decide) h98
      have h99 := v_tsNe (z := 114) (by decide) h99
      have h100 := v_tsNe (z := 115) (by decide) h100
      have h102 := v_tsNe (z := 116) (by decide) h102
      have h104 := v_tsNe (z := 117) (by decide) h104
      refine v_tsOut (tgt := 292) dX11_readsOne_50 (by omega) (by decide) ?_
      refine v_aload_n dX11_readsOne_292 rfl 2 rfl ?_
      refine v_iconst (v := 1) dX11_readsOne_293 (by decide) ?_
      refine v_putI fl_X11_189 tt_141 rfl (ty0 := .boolean) rfl rfl rfl dX11_readsOne_294 ?_
      refine v_aload_n dX11_readsOne_297 rfl 2 rfl ?_
      refine v_dup dX11_readsOne_298 rfl ?_
      refine v_getI fl_X11_231 tt_141 rfl dX11_readsOne_299 ?_
      refine v_iconst (v := 1) dX11_readsOne_302 (by decide) ?_
      refine v_iadd dX11_readsOne_303 ?_
      refine v_putI fl_X11_231 tt_141 rfl (ty0 := .int) rfl rfl rfl dX11_readsOne_304 ?_
      exact v_vret dX11_readsOne_307 rfl rfl (by decide) (by decide)
theorem S_X11_readsOne {g : GC} (hl : g.1.stackTraces = false) {w : XW} : ∀ q, f_X11_readsOne  w = some q → MM g (.code yX11_readsOne cX11_readsOne 3 none) yX11_readsOne (rmL 8 0 0) 0 0 [.ref (g.2.1 + 141)] w (oV q) := fun q hq => MM_of (own := RX11) hl (by decide) gw_1860 rfl (Nat.le_of_ble_eq_true rfl) (W_X11_readsOne hl q hq) ⟨rfl, rfl⟩

theorem dX11_does_0 : decode cX11_does 0 = .ok (.aload_n 0, 1) := by decide +kernel
theorem dX11_does_1 : decode cX11_does 1 = .ok (.getfield 25, 3) := by decide +kernel
theorem dX11_does_4 : decode cX11_does 4 = .ok (.iconst 4, 1) := by decide +kernel
theorem dX11_does_5 : decode cX11_does 5 = .ok (.iload_n 1, 1) := by decide +kernel
theorem dX11_does_6 : decode cX11_does 6 = .ok (.imul, 1) := by decide +kernel
theorem dX11_does_7 : decode cX11_does 7 = .ok (.iconst 1, 1) := by decide +kernel
theorem dX11_does_8 : decode cX11_does 8 = .ok (.iadd, 1) := by decide +kernel
theorem dX11_does_9 : decode cX11_does 9 = .ok (.iaload, 1) := by decide +kernel
theorem dX11_does_10 : decode cX11_does 10 = .ok (.istore_n 2, 1) := by decide +kernel
theorem dX11_does_11 : decode cX11_does 11 = .ok (.aload_n 0, 1) := by decide +kernel
theorem dX11_does_12 : decode cX11_does 12 = .ok (.getfield 25, 3) := by decide +kernel
theorem dX11_does_15 : decode cX11_does 15 = .ok (.iconst 4, 1) := by decide +kernel
theorem dX11_does_16 : decode cX11_does 16 = .ok (.iload_n 1, 1) := by decide +kernel
theorem dX11_does_17 : decode cX11_does 17 = .ok (.imul, 1) := by decide +kernel
theorem dX11_does_18 : decode cX11_does 18 = .ok (.iconst 2, 1) := by decide +kernel
theorem dX11_does_19 : decode cX11_does 19 = .ok (.iadd, 1) := by decide +kernel
theorem dX11_does_20 : decode cX11_does 20 = .ok (.iaload, 1) := by decide +kernel
theorem dX11_does_21 : decode cX11_does 21 = .ok (.istore_n 3, 1) := by decide +kernel
theorem dX11_does_22 : decode cX11_does 22 = .ok (.aload_n 0, 1) := by decide +kernel
theorem dX11_does_23 : decode cX11_does 23 = .ok (.getfield 25, 3) := by decide +kernel
theorem dX11_does_26 : decode cX11_does 26 = .ok (.iconst 4, 1) := by decide +kernel
theorem dX11_does_27 : decode cX11_does 27 = .ok (.iload_n 1, 1) := by decide +kernel
theorem dX11_does_28 : decode cX11_does 28 = .ok (.imul, 1) := by decide +kernel
theorem dX11_does_29 : decode cX11_does 29 = .ok (.iconst 3, 1) := by decide +kernel
theorem dX11_does_30 : decode cX11_does 30 = .ok (.iadd, 1) := by decide +kernel
theorem dX11_does_31 : decode cX11_does 31 = .ok (.iaload, 1) := by decide +kernel
theorem dX11_does_32 : decode cX11_does 32 = .ok (.istore 4, 2) := by decide +kernel
theorem dX11_does_34 : decode cX11_does 34 = .ok (.aload_n 0, 1) := by decide +kernel
theorem dX11_does_35 : decode cX11_does 35 = .ok (.getfield 25, 3) := by decide +kernel
theorem dX11_does_38 : decode cX11_does 38 = .ok (.iconst 4, 1) := by decide +kernel
theorem dX11_does_39 : decode cX11_does 39 = .ok (.iload_n 1, 1) := by decide +kernel
theorem dX11_does_40 : decode cX11_does 40 = .ok (.imul, 1) := by decide +kernel
theorem dX11_does_41 : decode cX11_does 41 = .ok (.iaload, 1) := by decide +kernel
theorem dX11_does_42 : decode cX11_does 42 = .ok (.tableswitch 172 97 117 #[98, 153, 147, 167, 172, 136, 172, 172, 111, 172, 172, 172, 160, 172, 142, 103, 172, 172, 172, 120, 128], 98) := by decide +kernel
theorem dX11_does_140 : decode cX11_does 140 = .ok (.aload_n 0, 1) := by decide +kernel
theorem dX11_does_141 : decode cX11_does 141 = .ok (.invokevirtual 124, 3) := by decide +kernel
theorem dX11_does_144 : decode cX11_does 144 = .ok (.ireturn, 1) := by decide +kernel
theorem dX11_does_145 : decode cX11_does 145 = .ok (.aload_n 0, 1) := by decide +kernel
theorem dX11_does_146 : decode cX11_does 146 = .ok (.iload_n 2, 1) := by decide +kernel
theorem dX11_does_147 : decode cX11_does 147 = .ok (.iload 4, 2) := by decide +kernel
theorem dX11_does_149 : decode cX11_does 149 = .ok (.invokevirtual 130, 3) := by decide +kernel
theorem dX11_does_152 : decode cX11_does 152 = .ok (.ireturn, 1) := by decide +kernel
theorem dX11_does_153 : decode cX11_does 153 = .ok (.aload_n 0, 1) := by decide +kernel
theorem dX11_does_154 : decode cX11_does 154 = .ok (.iload_n 2, 1) := by decide +kernel
theorem dX11_does_155 : decode cX11_does 155 = .ok (.iload_n 3, 1) := by decide +kernel
theorem dX11_does_156 : decode cX11_does 156 = .ok (.iload 4, 2) := by decide +kernel
theorem dX11_does_158 : decode cX11_does 158 = .ok (.invokevirtual 149, 3) := by decide +kernel
theorem dX11_does_161 : decode cX11_does 161 = .ok (.ireturn, 1) := by decide +kernel
theorem dX11_does_162 : decode cX11_does 162 = .ok (.aload_n 0, 1) := by decide +kernel
theorem dX11_does_163 : decode cX11_does 163 = .ok (.iload_n 2, 1) := by decide +kernel
theorem dX11_does_164 : decode cX11_does 164 = .ok (.iload_n 3, 1) := by decide +kernel
theorem dX11_does_165 : decode cX11_does 165 = .ok (.iconst 1, 1) := by decide +kernel
theorem dX11_does_166 : decode cX11_does 166 = .ok (.invokevirtual 133, 3) := by decide +kernel
theorem dX11_does_169 : decode cX11_does 169 = .ok (.ireturn, 1) := by decide +kernel
theorem dX11_does_170 : decode cX11_does 170 = .ok (.aload_n 0, 1) := by decide +kernel
theorem dX11_does_171 : decode cX11_does 171 = .ok (.iload_n 2, 1) := by decide +kernel
theorem dX11_does_172 : decode cX11_does 172 = .ok (.iload_n 3, 1) := by decide +kernel
theorem dX11_does_173 : decode cX11_does 173 = .ok (.iconst 0, 1) := by decide +kernel
theorem dX11_does_174 : decode cX11_does 174 = .ok (.invokevirtual 133, 3) := by decide +kernel
theorem dX11_does_177 : decode cX11_does 177 = .ok (.ireturn, 1) := by decide +kernel
theorem dX11_does_178 : decode cX11_does 178 = .ok (.aload_n 0, 1) := by decide +kernel
theorem dX11_does_179 : decode cX11_does 179 = .ok (.iload_n 2, 1) := by decide +kernel
theorem dX11_does_180 : decode cX11_does 180 = .ok (.invokevirtual 140, 3) := by decide +kernel
theorem dX11_does_183 : decode cX11_does 183 = .ok (.ireturn, 1) := by decide +kernel
theorem dX11_does_184 : decode cX11_does 184 = .ok (.aload_n 0, 1) := by decide +kernel
theorem dX11_does_185 : decode cX11_does 185 = .ok (.invokevirtual 143, 3) := by decide +kernel
theorem dX11_does_188 : decode cX11_does 188 = .ok (.ireturn, 1) := by decide +kernel
theorem dX11_does_189 : decode cX11_does 189 = .ok (.aload_n 0, 1) := by decide +kernel
theorem dX11_does_190 : decode cX11_does 190 = .ok (.iload_n 2, 1) := by decide +kernel
theorem dX11_does_191 : decode cX11_does 191 = .ok (.invokevirtual 153, 3) := by decide +kernel
theorem dX11_does_194 : decode cX11_does 194 = .ok (.ireturn, 1) := by decide +kernel
theorem dX11_does_195 : decode cX11_does 195 = .ok (.aload_n 0, 1) := by decide +kernel
theorem dX11_does_196 : decode cX11_does 196 = .ok (.iload_n 2, 1) := by decide +kernel
theorem dX11_does_197 : decode cX11_does 197 = .ok (.iconst 1, 1) := by decide +kernel
theorem dX11_does_198 : decode cX11_does 198 = .ok (.invokevirtual 156, 3) := by decide +kernel
theorem dX11_does_201 : decode cX11_does 201 = .ok (.ireturn, 1) := by decide +kernel
theorem dX11_does_202 : decode cX11_does 202 = .ok (.aload_n 0, 1) := by decide +kernel
theorem dX11_does_203 : decode cX11_does 203 = .ok (.iload_n 2, 1) := by decide +kernel
theorem dX11_does_204 : decode cX11_does 204 = .ok (.iconst 0, 1) := by decide +kernel
theorem dX11_does_205 : decode cX11_does 205 = .ok (.invokevirtual 156, 3) := by decide +kernel
theorem dX11_does_208 : decode cX11_does 208 = .ok (.ireturn, 1) := by decide +kernel
theorem dX11_does_209 : decode cX11_does 209 = .ok (.aload_n 0, 1) := by decide +kernel
theorem dX11_does_210 : decode cX11_does 210 = .ok (.invokevirtual 165, 3) := by decide +kernel
theorem dX11_does_213 : decode cX11_does 213 = .ok (.ireturn, 1) := by decide +kernel
theorem dX11_does_214 : decode cX11_does 214 = .ok (.aload_n 0, 1) := by decide +kernel
theorem dX11_does_215 : decode cX11_does 215 = .ok (.invokevirtual 168, 3) := by decide +kernel
theorem dX11_does_218 : decode cX11_does 218 = .ok (.ireturn, 1) := by decide +kernel
def f_X11_does (x1 : Int32) (w : XW) : Option (Int32 × XW) := (if inB ((4 * x1) + 1) 240 then (if inB ((4 * x1) + 2) 240 then (if inB ((4 * x1) + 3) 240 then (if inB (4 * x1) 240 then (if (w.1 147 (Int32.toNatClampNeg (4 * x1))) = 97 then (bI (f_X11_adds w) (fun r6 w6 => (some (r6, w6)))) else (if (w.1 147 (Int32.toNatClampNeg (4 * x1))) = 98 then (bI (f_X11_turns (w.1 147 (Int32.toNatClampNeg ((4 * x1) + 1))) 1 w) (fun r8 w8 => (some (r8, w8)))) else (if (w.1 147 (Int32.toNatClampNeg (4 * x1))) = 99 then (bI (f_X11_cuts (w.1 147 (Int32.toNatClampNeg ((4 * x1) + 1))) w) (fun r10 w10 => (some (r10, w10)))) else (if (w.1 147 (Int32.toNatClampNeg (4 * x1))) = 100 then (bI (f_X11_drains w) (fun r12 w12 => (some (r12, w12)))) else (if (w.1 147 (Int32.toNatClampNeg (4 * x1))) = 101 then (bI (f_X11_seeps w) (fun r14 w14 => (some (r14, w14)))) else (if (w.1 147 (Int32.toNatClampNeg (4 * x1))) = 102 then (bI (f_X11_folds (w.1 147 (Int32.toNatClampNeg ((4 * x1) + 1))) w) (fun r16 w16 => (some (r16, w16)))) else (if (w.1 147 (Int32.toNatClampNeg (4 * x1))) = 103 then (bI (f_X11_seeps w) (fun r18 w18 => (some (r18, w18)))) else (if (w.1 147 (Int32.toNatClampNeg (4 * x1))) = 104 then (bI (f_X11_seeps w) (fun r20 w20 => (some (r20, w20)))) else (if (w.1 147 (Int32.toNatClampNeg (4 * x1))) = 105 then (bI (f_X11_pipes (w.1 147 (Int32.toNatClampNeg ((4 * x1) + 1))) (w.1 147 (Int32.toNatClampNeg ((4 * x1) + 2))) (w.1 147 (Int32.toNatClampNeg ((4 * x1) + 3))) w) (fun r22 w22 => (some (r22, w22)))) else (if (w.1 147 (Int32.toNatClampNeg (4 * x1))) = 106 then (bI (f_X11_seeps w) (fun r24 w24 => (some (r24, w24)))) else (if (w.1 147 (Int32.toNatClampNeg (4 * x1))) = 107 then (bI (f_X11_seeps w) (fun r26 w26 => (some (r26, w26)))) else (if (w.1 147 (Int32.toNatClampNeg (4 * x1))) = 108 then (bI (f_X11_seeps w) (fun r28 w28 => (some (r28, w28)))) else (if (w.1 147 (Int32.toNatClampNeg (4 * x1))) = 109 then (bI (f_X11_turns (w.1 147 (Int32.toNatClampNeg ((4 * x1) + 1))) 0 w) (fun r30 w30 => (some (r30, w30)))) else (if (w.1 147 (Int32.toNatClampNeg (4 * x1))) = 110 then (bI (f_X11_seeps w) (fun r32 w32 => (some (r32, w32)))) else (if (w.1 147 (Int32.toNatClampNeg (4 * x1))) = 111 then (bI (f_X11_opens w) (fun r34 w34 => (some (r34, w34)))) else (if (w.1 147 (Int32.toNatClampNeg (4 * x1))) = 112 then (bI (f_X11_pours (w.1 147 (Int32.toNatClampNeg ((4 * x1) + 1))) (w.1 147 (Int32.toNatClampNeg ((4 * x1) + 3))) w) (fun r36 w36 => (some (r36, w36)))) else (if (w.1 147 (Int32.toNatClampNeg (4 * x1))) = 113 then (bI (f_X11_seeps w) (fun r38 w38 => (some (r38, w38)))) else (if (w.1 147 (Int32.toNatClampNeg (4 * x1))) = 114 then (bI (f_X11_seeps w) (fun r40 w40 => (some (r40, w40)))) else (if (w.1 147 (Int32.toNatClampNeg (4 * x1))) = 115 then (bI (f_X11_seeps w) (fun r42 w42 => (some (r42, w42)))) else (if (w.1 147 (Int32.toNatClampNeg (4 * x1))) = 116 then (bI (f_X11_tags (w.1 147 (Int32.toNatClampNeg ((4 * x1) + 1))) (w.1 147 (Int32.toNatClampNeg ((4 * x1) + 2))) 1 w) (fun r44 w44 => (some (r44, w44)))) else (if (w.1 147 (Int32.toNatClampNeg (4 * x1))) = 117 then (bI (f_X11_tags (w.1 147 (Int32.toNatClampNeg ((4 * x1) + 1))) (w.1 147 (Int32.toNatClampNeg ((4 * x1) + 2))) 0 w) (fun r46 w46 => (some (r46, w46)))) else (bI (f_X11_seeps w) (fun r47 w47 => (some (r47, w47))))))))))))))))))))))))) else none) else none) else none) else none)
set_option maxRecDepth 100000 in
theorem W_X11_does {g : GC} (hl : g.1.stackTraces = false) {x1 : Int32} {w : XW} : VE g cX11_does 5 RX11 (some .int) [] (rmL 6 0 0) 0 0 oI 0 0 0 [(0, .ref (g.2.1 + 141)), (1, .int x1)] [] w (f_X11_does x1 w) := by
  unfold f_X11_does
  refine v_aload_n dX11_does_0 rfl 0 rfl ?_
  refine v_getR fl_X11_25 tt_141 rfl dX11_does_1 ?_
  refine v_iconst (v := 4) dX11_does_4 (by decide) ?_
  refine v_iload_n dX11_does_5 rfl 1 rfl ?_
  refine v_imul dX11_does_6 ?_
  refine v_iconst (v := 1) dX11_does_7 (by decide) ?_
  refine v_iadd dX11_does_8 ?_
  refine v_guard (fun h1 => ?_)
  refine v_iald tt_147 h1 dX11_does_9 ?_
  refine v_istore_n dX11_does_10 rfl (Nat.le_of_ble_eq_true rfl) rfl ?_
  refine v_aload_n dX11_does_11 rfl 1 rfl ?_
  refine v_getR fl_X11_25 tt_141 rfl dX11_does_12 ?_
  refine v_iconst (v := 4) dX11_does_15 (by decide) ?_
  refine v_iload_n dX11_does_16 rfl 2 rfl ?_
  refine v_imul dX11_does_17 ?_
  refine v_iconst (v := 2) dX11_does_18 (by decide) ?_
  refine v_iadd dX11_does_19 ?_
  refine v_guard (fun h2 => ?_)
  refine v_iald tt_147 h2 dX11_does_20 ?_
  refine v_istore_n dX11_does_21 rfl (Nat.le_of_ble_eq_true rfl) rfl ?_
  refine v_aload_n dX11_does_22 rfl 2 rfl ?_
  refine v_getR fl_X11_25 tt_141 rfl dX11_does_23 ?_
  refine v_iconst (v := 4) dX11_does_26 (by decide) ?_
  refine v_iload_n dX11_does_27 rfl 3 rfl ?_
  refine v_imul dX11_does_28 ?_
  refine v_iconst (v := 3) dX11_does_29 (by decide) ?_
  refine v_iadd dX11_does_30 ?_
  refine v_guard (fun h3 => ?_)
  refine v_iald tt_147 h3 dX11_does_31 ?_
  refine v_istore dX11_does_32 (Nat.le_of_ble_eq_true rfl) rfl ?_
  refine v_aload_n dX11_does_34 rfl 3 rfl ?_
  refine v_getR fl_X11_25 tt_141 rfl dX11_does_35 ?_
  refine v_iconst (v := 4) dX11_does_38 (by decide) ?_
  refine v_iload_n dX11_does_39 rfl 4 rfl ?_
  refine v_imul dX11_does_40 ?_
  refine v_guard (fun h4 => ?_)
  refine v_iald tt_147 h4 dX11_does_41 ?_
  refine v_split (fun h5 => ?_) (fun h5 => ?_)
  · refine v_tsIn (tgt := 140) (off := (98)) 97 h5 dX11_does_42 (by decide) (by decide) (by decide) (by decide) ?_
    refine v_aload_n dX11_does_140 rfl 3 rfl ?_
    refine v_callVi (As := []) cv_X11_124 (S_X11_adds hl) tt_141 rfl rfl rfl (Nat.le_of_ble_eq_true rfl) dX11_does_141 (CR_rm (by decide) (by decide) (by decide) (by decide)) (fun r6 w6 => ?_)
    exact v_iret dX11_does_144 rfl rfl (by decide) (by decide)
  refine v_split (fun h7 => ?_) (fun h7 => ?_)
  · refine v_tsIn (tgt := 195) (off := (153)) 98 h7 dX11_does_42 (by decide) (by decide) (by decide) (by decide) ?_
    refine v_aload_n dX11_does_195 rfl 3 rfl ?_
    refine v_iload_n dX11_does_196 rfl 2 rfl ?_
    refine v_iconst (v := 1) dX11_does_197 (by decide) ?_
    refine v_callVi (As := [.int (w.1 147 (Int32.toNatClampNeg ((4 * x1) + 1))), .int 1]) cv_X11_156 (S_X11_turns hl) tt_141 rfl rfl rfl (Nat.le_of_ble_eq_true rfl) dX11_does_198 (CR_rm (by decide) (by decide) (by decide) (by decide)) (fun r8 w8 => ?_)
    exact v_iret dX11_does_201 rfl rfl (by decide) (by decide)
  refine v_split (fun h9 => ?_) (fun h9 => ?_)
  · refine v_tsIn (tgt := 189) (off := (147)) 99 h9 dX11_does_42 (by decide) (by decide) (by decide) (by decide) ?_
    refine v_aload_n dX11_does_189 rfl 3 rfl ?_
    refine v_iload_n dX11_does_190 rfl 2 rfl ?_
    refine v_callVi (As := [.int (w.1 147 (Int32.toNatClampNeg ((4 * x1) + 1)))]) cv_X11_153 (S_X11_cuts hl) tt_141 rfl rfl rfl (Nat.le_of_ble_eq_true rfl) dX11_does_191 (CR_rm (by decide) (by decide) (by decide) (by decide)) (fun r10 w10 => ?_)
    exact v_iret dX11_does_194 rfl rfl (by decide) (by decide)
  refine v_split (fun h11 => ?_) (fun h11 => ?_)
  · refine v_tsIn (tgt := 209) (off := (167)) 100 h11 dX11_does_42 (by decide) (by decide) (by decide) (by decide) ?_
    refine v_aload_n dX11_does_209 rfl 3 rfl ?_
    refine v_callVi (As := []) cv_X11_165 (S_X11_drains hl) tt_141 rfl rfl rfl (Nat.le_of_ble_eq_true rfl) dX11_does_210 (CR_rm (by decide) (by decide) (by decide) (by decide)) (fun r12 w12 => ?_)
    exact v_iret dX11_does_213 rfl rfl (by decide) (by decide)
  refine v_split (fun h13 => ?_) (fun h13 => ?_)
  · refine v_tsIn (tgt := 214) (off := (172)) 101 h13 dX11_does_42 (by decide) (by decide) (by decide) (by decide) ?_
    refine v_aload_n dX11_does_214 rfl 3 rfl ?_
    refine v_callVi (As := []) cv_X11_168 (S_X11_seeps hl) tt_141 rfl rfl rfl (Nat.le_of_ble_eq_true rfl) dX11_does_215 (CR_rm (by decide) (by decide) (by decide) (by decide)) (fun r14 w14 => ?_)
    exact v_iret dX11_does_218 rfl rfl (by decide) (by decide)
  refine v_split (fun h15 => ?_) (fun h15 => ?_)
  · refine v_tsIn (tgt := 178) (off := (136)) 102 h15 dX11_does_42 (by decide) (by decide) (by decide) (by decide) ?_
    refine v_aload_n dX11_does_178 rfl 3 rfl ?_
    refine v_iload_n dX11_does_179 rfl 2 rfl ?_
    refine v_callVi (As := [.int (w.1 147 (Int32.toNatClampNeg ((4 * x1) + 1)))]) cv_X11_140 (S_X11_folds hl) tt_141 rfl rfl rfl (Nat.le_of_ble_eq_true rfl) dX11_does_180 (CR_rm (by decide) (by decide) (by decide) (by decide)) (fun r16 w16 => ?_)
    exact v_iret dX11_does_183 rfl rfl (by decide) (by decide)
  refine v_split (fun h17 => ?_) (fun h17 => ?_)
  · refine v_tsIn (tgt := 214) (off := (172)) 103 h17 dX11_does_42 (by decide) (by decide) (by decide) (by decide) ?_
    refine v_aload_n dX11_does_214 rfl 3 rfl ?_
    refine v_callVi (As := []) cv_X11_168 (S_X11_seeps hl) tt_141 rfl rfl rfl (Nat.le_of_ble_eq_true rfl) dX11_does_215 (CR_rm (by decide) (by decide) (by decide) (by decide)) (fun r18 w18 => ?_)
    exact v_iret dX11_does_218 rfl rfl (by decide) (by decide)
  refine v_split (fun h19 => ?_) (fun h19 => ?_)
  · refine v_tsIn (tgt := 214) (off := (172)) 104 h19 dX11_does_42 (by decide) (by decide) (by decide) (by decide) ?_
    refine v_aload_n dX11_does_214 rfl 3 rfl ?_
    refine v_callVi (As := []) cv_X11_168 (S_X11_seeps hl) tt_141 rfl rfl rfl (Nat.le_of_ble_eq_true rfl) dX11_does_215 (CR_rm (by decide) (by decide) (by decide) (by decide)) (fun r20 w20 => ?_)
    exact v_iret dX11_does_218 rfl rfl (by decide) (by decide)
  refine v_split (fun h21 => ?_) (fun h21 => ?_)
  · refine v_tsIn (tgt := 153) (off := (111)) 105 h21 dX11_does_42 (by decide) (by decide) (by decide) (by decide) ?_
    refine v_aload_n dX11_does_153 rfl 3 rfl ?_
    refine v_iload_n dX11_does_154 rfl 2 rfl ?_
    refine v_iload_n dX11_does_155 rfl 1 rfl ?_
    refine v_iload dX11_does_156 0 rfl ?_
    refine v_callVi (As := [.int (w.1 147 (Int32.toNatClampNeg ((4 * x1) + 1))), .int (w.1 147 (Int32.toNatClampNeg ((4 * x1) + 2))), .int (w.1 147 (Int32.toNatClampNeg ((4 * x1) + 3)))]) cv_X11_149 (S_X11_pipes hl) tt_141 rfl rfl rfl (Nat.le_of_ble_eq_true rfl) dX11_does_158 (CR_rm (by decide) (by decide) (by decide) (by decide)) (fun r22 w22 => ?_)
    exact v_iret dX11_does_161 rfl rfl (by decide) (by decide)
  refine v_split (fun h23 => ?_) (fun h23 => ?_)
  · refine v_tsIn (tgt := 214) (off := (172)) 106 h23 dX11_does_42 (by decide) (by decide) (by decide) (by decide) ?_
    refine v_aload_n dX11_does_214 rfl 3 rfl ?_
    refine v_callVi (As := []) cv_X11_168 (S_X11_seeps hl) tt_141 rfl rfl rfl (Nat.le_of_ble_eq_true rfl) dX11_does_215 (CR_rm (by decide) (by decide) (by decide) (by decide)) (fun r24 w24 => ?_)
    exact v_iret dX11_does_218 rfl rfl (by decide) (by decide)
  refine v_split (fun h25 => ?_) (fun h25 => ?_)
  · refine v_tsIn (tgt := 214) (off := (172)) 107 h25 dX11_does_42 (by decide) (by decide) (by decide) (by decide) ?_
    refine v_aload_n dX11_does_214 rfl 3 rfl ?_
    refine v_callVi (As := []) cv_X11_168 (S_X11_seeps hl) tt_141 rfl rfl rfl (Nat.le_of_ble_eq_true rfl) dX11_does_215 (CR_rm (by decide) (by decide) (by decide) (by decide)) (fun r26 w26 => ?_)
    exact v_iret dX11_does_218 rfl rfl (by decide) (by decide)
  refine v_split (fun h27 => ?_) (fun h27 => ?_)
  · refine v_tsIn (tgt := 214) (off := (172)) 108 h27 dX11_does_42 (by decide) (by decide) (by decide) (by decide) ?_
    refine v_aload_n dX11_does_214 rfl 3 rfl ?_
    refine v_callVi (As := []) cv_X11_168 (S_X11_seeps hl) tt_141 rfl rfl rfl (Nat.le_of_ble_eq_true rfl) dX11_does_215 (CR_rm (by decide) (by decide) (by decide) (by decide)) (fun r28 w28 => ?_)
    exact v_iret dX11_does_218 rfl rfl (by decide) (by decide)
  refine v_split (fun h29 => ?_) (fun h29 => ?_)
  · refine v_tsIn (tgt := 202) (off := (160)) 109 h29 dX11_does_42 (by decide) (by decide) (by decide) (by decide) ?_
    refine v_aload_n dX11_does_202 rfl 3 rfl ?_
    refine v_iload_n dX11_does_203 rfl 2 rfl ?_
    refine v_iconst (v := 0) dX11_does_204 (by decide) ?_
    refine v_callVi (As := [.int (w.1 147 (Int32.toNatClampNeg ((4 * x1) + 1))), .int 0]) cv_X11_156 (S_X11_turns hl) tt_141 rfl rfl rfl (Nat.le_of_ble_eq_true rfl) dX11_does_205 (CR_rm (by decide) (by decide) (by decide) (by decide)) (fun r30 w30 => ?_)
    exact v_iret dX11_does_208 rfl rfl (by decide) (by decide)
  refine v_split (fun h31 => ?_) (fun h31 => ?_)
  · refine v_tsIn (tgt := 214) (off := (172)) 110 h31 dX11_does_42 (by decide) (by decide) (by decide) (by decide) ?_
    refine v_aload_n dX11_does_214 rfl 3 rfl ?_
    refine v_callVi (As := []) cv_X11_168 (S_X11_seeps hl) tt_141 rfl rfl rfl (Nat.le_of_ble_eq_true rfl) dX11_does_215 (CR_rm (by decide) (by decide) (by decide) (by decide)) (fun r32 w32 => ?_)
    exact v_iret dX11_does_218 rfl rfl (by decide) (by decide)
  refine v_split (fun h33 => ?_) (fun h33 => ?_)
  · refine v_tsIn (tgt := 184) (off := (142)) 111 h33 dX11_does_42 (by decide) (by decide) (by decide) (by decide) ?_
    refine v_aload_n dX11_does_184 rfl 3 rfl ?_
    refine v_callVi (As := []) cv_X11_143 (S_X11_opens hl) tt_141 rfl rfl rfl (Nat.le_of_ble_eq_true rfl) dX11_does_185 (CR_rm (by decide) (by decide) (by decide) (by decide)) (fun r34 w34 => ?_)
    exact v_iret dX11_does_188 rfl rfl (by decide) (by decide)
  refine v_split (fun h35 => ?_) (fun h35 => ?_)
  · refine v_tsIn (tgt := 145) (off := (103)) 112 h35 dX11_does_42 (by decide) (by decide) (by decide) (by decide) ?_
    refine v_aload_n dX11_does_145 rfl 3 rfl ?_
    refine v_iload_n dX11_does_146 rfl 2 rfl ?_
    refine v_iload dX11_does_147 0 rfl ?_
    refine v_callVi (As := [.int (w.1 147 (Int32.toNatClampNeg ((4 * x1) + 1))), .int (w.1 147 (Int32.toNatClampNeg ((4 * x1) + 3)))]) cv_X11_130 (S_X11_pours hl) tt_141 rfl rfl rfl (Nat.le_of_ble_eq_true rfl) dX11_does_149 (CR_rm (by decide) (by decide) (by decide) (by decide)) (fun r36 w36 => ?_)
    exact v_iret dX11_does_152 rfl rfl (by decide) (by decide)
  refine v_split (fun h37 => ?_) (fun h37 => ?_)
  · refine v_tsIn (tgt := 214) (off := (172)) 113 h37 dX11_does_42 (by decide) (by decide) (by decide) (by decide) ?_
    refine v_aload_n dX11_does_214 rfl 3 rfl ?_
    refine v_callVi (As := []) cv_X11_168 (S_X11_seeps hl) tt_141 rfl rfl rfl (Nat.le_of_ble_eq_true rfl) dX11_does_215 (CR_rm (by decide) (by decide) (by decide) (by decide)) (fun r38 w38 => ?_)
    exact v_iret dX11_does_218 rfl rfl (by decide) (by decide)
  refine v_split (fun h39 => ?_) (fun h39 => ?_)
  · refine v_tsIn (tgt := 214) (off := (172)) 114 h39 dX11_does_42 (by decide) (by decide) (by decide) (by decide) ?_
    refine v_aload_n dX11_does_214 rfl 3 rfl ?_
    refine v_callVi (As := []) cv_X11_168 (S_X11_seeps hl) tt_141 rfl rfl rfl (Nat.le_of_ble_eq_true rfl) dX11_does_215 (CR_rm (by decide) (by decide) (by decide) (by decide)) (fun r40 w40 => ?_)
    exact v_iret dX11_does_218 rfl rfl (by decide) (by decide)
  refine v_split (fun h41 => ?_) (fun h41 => ?_)
  · refine v_tsIn (tgt := 214) (off := (172)) 115 h41 dX11_does_42 (by decide) (by decide) (by decide) (by decide) ?_
    refine v_aload_n dX11_does_214 rfl 3 rfl ?_
    refine v_callVi (As := []) cv_X11_168 (S_X11_seeps hl) tt_141 rfl rfl rfl (Nat.le_of_ble_eq_true rfl) dX11_does_215 (CR_rm (by decide) (by decide) (by decide) (by decide)) (fun r42 w42 => ?_)
    exact v_iret dX11_does_218 rfl rfl (by decide) (by decide)
  refine v_split (fun h43 => ?_) (fun h43 => ?_)
  · refine v_tsIn (tgt := 162) (off := (120)) 116 h43 dX11_does_42 (by decide) (by decide) (by decide) (by decide) ?_
    refine v_aload_n dX11_does_162 rfl 3 rfl ?_
    refine v_iload_n dX11_does_163 rfl 2 rfl ?_
    refine v_iload_n dX11_does_164 rfl 1 rfl ?_
    refine v_iconst (v := 1) dX11_does_165 (by decide) ?_
    refine v_callVi (As := [.int (w.1 147 (Int32.toNatClampNeg ((4 * x1) + 1))), .int (w.1 147 (Int32.toNatClampNeg ((4 * x1) + 2))), .int 1]) cv_X11_133 (S_X11_tags hl) tt_141 rfl rfl rfl (Nat.le_of_ble_eq_true rfl) dX11_does_166 (CR_rm (by decide) (by decide) (by decide) (by decide)) (fun r44 w44 => ?_)
    exact v_iret dX11_does_169 rfl rfl (by decide) (by decide)
  refine v_split (fun h45 => ?_) (fun h45 => ?_)
  · refine v_tsIn (tgt := 170) (off := (128)) 117 h45 dX11_does_42 (by decide) (by decide) (by decide) (by decide) ?_
    refine v_aload_n dX11_does_170 rfl 3 rfl ?_
    refine v_iload_n dX11_does_171 rfl 2 rfl ?_
    refine v_iload_n dX11_does_172 rfl 1 rfl ?_
    refine v_iconst (v := 0) dX11_does_173 (by decide) ?_
    refine v_callVi (As := [.int (w.1 147 (Int32.toNatClampNeg ((4 * x1) + 1))), .int (w.1 147 (Int32.toNatClampNeg ((4 * x1) + 2))), .int 0]) cv_X11_133 (S_X11_tags hl) tt_141 rfl rfl rfl (Nat.le_of_ble_eq_true rfl) dX11_does_174 (CR_rm (by decide) (by decide) (by decide) (by decide)) (fun r46 w46 => ?_)
    exact v_iret dX11_does_177 rfl rfl (by decide) (by decide)
  have h5 := v_tsNe (z := 97) (by decide) h5
  have h7 := v_tsNe (z := 98) (by decide) h7
  have h9 := v_tsNe (z := 99) (by decide) h9
  have h11 := v_tsNe (z := 100) (by decide) h11
  have h13 := v_tsNe (z := 101) (by decide) h13
  have h15 := v_tsNe (z := 102) (by decide) h15
  have h17 := v_tsNe (z := 103) (by decide) h17
  have h19 := v_tsNe (z := 104) (by decide) h19
  have h21 := v_tsNe (z := 105) (by decide) h21
  have h23 := v_tsNe (z := 106) (by decide) h23
  have h25 := v_tsNe (z := 107) (by decide) h25
  have h27 := v_tsNe (z := 108) (by decide) h27
  have h29 := v_tsNe (z := 109) (by decide) h29
  have h31 := v_tsNe (z := 110) (by decide) h31
  have h33 := v_tsNe (z := 111) (by decide) h33
  have h35 := v_tsNe (z := 112) (by decide) h35
  have h37 := v_tsNe (z := 113) (by decide) h37
  have h39 := v_tsNe (z := 114) (by decide) h39
  have h41 := v_tsNe (z := 115) (by decide) h41
  have h43 := v_tsNe (z := 116) (by decide) h43
  have h45 := v_tsNe (z := 117) (by decide) h45
  refine v_tsOut (tgt := 214) dX11_does_42 (by omega) (by decide) ?_
  refine v_aload_n dX11_does_214 rfl 3 rfl ?_
  refine v_callVi (As := []) cv_X11_168 (S_X11_seeps hl) tt_141 rfl rfl rfl (Nat.le_of_ble_eq_true rfl) dX11_does_215 (CR_rm (by decide) (by decide) (by decide) (by decide)) (fun r47 w47 => ?_)
  exact v_iret dX11_does_218 rfl rfl (by decide) (by decide)
theorem S_X11_does {g : GC} (hl : g.1.stackTraces = false) {x1 : Int32} {w : XW} : ∀ q, f_X11_does x1 w = some q → MM g (.code yX11_does cX11_does 5 (some .int)) yX11_does (rmL 6 0 0) 0 0 [.ref (g.2.1 + 141), .int x1] w (oI q) := fun q hq => MM_of (own := RX11) hl (by decide) gw_1892 rfl (Nat.le_of_ble_eq_true rfl) (W_X11_does hl q hq) ⟨rfl, rfl⟩

theorem dX11_execute_0 : decode cX11_execute 0 = .ok (.aload_n 0, 1) := by decide +kernel
theorem dX11_execute_1 : decode cX11_execute 1 = .ok (.invokevirtual 121, 3) := by decide +kernel
theorem dX11_execute_4 : decode cX11_execute 4 = .ok (.aload_n 0, 1) := by decide +kernel
theorem dX11_execute_5 : decode cX11_execute 5 = .ok (.iconst 0, 1) := by decide +kernel
theorem dX11_execute_6 : decode cX11_execute 6 = .ok (.putfield 180, 3) := by decide +kernel
theorem dX11_execute_9 : decode cX11_execute 9 = .ok (.aload_n 0, 1) := by decide +kernel
theorem dX11_execute_10 : decode cX11_execute 10 = .ok (.aload_n 0, 1) := by decide +kernel
theorem dX11_execute_11 : decode cX11_execute 11 = .ok (.getfield 177, 3) := by decide +kernel
theorem dX11_execute_14 : decode cX11_execute 14 = .ok (.putfield 183, 3) := by decide +kernel
theorem dX11_execute_17 : decode cX11_execute 17 = .ok (.aload_n 0, 1) := by decide +kernel
theorem dX11_execute_18 : decode cX11_execute 18 = .ok (.iconst 0, 1) := by decide +kernel
theorem dX11_execute_19 : decode cX11_execute 19 = .ok (.putfield 177, 3) := by decide +kernel
theorem dX11_execute_22 : decode cX11_execute 22 = .ok (.aload_n 0, 1) := by decide +kernel
theorem dX11_execute_23 : decode cX11_execute 23 = .ok (.iconst 0, 1) := by decide +kernel
theorem dX11_execute_24 : decode cX11_execute 24 = .ok (.putfield 231, 3) := by decide +kernel
theorem dX11_execute_27 : decode cX11_execute 27 = .ok (.aload_n 0, 1) := by decide +kernel
theorem dX11_execute_28 : decode cX11_execute 28 = .ok (.iconst 0, 1) := by decide +kernel
theorem dX11_execute_29 : decode cX11_execute 29 = .ok (.putfield 189, 3) := by decide +kernel
theorem dX11_execute_32 : decode cX11_execute 32 = .ok (.aload_n 0, 1) := by decide +kernel
theorem dX11_execute_33 : decode cX11_execute 33 = .ok (.invokevirtual 268, 3) := by decide +kernel
theorem dX11_execute_36 : decode cX11_execute 36 = .ok (.aload_n 0, 1) := by decide +kernel
theorem dX11_execute_37 : decode cX11_execute 37 = .ok (.getfield 189, 3) := by decide +kernel
theorem dX11_execute_40 : decode cX11_execute 40 = .ok (.ifCond .ne 30, 3) := by decide +kernel
theorem dX11_execute_43 : decode cX11_execute 43 = .ok (.aload_n 0, 1) := by decide +kernel
theorem dX11_execute_44 : decode cX11_execute 44 = .ok (.iconst 0, 1) := by decide +kernel
theorem dX11_execute_45 : decode cX11_execute 45 = .ok (.invokevirtual 186, 3) := by decide +kernel
theorem dX11_execute_48 : decode cX11_execute 48 = .ok (.bipush 59, 2) := by decide +kernel
theorem dX11_execute_50 : decode cX11_execute 50 = .ok (.if_icmp .ne 20, 3) := by decide +kernel
theorem dX11_execute_53 : decode cX11_execute 53 = .ok (.aload_n 0, 1) := by decide +kernel
theorem dX11_execute_54 : decode cX11_execute 54 = .ok (.dup, 1) := by decide +kernel
theorem dX11_execute_55 : decode cX11_execute 55 = .ok (.getfield 180, 3) := by decide +kernel
theorem dX11_execute_58 : decode cX11_execute 58 = .ok (.iconst 1, 1) := by decide +kernel
theorem dX11_execute_59 : decode cX11_execute 59 = .ok (.iadd, 1) := by decide +kernel
theorem dX11_execute_60 : decode cX11_execute 60 = .ok (.putfield 180, 3) := by decide +kernel
theorem dX11_execute_63 : decode cX11_execute 63 = .ok (.aload_n 0, 1) := by decide +kernel
theorem dX11_execute_64 : decode cX11_execute 64 = .ok (.invokevirtual 268, 3) := by decide +kernel
theorem dX11_execute_67 : decode cX11_execute 67 = .ok (.goto (-31), 3) := by decide +kernel
theorem dX11_execute_70 : decode cX11_execute 70 = .ok (.aload_n 0, 1) := by decide +kernel
theorem dX11_execute_71 : decode cX11_execute 71 = .ok (.getfield 189, 3) := by decide +kernel
theorem dX11_execute_74 : decode cX11_execute 74 = .ok (.ifCond .ne 14, 3) := by decide +kernel
theorem dX11_execute_77 : decode cX11_execute 77 = .ok (.aload_n 0, 1) := by decide +kernel
theorem dX11_execute_78 : decode cX11_execute 78 = .ok (.getfield 180, 3) := by decide +kernel
theorem dX11_execute_81 : decode cX11_execute 81 = .ok (.aload_n 0, 1) := by decide +kernel
theorem dX11_execute_82 : decode cX11_execute 82 = .ok (.getfield 183, 3) := by decide +kernel
theorem dX11_execute_85 : decode cX11_execute 85 = .ok (.if_icmp .ge 17, 3) := by decide +kernel
theorem dX11_execute_88 : decode cX11_execute 88 = .ok (.aload_n 0, 1) := by decide +kernel
theorem dX11_execute_89 : decode cX11_execute 89 = .ok (.aload_n 0, 1) := by decide +kernel
theorem dX11_execute_90 : decode cX11_execute 90 = .ok (.getfield 180, 3) := by decide +kernel
theorem dX11_execute_93 : decode cX11_execute 93 = .ok (.putfield 34, 3) := by decide +kernel
theorem dX11_execute_96 : decode cX11_execute 96 = .ok (.aload_n 0, 1) := by decide +kernel
theorem dX11_execute_97 : decode cX11_execute 97 = .ok (.iconst 1, 1) := by decide +kernel
theorem dX11_execute_98 : decode cX11_execute 98 = .ok (.invokevirtual 60, 3) := by decide +kernel
theorem dX11_execute_101 : decode cX11_execute 101 = .ok (.ireturn, 1) := by decide +kernel
theorem dX11_execute_102 : decode cX11_execute 102 = .ok (.iconst 0, 1) := by decide +kernel
theorem dX11_execute_103 : decode cX11_execute 103 = .ok (.istore_n 1, 1) := by decide +kernel
theorem dX11_execute_104 : decode cX11_execute 104 = .ok (.iload_n 1, 1) := by decide +kernel
theorem dX11_execute_105 : decode cX11_execute 105 = .ok (.aload_n 0, 1) := by decide +kernel
theorem dX11_execute_106 : decode cX11_execute 106 = .ok (.getfield 231, 3) := by decide +kernel
theorem dX11_execute_109 : decode cX11_execute 109 = .ok (.if_icmp .ge 77, 3) := by decide +kernel
theorem dX11_execute_112 : decode cX11_execute 112 = .ok (.aload_n 0, 1) := by decide +kernel
theorem dX11_execute_113 : decode cX11_execute 113 = .ok (.iload_n 1, 1) := by decide +kernel
theorem dX11_execute_114 : decode cX11_execute 114 = .ok (.invokevirtual 271, 3) := by decide +kernel
theorem dX11_execute_117 : decode cX11_execute 117 = .ok (.istore_n 2, 1) := by decide +kernel
theorem dX11_execute_118 : decode cX11_execute 118 = .ok (.iload_n 2, 1) := by decide +kernel
theorem dX11_execute_119 : decode cX11_execute 119 = .ok (.ifCond .ne 6, 3) := by decide +kernel
theorem dX11_execute_122 : decode cX11_execute 122 = .ok (.goto 58, 3) := by decide +kernel
theorem dX11_execute_125 : decode cX11_execute 125 = .ok (.iconst 0, 1) := by decide +kernel
theorem dX11_execute_126 : decode cX11_execute 126 = .ok (.istore_n 3, 1) := by decide +kernel
theorem dX11_execute_127 : decode cX11_execute 127 = .ok (.iload_n 3, 1) := by decide +kernel
theorem dX11_execute_128 : decode cX11_execute 128 = .ok (.bipush 66, 2) := by decide +kernel
theorem dX11_execute_130 : decode cX11_execute 130 = .ok (.if_icmp .ge 21, 3) := by decide +kernel
theorem dX11_execute_133 : decode cX11_execute 133 = .ok (.aload_n 0, 1) := by decide +kernel
theorem dX11_execute_134 : decode cX11_execute 134 = .ok (.getfield 7, 3) := by decide +kernel
theorem dX11_execute_137 : decode cX11_execute 137 = .ok (.iload_n 3, 1) := by decide +kernel
theorem dX11_execute_138 : decode cX11_execute 138 = .ok (.aload_n 0, 1) := by decide +kernel
theorem dX11_execute_139 : decode cX11_execute 139 = .ok (.getfield 13, 3) := by decide +kernel
theorem dX11_execute_142 : decode cX11_execute 142 = .ok (.iload_n 3, 1) := by decide +kernel
theorem dX11_execute_143 : decode cX11_execute 143 = .ok (.iaload, 1) := by decide +kernel
theorem dX11_execute_144 : decode cX11_execute 144 = .ok (.iastore, 1) := by decide +kernel
theorem dX11_execute_145 : decode cX11_execute 145 = .ok (.iinc 3 1, 3) := by decide +kernel
theorem dX11_execute_148 : decode cX11_execute 148 = .ok (.goto (-21), 3) := by decide +kernel
theorem dX11_execute_151 : decode cX11_execute 151 = .ok (.aload_n 0, 1) := by decide +kernel
theorem dX11_execute_152 : decode cX11_execute 152 = .ok (.bipush 8, 2) := by decide +kernel
theorem dX11_execute_154 : decode cX11_execute 154 = .ok (.iload_n 1, 1) := by decide +kernel
theorem dX11_execute_155 : decode cX11_execute 155 = .ok (.invokevirtual 92, 3) := by decide +kernel
theorem dX11_execute_158 : decode cX11_execute 158 = .ok (.istore_n 3, 1) := by decide +kernel
theorem dX11_execute_159 : decode cX11_execute 159 = .ok (.aload_n 0, 1) := by decide +kernel
theorem dX11_execute_160 : decode cX11_execute 160 = .ok (.iload_n 2, 1) := by decide +kernel
theorem dX11_execute_161 : decode cX11_execute 161 = .ok (.ifCond .ge 8, 3) := by decide +kernel
theorem dX11_execute_164 : decode cX11_execute 164 = .ok (.iload_n 2, 1) := by decide +kernel
theorem dX11_execute_165 : decode cX11_execute 165 = .ok (.ineg, 1) := by decide +kernel
theorem dX11_execute_166 : decode cX11_execute 166 = .ok (.goto 5, 3) := by decide +kernel
theorem dX11_execute_169 : decode cX11_execute 169 = .ok (.bipush 9, 2) := by decide +kernel
theorem dX11_execute_171 : decode cX11_execute 171 = .ok (.putfield 53, 3) := by decide +kernel
theorem dX11_execute_174 : decode cX11_execute 174 = .ok (.aload_n 0, 1) := by decide +kernel
theorem dX11_execute_175 : decode cX11_execute 175 = .ok (.iconst 2, 1) := by decide +kernel
theorem dX11_execute_176 : decode cX11_execute 176 = .ok (.invokevirtual 60, 3) := by decide +kernel
theorem dX11_execute_179 : decode cX11_execute 179 = .ok (.ireturn, 1) := by decide +kernel
theorem dX11_execute_180 : decode cX11_execute 180 = .ok (.iinc 1 1, 3) := by decide +kernel
theorem dX11_execute_183 : decode cX11_execute 183 = .ok (.goto (-79), 3) := by decide +kernel
theorem dX11_execute_186 : decode cX11_execute 186 = .ok (.aload_n 0, 1) := by decide +kernel
theorem dX11_execute_187 : decode cX11_execute 187 = .ok (.aload_n 0, 1) := by decide +kernel
theorem dX11_execute_188 : decode cX11_execute 188 = .ok (.getfield 231, 3) := by decide +kernel
theorem dX11_execute_191 : decode cX11_execute 191 = .ok (.invokevirtual 56, 3) := by decide +kernel
theorem dX11_execute_194 : decode cX11_execute 194 = .ok (.ireturn, 1) := by decide +kernel
def f_X11_execute_127 (y1 : Int32) (y2 : Int32) : Nat → Int32 → XW → Option (Int32 × XW)
  | 0, _, _ => none
  | n + 1, z3, w => (if 66 ≤ z3 then (bI (f_X11_denied 8 y1 w) (fun r11 w11 => (if 0 ≤ y2 then (bI (f_X11_fails 2 (wset w11 141 17 9)) (fun r12 w12 => (some (r12, w12)))) else (bI (f_X11_fails 2 (wset w11 141 17 (-y2))) (fun r13 w13 => (some (r13, w13))))))) else (if inB z3 66 then (if inB z3 66 then (f_X11_execute_127 y1 y2 n (z3 + 1) (wset w 142 (Int32.toNatClampNeg z3) (w.1 143 (Int32.toNatClampNeg z3)))) else none) else none))
set_option maxRecDepth 100000 in
theorem S_X11_execute_127 {g : GC} (hl : g.1.stackTraces = false) {y1 : Int32} {y2 : Int32} : ∀ (n : Nat) (z3 : Int32) (w : XW), VE g cX11_execute 4 RX11 (some .int) [] (rmL 9 0 0) 0 0 oI 0 0 127 [(0, .ref (g.2.1 + 141)), (1, .int y1), (2, .int y2), (3, .int z3)] [] w (f_X11_execute_127 y1 y2 n z3 w) := by
  intro n
  induction n with
  | zero => intro z3 w; exact v_none
  | succ n ih =>
    intro z3 w
    rw [f_X11_execute_127]
    refine v_iload_n dX11_execute_127 rfl 3 rfl ?_
    refine v_bipush (v := 66) dX11_execute_128 (by decide) ?_
    refine v_icmp_ge (tgt := 151) dX11_execute_130 (by decide) ?_ ?_
    · refine v_aload_n dX11_execute_151 rfl 0 rfl ?_
      refine v_bipush (v := 8) dX11_execute_152 (by decide) ?_
      refine v_iload_n dX11_execute_154 rfl 1 rfl ?_
      refine v_callVi (As := [.int 8, .int y1]) cv_X11_92 (S_X11_denied hl) tt_141 rfl rfl rfl (Nat.le_of_ble_eq_true rfl) dX11_execute_155 (CR_rm (by decide) (by decide) (by decide) (by decide)) (fun r11 w11 => ?_)
      refine v_istore_n dX11_execute_158 rfl (Nat.le_of_ble_eq_true rfl) rfl ?_
      refine v_aload_n dX11_execute_159 rfl 1 rfl ?_
      refine v_iload_n dX11_execute_160 rfl 3 rfl ?_
      refine v_if_ge (tgt := 169) dX11_execute_161 (by decide) ?_ ?_
      · refine v_bipush (v := 9) dX11_execute_169 (by decide) ?_
        refine v_putI fl_X11_53 tt_141 rfl (ty0 := .int) rfl rfl rfl dX11_execute_171 ?_
        refine v_aload_n dX11_execute_174 rfl 1 rfl ?_
        refine v_iconst (v := 2) dX11_execute_175 (by decide) ?_
        refine v_callVi (As := [.int 2]) cv_X11_60 (S_X11_fails hl) tt_141 rfl rfl rfl (Nat.le_of_ble_eq_true rfl) dX11_execute_176 (CR_rm (by decide) (by decide) (by decide) (by decide)) (fun r12 w12 => ?_)
        exact v_iret dX11_execute_179 rfl rfl (by decide) (by decide)
      · refine v_iload_n dX11_execute_164 rfl 3 rfl ?_
        refine v_ineg dX11_execute_165 ?_
        refine v_goto (tgt := 171) dX11_execute_166 (by decide) ?_
        refine v_putI fl_X11_53 tt_141 rfl (ty0 := .int) rfl rfl rfl dX11_execute_171 ?_
        refine v_aload_n dX11_execute_174 rfl 1 rfl ?_
        refine v_iconst (v := 2) dX11_execute_175 (by decide) ?_
        refine v_callVi (As := [.int 2]) cv_X11_60 (S_X11_fails hl) tt_141 rfl rfl rfl (Nat.le_of_ble_eq_true rfl) dX11_execute_176 (CR_rm (by decide) (by decide) (by decide) (by decide)) (fun r13 w13 => ?_)
        exact v_iret dX11_execute_179 rfl rfl (by decide) (by decide)
    · refine v_aload_n dX11_execute_133 rfl 0 rfl ?_
      refine v_getR fl_X11_7 tt_141 rfl dX11_execute_134 ?_
      refine v_iload_n dX11_execute_137 rfl 3 rfl ?_
      refine v_aload_n dX11_execute_138 rfl 0 rfl ?_
      refine v_getR fl_X11_13 tt_141 rfl dX11_execute_139 ?_
      refine v_iload_n dX11_execute_142 rfl 3 rfl ?_
      refine v_guard (fun h14 => ?_)
      refine v_iald tt_143 h14 dX11_execute_143 ?_
      refine v_guard (fun h15 => ?_)
      refine v_iast tt_142 h15 dX11_execute_144 ?_
      refine v_iinc (v := (z3 + 1)) dX11_execute_145 (q := 3) rfl rfl (Nat.le_of_ble_eq_true rfl) rfl ?_
      refine v_goto (tgt := 127) dX11_execute_148 (by decide) ?_
      refine v_sub [1, 2, 3, 0] rfl ?_
      exact ih _ _
def f_X11_execute_104 : Nat → Int32 → XW → Option (Int32 × XW)
  | 0, _, _ => none
  | n + 1, z1, w => (if (w.1 141 20) ≤ z1 then (bI (f_X11_changed (w.1 141 20) w) (fun r9 w9 => (some (r9, w9)))) else (bI (f_X11_does z1 w) (fun r10 w10 => (if r10 = 0 then (f_X11_execute_104 n (z1 + 1) w10) else (f_X11_execute_127 z1 r10 1000 0 w10)))))
set_option maxRecDepth 100000 in
theorem S_X11_execute_104 {g : GC} (hl : g.1.stackTraces = false) : ∀ (n : Nat) (z1 : Int32) (w : XW), VE g cX11_execute 4 RX11 (some .int) [] (rmL 9 0 0) 0 0 oI 0 0 104 [(0, .ref (g.2.1 + 141)), (1, .int z1)] [] w (f_X11_execute_104  n z1 w) := by
  intro n
  induction n with
  | zero => intro z1 w; exact v_none
  | succ n ih =>
    intro z1 w
    rw [f_X11_execute_104]
    refine v_iload_n dX11_execute_104 rfl 1 rfl ?_
    refine v_aload_n dX11_execute_105 rfl 0 rfl ?_
    refine v_getI fl_X11_231 tt_141 rfl dX11_execute_106 ?_
    refine v_icmp_ge (tgt := 186) dX11_execute_109 (by decide) ?_ ?_
    · refine v_aload_n dX11_execute_186 rfl 0 rfl ?_
      refine v_aload_n dX11_execute_187 rfl 0 rfl ?_
      refine v_getI fl_X11_231 tt_141 rfl dX11_execute_188 ?_
      refine v_callVi (As := [.int (w.1 141 20)]) cv_X11_56 (S_X11_changed hl) tt_141 rfl rfl rfl (Nat.le_of_ble_eq_true rfl) dX11_execute_191 (CR_rm (by decide) (by decide) (by decide) (by decide)) (fun r9 w9 => ?_)
      exact v_iret dX11_execute_194 rfl rfl (by decide) (by decide)
    · refine v_aload_n dX11_execute_112 rfl 0 rfl ?_
      refine v_iload_n dX11_execute_113 rfl 1 rfl ?_
      refine v_callVi (As := [.int z1]) cv_X11_271 (S_X11_does hl) tt_141 rfl rfl rfl (Nat.le_of_ble_eq_true rfl) dX11_execute_114 (CR_rm (by decide) (by decide) (by decide) (by decide)) (fun r10 w10 => ?_)
      refine v_istore_n dX11_execute_117 rfl (Nat.le_of_ble_eq_true rfl) rfl ?_
      refine v_iload_n dX11_execute_118 rfl 0 rfl ?_
      refine v_if_ne (tgt := 125) dX11_execute_119 (by decide) ?_ ?_
      · refine v_iconst (v := 0) dX11_execute_125 (by decide) ?_
        refine v_istore_n dX11_execute_126 rfl (Nat.le_of_ble_eq_true rfl) rfl ?_
        refine v_sub [2, 3, 1, 0] rfl ?_
        exact S_X11_execute_127 hl  _ _ _
      · refine v_goto (tgt := 180) dX11_execute_122 (by decide) ?_
        refine v_iinc (v := (z1 + 1)) dX11_execute_180 (q := 2) rfl rfl (Nat.le_of_ble_eq_true rfl) rfl ?_
        refine v_goto (tgt := 104) dX11_execute_183 (by decide) ?_
        refine v_sub [2, 0] rfl ?_
        exact ih _ _
def f_X11_execute_36 : Nat → XW → Option (Int32 × XW)
  | 0, _ => none
  | n + 1, w => (if (w.1 141 22) = 0 then (bI (f_X11_here 0 w) (fun r5 w5 => (if r5 = 59 then (bV (f_X11_readsOne (wset w5 141 18 ((w5.1 141 18) + 1))) (fun w8 => (f_X11_execute_36 n  w8))) else (if (w5.1 141 22) = 0 then (if (w5.1 141 19) ≤ (w5.1 141 18) then (f_X11_execute_104 1000 0 w5) else (bI (f_X11_fails 1 (wset w5 141 13 (w5.1 141 18))) (fun r7 w7 => (some (r7, w7))))) else (bI (f_X11_fails 1 (wset w5 141 13 (w5.1 141 18))) (fun r6 w6 => (some (r6, w6)))))))) else (if (w.1 141 22) = 0 then (if (w.1 141 19) ≤ (w.1 141 18) then (f_X11_execute_104 1000 0 w) else (bI (f_X11_fails 1 (wset w 141 13 (w.1 141 18))) (fun r4 w4 => (some (r4, w4))))) else (bI (f_X11_fails 1 (wset w 141 13 (w.1 141 18))) (fun r3 w3 => (some (r3, w3))))))
set_option maxRecDepth 100000 in
theorem S_X11_execute_36 {g : GC} (hl : g.1.stackTraces = false) : ∀ (n : Nat)  (w : XW), VE g cX11_execute 4 RX11 (some .int) [] (rmL 9 0 0) 0 0 oI 0 0 36 [(0, .ref (g.2.1 + 141))] [] w (f_X11_execute_36  n  w) := by
  intro n
  induction n with
  | zero => intro  w; exact v_none
  | succ n ih =>
    intro  w
    rw [f_X11_execute_36]
    refine v_aload_n dX11_execute_36 rfl 0 rfl ?_
    refine v_getI fl_X11_189 tt_141 rfl dX11_execute_37 ?_
    refine v_if_ne (tgt := 70) dX11_execute_40 (by decide) ?_ ?_
    · refine v_aload_n dX11_execute_70 rfl 0 rfl ?_
      refine v_getI fl_X11_189 tt_141 rfl dX11_execute_71 ?_
      refine v_if_ne (tgt := 88) dX11_execute_74 (by decide) ?_ ?_
      · refine v_aload_n dX11_execute_88 rfl 0 rfl ?_
        refine v_aload_n dX11_execute_89 rfl 0 rfl ?_
        refine v_getI fl_X11_180 tt_141 rfl dX11_execute_90 ?_
        refine v_putI fl_X11_34 tt_141 rfl (ty0 := .int) rfl rfl rfl dX11_execute_93 ?_
        refine v_aload_n dX11_execute_96 rfl 0 rfl ?_
        refine v_iconst (v := 1) dX11_execute_97 (by decide) ?_
        refine v_callVi (As := [.int 1]) cv_X11_60 (S_X11_fails hl) tt_141 rfl rfl rfl (Nat.le_of_ble_eq_true rfl) dX11_execute_98 (CR_rm (by decide) (by decide) (by decide) (by decide)) (fun r3 w3 => ?_)
        exact v_iret dX11_execute_101 rfl rfl (by decide) (by decide)
      · refine v_aload_n dX11_execute_77 rfl 0 rfl ?_
        refine v_getI fl_X11_180 tt_141 rfl dX11_execute_78 ?_
        refine v_aload_n dX11_execute_81 rfl 0 rfl ?_
        refine v_getI fl_X11_183 tt_141 rfl dX11_execute_82 ?_
        refine v_icmp_ge (tgt := 102) dX11_execute_85 (by decide) ?_ ?_
        · refine v_iconst (v := 0) dX11_execute_102 (by decide) ?_
          refine v_istore_n dX11_execute_103 rfl (Nat.le_of_ble_eq_true rfl) rfl ?_
          refine v_sub [1, 0] rfl ?_
          exact S_X11_execute_104 hl  _ _ _
        · refine v_aload_n dX11_execute_88 rfl 0 rfl ?_
          refine v_aload_n dX11_execute_89 rfl 0 rfl ?_
          refine v_getI fl_X11_180 tt_141 rfl dX11_execute_90 ?_
          refine v_putI fl_X11_34 tt_141 rfl (ty0 := .int) rfl rfl rfl dX11_execute_93 ?_
          refine v_aload_n dX11_execute_96 rfl 0 rfl ?_
          refine v_iconst (v := 1) dX11_execute_97 (by decide) ?_
          refine v_callVi (As := [.int 1]) cv_X11_60 (S_X11_fails hl) tt_141 rfl rfl rfl (Nat.le_of_ble_eq_true rfl) dX11_execute_98 (CR_rm (by decide) (by decide) (by decide) (by decide)) (fun r4 w4 => ?_)
          exact v_iret dX11_execute_101 rfl rfl (by decide) (by decide)
    · refine v_aload_n dX11_execute_43 rfl 0 rfl ?_
      refine v_iconst (v := 0) dX11_execute_44 (by decide) ?_
      refine v_callVi (As := [.int 0]) cv_X11_186 (S_X11_here hl) tt_141 rfl rfl rfl (Nat.le_of_ble_eq_true rfl) dX11_execute_45 (CR_rm (by decide) (by decide) (by decide) (by decide)) (fun r5 w5 => ?_)
      refine v_bipush (v := 59) dX11_execute_48 (by decide) ?_
      refine v_icmp_ne (tgt := 70) dX11_execute_50 (by decide) ?_ ?_
      · refine v_aload_n dX11_execute_70 rfl 0 rfl ?_
        refine v_getI fl_X11_189 tt_141 rfl dX11_execute_71 ?_
        refine v_if_ne (tgt := 88) dX11_execute_74 (by decide) ?_ ?_
        · refine v_aload_n dX11_execute_88 rfl 0 rfl ?_
          refine v_aload_n dX11_execute_89 rfl 0 rfl ?_
          refine v_getI fl_X11_180 tt_141 rfl dX11_execute_90 ?_
          refine v_putI fl_X11_34 tt_141 rfl (ty0 := .int) rfl rfl rfl dX11_execute_93 ?_
          refine v_aload_n dX11_execute_96 rfl 0 rfl ?_
          refine v_iconst (v := 1) dX11_execute_97 (by decide) ?_
          refine v_callVi (As := [.int 1]) cv_X11_60 (S_X11_fails hl) tt_141 rfl rfl rfl (Nat.le_of_ble_eq_true rfl) dX11_execute_98 (CR_rm (by decide) (by decide) (by decide) (by decide)) (fun r6 w6 => ?_)
          exact v_iret dX11_execute_101 rfl rfl (by decide) (by decide)
        · refine v_aload_n dX11_execute_77 rfl 0 rfl ?_
          refine v_getI fl_X11_180 tt_141 rfl dX11_execute_78 ?_
          refine v_aload_n dX11_execute_81 rfl 0 rfl ?_
          refine v_getI fl_X11_183 tt_141 rfl dX11_execute_82 ?_
          refine v_icmp_ge (tgt := 102) dX11_execute_85 (by decide) ?_ ?_
          · refine v_iconst (v := 0) dX11_execute_102 (by decide) ?_
            refine v_istore_n dX11_execute_103 rfl (Nat.le_of_ble_eq_true rfl) rfl ?_
            refine v_sub [1, 0] rfl ?_
            exact S_X11_execute_104 hl  _ _ _
          · refine v_aload_n dX11_execute_88 rfl 0 rfl ?_
            refine v_aload_n dX11_execute_89 rfl 0 rfl ?_
            refine v_getI fl_X11_180 tt_141 rfl dX11_execute_90 ?_
            refine v_putI fl_X11_34 tt_141 rfl (ty0 := .int) rfl rfl rfl dX11_execute_93 ?_
            refine v_aload_n dX11_execute_96 rfl 0 rfl ?_
            refine v_iconst (v := 1) dX11_execute_97 (by decide) ?_
            refine v_callVi (As := [.int 1]) cv_X11_60 (S_X11_fails hl) tt_141 rfl rfl rfl (Nat.le_of_ble_eq_true rfl) dX11_execute_98 (CR_rm (by decide) (by decide) (by decide) (by decide)) (fun r7 w7 => ?_)
            exact v_iret dX11_execute_101 rfl rfl (by decide) (by decide)
      · refine v_aload_n dX11_execute_53 rfl 0 rfl ?_
        refine v_dup dX11_execute_54 rfl ?_
        refine v_getI fl_X11_180 tt_141 rfl dX11_execute_55 ?_
        refine v_iconst (v := 1) dX11_execute_58 (by decide) ?_
        refine v_iadd dX11_execute_59 ?_
        refine v_putI fl_X11_180 tt_141 rfl (ty0 := .int) rfl rfl rfl dX11_execute_60 ?_
        refine v_aload_n dX11_execute_63 rfl 0 rfl ?_
        refine v_callVv (As := []) cv_X11_268 (S_X11_readsOne hl) tt_141 rfl rfl rfl (Nat.le_of_ble_eq_true rfl) dX11_execute_64 (CR_rm (by decide) (by decide) (by decide) (by decide)) (fun w8 => ?_)
        refine v_goto (tgt := 36) dX11_execute_67 (by decide) ?_
        refine v_sub [0] rfl ?_
        exact ih _
def f_X11_execute (w : XW) : Option (Int32 × XW) := (bV (f_X11_remembers w) (fun w1 => (bV (f_X11_readsOne (wset (wset (wset (wset (wset w1 141 18 0) 141 19 ((wset w1 141 18 0).1 141 11)) 141 11 0) 141 20 0) 141 22 0)) (fun w2 => (f_X11_execute_36 1000  w2)))))
set_option maxRecDepth 100000 in
theorem W_X11_execute {g : GC} (hl : g.1.stackTraces = false) {w : XW} : VE g cX11_execute 4 RX11 (some .int) [] (rmL 9 0 0) 0 0 oI 0 0 0 [(0, .ref (g.2.1 + 141))] [] w (f_X11_execute  w) := by
  unfold f_X11_execute
  refine v_aload_n dX11_execute_0 rfl 0 rfl ?_
  refine v_callVv (As := []) cv_X11_121 (S_X11_remembers hl) tt_141 rfl rfl rfl (Nat.le_of_ble_eq_true rfl) dX11_execute_1 (CR_rm (by decide) (by decide) (by decide) (by decide)) (fun w1 => ?_)
  refine v_aload_n dX11_execute_4 rfl 0 rfl ?_
  refine v_iconst (v := 0) dX11_execute_5 (by decide) ?_
  refine v_putI fl_X11_180 tt_141 rfl (ty0 := .int) rfl rfl rfl dX11_execute_6 ?_
  refine v_aload_n dX11_execute_9 rfl 0 rfl ?_
  refine v_aload_n dX11_execute_10 rfl 0 rfl ?_
  refine v_getI fl_X11_177 tt_141 rfl dX11_execute_11 ?_
  refine v_putI fl_X11_183 tt_141 rfl (ty0 := .int) rfl rfl rfl dX11_execute_14 ?_
  refine v_aload_n dX11_execute_17 rfl 0 rfl ?_
  refine v_iconst (v := 0) dX11_execute_18 (by decide) ?_
  refine v_putI fl_X11_177 tt_141 rfl (ty0 := .int) rfl rfl rfl dX11_execute_19 ?_
  refine v_aload_n dX11_execute_22 rfl 0 rfl ?_
  refine v_iconst (v := 0) dX11_execute_23 (by decide) ?_
  refine v_putI fl_X11_231 tt_141 rfl (ty0 := .int) rfl rfl rfl dX11_execute_24 ?_
  refine v_aload_n dX11_execute_27 rfl 0 rfl ?_
  refine v_iconst (v := 0) dX11_execute_28 (by decide) ?_
  refine v_putI fl_X11_189 tt_141 rfl (ty0 := .boolean) rfl rfl rfl dX11_execute_29 ?_
  refine v_aload_n dX11_execute_32 rfl 0 rfl ?_
  refine v_callVv (As := []) cv_X11_268 (S_X11_readsOne hl) tt_141 rfl rfl rfl (Nat.le_of_ble_eq_true rfl) dX11_execute_33 (CR_rm (by decide) (by decide) (by decide) (by decide)) (fun w2 => ?_)
  refine v_sub [0] rfl ?_
  exact S_X11_execute_36 hl  _ _
theorem S_X11_execute {g : GC} (hl : g.1.stackTraces = false) {w : XW} : ∀ q, f_X11_execute  w = some q → MM g (.code yX11_execute cX11_execute 4 (some .int)) yX11_execute (rmL 9 0 0) 0 0 [.ref (g.2.1 + 141)] w (oI q) := fun q hq => MM_of (own := RX11) hl (by decide) gw_1856 rfl (Nat.le_of_ble_eq_true rfl) (W_X11_execute hl q hq) ⟨rfl, rfl⟩

theorem dX11_faultPosition_0 : decode cX11_faultPosition 0 = .ok (.aload_n 0, 1) := by decide +kernel
theorem dX11_faultPosition_1 : decode cX11_faultPosition 1 = .ok (.iconst 0, 1) := by decide +kernel
theorem dX11_faultPosition_2 : decode cX11_faultPosition 2 = .ok (.putfield 38, 3) := by decide +kernel
theorem dX11_faultPosition_5 : decode cX11_faultPosition 5 = .ok (.aload_n 0, 1) := by decide +kernel
theorem dX11_faultPosition_6 : decode cX11_faultPosition 6 = .ok (.getfield 34, 3) := by decide +kernel
theorem dX11_faultPosition_9 : decode cX11_faultPosition 9 = .ok (.iconst (-1), 1) := by decide +kernel
theorem dX11_faultPosition_10 : decode cX11_faultPosition 10 = .ok (.if_icmp .ne 11, 3) := by decide +kernel
theorem dX11_faultPosition_13 : decode cX11_faultPosition 13 = .ok (.aload_n 0, 1) := by decide +kernel
theorem dX11_faultPosition_14 : decode cX11_faultPosition 14 = .ok (.iconst 1, 1) := by decide +kernel
theorem dX11_faultPosition_15 : decode cX11_faultPosition 15 = .ok (.invokevirtual 60, 3) := by decide +kernel
theorem dX11_faultPosition_18 : decode cX11_faultPosition 18 = .ok (.goto 7, 3) := by decide +kernel
theorem dX11_faultPosition_21 : decode cX11_faultPosition 21 = .ok (.aload_n 0, 1) := by decide +kernel
theorem dX11_faultPosition_22 : decode cX11_faultPosition 22 = .ok (.getfield 34, 3) := by decide +kernel
theorem dX11_faultPosition_25 : decode cX11_faultPosition 25 = .ok (.ireturn, 1) := by decide +kernel
def f_X11_faultPosition (w : XW) : Option (Int32 × XW) := (if ((wset w 141 0 0).1 141 13) = (-1) then (bI (f_X11_fails 1 (wset w 141 0 0)) (fun r1 w1 => (some (r1, w1)))) else (some (((wset w 141 0 0).1 141 13), (wset w 141 0 0))))
set_option maxRecDepth 100000 in
theorem W_X11_faultPosition {g : GC} (hl : g.1.stackTraces = false) {w : XW} : VE g cX11_faultPosition 1 RX11 (some .int) [] (rmL 4 0 0) 0 0 oI 0 0 0 [(0, .ref (g.2.1 + 141))] [] w (f_X11_faultPosition  w) := by
  unfold f_X11_faultPosition
  refine v_aload_n dX11_faultPosition_0 rfl 0 rfl ?_
  refine v_iconst (v := 0) dX11_faultPosition_1 (by decide) ?_
  refine v_putI fl_X11_38 tt_141 rfl (ty0 := .int) rfl rfl rfl dX11_faultPosition_2 ?_
  refine v_aload_n dX11_faultPosition_5 rfl 0 rfl ?_
  refine v_getI fl_X11_34 tt_141 rfl dX11_faultPosition_6 ?_
  refine v_iconst (v := (-1)) dX11_faultPosition_9 (by decide) ?_
  refine v_icmp_ne (tgt := 21) dX11_faultPosition_10 (by decide) ?_ ?_
  · refine v_aload_n dX11_faultPosition_21 rfl 0 rfl ?_
    refine v_getI fl_X11_34 tt_141 rfl dX11_faultPosition_22 ?_
    exact v_iret dX11_faultPosition_25 rfl rfl (by decide) (by decide)
  · refine v_aload_n dX11_faultPosition_13 rfl 0 rfl ?_
    refine v_iconst (v := 1) dX11_faultPosition_14 (by decide) ?_
    refine v_callVi (As := [.int 1]) cv_X11_60 (S_X11_fails hl) tt_141 rfl rfl rfl (Nat.le_of_ble_eq_true rfl) dX11_faultPosition_15 (CR_rm (by decide) (by decide) (by decide) (by decide)) (fun r1 w1 => ?_)
    refine v_goto (tgt := 25) dX11_faultPosition_18 (by decide) ?_
    exact v_iret dX11_faultPosition_25 rfl rfl (by decide) (by decide)
theorem S_X11_faultPosition {g : GC} (hl : g.1.stackTraces = false) {w : XW} : ∀ q, f_X11_faultPosition  w = some q → MM g (.code yX11_faultPosition cX11_faultPosition 1 (some .int)) yX11_faultPosition (rmL 4 0 0) 0 0 [.ref (g.2.1 + 141)] w (oI q) := fun q hq => MM_of (own := RX11) hl (by decide) gw_1896 rfl (Nat.le_of_ble_eq_true rfl) (W_X11_faultPosition hl q hq) ⟨rfl, rfl⟩

theorem dX11_writes_0 : decode cX11_writes 0 = .ok (.aload_n 0, 1) := by decide +kernel
theorem dX11_writes_1 : decode cX11_writes 1 = .ok (.getfield 28, 3) := by decide +kernel
theorem dX11_writes_4 : decode cX11_writes 4 = .ok (.aload_n 0, 1) := by decide +kernel
theorem dX11_writes_5 : decode cX11_writes 5 = .ok (.getfield 274, 3) := by decide +kernel
theorem dX11_writes_8 : decode cX11_writes 8 = .ok (.iload_n 1, 1) := by decide +kernel
theorem dX11_writes_9 : decode cX11_writes 9 = .ok (.iastore, 1) := by decide +kernel
theorem dX11_writes_10 : decode cX11_writes 10 = .ok (.aload_n 0, 1) := by decide +kernel
theorem dX11_writes_11 : decode cX11_writes 11 = .ok (.dup, 1) := by decide +kernel
theorem dX11_writes_12 : decode cX11_writes 12 = .ok (.getfield 274, 3) := by decide +kernel
theorem dX11_writes_15 : decode cX11_writes 15 = .ok (.iconst 1, 1) := by decide +kernel
theorem dX11_writes_16 : decode cX11_writes 16 = .ok (.iadd, 1) := by decide +kernel
theorem dX11_writes_17 : decode cX11_writes 17 = .ok (.putfield 274, 3) := by decide +kernel
theorem dX11_writes_20 : decode cX11_writes 20 = .ok (.return_, 1) := by decide +kernel
def f_X11_writes (x1 : Int32) (w : XW) : Option (XW) := (if inB (w.1 141 12) 40 then (some (wset (wset w 148 (Int32.toNatClampNeg (w.1 141 12)) x1) 141 12 (((wset w 148 (Int32.toNatClampNeg (w.1 141 12)) x1).1 141 12) + 1))) else none)
set_option maxRecDepth 100000 in
theorem W_X11_writes {g : GC} (hl : g.1.stackTraces = false) {x1 : Int32} {w : XW} : VE g cX11_writes 2 RX11 none [] (rmL 3 0 0) 0 0 oV 0 0 0 [(0, .ref (g.2.1 + 141)), (1, .int x1)] [] w (f_X11_writes x1 w) := by
  unfold f_X11_writes
  refine v_aload_n dX11_writes_0 rfl 0 rfl ?_
  refine v_getR fl_X11_28 tt_141 rfl dX11_writes_1 ?_
  refine v_aload_n dX11_writes_4 rfl 0 rfl ?_
  refine v_getI fl_X11_274 tt_141 rfl dX11_writes_5 ?_
  refine v_iload_n dX11_writes_8 rfl 1 rfl ?_
  refine v_guard (fun h1 => ?_)
  refine v_iast tt_148 h1 dX11_writes_9 ?_
  refine v_aload_n dX11_writes_10 rfl 0 rfl ?_
  refine v_dup dX11_writes_11 rfl ?_
  refine v_getI fl_X11_274 tt_141 rfl dX11_writes_12 ?_
  refine v_iconst (v := 1) dX11_writes_15 (by decide) ?_
  refine v_iadd dX11_writes_16 ?_
  refine v_putI fl_X11_274 tt_141 rfl (ty0 := .int) rfl rfl rfl dX11_writes_17 ?_
  exact v_vret dX11_writes_20 rfl rfl (by decide) (by decide)
theorem S_X11_writes {g : GC} (hl : g.1.stackTraces = false) {x1 : Int32} {w : XW} : ∀ q, f_X11_writes x1 w = some q → MM g (.code yX11_writes cX11_writes 2 none) yX11_writes (rmL 3 0 0) 0 0 [.ref (g.2.1 + 141), .int x1] w (oV q) := fun q hq => MM_of (own := RX11) hl (by decide) gw_1904 rfl (Nat.le_of_ble_eq_true rfl) (W_X11_writes hl q hq) ⟨rfl, rfl⟩

theorem dX11_writeSection_0 : decode cX11_writeSection 0 = .ok (.aload_n 0, 1) := by decide +kernel
theorem dX11_writeSection_1 : decode cX11_writeSection 1 = .ok (.aload_n 0, 1) := by decide +kernel
theorem dX11_writeSection_2 : decode cX11_writeSection 2 = .ok (.iload_n 1, 1) := by decide +kernel
theorem dX11_writeSection_3 : decode cX11_writeSection 3 = .ok (.invokevirtual 98, 3) := by decide +kernel
theorem dX11_writeSection_6 : decode cX11_writeSection 6 = .ok (.ifCond .eq 7, 3) := by decide +kernel
theorem dX11_writeSection_9 : decode cX11_writeSection 9 = .ok (.iconst 0, 1) := by decide +kernel
theorem dX11_writeSection_10 : decode cX11_writeSection 10 = .ok (.goto 4, 3) := by decide +kernel
theorem dX11_writeSection_13 : decode cX11_writeSection 13 = .ok (.iconst 1, 1) := by decide +kernel
theorem dX11_writeSection_14 : decode cX11_writeSection 14 = .ok (.putfield 38, 3) := by decide +kernel
theorem dX11_writeSection_17 : decode cX11_writeSection 17 = .ok (.aload_n 0, 1) := by decide +kernel
theorem dX11_writeSection_18 : decode cX11_writeSection 18 = .ok (.getfield 38, 3) := by decide +kernel
theorem dX11_writeSection_21 : decode cX11_writeSection 21 = .ok (.ifCond .le 5, 3) := by decide +kernel
theorem dX11_writeSection_24 : decode cX11_writeSection 24 = .ok (.iconst 0, 1) := by decide +kernel
theorem dX11_writeSection_25 : decode cX11_writeSection 25 = .ok (.ireturn, 1) := by decide +kernel
theorem dX11_writeSection_26 : decode cX11_writeSection 26 = .ok (.aload_n 0, 1) := by decide +kernel
theorem dX11_writeSection_27 : decode cX11_writeSection 27 = .ok (.iconst 0, 1) := by decide +kernel
theorem dX11_writeSection_28 : decode cX11_writeSection 28 = .ok (.putfield 274, 3) := by decide +kernel
theorem dX11_writeSection_31 : decode cX11_writeSection 31 = .ok (.aload_n 0, 1) := by decide +kernel
theorem dX11_writeSection_32 : decode cX11_writeSection 32 = .ok (.getfield 7, 3) := by decide +kernel
theorem dX11_writeSection_35 : decode cX11_writeSection 35 = .ok (.iconst 5, 1) := by decide +kernel
theorem dX11_writeSection_36 : decode cX11_writeSection 36 = .ok (.iload_n 1, 1) := by decide +kernel
theorem dX11_writeSection_37 : decode cX11_writeSection 37 = .ok (.iadd, 1) := by decide +kernel
theorem dX11_writeSection_38 : decode cX11_writeSection 38 = .ok (.iaload, 1) := by decide +kernel
theorem dX11_writeSection_39 : decode cX11_writeSection 39 = .ok (.istore_n 2, 1) := by decide +kernel
theorem dX11_writeSection_40 : decode cX11_writeSection 40 = .ok (.aload_n 0, 1) := by decide +kernel
theorem dX11_writeSection_41 : decode cX11_writeSection 41 = .ok (.bipush 48, 2) := by decide +kernel
theorem dX11_writeSection_43 : decode cX11_writeSection 43 = .ok (.iload_n 1, 1) := by decide +kernel
theorem dX11_writeSection_44 : decode cX11_writeSection 44 = .ok (.iadd, 1) := by decide +kernel
theorem dX11_writeSection_45 : decode cX11_writeSection 45 = .ok (.invokevirtual 277, 3) := by decide +kernel
theorem dX11_writeSection_48 : decode cX11_writeSection 48 = .ok (.aload_n 0, 1) := by decide +kernel
theorem dX11_writeSection_49 : decode cX11_writeSection 49 = .ok (.bipush 58, 2) := by decide +kernel
theorem dX11_writeSection_51 : decode cX11_writeSection 51 = .ok (.invokevirtual 277, 3) := by decide +kernel
theorem dX11_writeSection_54 : decode cX11_writeSection 54 = .ok (.iload_n 2, 1) := by decide +kernel
theorem dX11_writeSection_55 : decode cX11_writeSection 55 = .ok (.bipush 9, 2) := by decide +kernel
theorem dX11_writeSection_57 : decode cX11_writeSection 57 = .ok (.if_icmp .le 14, 3) := by decide +kernel
theorem dX11_writeSection_60 : decode cX11_writeSection 60 = .ok (.aload_n 0, 1) := by decide +kernel
theorem dX11_writeSection_61 : decode cX11_writeSection 61 = .ok (.bipush 48, 2) := by decide +kernel
theorem dX11_writeSection_63 : decode cX11_writeSection 63 = .ok (.iload_n 2, 1) := by decide +kernel
theorem dX11_writeSection_64 : decode cX11_writeSection 64 = .ok (.bipush 10, 2) := by decide +kernel
theorem dX11_writeSection_66 : decode cX11_writeSection 66 = .ok (.idiv, 1) := by decide +kernel
theorem dX11_writeSection_67 : decode cX11_writeSection 67 = .ok (.iadd, 1) := by decide +kernel
theorem dX11_writeSection_68 : decode cX11_writeSection 68 = .ok (.invokevirtual 277, 3) := by decide +kernel
theorem dX11_writeSection_71 : decode cX11_writeSection 71 = .ok (.aload_n 0, 1) := by decide +kernel
theorem dX11_writeSection_72 : decode cX11_writeSection 72 = .ok (.bipush 48, 2) := by decide +kernel
theorem dX11_writeSection_74 : decode cX11_writeSection 74 = .ok (.iload_n 2, 1) := by decide +kernel
theorem dX11_writeSection_75 : decode cX11_writeSection 75 = .ok (.bipush 10, 2) := by decide +kernel
theorem dX11_writeSection_77 : decode cX11_writeSection 77 = .ok (.irem, 1) := by decide +kernel
theorem dX11_writeSection_78 : decode cX11_writeSection 78 = .ok (.iadd, 1) := by decide +kernel
theorem dX11_writeSection_79 : decode cX11_writeSection 79 = .ok (.invokevirtual 277, 3) := by decide +kernel
theorem dX11_writeSection_82 : decode cX11_writeSection 82 = .ok (.bipush 97, 2) := by decide +kernel
theorem dX11_writeSection_84 : decode cX11_writeSection 84 = .ok (.istore_n 3, 1) := by decide +kernel
theorem dX11_writeSection_85 : decode cX11_writeSection 85 = .ok (.iload_n 3, 1) := by decide +kernel
theorem dX11_writeSection_86 : decode cX11_writeSection 86 = .ok (.bipush 104, 2) := by decide +kernel
theorem dX11_writeSection_88 : decode cX11_writeSection 88 = .ok (.if_icmp .gt 23, 3) := by decide +kernel
theorem dX11_writeSection_91 : decode cX11_writeSection 91 = .ok (.aload_n 0, 1) := by decide +kernel
theorem dX11_writeSection_92 : decode cX11_writeSection 92 = .ok (.iload_n 1, 1) := by decide +kernel
theorem dX11_writeSection_93 : decode cX11_writeSection 93 = .ok (.iload_n 3, 1) := by decide +kernel
theorem dX11_writeSection_94 : decode cX11_writeSection 94 = .ok (.invokevirtual 67, 3) := by decide +kernel
theorem dX11_writeSection_97 : decode cX11_writeSection 97 = .ok (.ifCond .eq 8, 3) := by decide +kernel
theorem dX11_writeSection_100 : decode cX11_writeSection 100 = .ok (.aload_n 0, 1) := by decide +kernel
theorem dX11_writeSection_101 : decode cX11_writeSection 101 = .ok (.iload_n 3, 1) := by decide +kernel
theorem dX11_writeSection_102 : decode cX11_writeSection 102 = .ok (.invokevirtual 277, 3) := by decide +kernel
theorem dX11_writeSection_105 : decode cX11_writeSection 105 = .ok (.iinc 3 1, 3) := by decide +kernel
theorem dX11_writeSection_108 : decode cX11_writeSection 108 = .ok (.goto (-23), 3) := by decide +kernel
theorem dX11_writeSection_111 : decode cX11_writeSection 111 = .ok (.iload_n 1, 1) := by decide +kernel
theorem dX11_writeSection_112 : decode cX11_writeSection 112 = .ok (.aload_n 0, 1) := by decide +kernel
theorem dX11_writeSection_113 : decode cX11_writeSection 113 = .ok (.getfield 7, 3) := by decide +kernel
theorem dX11_writeSection_116 : decode cX11_writeSection 116 = .ok (.iconst 1, 1) := by decide +kernel
theorem dX11_writeSection_117 : decode cX11_writeSection 117 = .ok (.iaload, 1) := by decide +kernel
theorem dX11_writeSection_118 : decode cX11_writeSection 118 = .ok (.if_icmp .ge 38, 3) := by decide +kernel
theorem dX11_writeSection_121 : decode cX11_writeSection 121 = .ok (.aload_n 0, 1) := by decide +kernel
theorem dX11_writeSection_122 : decode cX11_writeSection 122 = .ok (.bipush 94, 2) := by decide +kernel
theorem dX11_writeSection_124 : decode cX11_writeSection 124 = .ok (.invokevirtual 277, 3) := by decide +kernel
theorem dX11_writeSection_127 : decode cX11_writeSection 127 = .ok (.iconst 0, 1) := by decide +kernel
theorem dX11_writeSection_128 : decode cX11_writeSection 128 = .ok (.istore_n 3, 1) := by decide +kernel
theorem dX11_writeSection_129 : decode cX11_writeSection 129 = .ok (.aload_n 0, 1) := by decide +kernel
theorem dX11_writeSection_130 : decode cX11_writeSection 130 = .ok (.getfield 7, 3) := by decide +kernel
theorem dX11_writeSection_133 : decode cX11_writeSection 133 = .ok (.bipush 19, 2) := by decide +kernel
theorem dX11_writeSection_135 : decode cX11_writeSection 135 = .ok (.iload_n 3, 1) := by decide +kernel
theorem dX11_writeSection_136 : decode cX11_writeSection 136 = .ok (.iadd, 1) := by decide +kernel
theorem dX11_writeSection_137 : decode cX11_writeSection 137 = .ok (.iaload, 1) := by decide +kernel
theorem dX11_writeSection_138 : decode cX11_writeSection 138 = .ok (.iload_n 1, 1) := by decide +kernel
theorem dX11_writeSection_139 : decode cX11_writeSection 139 = .ok (.if_icmp .eq 9, 3) := by decide +kernel
theorem dX11_writeSection_142 : decode cX11_writeSection 142 = .ok (.iinc 3 1, 3) := by decide +kernel
theorem dX11_writeSection_145 : decode cX11_writeSection 145 = .ok (.goto (-16), 3) := by decide +kernel
theorem dX11_writeSection_148 : decode cX11_writeSection 148 = .ok (.aload_n 0, 1) := by decide +kernel
theorem dX11_writeSection_149 : decode cX11_writeSection 149 = .ok (.bipush 48, 2) := by decide +kernel
theorem dX11_writeSection_151 : decode cX11_writeSection 151 = .ok (.iload_n 3, 1) := by decide +kernel
theorem dX11_writeSection_152 : decode cX11_writeSection 152 = .ok (.iadd, 1) := by decide +kernel
theorem dX11_writeSection_153 : decode cX11_writeSection 153 = .ok (.invokevirtual 277, 3) := by decide +kernel
theorem dX11_writeSection_156 : decode cX11_writeSection 156 = .ok (.aload_n 0, 1) := by decide +kernel
theorem dX11_writeSection_157 : decode cX11_writeSection 157 = .ok (.getfield 274, 3) := by decide +kernel
theorem dX11_writeSection_160 : decode cX11_writeSection 160 = .ok (.ireturn, 1) := by decide +kernel
def f_X11_writeSection_129 (y1 : Int32) : Nat → Int32 → XW → Option (Int32 × XW)
  | 0, _, _ => none
  | n + 1, z3, w => (if inB (19 + z3) 66 then (if (w.1 142 (Int32.toNatClampNeg (19 + z3))) = y1 then (bV (f_X11_writes (48 + z3) w) (fun w18 => (some ((w18.1 141 12), w18)))) else (f_X11_writeSection_129 y1 n (z3 + 1) w)) else none)
set_option maxRecDepth 100000 in
theorem S_X11_writeSection_129 {g : GC} (hl : g.1.stackTraces = false) {y1 : Int32} : ∀ (n : Nat) (z3 : Int32) (w : XW), VE g cX11_writeSection 4 RX11 (some .int) [] (rmL 5 0 0) 0 0 oI 0 0 129 [(0, .ref (g.2.1 + 141)), (1, .int y1), (3, .int z3)] [] w (f_X11_writeSection_129 y1 n z3 w) := by
  intro n
  induction n with
  | zero => intro z3 w; exact v_none
  | succ n ih =>
    intro z3 w
    rw [f_X11_writeSection_129]
    refine v_aload_n dX11_writeSection_129 rfl 0 rfl ?_
    refine v_getR fl_X11_7 tt_141 rfl dX11_writeSection_130 ?_
    refine v_bipush (v := 19) dX11_writeSection_133 (by decide) ?_
    refine v_iload_n dX11_writeSection_135 rfl 2 rfl ?_
    refine v_iadd dX11_writeSection_136 ?_
    refine v_guard (fun h17 => ?_)
    refine v_iald tt_142 h17 dX11_writeSection_137 ?_
    refine v_iload_n dX11_writeSection_138 rfl 1 rfl ?_
    refine v_icmp_eq (tgt := 148) dX11_writeSection_139 (by decide) ?_ ?_
    · refine v_aload_n dX11_writeSection_148 rfl 0 rfl ?_
      refine v_bipush (v := 48) dX11_writeSection_149 (by decide) ?_
      refine v_iload_n dX11_writeSection_151 rfl 2 rfl ?_
      refine v_iadd dX11_writeSection_152 ?_
      refine v_callVv (As := [.int (48 + z3)]) cv_X11_277 (S_X11_writes hl) tt_141 rfl rfl rfl (Nat.le_of_ble_eq_true rfl) dX11_writeSection_153 (CR_rm (by decide) (by decide) (by decide) (by decide)) (fun w18 => ?_)
      refine v_aload_n dX11_writeSection_156 rfl 0 rfl ?_
      refine v_getI fl_X11_274 tt_141 rfl dX11_writeSection_157 ?_
      exact v_iret dX11_writeSection_160 rfl rfl (by decide) (by decide)
    · refine v_iinc (v := (z3 + 1)) dX11_writeSection_142 (q := 2) rfl rfl (Nat.le_of_ble_eq_true rfl) rfl ?_
      refine v_goto (tgt := 129) dX11_writeSection_145 (by decide) ?_
      refine v_sub [1, 2, 0] rfl ?_
      exact ih _ _
def f_X11_writeSection_85 (y1 : Int32) : Nat → Int32 → XW → Option (Int32 × XW)
  | 0, _, _ => none
  | n + 1, z3, w => (if 104 < z3 then (if (w.1 142 (Int32.toNatClampNeg 1)) ≤ y1 then (some ((w.1 141 12), w)) else (bV (f_X11_writes 94 w) (fun w14 => (f_X11_writeSection_129 y1 1000 0 w14)))) else (bI (f_X11_has y1 z3 w) (fun r15 w15 => (if r15 = 0 then (f_X11_writeSection_85 y1 n (z3 + 1) w15) else (bV (f_X11_writes z3 w15) (fun w16 => (f_X11_writeSection_85 y1 n (z3 + 1) w16)))))))
set_option maxRecDepth 100000 in
theorem S_X11_writeSection_85 {g : GC} (hl : g.1.stackTraces = false) {y1 : Int32} : ∀ (n : Nat) (z3 : Int32) (w : XW), VE g cX11_writeSection 4 RX11 (some .int) [] (rmL 5 0 0) 0 0 oI 0 0 85 [(0, .ref (g.2.1 + 141)), (1, .int y1), (3, .int z3)] [] w (f_X11_writeSection_85 y1 n z3 w) := by
  intro n
  induction n with
  | zero => intro z3 w; exact v_none
  | succ n ih =>
    intro z3 w
    rw [f_X11_writeSection_85]
    refine v_iload_n dX11_writeSection_85 rfl 2 rfl ?_
    refine v_bipush (v := 104) dX11_writeSection_86 (by decide) ?_
    refine v_icmp_gt (tgt := 111) dX11_writeSection_88 (by decide) ?_ ?_
    · refine v_iload_n dX11_writeSection_111 rfl 1 rfl ?_
      refine v_aload_n dX11_writeSection_112 rfl 0 rfl ?_
      refine v_getR fl_X11_7 tt_141 rfl dX11_writeSection_113 ?_
      refine v_iconst (v := 1) dX11_writeSection_116 (by decide) ?_
      refine v_iald tt_142 (by decide : inB 1 66) dX11_writeSection_117 ?_
      refine v_icmp_ge (tgt := 156) dX11_writeSection_118 (by decide) ?_ ?_
      · refine v_aload_n dX11_writeSection_156 rfl 0 rfl ?_
        refine v_getI fl_X11_274 tt_141 rfl dX11_writeSection_157 ?_
        exact v_iret dX11_writeSection_160 rfl rfl (by decide) (by decide)
      · refine v_aload_n dX11_writeSection_121 rfl 0 rfl ?_
        refine v_bipush (v := 94) dX11_writeSection_122 (by decide) ?_
        refine v_callVv (As := [.int 94]) cv_X11_277 (S_X11_writes hl) tt_141 rfl rfl rfl (Nat.le_of_ble_eq_true rfl) dX11_writeSection_124 (CR_rm (by decide) (by decide) (by decide) (by decide)) (fun w14 => ?_)
        refine v_iconst (v := 0) dX11_writeSection_127 (by decide) ?_
        refine v_istore_n dX11_writeSection_128 rfl (Nat.le_of_ble_eq_true rfl) rfl ?_
        refine v_sub [1, 2, 0] rfl ?_
        exact S_X11_writeSection_129 hl  _ _ _
    · refine v_aload_n dX11_writeSection_91 rfl 0 rfl ?_
      refine v_iload_n dX11_writeSection_92 rfl 1 rfl ?_
      refine v_iload_n dX11_writeSection_93 rfl 2 rfl ?_
      refine v_callVi (As := [.int y1, .int z3]) cv_X11_67 (S_X11_has hl) tt_141 rfl rfl rfl (Nat.le_of_ble_eq_true rfl) dX11_writeSection_94 (CR_rm (by decide) (by decide) (by decide) (by decide)) (fun r15 w15 => ?_)
      refine v_if_eq (tgt := 105) dX11_writeSection_97 (by decide) ?_ ?_
      · refine v_iinc (v := (z3 + 1)) dX11_writeSection_105 (q := 2) rfl rfl (Nat.le_of_ble_eq_true rfl) rfl ?_
        refine v_goto (tgt := 85) dX11_writeSection_108 (by decide) ?_
        refine v_sub [1, 2, 0] rfl ?_
        exact ih _ _
      · refine v_aload_n dX11_writeSection_100 rfl 0 rfl ?_
        refine v_iload_n dX11_writeSection_101 rfl 2 rfl ?_
        refine v_callVv (As := [.int z3]) cv_X11_277 (S_X11_writes hl) tt_141 rfl rfl rfl (Nat.le_of_ble_eq_true rfl) dX11_writeSection_102 (CR_rm (by decide) (by decide) (by decide) (by decide)) (fun w16 => ?_)
        refine v_iinc (v := (z3 + 1)) dX11_writeSection_105 (q := 2) rfl rfl (Nat.le_of_ble_eq_true rfl) rfl ?_
        refine v_goto (tgt := 85) dX11_writeSection_108 (by decide) ?_
        refine v_sub [1, 2, 0] rfl ?_
        exact ih _ _
def f_X11_writeSection (x1 : Int32) (w : XW) : Option (Int32 × XW) := (bI (f_X11_isSection x1 w) (fun r1 w1 => (if r1 = 0 then (if ((wset w1 141 0 1).1 141 0) ≤ 0 then (if inB (5 + x1) 66 then (bV (f_X11_writes (48 + x1) (wset (wset w1 141 0 1) 141 12 0)) (fun w3 => (bV (f_X11_writes 58 w3) (fun w4 => (if ((wset (wset w1 141 0 1) 141 12 0).1 142 (Int32.toNatClampNeg (5 + x1))) ≤ 9 then (bV (f_X11_writes (48 + (((wset (wset w1 141 0 1) 141 12 0).1 142 (Int32.toNatClampNeg (5 + x1))) - ((wset (wset w1 141 0 1) 141 12 0).1 142 (Int32.toNatClampNeg (5 + x1))) / 10 * 10)) w4) (fun w5 => (f_X11_writeSection_85 x1 1000 97 w5))) else (bV (f_X11_writes (48 + (((wset (wset w1 141 0 1) 141 12 0).1 142 (Int32.toNatClampNeg (5 + x1))) / 10)) w4) (fun w6 => (bV (f_X11_writes (48 + (((wset (wset w1 141 0 1) 141 12 0).1 142 (Int32.toNatClampNeg (5 + x1))) - ((wset (wset w1 141 0 1) 141 12 0).1 142 (Int32.toNatClampNeg (5 + x1))) / 10 * 10)) w6) (fun w7 => (f_X11_writeSection_85 x1 1000 97 w7)))))))))) else none) else (some (0, (wset w1 141 0 1)))) else (if ((wset w1 141 0 0).1 141 0) ≤ 0 then (if inB (5 + x1) 66 then (bV (f_X11_writes (48 + x1) (wset (wset w1 141 0 0) 141 12 0)) (fun w9 => (bV (f_X11_writes 58 w9) (fun w10 => (if ((wset (wset w1 141 0 0) 141 12 0).1 142 (Int32.toNatClampNeg (5 + x1))) ≤ 9 then (bV (f_X11_writes (48 + (((wset (wset w1 141 0 0) 141 12 0).1 142 (Int32.toNatClampNeg (5 + x1))) - ((wset (wset w1 141 0 0) 141 12 0).1 142 (Int32.toNatClampNeg (5 + x1))) / 10 * 10)) w10) (fun w11 => (f_X11_writeSection_85 x1 1000 97 w11))) else (bV (f_X11_writes (48 + (((wset (wset w1 141 0 0) 141 12 0).1 142 (Int32.toNatClampNeg (5 + x1))) / 10)) w10) (fun w12 => (bV (f_X11_writes (48 + (((wset (wset w1 141 0 0) 141 12 0).1 142 (Int32.toNatClampNeg (5 + x1))) - ((wset (wset w1 141 0 0) 141 12 0).1 142 (Int32.toNatClampNeg (5 + x1))) / 10 * 10)) w12) (fun w13 => (f_X11_writeSection_85 x1 1000 97 w13)))))))))) else none) else (some (0, (wset w1 141 0 0)))))))
set_option maxRecDepth 100000 in
theorem W_X11_writeSection {g : GC} (hl : g.1.stackTraces = false) {x1 : Int32} {w : XW} : VE g cX11_writeSection 4 RX11 (some .int) [] (rmL 5 0 0) 0 0 oI 0 0 0 [(0, .ref (g.2.1 + 141)), (1, .int x1)] [] w (f_X11_writeSection x1 w) := by
  unfold f_X11_writeSection
  refine v_aload_n dX11_writeSection_0 rfl 0 rfl ?_
  refine v_aload_n dX11_writeSection_1 rfl 0 rfl ?_
  refine v_iload_n dX11_writeSection_2 rfl 1 rfl ?_
  refine v_callVi (As := [.int x1]) cv_X11_98 (S_X11_isSection hl) tt_141 rfl rfl rfl (Nat.le_of_ble_eq_true rfl) dX11_writeSection_3 (CR_rm (by decide) (by decide) (by decide) (by decide)) (fun r1 w1 => ?_)
  refine v_if_eq (tgt := 13) dX11_writeSection_6 (by decide) ?_ ?_
  · refine v_iconst (v := 1) dX11_writeSection_13 (by decide) ?_
    refine v_putI fl_X11_38 tt_141 rfl (ty0 := .int) rfl rfl rfl dX11_writeSection_14 ?_
    refine v_aload_n dX11_writeSection_17 rfl 0 rfl ?_
    refine v_getI fl_X11_38 tt_141 rfl dX11_writeSection_18 ?_
    refine v_if_le (tgt := 26) dX11_writeSection_21 (by decide) ?_ ?_
    · refine v_aload_n dX11_writeSection_26 rfl 0 rfl ?_
      refine v_iconst (v := 0) dX11_writeSection_27 (by decide) ?_
      refine v_putI fl_X11_274 tt_141 rfl (ty0 := .int) rfl rfl rfl dX11_writeSection_28 ?_
      refine v_aload_n dX11_writeSection_31 rfl 0 rfl ?_
      refine v_getR fl_X11_7 tt_141 rfl dX11_writeSection_32 ?_
      refine v_iconst (v := 5) dX11_writeSection_35 (by decide) ?_
      refine v_iload_n dX11_writeSection_36 rfl 1 rfl ?_
      refine v_iadd dX11_writeSection_37 ?_
      refine v_guard (fun h2 => ?_)
      refine v_iald tt_142 h2 dX11_writeSection_38 ?_
      refine v_istore_n dX11_writeSection_39 rfl (Nat.le_of_ble_eq_true rfl) rfl ?_
      refine v_aload_n dX11_writeSection_40 rfl 1 rfl ?_
      refine v_bipush (v := 48) dX11_writeSection_41 (by decide) ?_
      refine v_iload_n dX11_writeSection_43 rfl 2 rfl ?_
      refine v_iadd dX11_writeSection_44 ?_
      refine v_callVv (As := [.int (48 + x1)]) cv_X11_277 (S_X11_writes hl) tt_141 rfl rfl rfl (Nat.le_of_ble_eq_true rfl) dX11_writeSection_45 (CR_rm (by decide) (by decide) (by decide) (by decide)) (fun w3 => ?_)
      refine v_aload_n dX11_writeSection_48 rfl 1 rfl ?_
      refine v_bipush (v := 58) dX11_writeSection_49 (by decide) ?_
      refine v_callVv (As := [.int 58]) cv_X11_277 (S_X11_writes hl) tt_141 rfl rfl rfl (Nat.le_of_ble_eq_true rfl) dX11_writeSection_51 (CR_rm (by decide) (by decide) (by decide) (by decide)) (fun w4 => ?_)
      refine v_iload_n dX11_writeSection_54 rfl 0 rfl ?_
      refine v_bipush (v := 9) dX11_writeSection_55 (by decide) ?_
      refine v_icmp_le (tgt := 71) dX11_writeSection_57 (by decide) ?_ ?_
      · refine v_aload_n dX11_writeSection_71 rfl 1 rfl ?_
        refine v_bipush (v := 48) dX11_writeSection_72 (by decide) ?_
        refine v_iload_n dX11_writeSection_74 rfl 0 rfl ?_
        refine v_bipush (v := 10) dX11_writeSection_75 (by decide) ?_
        refine v_irem dX11_writeSection_77 (by decide) ?_
        refine v_iadd dX11_writeSection_78 ?_
        refine v_callVv (As := [.int (48 + (((wset (wset w1 141 0 1) 141 12 0).1 142 (Int32.toNatClampNeg (5 + x1))) - ((wset (wset w1 141 0 1) 141 12 0).1 142 (Int32.toNatClampNeg (5 + x1))) / 10 * 10))]) cv_X11_277 (S_X11_writes hl) tt_141 rfl rfl rfl (Nat.le_of_ble_eq_true rfl) dX11_writeSection_79 (CR_rm (by decide) (by decide) (by decide) (by decide)) (fun w5 => ?_)
        refine v_bipush (v := 97) dX11_writeSection_82 (by decide) ?_
        refine v_istore_n dX11_writeSection_84 rfl (Nat.le_of_ble_eq_true rfl) rfl ?_
        refine v_sub [2, 3, 0] rfl ?_
        exact S_X11_writeSection_85 hl  _ _ _
      · refine v_aload_n dX11_writeSection_60 rfl 1 rfl ?_
        refine v_bipush (v := 48) dX11_writeSection_61 (by decide) ?_
        refine v_iload_n dX11_writeSection_63 rfl 0 rfl ?_
        refine v_bipush (v := 10) dX11_writeSection_64 (by decide) ?_
        refine v_idiv dX11_writeSection_66 (by decide) ?_
        refine v_iadd dX11_writeSection_67 ?_
        refine v_callVv (As := [.int (48 + (((wset (wset w1 141 0 1) 141 12 0).1 142 (Int32.toNatClampNeg (5 + x1))) / 10))]) cv_X11_277 (S_X11_writes hl) tt_141 rfl rfl rfl (Nat.le_of_ble_eq_true rfl) dX11_writeSection_68 (CR_rm (by decide) (by decide) (by decide) (by decide)) (fun w6 => ?_)
        refine v_aload_n dX11_writeSection_71 rfl 1 rfl ?_
        refine v_bipush (v := 48) dX11_writeSection_72 (by decide) ?_
        refine v_iload_n dX11_writeSection_74 rfl 0 rfl ?_
        refine v_bipush (v := 10) dX11_writeSection_75 (by decide) ?_
        refine v_irem dX11_writeSection_77 (by decide) ?_
        refine v_iadd dX11_writeSection_78 ?_
        refine v_callVv (As := [.int (48 + (((wset (wset w1 141 0 1) 141 12 0).1 142 (Int32.toNatClampNeg (5 + x1))) - ((wset (wset w1 141 0 1) 141 12 0).1 142 (Int32.toNatClampNeg (5 + x1))) / 10 * 10))]) cv_X11_277 (S_X11_writes hl) tt_141 rfl rfl rfl (Nat.le_of_ble_eq_true rfl) dX11_writeSection_79 (CR_rm (by decide) (by decide) (by decide) (by decide)) (fun w7 => ?_)
        refine v_bipush (v := 97) dX11_writeSection_82 (by decide) ?_
        refine v_istore_n dX11_writeSection_84 rfl (Nat.le_of_ble_eq_true rfl) rfl ?_
        refine v_sub [2, 3, 0] rfl ?_
        exact S_X11_writeSection_85 hl  _ _ _
    · refine v_iconst (v := 0) dX11_writeSection_24 (by decide) ?_
      exact v_iret dX11_writeSection_25 rfl rfl (by decide) (by decide)
  · refine v_iconst (v := 0) dX11_writeSection_9 (by decide) ?_
    refine v_goto (tgt := 14) dX11_writeSection_10 (by decide) ?_
    refine v_putI fl_X11_38 tt_141 rfl (ty0 := .int) rfl rfl rfl dX11_writeSection_14 ?_
    refine v_aload_n dX11_writeSection_17 rfl 0 rfl ?_
    refine v_getI fl_X11_38 tt_141 rfl dX11_writeSection_18 ?_
    refine v_if_le (tgt := 26) dX11_writeSection_21 (by decide) ?_ ?_
    · refine v_aload_n dX11_writeSection_26 rfl 0 rfl ?_
      refine v_iconst (v := 0) dX11_writeSection_27 (by decide) ?_
      refine v_putI fl_X11_274 tt_141 rfl (ty0 := .int) rfl rfl rfl dX11_writeSection_28 ?_
      refine v_aload_n dX11_writeSection_31 rfl 0 rfl ?_
      refine v_getR fl_X11_7 tt_141 rfl dX11_writeSection_32 ?_
      refine v_iconst (v := 5) dX11_writeSection_35 (by decide) ?_
      refine v_iload_n dX11_writeSection_36 rfl 1 rfl ?_
      refine v_iadd dX11_writeSection_37 ?_
      refine v_guard (fun h8 => ?_)
      refine v_iald tt_142 h8 dX11_writeSection_38 ?_
      refine v_istore_n dX11_writeSection_39 rfl (Nat.le_of_ble_eq_true rfl) rfl ?_
      refine v_aload_n dX11_writeSection_40 rfl 1 rfl ?_
      refine v_bipush (v := 48) dX11_writeSection_41 (by decide) ?_
      refine v_iload_n dX11_writeSection_43 rfl 2 rfl ?_
      refine v_iadd dX11_writeSection_44 ?_
      refine v_callVv (As := [.int (48 + x1)]) cv_X11_277 (S_X11_writes hl) tt_141 rfl rfl rfl (Nat.le_of_ble_eq_true rfl) dX11_writeSection_45 (CR_rm (by decide) (by decide) (by decide) (by decide)) (fun w9 => ?_)
      refine v_aload_n dX11_writeSection_48 rfl 1 rfl ?_
      refine v_bipush (v := 58) dX11_writeSection_49 (by decide) ?_
      refine v_callVv (As := [.int 58]) cv_X11_277 (S_X11_writes hl) tt_141 rfl rfl rfl (Nat.le_of_ble_eq_true rfl) dX11_writeSection_51 (CR_rm (by decide) (by decide) (by decide) (by decide)) (fun w10 => ?_)
      refine v_iload_n dX11_writeSection_54 rfl 0 rfl ?_
      refine v_bipush (v := 9) dX11_writeSection_55 (by decide) ?_
      refine v_icmp_le (tgt := 71) dX11_writeSection_57 (by decide) ?_ ?_
      · refine v_aload_n dX11_writeSection_71 rfl 1 rfl ?_
        refine v_bipush (v := 48) dX11_writeSection_72 (by decide) ?_
        refine v_iload_n dX11_writeSection_74 rfl 0 rfl ?_
        refine v_bipush (v := 10) dX11_writeSection_75 (by decide) ?_
        refine v_irem dX11_writeSection_77 (by decide) ?_
        refine v_iadd dX11_writeSection_78 ?_
        refine v_callVv (As := [.int (48 + (((wset (wset w1 141 0 0) 141 12 0).1 142 (Int32.toNatClampNeg (5 + x1))) - ((wset (wset w1 141 0 0) 141 12 0).1 142 (Int32.toNatClampNeg (5 + x1))) / 10 * 10))]) cv_X11_277 (S_X11_writes hl) tt_141 rfl rfl rfl (Nat.le_of_ble_eq_true rfl) dX11_writeSection_79 (CR_rm (by decide) (by decide) (by decide) (by decide)) (fun w11 => ?_)
        refine v_bipush (v := 97) dX11_writeSection_82 (by decide) ?_
        refine v_istore_n dX11_writeSection_84 rfl (Nat.le_of_ble_eq_true rfl) rfl ?_
        refine v_sub [2, 3, 0] rfl ?_
        exact S_X11_writeSection_85 hl  _ _ _
      · refine v_aload_n dX11_writeSection_60 rfl 1 rfl ?_
        refine v_bipush (v := 48) dX11_writeSection_61 (by decide) ?_
        refine v_iload_n dX11_writeSection_63 rfl 0 rfl ?_
        refine v_bipush (v := 10) dX11_writeSection_64 (by decide) ?_
        refine v_idiv dX11_writeSection_66 (by decide) ?_
        refine v_iadd dX11_writeSection_67 ?_
        refine v_callVv (As := [.int (48 + (((wset (wset w1 141 0 0) 141 12 0).1 142 (Int32.toNatClampNeg (5 + x1))) / 10))]) cv_X11_277 (S_X11_writes hl) tt_141 rfl rfl rfl (Nat.le_of_ble_eq_true rfl) dX11_writeSection_68 (CR_rm (by decide) (by decide) (by decide) (by decide)) (fun w12 => ?_)
        refine v_aload_n dX11_writeSection_71 rfl 1 rfl ?_
        refine v_bipush (v := 48) dX11_writeSection_72 (by decide) ?_
        refine v_iload_n dX11_writeSection_74 rfl 0 rfl ?_
        refine v_bipush (v := 10) dX11_writeSection_75 (by decide) ?_
        refine v_irem dX11_writeSection_77 (by decide) ?_
        refine v_iadd dX11_writeSection_78 ?_
        refine v_callVv (As := [.int (48 + (((wset (wset w1 141 0 0) 141 12 0).1 142 (Int32.toNatClampNeg (5 + x1))) - ((wset (wset w1 141 0 0) 141 12 0).1 142 (Int32.toNatClampNeg (5 + x1))) / 10 * 10))]) cv_X11_277 (S_X11_writes hl) tt_141 rfl rfl rfl (Nat.le_of_ble_eq_true rfl) dX11_writeSection_79 (CR_rm (by decide) (by decide) (by decide) (by decide)) (fun w13 => ?_)
        refine v_bipush (v := 97) dX11_writeSection_82 (by decide) ?_
        refine v_istore_n dX11_writeSection_84 rfl (Nat.le_of_ble_eq_true rfl) rfl ?_
        refine v_sub [2, 3, 0] rfl ?_
        exact S_X11_writeSection_85 hl  _ _ _
    · refine v_iconst (v := 0) dX11_writeSection_24 (by decide) ?_
      exact v_iret dX11_writeSection_25 rfl rfl (by decide) (by decide)
theorem S_X11_writeSection {g : GC} (hl : g.1.stackTraces = false) {x1 : Int32} {w : XW} : ∀ q, f_X11_writeSection x1 w = some q → MM g (.code yX11_writeSection cX11_writeSection 4 (some .int)) yX11_writeSection (rmL 5 0 0) 0 0 [.ref (g.2.1 + 141), .int x1] w (oI q) := fun q hq => MM_of (own := RX11) hl (by decide) gw_1900 rfl (Nat.le_of_ble_eq_true rfl) (W_X11_writeSection hl q hq) ⟨rfl, rfl⟩

theorem dX11_writePile_0 : decode cX11_writePile 0 = .ok (.aload_n 0, 1) := by decide +kernel
theorem dX11_writePile_1 : decode cX11_writePile 1 = .ok (.iconst 0, 1) := by decide +kernel
theorem dX11_writePile_2 : decode cX11_writePile 2 = .ok (.putfield 38, 3) := by decide +kernel
theorem dX11_writePile_5 : decode cX11_writePile 5 = .ok (.aload_n 0, 1) := by decide +kernel
theorem dX11_writePile_6 : decode cX11_writePile 6 = .ok (.iconst 0, 1) := by decide +kernel
theorem dX11_writePile_7 : decode cX11_writePile 7 = .ok (.putfield 274, 3) := by decide +kernel
theorem dX11_writePile_10 : decode cX11_writePile 10 = .ok (.iconst 0, 1) := by decide +kernel
theorem dX11_writePile_11 : decode cX11_writePile 11 = .ok (.istore_n 1, 1) := by decide +kernel
theorem dX11_writePile_12 : decode cX11_writePile 12 = .ok (.iload_n 1, 1) := by decide +kernel
theorem dX11_writePile_13 : decode cX11_writePile 13 = .ok (.aload_n 0, 1) := by decide +kernel
theorem dX11_writePile_14 : decode cX11_writePile 14 = .ok (.getfield 7, 3) := by decide +kernel
theorem dX11_writePile_17 : decode cX11_writePile 17 = .ok (.iconst 1, 1) := by decide +kernel
theorem dX11_writePile_18 : decode cX11_writePile 18 = .ok (.iaload, 1) := by decide +kernel
theorem dX11_writePile_19 : decode cX11_writePile 19 = .ok (.if_icmp .ge 25, 3) := by decide +kernel
theorem dX11_writePile_22 : decode cX11_writePile 22 = .ok (.aload_n 0, 1) := by decide +kernel
theorem dX11_writePile_23 : decode cX11_writePile 23 = .ok (.bipush 48, 2) := by decide +kernel
theorem dX11_writePile_25 : decode cX11_writePile 25 = .ok (.aload_n 0, 1) := by decide +kernel
theorem dX11_writePile_26 : decode cX11_writePile 26 = .ok (.getfield 7, 3) := by decide +kernel
theorem dX11_writePile_29 : decode cX11_writePile 29 = .ok (.bipush 19, 2) := by decide +kernel
theorem dX11_writePile_31 : decode cX11_writePile 31 = .ok (.iload_n 1, 1) := by decide +kernel
theorem dX11_writePile_32 : decode cX11_writePile 32 = .ok (.iadd, 1) := by decide +kernel
theorem dX11_writePile_33 : decode cX11_writePile 33 = .ok (.iaload, 1) := by decide +kernel
theorem dX11_writePile_34 : decode cX11_writePile 34 = .ok (.iadd, 1) := by decide +kernel
theorem dX11_writePile_35 : decode cX11_writePile 35 = .ok (.invokevirtual 277, 3) := by decide +kernel
theorem dX11_writePile_38 : decode cX11_writePile 38 = .ok (.iinc 1 1, 3) := by decide +kernel
theorem dX11_writePile_41 : decode cX11_writePile 41 = .ok (.goto (-29), 3) := by decide +kernel
theorem dX11_writePile_44 : decode cX11_writePile 44 = .ok (.aload_n 0, 1) := by decide +kernel
theorem dX11_writePile_45 : decode cX11_writePile 45 = .ok (.getfield 274, 3) := by decide +kernel
theorem dX11_writePile_48 : decode cX11_writePile 48 = .ok (.ireturn, 1) := by decide +kernel
def f_X11_writePile_12 : Nat → Int32 → XW → Option (Int32 × XW)
  | 0, _, _ => none
  | n + 1, z1, w => (if (w.1 142 (Int32.toNatClampNeg 1)) ≤ z1 then (some ((w.1 141 12), w)) else (if inB (19 + z1) 66 then (bV (f_X11_writes (48 + (w.1 142 (Int32.toNatClampNeg (19 + z1)))) w) (fun w2 => (f_X11_writePile_12 n (z1 + 1) w2))) else none))
set_option maxRecDepth 100000 in
theorem S_X11_writePile_12 {g : GC} (hl : g.1.stackTraces = false) : ∀ (n : Nat) (z1 : Int32) (w : XW), VE g cX11_writePile 2 RX11 (some .int) [] (rmL 4 0 0) 0 0 oI 0 0 12 [(0, .ref (g.2.1 + 141)), (1, .int z1)] [] w (f_X11_writePile_12  n z1 w) := by
  intro n
  induction n with
  | zero => intro z1 w; exact v_none
  | succ n ih =>
    intro z1 w
    rw [f_X11_writePile_12]
    refine v_iload_n dX11_writePile_12 rfl 1 rfl ?_
    refine v_aload_n dX11_writePile_13 rfl 0 rfl ?_
    refine v_getR fl_X11_7 tt_141 rfl dX11_writePile_14 ?_
    refine v_iconst (v := 1) dX11_writePile_17 (by decide) ?_
    refine v_iald tt_142 (by decide : inB 1 66) dX11_writePile_18 ?_
    refine v_icmp_ge (tgt := 44) dX11_writePile_19 (by decide) ?_ ?_
    · refine v_aload_n dX11_writePile_44 rfl 0 rfl ?_
      refine v_getI fl_X11_274 tt_141 rfl dX11_writePile_45 ?_
      exact v_iret dX11_writePile_48 rfl rfl (by decide) (by decide)
    · refine v_aload_n dX11_writePile_22 rfl 0 rfl ?_
      refine v_bipush (v := 48) dX11_writePile_23 (by decide) ?_
      refine v_aload_n dX11_writePile_25 rfl 0 rfl ?_
      refine v_getR fl_X11_7 tt_141 rfl dX11_writePile_26 ?_
      refine v_bipush (v := 19) dX11_writePile_29 (by decide) ?_
      refine v_iload_n dX11_writePile_31 rfl 1 rfl ?_
      refine v_iadd dX11_writePile_32 ?_
      refine v_guard (fun h1 => ?_)
      refine v_iald tt_142 h1 dX11_writePile_33 ?_
      refine v_iadd dX11_writePile_34 ?_
      refine v_callVv (As := [.int (48 + (w.1 142 (Int32.toNatClampNeg (19 + z1))))]) cv_X11_277 (S_X11_writes hl) tt_141 rfl rfl rfl (Nat.le_of_ble_eq_true rfl) dX11_writePile_35 (CR_rm (by decide) (by decide) (by decide) (by decide)) (fun w2 => ?_)
      refine v_iinc (v := (z1 + 1)) dX11_writePile_38 (q := 1) rfl rfl (Nat.le_of_ble_eq_true rfl) rfl ?_
      refine v_goto (tgt := 12) dX11_writePile_41 (by decide) ?_
      refine v_sub [1, 0] rfl ?_
      exact ih _ _
def f_X11_writePile (w : XW) : Option (Int32 × XW) := (f_X11_writePile_12 1000 0 (wset (wset w 141 0 0) 141 12 0))
set_option maxRecDepth 100000 in
theorem W_X11_writePile {g : GC} (hl : g.1.stackTraces = false) {w : XW} : VE g cX11_writePile 2 RX11 (some .int) [] (rmL 4 0 0) 0 0 oI 0 0 0 [(0, .ref (g.2.1 + 141))] [] w (f_X11_writePile  w) := by
  unfold f_X11_writePile
  refine v_aload_n dX11_writePile_0 rfl 0 rfl ?_
  refine v_iconst (v := 0) dX11_writePile_1 (by decide) ?_
  refine v_putI fl_X11_38 tt_141 rfl (ty0 := .int) rfl rfl rfl dX11_writePile_2 ?_
  refine v_aload_n dX11_writePile_5 rfl 0 rfl ?_
  refine v_iconst (v := 0) dX11_writePile_6 (by decide) ?_
  refine v_putI fl_X11_274 tt_141 rfl (ty0 := .int) rfl rfl rfl dX11_writePile_7 ?_
  refine v_iconst (v := 0) dX11_writePile_10 (by decide) ?_
  refine v_istore_n dX11_writePile_11 rfl (Nat.le_of_ble_eq_true rfl) rfl ?_
  refine v_sub [1, 0] rfl ?_
  exact S_X11_writePile_12 hl  _ _ _
theorem S_X11_writePile {g : GC} (hl : g.1.stackTraces = false) {w : XW} : ∀ q, f_X11_writePile  w = some q → MM g (.code yX11_writePile cX11_writePile 2 (some .int)) yX11_writePile (rmL 4 0 0) 0 0 [.ref (g.2.1 + 141)] w (oI q) := fun q hq => MM_of (own := RX11) hl (by decide) gw_1908 rfl (Nat.le_of_ble_eq_true rfl) (W_X11_writePile hl q hq) ⟨rfl, rfl⟩

theorem dX11_lineCharacter_0 : decode cX11_lineCharacter 0 = .ok (.aload_n 0, 1) := by decide +kernel
theorem dX11_lineCharacter_1 : decode cX11_lineCharacter 1 = .ok (.iload_n 1, 1) := by decide +kernel
theorem dX11_lineCharacter_2 : decode cX11_lineCharacter 2 = .ok (.iconst 0, 1) := by decide +kernel
theorem dX11_lineCharacter_3 : decode cX11_lineCharacter 3 = .ok (.aload_n 0, 1) := by decide +kernel
theorem dX11_lineCharacter_4 : decode cX11_lineCharacter 4 = .ok (.getfield 274, 3) := by decide +kernel
theorem dX11_lineCharacter_7 : decode cX11_lineCharacter 7 = .ok (.iconst 1, 1) := by decide +kernel
theorem dX11_lineCharacter_8 : decode cX11_lineCharacter 8 = .ok (.isub, 1) := by decide +kernel
theorem dX11_lineCharacter_9 : decode cX11_lineCharacter 9 = .ok (.invokestatic 63, 3) := by decide +kernel
theorem dX11_lineCharacter_12 : decode cX11_lineCharacter 12 = .ok (.ifCond .eq 7, 3) := by decide +kernel
theorem dX11_lineCharacter_15 : decode cX11_lineCharacter 15 = .ok (.iconst 0, 1) := by decide +kernel
theorem dX11_lineCharacter_16 : decode cX11_lineCharacter 16 = .ok (.goto 4, 3) := by decide +kernel
theorem dX11_lineCharacter_19 : decode cX11_lineCharacter 19 = .ok (.iconst 1, 1) := by decide +kernel
theorem dX11_lineCharacter_20 : decode cX11_lineCharacter 20 = .ok (.putfield 38, 3) := by decide +kernel
theorem dX11_lineCharacter_23 : decode cX11_lineCharacter 23 = .ok (.aload_n 0, 1) := by decide +kernel
theorem dX11_lineCharacter_24 : decode cX11_lineCharacter 24 = .ok (.getfield 38, 3) := by decide +kernel
theorem dX11_lineCharacter_27 : decode cX11_lineCharacter 27 = .ok (.ifCond .le 7, 3) := by decide +kernel
theorem dX11_lineCharacter_30 : decode cX11_lineCharacter 30 = .ok (.iconst 0, 1) := by decide +kernel
theorem dX11_lineCharacter_31 : decode cX11_lineCharacter 31 = .ok (.goto 10, 3) := by decide +kernel
theorem dX11_lineCharacter_34 : decode cX11_lineCharacter 34 = .ok (.aload_n 0, 1) := by decide +kernel
theorem dX11_lineCharacter_35 : decode cX11_lineCharacter 35 = .ok (.getfield 28, 3) := by decide +kernel
theorem dX11_lineCharacter_38 : decode cX11_lineCharacter 38 = .ok (.iload_n 1, 1) := by decide +kernel
theorem dX11_lineCharacter_39 : decode cX11_lineCharacter 39 = .ok (.iaload, 1) := by decide +kernel
theorem dX11_lineCharacter_40 : decode cX11_lineCharacter 40 = .ok (.i2c, 1) := by decide +kernel
theorem dX11_lineCharacter_41 : decode cX11_lineCharacter 41 = .ok (.ireturn, 1) := by decide +kernel
def f_X11_lineCharacter (x1 : Int32) (w : XW) : Option (Int32 × XW) := (bI (f_X11_in x1 0 ((w.1 141 12) - 1) w) (fun r1 w1 => (if r1 = 0 then (if ((wset w1 141 0 1).1 141 0) ≤ 0 then (if inB x1 40 then (if vp_nar .char (((Int32.toUInt32 ((wset w1 141 0 1).1 148 (Int32.toNatClampNeg x1))) % 65536).toInt32) = (((Int32.toUInt32 ((wset w1 141 0 1).1 148 (Int32.toNatClampNeg x1))) % 65536).toInt32) then (some ((((Int32.toUInt32 ((wset w1 141 0 1).1 148 (Int32.toNatClampNeg x1))) % 65536).toInt32), (wset w1 141 0 1))) else none) else none) else (some (0, (wset w1 141 0 1)))) else (if ((wset w1 141 0 0).1 141 0) ≤ 0 then (if inB x1 40 then (if vp_nar .char (((Int32.toUInt32 ((wset w1 141 0 0).1 148 (Int32.toNatClampNeg x1))) % 65536).toInt32) = (((Int32.toUInt32 ((wset w1 141 0 0).1 148 (Int32.toNatClampNeg x1))) % 65536).toInt32) then (some ((((Int32.toUInt32 ((wset w1 141 0 0).1 148 (Int32.toNatClampNeg x1))) % 65536).toInt32), (wset w1 141 0 0))) else none) else none) else (some (0, (wset w1 141 0 0)))))))
set_option maxRecDepth 100000 in
theorem W_X11_lineCharacter {g : GC} (hl : g.1.stackTraces = false) {x1 : Int32} {w : XW} : VE g cX11_lineCharacter 2 RX11 (some .char) [] (rmL 4 0 0) 0 0 oI 0 0 0 [(0, .ref (g.2.1 + 141)), (1, .int x1)] [] w (f_X11_lineCharacter x1 w) := by
  unfold f_X11_lineCharacter
  refine v_aload_n dX11_lineCharacter_0 rfl 0 rfl ?_
  refine v_iload_n dX11_lineCharacter_1 rfl 1 rfl ?_
  refine v_iconst (v := 0) dX11_lineCharacter_2 (by decide) ?_
  refine v_aload_n dX11_lineCharacter_3 rfl 0 rfl ?_
  refine v_getI fl_X11_274 tt_141 rfl dX11_lineCharacter_4 ?_
  refine v_iconst (v := 1) dX11_lineCharacter_7 (by decide) ?_
  refine v_isub dX11_lineCharacter_8 ?_
  refine v_callSi (As := [.int x1, .int 0, .int ((w.1 141 12) - 1)]) cs_X11_63 (S_X11_in hl) rfl rfl (Nat.le_of_ble_eq_true rfl) dX11_lineCharacter_9 (CR_rm (by decide) (by decide) (by decide) (by decide)) (fun r1 w1 => ?_)
  refine v_if_eq (tgt := 19) dX11_lineCharacter_12 (by decide) ?_ ?_
  · refine v_iconst (v := 1) dX11_lineCharacter_19 (by decide) ?_
    refine v_putI fl_X11_38 tt_141 rfl (ty0 := .int) rfl rfl rfl dX11_lineCharacter_20 ?_
    refine v_aload_n dX11_lineCharacter_23 rfl 0 rfl ?_
    refine v_getI fl_X11_38 tt_141 rfl dX11_lineCharacter_24 ?_
    refine v_if_le (tgt := 34) dX11_lineCharacter_27 (by decide) ?_ ?_
    · refine v_aload_n dX11_lineCharacter_34 rfl 0 rfl ?_
      refine v_getR fl_X11_28 tt_141 rfl dX11_lineCharacter_35 ?_
      refine v_iload_n dX11_lineCharacter_38 rfl 1 rfl ?_
      refine v_guard (fun h2 => ?_)
      refine v_iald tt_148 h2 dX11_lineCharacter_39 ?_
      refine v_i2c dX11_lineCharacter_40 ?_
      refine v_guard (fun h3 => ?_)
      exact v_zret dX11_lineCharacter_41 rfl (narC_ok h3) rfl (by decide) (by decide)
    · refine v_iconst (v := 0) dX11_lineCharacter_30 (by decide) ?_
      refine v_goto (tgt := 41) dX11_lineCharacter_31 (by decide) ?_
      exact v_zret dX11_lineCharacter_41 rfl rfl rfl (by decide) (by decide)
  · refine v_iconst (v := 0) dX11_lineCharacter_15 (by decide) ?_
    refine v_goto (tgt := 20) dX11_lineCharacter_16 (by decide) ?_
    refine v_putI fl_X11_38 tt_141 rfl (ty0 := .int) rfl rfl rfl dX11_lineCharacter_20 ?_
    refine v_aload_n dX11_lineCharacter_23 rfl 0 rfl ?_
    refine v_getI fl_X11_38 tt_141 rfl dX11_lineCharacter_24 ?_
    refine v_if_le (tgt := 34) dX11_lineCharacter_27 (by decide) ?_ ?_
    · refine v_aload_n dX11_lineCharacter_34 rfl 0 rfl ?_
      refine v_getR fl_X11_28 tt_141 rfl dX11_lineCharacter_35 ?_
      refine v_iload_n dX11_lineCharacter_38 rfl 1 rfl ?_
      refine v_guard (fun h4 => ?_)
      refine v_iald tt_148 h4 dX11_lineCharacter_39 ?_
      refine v_i2c dX11_lineCharacter_40 ?_
      refine v_guard (fun h5 => ?_)
      exact v_zret dX11_lineCharacter_41 rfl (narC_ok h5) rfl (by decide) (by decide)
    · refine v_iconst (v := 0) dX11_lineCharacter_30 (by decide) ?_
      refine v_goto (tgt := 41) dX11_lineCharacter_31 (by decide) ?_
      exact v_zret dX11_lineCharacter_41 rfl rfl rfl (by decide) (by decide)
theorem S_X11_lineCharacter {g : GC} (hl : g.1.stackTraces = false) {x1 : Int32} {w : XW} : ∀ q, f_X11_lineCharacter x1 w = some q → MM g (.code yX11_lineCharacter cX11_lineCharacter 2 (some .char)) yX11_lineCharacter (rmL 4 0 0) 0 0 [.ref (g.2.1 + 141), .int x1] w (oI q) := fun q hq => MM_of (own := RX11) hl (by decide) gw_1912 rfl (Nat.le_of_ble_eq_true rfl) (W_X11_lineCharacter hl q hq) ⟨rfl, rfl⟩

theorem dX11_denial_0 : decode cX11_denial 0 = .ok (.aload_n 0, 1) := by decide +kernel
theorem dX11_denial_1 : decode cX11_denial 1 = .ok (.iconst 0, 1) := by decide +kernel
theorem dX11_denial_2 : decode cX11_denial 2 = .ok (.putfield 38, 3) := by decide +kernel
theorem dX11_denial_5 : decode cX11_denial 5 = .ok (.aload_n 0, 1) := by decide +kernel
theorem dX11_denial_6 : decode cX11_denial 6 = .ok (.getfield 47, 3) := by decide +kernel
theorem dX11_denial_9 : decode cX11_denial 9 = .ok (.ifCond .ne 11, 3) := by decide +kernel
theorem dX11_denial_12 : decode cX11_denial 12 = .ok (.aload_n 0, 1) := by decide +kernel
theorem dX11_denial_13 : decode cX11_denial 13 = .ok (.iconst 1, 1) := by decide +kernel
theorem dX11_denial_14 : decode cX11_denial 14 = .ok (.invokevirtual 60, 3) := by decide +kernel
theorem dX11_denial_17 : decode cX11_denial 17 = .ok (.goto 7, 3) := by decide +kernel
theorem dX11_denial_20 : decode cX11_denial 20 = .ok (.aload_n 0, 1) := by decide +kernel
theorem dX11_denial_21 : decode cX11_denial 21 = .ok (.getfield 47, 3) := by decide +kernel
theorem dX11_denial_24 : decode cX11_denial 24 = .ok (.ireturn, 1) := by decide +kernel
def f_X11_denial (w : XW) : Option (Int32 × XW) := (if ((wset w 141 0 0).1 141 15) = 0 then (bI (f_X11_fails 1 (wset w 141 0 0)) (fun r1 w1 => (some (r1, w1)))) else (some (((wset w 141 0 0).1 141 15), (wset w 141 0 0))))
set_option maxRecDepth 100000 in
theorem W_X11_denial {g : GC} (hl : g.1.stackTraces = false) {w : XW} : VE g cX11_denial 1 RX11 (some .int) [] (rmL 4 0 0) 0 0 oI 0 0 0 [(0, .ref (g.2.1 + 141))] [] w (f_X11_denial  w) := by
  unfold f_X11_denial
  refine v_aload_n dX11_denial_0 rfl 0 rfl ?_
  refine v_iconst (v := 0) dX11_denial_1 (by decide) ?_
  refine v_putI fl_X11_38 tt_141 rfl (ty0 := .int) rfl rfl rfl dX11_denial_2 ?_
  refine v_aload_n dX11_denial_5 rfl 0 rfl ?_
  refine v_getI fl_X11_47 tt_141 rfl dX11_denial_6 ?_
  refine v_if_ne (tgt := 20) dX11_denial_9 (by decide) ?_ ?_
  · refine v_aload_n dX11_denial_20 rfl 0 rfl ?_
    refine v_getI fl_X11_47 tt_141 rfl dX11_denial_21 ?_
    exact v_iret dX11_denial_24 rfl rfl (by decide) (by decide)
  · refine v_aload_n dX11_denial_12 rfl 0 rfl ?_
    refine v_iconst (v := 1) dX11_denial_13 (by decide) ?_
    refine v_callVi (As := [.int 1]) cv_X11_60 (S_X11_fails hl) tt_141 rfl rfl rfl (Nat.le_of_ble_eq_true rfl) dX11_denial_14 (CR_rm (by decide) (by decide) (by decide) (by decide)) (fun r1 w1 => ?_)
    refine v_goto (tgt := 24) dX11_denial_17 (by decide) ?_
    exact v_iret dX11_denial_24 rfl rfl (by decide) (by decide)
theorem S_X11_denial {g : GC} (hl : g.1.stackTraces = false) {w : XW} : ∀ q, f_X11_denial  w = some q → MM g (.code yX11_denial cX11_denial 1 (some .int)) yX11_denial (rmL 4 0 0) 0 0 [.ref (g.2.1 + 141)] w (oI q) := fun q hq => MM_of (own := RX11) hl (by decide) gw_1916 rfl (Nat.le_of_ble_eq_true rfl) (W_X11_denial hl q hq) ⟨rfl, rfl⟩

theorem dX11_denialDetail_0 : decode cX11_denialDetail 0 = .ok (.aload_n 0, 1) := by decide +kernel
theorem dX11_denialDetail_1 : decode cX11_denialDetail 1 = .ok (.iconst 0, 1) := by decide +kernel
theorem dX11_denialDetail_2 : decode cX11_denialDetail 2 = .ok (.putfield 38, 3) := by decide +kernel
theorem dX11_denialDetail_5 : decode cX11_denialDetail 5 = .ok (.aload_n 0, 1) := by decide +kernel
theorem dX11_denialDetail_6 : decode cX11_denialDetail 6 = .ok (.getfield 47, 3) := by decide +kernel
theorem dX11_denialDetail_9 : decode cX11_denialDetail 9 = .ok (.ifCond .ne 11, 3) := by decide +kernel
theorem dX11_denialDetail_12 : decode cX11_denialDetail 12 = .ok (.aload_n 0, 1) := by decide +kernel
theorem dX11_denialDetail_13 : decode cX11_denialDetail 13 = .ok (.iconst 1, 1) := by decide +kernel
theorem dX11_denialDetail_14 : decode cX11_denialDetail 14 = .ok (.invokevirtual 60, 3) := by decide +kernel
theorem dX11_denialDetail_17 : decode cX11_denialDetail 17 = .ok (.goto 7, 3) := by decide +kernel
theorem dX11_denialDetail_20 : decode cX11_denialDetail 20 = .ok (.aload_n 0, 1) := by decide +kernel
theorem dX11_denialDetail_21 : decode cX11_denialDetail 21 = .ok (.getfield 50, 3) := by decide +kernel
theorem dX11_denialDetail_24 : decode cX11_denialDetail 24 = .ok (.ireturn, 1) := by decide +kernel
def f_X11_denialDetail (w : XW) : Option (Int32 × XW) := (if ((wset w 141 0 0).1 141 15) = 0 then (bI (f_X11_fails 1 (wset w 141 0 0)) (fun r1 w1 => (some (r1, w1)))) else (some (((wset w 141 0 0).1 141 16), (wset w 141 0 0))))
set_option maxRecDepth 100000 in
theorem W_X11_denialDetail {g : GC} (hl : g.1.stackTraces = false) {w : XW} : VE g cX11_denialDetail 1 RX11 (some .int) [] (rmL 4 0 0) 0 0 oI 0 0 0 [(0, .ref (g.2.1 + 141))] [] w (f_X11_denialDetail  w) := by
  unfold f_X11_denialDetail
  refine v_aload_n dX11_denialDetail_0 rfl 0 rfl ?_
  refine v_iconst (v := 0) dX11_denialDetail_1 (by decide) ?_
  refine v_putI fl_X11_38 tt_141 rfl (ty0 := .int) rfl rfl rfl dX11_denialDetail_2 ?_
  refine v_aload_n dX11_denialDetail_5 rfl 0 rfl ?_
  refine v_getI fl_X11_47 tt_141 rfl dX11_denialDetail_6 ?_
  refine v_if_ne (tgt := 20) dX11_denialDetail_9 (by decide) ?_ ?_
  · refine v_aload_n dX11_denialDetail_20 rfl 0 rfl ?_
    refine v_getI fl_X11_50 tt_141 rfl dX11_denialDetail_21 ?_
    exact v_iret dX11_denialDetail_24 rfl rfl (by decide) (by decide)
  · refine v_aload_n dX11_denialDetail_12 rfl 0 rfl ?_
    refine v_iconst (v := 1) dX11_denialDetail_13 (by decide) ?_
    refine v_callVi (As := [.int 1]) cv_X11_60 (S_X11_fails hl) tt_141 rfl rfl rfl (Nat.le_of_ble_eq_true rfl) dX11_denialDetail_14 (CR_rm (by decide) (by decide) (by decide) (by decide)) (fun r1 w1 => ?_)
    refine v_goto (tgt := 24) dX11_denialDetail_17 (by decide) ?_
    exact v_iret dX11_denialDetail_24 rfl rfl (by decide) (by decide)
theorem S_X11_denialDetail {g : GC} (hl : g.1.stackTraces = false) {w : XW} : ∀ q, f_X11_denialDetail  w = some q → MM g (.code yX11_denialDetail cX11_denialDetail 1 (some .int)) yX11_denialDetail (rmL 4 0 0) 0 0 [.ref (g.2.1 + 141)] w (oI q) := fun q hq => MM_of (own := RX11) hl (by decide) gw_1920 rfl (Nat.le_of_ble_eq_true rfl) (W_X11_denialDetail hl q hq) ⟨rfl, rfl⟩

theorem dX11_denialCause_0 : decode cX11_denialCause 0 = .ok (.aload_n 0, 1) := by decide +kernel
theorem dX11_denialCause_1 : decode cX11_denialCause 1 = .ok (.iconst 0, 1) := by decide +kernel
theorem dX11_denialCause_2 : decode cX11_denialCause 2 = .ok (.putfield 38, 3) := by decide +kernel
theorem dX11_denialCause_5 : decode cX11_denialCause 5 = .ok (.aload_n 0, 1) := by decide +kernel
theorem dX11_denialCause_6 : decode cX11_denialCause 6 = .ok (.getfield 53, 3) := by decide +kernel
theorem dX11_denialCause_9 : decode cX11_denialCause 9 = .ok (.ifCond .ne 11, 3) := by decide +kernel
theorem dX11_denialCause_12 : decode cX11_denialCause 12 = .ok (.aload_n 0, 1) := by decide +kernel
theorem dX11_denialCause_13 : decode cX11_denialCause 13 = .ok (.iconst 1, 1) := by decide +kernel
theorem dX11_denialCause_14 : decode cX11_denialCause 14 = .ok (.invokevirtual 60, 3) := by decide +kernel
theorem dX11_denialCause_17 : decode cX11_denialCause 17 = .ok (.goto 7, 3) := by decide +kernel
theorem dX11_denialCause_20 : decode cX11_denialCause 20 = .ok (.aload_n 0, 1) := by decide +kernel
theorem dX11_denialCause_21 : decode cX11_denialCause 21 = .ok (.getfield 53, 3) := by decide +kernel
theorem dX11_denialCause_24 : decode cX11_denialCause 24 = .ok (.ireturn, 1) := by decide +kernel
def f_X11_denialCause (w : XW) : Option (Int32 × XW) := (if ((wset w 141 0 0).1 141 17) = 0 then (bI (f_X11_fails 1 (wset w 141 0 0)) (fun r1 w1 => (some (r1, w1)))) else (some (((wset w 141 0 0).1 141 17), (wset w 141 0 0))))
set_option maxRecDepth 100000 in
theorem W_X11_denialCause {g : GC} (hl : g.1.stackTraces = false) {w : XW} : VE g cX11_denialCause 1 RX11 (some .int) [] (rmL 4 0 0) 0 0 oI 0 0 0 [(0, .ref (g.2.1 + 141))] [] w (f_X11_denialCause  w) := by
  unfold f_X11_denialCause
  refine v_aload_n dX11_denialCause_0 rfl 0 rfl ?_
  refine v_iconst (v := 0) dX11_denialCause_1 (by decide) ?_
  refine v_putI fl_X11_38 tt_141 rfl (ty0 := .int) rfl rfl rfl dX11_denialCause_2 ?_
  refine v_aload_n dX11_denialCause_5 rfl 0 rfl ?_
  refine v_getI fl_X11_53 tt_141 rfl dX11_denialCause_6 ?_
  refine v_if_ne (tgt := 20) dX11_denialCause_9 (by decide) ?_ ?_
  · refine v_aload_n dX11_denialCause_20 rfl 0 rfl ?_
    refine v_getI fl_X11_53 tt_141 rfl dX11_denialCause_21 ?_
    exact v_iret dX11_denialCause_24 rfl rfl (by decide) (by decide)
  · refine v_aload_n dX11_denialCause_12 rfl 0 rfl ?_
    refine v_iconst (v := 1) dX11_denialCause_13 (by decide) ?_
    refine v_callVi (As := [.int 1]) cv_X11_60 (S_X11_fails hl) tt_141 rfl rfl rfl (Nat.le_of_ble_eq_true rfl) dX11_denialCause_14 (CR_rm (by decide) (by decide) (by decide) (by decide)) (fun r1 w1 => ?_)
    refine v_goto (tgt := 24) dX11_denialCause_17 (by decide) ?_
    exact v_iret dX11_denialCause_24 rfl rfl (by decide) (by decide)
theorem S_X11_denialCause {g : GC} (hl : g.1.stackTraces = false) {w : XW} : ∀ q, f_X11_denialCause  w = some q → MM g (.code yX11_denialCause cX11_denialCause 1 (some .int)) yX11_denialCause (rmL 4 0 0) 0 0 [.ref (g.2.1 + 141)] w (oI q) := fun q hq => MM_of (own := RX11) hl (by decide) gw_1924 rfl (Nat.le_of_ble_eq_true rfl) (W_X11_denialCause hl q hq) ⟨rfl, rfl⟩

theorem dX11_undo_0 : decode cX11_undo 0 = .ok (.aload_n 0, 1) := by decide +kernel
theorem dX11_undo_1 : decode cX11_undo 1 = .ok (.iconst 0, 1) := by decide +kernel
theorem dX11_undo_2 : decode cX11_undo 2 = .ok (.putfield 38, 3) := by decide +kernel
theorem dX11_undo_5 : decode cX11_undo 5 = .ok (.aload_n 0, 1) := by decide +kernel
theorem dX11_undo_6 : decode cX11_undo 6 = .ok (.getfield 41, 3) := by decide +kernel
theorem dX11_undo_9 : decode cX11_undo 9 = .ok (.ifCond .ne 9, 3) := by decide +kernel
theorem dX11_undo_12 : decode cX11_undo 12 = .ok (.aload_n 0, 1) := by decide +kernel
theorem dX11_undo_13 : decode cX11_undo 13 = .ok (.iconst 1, 1) := by decide +kernel
theorem dX11_undo_14 : decode cX11_undo 14 = .ok (.invokevirtual 60, 3) := by decide +kernel
theorem dX11_undo_17 : decode cX11_undo 17 = .ok (.ireturn, 1) := by decide +kernel
theorem dX11_undo_18 : decode cX11_undo 18 = .ok (.aload_n 0, 1) := by decide +kernel
theorem dX11_undo_19 : decode cX11_undo 19 = .ok (.dup, 1) := by decide +kernel
theorem dX11_undo_20 : decode cX11_undo 20 = .ok (.getfield 41, 3) := by decide +kernel
theorem dX11_undo_23 : decode cX11_undo 23 = .ok (.iconst 1, 1) := by decide +kernel
theorem dX11_undo_24 : decode cX11_undo 24 = .ok (.isub, 1) := by decide +kernel
theorem dX11_undo_25 : decode cX11_undo 25 = .ok (.putfield 41, 3) := by decide +kernel
theorem dX11_undo_28 : decode cX11_undo 28 = .ok (.iconst 0, 1) := by decide +kernel
theorem dX11_undo_29 : decode cX11_undo 29 = .ok (.istore_n 1, 1) := by decide +kernel
theorem dX11_undo_30 : decode cX11_undo 30 = .ok (.iload_n 1, 1) := by decide +kernel
theorem dX11_undo_31 : decode cX11_undo 31 = .ok (.bipush 66, 2) := by decide +kernel
theorem dX11_undo_33 : decode cX11_undo 33 = .ok (.if_icmp .ge 29, 3) := by decide +kernel
theorem dX11_undo_36 : decode cX11_undo 36 = .ok (.aload_n 0, 1) := by decide +kernel
theorem dX11_undo_37 : decode cX11_undo 37 = .ok (.getfield 7, 3) := by decide +kernel
theorem dX11_undo_40 : decode cX11_undo 40 = .ok (.iload_n 1, 1) := by decide +kernel
theorem dX11_undo_41 : decode cX11_undo 41 = .ok (.aload_n 0, 1) := by decide +kernel
theorem dX11_undo_42 : decode cX11_undo 42 = .ok (.getfield 19, 3) := by decide +kernel
theorem dX11_undo_45 : decode cX11_undo 45 = .ok (.bipush 66, 2) := by decide +kernel
theorem dX11_undo_47 : decode cX11_undo 47 = .ok (.aload_n 0, 1) := by decide +kernel
theorem dX11_undo_48 : decode cX11_undo 48 = .ok (.getfield 41, 3) := by decide +kernel
theorem dX11_undo_51 : decode cX11_undo 51 = .ok (.imul, 1) := by decide +kernel
theorem dX11_undo_52 : decode cX11_undo 52 = .ok (.iload_n 1, 1) := by decide +kernel
theorem dX11_undo_53 : decode cX11_undo 53 = .ok (.iadd, 1) := by decide +kernel
theorem dX11_undo_54 : decode cX11_undo 54 = .ok (.iaload, 1) := by decide +kernel
theorem dX11_undo_55 : decode cX11_undo 55 = .ok (.iastore, 1) := by decide +kernel
theorem dX11_undo_56 : decode cX11_undo 56 = .ok (.iinc 1 1, 3) := by decide +kernel
theorem dX11_undo_59 : decode cX11_undo 59 = .ok (.goto (-29), 3) := by decide +kernel
theorem dX11_undo_62 : decode cX11_undo 62 = .ok (.aload_n 0, 1) := by decide +kernel
theorem dX11_undo_63 : decode cX11_undo 63 = .ok (.getfield 41, 3) := by decide +kernel
theorem dX11_undo_66 : decode cX11_undo 66 = .ok (.ireturn, 1) := by decide +kernel
def f_X11_undo_30 : Nat → Int32 → XW → Option (Int32 × XW)
  | 0, _, _ => none
  | n + 1, z1, w => (if 66 ≤ z1 then (some ((w.1 141 5), w)) else (if inB ((66 * (w.1 141 5)) + z1) 528 then (if inB z1 66 then (f_X11_undo_30 n (z1 + 1) (wset w 142 (Int32.toNatClampNeg z1) (w.1 145 (Int32.toNatClampNeg ((66 * (w.1 141 5)) + z1))))) else none) else none))
set_option maxRecDepth 100000 in
theorem S_X11_undo_30 {g : GC} (hl : g.1.stackTraces = false) : ∀ (n : Nat) (z1 : Int32) (w : XW), VE g cX11_undo 2 RX11 (some .int) [] (rmL 4 0 0) 0 0 oI 0 0 30 [(0, .ref (g.2.1 + 141)), (1, .int z1)] [] w (f_X11_undo_30  n z1 w) := by
  intro n
  induction n with
  | zero => intro z1 w; exact v_none
  | succ n ih =>
    intro z1 w
    rw [f_X11_undo_30]
    refine v_iload_n dX11_undo_30 rfl 1 rfl ?_
    refine v_bipush (v := 66) dX11_undo_31 (by decide) ?_
    refine v_icmp_ge (tgt := 62) dX11_undo_33 (by decide) ?_ ?_
    · refine v_aload_n dX11_undo_62 rfl 0 rfl ?_
      refine v_getI fl_X11_41 tt_141 rfl dX11_undo_63 ?_
      exact v_iret dX11_undo_66 rfl rfl (by decide) (by decide)
    · refine v_aload_n dX11_undo_36 rfl 0 rfl ?_
      refine v_getR fl_X11_7 tt_141 rfl dX11_undo_37 ?_
      refine v_iload_n dX11_undo_40 rfl 1 rfl ?_
      refine v_aload_n dX11_undo_41 rfl 0 rfl ?_
      refine v_getR fl_X11_19 tt_141 rfl dX11_undo_42 ?_
      refine v_bipush (v := 66) dX11_undo_45 (by decide) ?_
      refine v_aload_n dX11_undo_47 rfl 0 rfl ?_
      refine v_getI fl_X11_41 tt_141 rfl dX11_undo_48 ?_
      refine v_imul dX11_undo_51 ?_
      refine v_iload_n dX11_undo_52 rfl 1 rfl ?_
      refine v_iadd dX11_undo_53 ?_
      refine v_guard (fun h2 => ?_)
      refine v_iald tt_145 h2 dX11_undo_54 ?_
      refine v_guard (fun h3 => ?_)
      refine v_iast tt_142 h3 dX11_undo_55 ?_
      refine v_iinc (v := (z1 + 1)) dX11_undo_56 (q := 1) rfl rfl (Nat.le_of_ble_eq_true rfl) rfl ?_
      refine v_goto (tgt := 30) dX11_undo_59 (by decide) ?_
      refine v_sub [1, 0] rfl ?_
      exact ih _ _
def f_X11_undo (w : XW) : Option (Int32 × XW) := (if ((wset w 141 0 0).1 141 5) = 0 then (bI (f_X11_fails 1 (wset w 141 0 0)) (fun r1 w1 => (some (r1, w1)))) else (f_X11_undo_30 1000 0 (wset (wset w 141 0 0) 141 5 (((wset w 141 0 0).1 141 5) - 1))))
set_option maxRecDepth 100000 in
theorem W_X11_undo {g : GC} (hl : g.1.stackTraces = false) {w : XW} : VE g cX11_undo 2 RX11 (some .int) [] (rmL 4 0 0) 0 0 oI 0 0 0 [(0, .ref (g.2.1 + 141))] [] w (f_X11_undo  w) := by
  unfold f_X11_undo
  refine v_aload_n dX11_undo_0 rfl 0 rfl ?_
  refine v_iconst (v := 0) dX11_undo_1 (by decide) ?_
  refine v_putI fl_X11_38 tt_141 rfl (ty0 := .int) rfl rfl rfl dX11_undo_2 ?_
  refine v_aload_n dX11_undo_5 rfl 0 rfl ?_
  refine v_getI fl_X11_41 tt_141 rfl dX11_undo_6 ?_
  refine v_if_ne (tgt := 18) dX11_undo_9 (by decide) ?_ ?_
  · refine v_aload_n dX11_undo_18 rfl 0 rfl ?_
    refine v_dup dX11_undo_19 rfl ?_
    refine v_getI fl_X11_41 tt_141 rfl dX11_undo_20 ?_
    refine v_iconst (v := 1) dX11_undo_23 (by decide) ?_
    refine v_isub dX11_undo_24 ?_
    refine v_putI fl_X11_41 tt_141 rfl (ty0 := .int) rfl rfl rfl dX11_undo_25 ?_
    refine v_iconst (v := 0) dX11_undo_28 (by decide) ?_
    refine v_istore_n dX11_undo_29 rfl (Nat.le_of_ble_eq_true rfl) rfl ?_
    refine v_sub [1, 0] rfl ?_
    exact S_X11_undo_30 hl  _ _ _
  · refine v_aload_n dX11_undo_12 rfl 0 rfl ?_
    refine v_iconst (v := 1) dX11_undo_13 (by decide) ?_
    refine v_callVi (As := [.int 1]) cv_X11_60 (S_X11_fails hl) tt_141 rfl rfl rfl (Nat.le_of_ble_eq_true rfl) dX11_undo_14 (CR_rm (by decide) (by decide) (by decide) (by decide)) (fun r1 w1 => ?_)
    exact v_iret dX11_undo_17 rfl rfl (by decide) (by decide)
theorem S_X11_undo {g : GC} (hl : g.1.stackTraces = false) {w : XW} : ∀ q, f_X11_undo  w = some q → MM g (.code yX11_undo cX11_undo 2 (some .int)) yX11_undo (rmL 4 0 0) 0 0 [.ref (g.2.1 + 141)] w (oI q) := fun q hq => MM_of (own := RX11) hl (by decide) gw_1928 rfl (Nat.le_of_ble_eq_true rfl) (W_X11_undo hl q hq) ⟨rfl, rfl⟩

theorem dX11_undoCount_0 : decode cX11_undoCount 0 = .ok (.aload_n 0, 1) := by decide +kernel
theorem dX11_undoCount_1 : decode cX11_undoCount 1 = .ok (.iconst 0, 1) := by decide +kernel
theorem dX11_undoCount_2 : decode cX11_undoCount 2 = .ok (.putfield 38, 3) := by decide +kernel
theorem dX11_undoCount_5 : decode cX11_undoCount 5 = .ok (.aload_n 0, 1) := by decide +kernel
theorem dX11_undoCount_6 : decode cX11_undoCount 6 = .ok (.getfield 41, 3) := by decide +kernel
theorem dX11_undoCount_9 : decode cX11_undoCount 9 = .ok (.ireturn, 1) := by decide +kernel
def f_X11_undoCount (w : XW) : Option (Int32 × XW) := (some (((wset w 141 0 0).1 141 5), (wset w 141 0 0)))
set_option maxRecDepth 100000 in
theorem W_X11_undoCount {g : GC} (hl : g.1.stackTraces = false) {w : XW} : VE g cX11_undoCount 1 RX11 (some .int) [] (rmL 3 0 0) 0 0 oI 0 0 0 [(0, .ref (g.2.1 + 141))] [] w (f_X11_undoCount  w) := by
  unfold f_X11_undoCount
  refine v_aload_n dX11_undoCount_0 rfl 0 rfl ?_
  refine v_iconst (v := 0) dX11_undoCount_1 (by decide) ?_
  refine v_putI fl_X11_38 tt_141 rfl (ty0 := .int) rfl rfl rfl dX11_undoCount_2 ?_
  refine v_aload_n dX11_undoCount_5 rfl 0 rfl ?_
  refine v_getI fl_X11_41 tt_141 rfl dX11_undoCount_6 ?_
  exact v_iret dX11_undoCount_9 rfl rfl (by decide) (by decide)
theorem S_X11_undoCount {g : GC} (hl : g.1.stackTraces = false) {w : XW} : ∀ q, f_X11_undoCount  w = some q → MM g (.code yX11_undoCount cX11_undoCount 1 (some .int)) yX11_undoCount (rmL 3 0 0) 0 0 [.ref (g.2.1 + 141)] w (oI q) := fun q hq => MM_of (own := RX11) hl (by decide) gw_1932 rfl (Nat.le_of_ble_eq_true rfl) (W_X11_undoCount hl q hq) ⟨rfl, rfl⟩

theorem dX11_saveSnapshot_0 : decode cX11_saveSnapshot 0 = .ok (.aload_n 0, 1) := by decide +kernel
theorem dX11_saveSnapshot_1 : decode cX11_saveSnapshot 1 = .ok (.iconst 0, 1) := by decide +kernel
theorem dX11_saveSnapshot_2 : decode cX11_saveSnapshot 2 = .ok (.putfield 38, 3) := by decide +kernel
theorem dX11_saveSnapshot_5 : decode cX11_saveSnapshot 5 = .ok (.iconst 0, 1) := by decide +kernel
theorem dX11_saveSnapshot_6 : decode cX11_saveSnapshot 6 = .ok (.istore_n 1, 1) := by decide +kernel
theorem dX11_saveSnapshot_7 : decode cX11_saveSnapshot 7 = .ok (.iload_n 1, 1) := by decide +kernel
theorem dX11_saveSnapshot_8 : decode cX11_saveSnapshot 8 = .ok (.bipush 66, 2) := by decide +kernel
theorem dX11_saveSnapshot_10 : decode cX11_saveSnapshot 10 = .ok (.if_icmp .ge 21, 3) := by decide +kernel
theorem dX11_saveSnapshot_13 : decode cX11_saveSnapshot 13 = .ok (.aload_n 0, 1) := by decide +kernel
theorem dX11_saveSnapshot_14 : decode cX11_saveSnapshot 14 = .ok (.getfield 16, 3) := by decide +kernel
theorem dX11_saveSnapshot_17 : decode cX11_saveSnapshot 17 = .ok (.iload_n 1, 1) := by decide +kernel
theorem dX11_saveSnapshot_18 : decode cX11_saveSnapshot 18 = .ok (.aload_n 0, 1) := by decide +kernel
theorem dX11_saveSnapshot_19 : decode cX11_saveSnapshot 19 = .ok (.getfield 7, 3) := by decide +kernel
theorem dX11_saveSnapshot_22 : decode cX11_saveSnapshot 22 = .ok (.iload_n 1, 1) := by decide +kernel
theorem dX11_saveSnapshot_23 : decode cX11_saveSnapshot 23 = .ok (.iaload, 1) := by decide +kernel
theorem dX11_saveSnapshot_24 : decode cX11_saveSnapshot 24 = .ok (.iastore, 1) := by decide +kernel
theorem dX11_saveSnapshot_25 : decode cX11_saveSnapshot 25 = .ok (.iinc 1 1, 3) := by decide +kernel
theorem dX11_saveSnapshot_28 : decode cX11_saveSnapshot 28 = .ok (.goto (-21), 3) := by decide +kernel
theorem dX11_saveSnapshot_31 : decode cX11_saveSnapshot 31 = .ok (.aload_n 0, 1) := by decide +kernel
theorem dX11_saveSnapshot_32 : decode cX11_saveSnapshot 32 = .ok (.iconst 1, 1) := by decide +kernel
theorem dX11_saveSnapshot_33 : decode cX11_saveSnapshot 33 = .ok (.putfield 280, 3) := by decide +kernel
theorem dX11_saveSnapshot_36 : decode cX11_saveSnapshot 36 = .ok (.aload_n 0, 1) := by decide +kernel
theorem dX11_saveSnapshot_37 : decode cX11_saveSnapshot 37 = .ok (.getfield 7, 3) := by decide +kernel
theorem dX11_saveSnapshot_40 : decode cX11_saveSnapshot 40 = .ok (.iconst 0, 1) := by decide +kernel
theorem dX11_saveSnapshot_41 : decode cX11_saveSnapshot 41 = .ok (.iaload, 1) := by decide +kernel
theorem dX11_saveSnapshot_42 : decode cX11_saveSnapshot 42 = .ok (.ireturn, 1) := by decide +kernel
def f_X11_saveSnapshot_7 : Nat → Int32 → XW → Option (Int32 × XW)
  | 0, _, _ => none
  | n + 1, z1, w => (if 66 ≤ z1 then (some (((wset w 141 6 1).1 142 (Int32.toNatClampNeg 0)), (wset w 141 6 1))) else (if inB z1 66 then (if inB z1 66 then (f_X11_saveSnapshot_7 n (z1 + 1) (wset w 144 (Int32.toNatClampNeg z1) (w.1 142 (Int32.toNatClampNeg z1)))) else none) else none))
set_option maxRecDepth 100000 in
theorem S_X11_saveSnapshot_7 {g : GC} (hl : g.1.stackTraces = false) : ∀ (n : Nat) (z1 : Int32) (w : XW), VE g cX11_saveSnapshot 2 RX11 (some .int) [] (rmL 3 0 0) 0 0 oI 0 0 7 [(0, .ref (g.2.1 + 141)), (1, .int z1)] [] w (f_X11_saveSnapshot_7  n z1 w) := by
  intro n
  induction n with
  | zero => intro z1 w; exact v_none
  | succ n ih =>
    intro z1 w
    rw [f_X11_saveSnapshot_7]
    refine v_iload_n dX11_saveSnapshot_7 rfl 1 rfl ?_
    refine v_bipush (v := 66) dX11_saveSnapshot_8 (by decide) ?_
    refine v_icmp_ge (tgt := 31) dX11_saveSnapshot_10 (by decide) ?_ ?_
    · refine v_aload_n dX11_saveSnapshot_31 rfl 0 rfl ?_
      refine v_iconst (v := 1) dX11_saveSnapshot_32 (by decide) ?_
      refine v_putI fl_X11_280 tt_141 rfl (ty0 := .boolean) rfl rfl rfl dX11_saveSnapshot_33 ?_
      refine v_aload_n dX11_saveSnapshot_36 rfl 0 rfl ?_
      refine v_getR fl_X11_7 tt_141 rfl dX11_saveSnapshot_37 ?_
      refine v_iconst (v := 0) dX11_saveSnapshot_40 (by decide) ?_
      refine v_iald tt_142 (by decide : inB 0 66) dX11_saveSnapshot_41 ?_
      exact v_iret dX11_saveSnapshot_42 rfl rfl (by decide) (by decide)
    · refine v_aload_n dX11_saveSnapshot_13 rfl 0 rfl ?_
      refine v_getR fl_X11_16 tt_141 rfl dX11_saveSnapshot_14 ?_
      refine v_iload_n dX11_saveSnapshot_17 rfl 1 rfl ?_
      refine v_aload_n dX11_saveSnapshot_18 rfl 0 rfl ?_
      refine v_getR fl_X11_7 tt_141 rfl dX11_saveSnapshot_19 ?_
      refine v_iload_n dX11_saveSnapshot_22 rfl 1 rfl ?_
      refine v_guard (fun h1 => ?_)
      refine v_iald tt_142 h1 dX11_saveSnapshot_23 ?_
      refine v_guard (fun h2 => ?_)
      refine v_iast tt_144 h2 dX11_saveSnapshot_24 ?_
      refine v_iinc (v := (z1 + 1)) dX11_saveSnapshot_25 (q := 1) rfl rfl (Nat.le_of_ble_eq_true rfl) rfl ?_
      refine v_goto (tgt := 7) dX11_saveSnapshot_28 (by decide) ?_
      refine v_sub [1, 0] rfl ?_
      exact ih _ _
def f_X11_saveSnapshot (w : XW) : Option (Int32 × XW) := (f_X11_saveSnapshot_7 1000 0 (wset w 141 0 0))
set_option maxRecDepth 100000 in
theorem W_X11_saveSnapshot {g : GC} (hl : g.1.stackTraces = false) {w : XW} : VE g cX11_saveSnapshot 2 RX11 (some .int) [] (rmL 3 0 0) 0 0 oI 0 0 0 [(0, .ref (g.2.1 + 141))] [] w (f_X11_saveSnapshot  w) := by
  unfold f_X11_saveSnapshot
  refine v_aload_n dX11_saveSnapshot_0 rfl 0 rfl ?_
  refine v_iconst (v := 0) dX11_saveSnapshot_1 (by decide) ?_
  refine v_putI fl_X11_38 tt_141 rfl (ty0 := .int) rfl rfl rfl dX11_saveSnapshot_2 ?_
  refine v_iconst (v := 0) dX11_saveSnapshot_5 (by decide) ?_
  refine v_istore_n dX11_saveSnapshot_6 rfl (Nat.le_of_ble_eq_true rfl) rfl ?_
  refine v_sub [1, 0] rfl ?_
  exact S_X11_saveSnapshot_7 hl  _ _ _
theorem S_X11_saveSnapshot {g : GC} (hl : g.1.stackTraces = false) {w : XW} : ∀ q, f_X11_saveSnapshot  w = some q → MM g (.code yX11_saveSnapshot cX11_saveSnapshot 2 (some .int)) yX11_saveSnapshot (rmL 3 0 0) 0 0 [.ref (g.2.1 + 141)] w (oI q) := fun q hq => MM_of (own := RX11) hl (by decide) gw_1936 rfl (Nat.le_of_ble_eq_true rfl) (W_X11_saveSnapshot hl q hq) ⟨rfl, rfl⟩

theorem dX11_restoreSnapshot_0 : decode cX11_restoreSnapshot 0 = .ok (.aload_n 0, 1) := by decide +kernel
theorem dX11_restoreSnapshot_1 : decode cX11_restoreSnapshot 1 = .ok (.iconst 0, 1) := by decide +kernel
theorem dX11_restoreSnapshot_2 : decode cX11_restoreSnapshot 2 = .ok (.putfield 38, 3) := by decide +kernel
theorem dX11_restoreSnapshot_5 : decode cX11_restoreSnapshot 5 = .ok (.aload_n 0, 1) := by decide +kernel
theorem dX11_restoreSnapshot_6 : decode cX11_restoreSnapshot 6 = .ok (.getfield 280, 3) := by decide +kernel
theorem dX11_restoreSnapshot_9 : decode cX11_restoreSnapshot 9 = .ok (.ifCond .ne 9, 3) := by decide +kernel
theorem dX11_restoreSnapshot_12 : decode cX11_restoreSnapshot 12 = .ok (.aload_n 0, 1) := by decide +kernel
theorem dX11_restoreSnapshot_13 : decode cX11_restoreSnapshot 13 = .ok (.iconst 1, 1) := by decide +kernel
theorem dX11_restoreSnapshot_14 : decode cX11_restoreSnapshot 14 = .ok (.invokevirtual 60, 3) := by decide +kernel
theorem dX11_restoreSnapshot_17 : decode cX11_restoreSnapshot 17 = .ok (.ireturn, 1) := by decide +kernel
theorem dX11_restoreSnapshot_18 : decode cX11_restoreSnapshot 18 = .ok (.iconst 0, 1) := by decide +kernel
theorem dX11_restoreSnapshot_19 : decode cX11_restoreSnapshot 19 = .ok (.istore_n 1, 1) := by decide +kernel
theorem dX11_restoreSnapshot_20 : decode cX11_restoreSnapshot 20 = .ok (.iload_n 1, 1) := by decide +kernel
theorem dX11_restoreSnapshot_21 : decode cX11_restoreSnapshot 21 = .ok (.bipush 66, 2) := by decide +kernel
theorem dX11_restoreSnapshot_23 : decode cX11_restoreSnapshot 23 = .ok (.if_icmp .ge 21, 3) := by decide +kernel
theorem dX11_restoreSnapshot_26 : decode cX11_restoreSnapshot 26 = .ok (.aload_n 0, 1) := by decide +kernel
theorem dX11_restoreSnapshot_27 : decode cX11_restoreSnapshot 27 = .ok (.getfield 7, 3) := by decide +kernel
theorem dX11_restoreSnapshot_30 : decode cX11_restoreSnapshot 30 = .ok (.iload_n 1, 1) := by decide +kernel
theorem dX11_restoreSnapshot_31 : decode cX11_restoreSnapshot 31 = .ok (.aload_n 0, 1) := by decide +kernel
theorem dX11_restoreSnapshot_32 : decode cX11_restoreSnapshot 32 = .ok (.getfield 16, 3) := by decide +kernel
theorem dX11_restoreSnapshot_35 : decode cX11_restoreSnapshot 35 = .ok (.iload_n 1, 1) := by decide +kernel
theorem dX11_restoreSnapshot_36 : decode cX11_restoreSnapshot 36 = .ok (.iaload, 1) := by decide +kernel
theorem dX11_restoreSnapshot_37 : decode cX11_restoreSnapshot 37 = .ok (.iastore, 1) := by decide +kernel
theorem dX11_restoreSnapshot_38 : decode cX11_restoreSnapshot 38 = .ok (.iinc 1 1, 3) := by decide +kernel
theorem dX11_restoreSnapshot_41 : decode cX11_restoreSnapshot 41 = .ok (.goto (-21), 3) := by decide +kernel
theorem dX11_restoreSnapshot_44 : decode cX11_restoreSnapshot 44 = .ok (.aload_n 0, 1) := by decide +kernel
theorem dX11_restoreSnapshot_45 : decode cX11_restoreSnapshot 45 = .ok (.iconst 0, 1) := by decide +kernel
theorem dX11_restoreSnapshot_46 : decode cX11_restoreSnapshot 46 = .ok (.putfield 41, 3) := by decide +kernel
theorem dX11_restoreSnapshot_49 : decode cX11_restoreSnapshot 49 = .ok (.aload_n 0, 1) := by decide +kernel
theorem dX11_restoreSnapshot_50 : decode cX11_restoreSnapshot 50 = .ok (.getfield 7, 3) := by decide +kernel
theorem dX11_restoreSnapshot_53 : decode cX11_restoreSnapshot 53 = .ok (.iconst 0, 1) := by decide +kernel
theorem dX11_restoreSnapshot_54 : decode cX11_restoreSnapshot 54 = .ok (.iaload, 1) := by decide +kernel
theorem dX11_restoreSnapshot_55 : decode cX11_restoreSnapshot 55 = .ok (.ireturn, 1) := by decide +kernel
def f_X11_restoreSnapshot_20 : Nat → Int32 → XW → Option (Int32 × XW)
  | 0, _, _ => none
  | n + 1, z1, w => (if 66 ≤ z1 then (some (((wset w 141 5 0).1 142 (Int32.toNatClampNeg 0)), (wset w 141 5 0))) else (if inB z1 66 then (if inB z1 66 then (f_X11_restoreSnapshot_20 n (z1 + 1) (wset w 142 (Int32.toNatClampNeg z1) (w.1 144 (Int32.toNatClampNeg z1)))) else none) else none))
set_option maxRecDepth 100000 in
theorem S_X11_restoreSnapshot_20 {g : GC} (hl : g.1.stackTraces = false) : ∀ (n : Nat) (z1 : Int32) (w : XW), VE g cX11_restoreSnapshot 2 RX11 (some .int) [] (rmL 4 0 0) 0 0 oI 0 0 20 [(0, .ref (g.2.1 + 141)), (1, .int z1)] [] w (f_X11_restoreSnapshot_20  n z1 w) := by
  intro n
  induction n with
  | zero => intro z1 w; exact v_none
  | succ n ih =>
    intro z1 w
    rw [f_X11_restoreSnapshot_20]
    refine v_iload_n dX11_restoreSnapshot_20 rfl 1 rfl ?_
    refine v_bipush (v := 66) dX11_restoreSnapshot_21 (by decide) ?_
    refine v_icmp_ge (tgt := 44) dX11_restoreSnapshot_23 (by decide) ?_ ?_
    · refine v_aload_n dX11_restoreSnapshot_44 rfl 0 rfl ?_
      refine v_iconst (v := 0) dX11_restoreSnapshot_45 (by decide) ?_
      refine v_putI fl_X11_41 tt_141 rfl (ty0 := .int) rfl rfl rfl dX11_restoreSnapshot_46 ?_
      refine v_aload_n dX11_restoreSnapshot_49 rfl 0 rfl ?_
      refine v_getR fl_X11_7 tt_141 rfl dX11_restoreSnapshot_50 ?_
      refine v_iconst (v := 0) dX11_restoreSnapshot_53 (by decide) ?_
      refine v_iald tt_142 (by decide : inB 0 66) dX11_restoreSnapshot_54 ?_
      exact v_iret dX11_restoreSnapshot_55 rfl rfl (by decide) (by decide)
    · refine v_aload_n dX11_restoreSnapshot_26 rfl 0 rfl ?_
      refine v_getR fl_X11_7 tt_141 rfl dX11_restoreSnapshot_27 ?_
      refine v_iload_n dX11_restoreSnapshot_30 rfl 1 rfl ?_
      refine v_aload_n dX11_restoreSnapshot_31 rfl 0 rfl ?_
      refine v_getR fl_X11_16 tt_141 rfl dX11_restoreSnapshot_32 ?_
      refine v_iload_n dX11_restoreSnapshot_35 rfl 1 rfl ?_
      refine v_guard (fun h2 => ?_)
      refine v_iald tt_144 h2 dX11_restoreSnapshot_36 ?_
      refine v_guard (fun h3 => ?_)
      refine v_iast tt_142 h3 dX11_restoreSnapshot_37 ?_
      refine v_iinc (v := (z1 + 1)) dX11_restoreSnapshot_38 (q := 1) rfl rfl (Nat.le_of_ble_eq_true rfl) rfl ?_
      refine v_goto (tgt := 20) dX11_restoreSnapshot_41 (by decide) ?_
      refine v_sub [1, 0] rfl ?_
      exact ih _ _
def f_X11_restoreSnapshot (w : XW) : Option (Int32 × XW) := (if ((wset w 141 0 0).1 141 6) = 0 then (bI (f_X11_fails 1 (wset w 141 0 0)) (fun r1 w1 => (some (r1, w1)))) else (f_X11_restoreSnapshot_20 1000 0 (wset w 141 0 0)))
set_option maxRecDepth 100000 in
theorem W_X11_restoreSnapshot {g : GC} (hl : g.1.stackTraces = false) {w : XW} : VE g cX11_restoreSnapshot 2 RX11 (some .int) [] (rmL 4 0 0) 0 0 oI 0 0 0 [(0, .ref (g.2.1 + 141))] [] w (f_X11_restoreSnapshot  w) := by
  unfold f_X11_restoreSnapshot
  refine v_aload_n dX11_restoreSnapshot_0 rfl 0 rfl ?_
  refine v_iconst (v := 0) dX11_restoreSnapshot_1 (by decide) ?_
  refine v_putI fl_X11_38 tt_141 rfl (ty0 := .int) rfl rfl rfl dX11_restoreSnapshot_2 ?_
  refine v_aload_n dX11_restoreSnapshot_5 rfl 0 rfl ?_
  refine v_getI fl_X11_280 tt_141 rfl dX11_restoreSnapshot_6 ?_
  refine v_if_ne (tgt := 18) dX11_restoreSnapshot_9 (by decide) ?_ ?_
  · refine v_iconst (v := 0) dX11_restoreSnapshot_18 (by decide) ?_
    refine v_istore_n dX11_restoreSnapshot_19 rfl (Nat.le_of_ble_eq_true rfl) rfl ?_
    refine v_sub [1, 0] rfl ?_
    exact S_X11_restoreSnapshot_20 hl  _ _ _
  · refine v_aload_n dX11_restoreSnapshot_12 rfl 0 rfl ?_
    refine v_iconst (v := 1) dX11_restoreSnapshot_13 (by decide) ?_
    refine v_callVi (As := [.int 1]) cv_X11_60 (S_X11_fails hl) tt_141 rfl rfl rfl (Nat.le_of_ble_eq_true rfl) dX11_restoreSnapshot_14 (CR_rm (by decide) (by decide) (by decide) (by decide)) (fun r1 w1 => ?_)
    exact v_iret dX11_restoreSnapshot_17 rfl rfl (by decide) (by decide)
theorem S_X11_restoreSnapshot {g : GC} (hl : g.1.stackTraces = false) {w : XW} : ∀ q, f_X11_restoreSnapshot  w = some q → MM g (.code yX11_restoreSnapshot cX11_restoreSnapshot 2 (some .int)) yX11_restoreSnapshot (rmL 4 0 0) 0 0 [.ref (g.2.1 + 141)] w (oI q) := fun q hq => MM_of (own := RX11) hl (by decide) gw_1940 rfl (Nat.le_of_ble_eq_true rfl) (W_X11_restoreSnapshot hl q hq) ⟨rfl, rfl⟩
