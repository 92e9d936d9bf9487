theorem dX11_thrown_0 : decode cX11_thrown 0 = .ok (.aload_n 0, 1) := by decide +kernel
theorem dX11_thrown_1 : decode cX11_thrown 1 = .ok (.getfield 38, 3) := by decide +kernel
theorem dX11_thrown_4 : decode cX11_thrown 4 = .ok (.ireturn, 1) := by decide +kernel
def f_X11_thrown (w : XW) : Option (Int32 × XW) := (some ((w.1 141 0), w))
set_option maxRecDepth 100000 in
theorem W_X11_thrown {g : GC} (hl : g.1.stackTraces = false) {w : XW} : VE g cX11_thrown 1 RX11 (some .int) [] (rmL 3 0 0) 0 0 oI 0 0 0 [(0, .ref (g.2.1 + 141))] [] w (f_X11_thrown  w) := by
  unfold f_X11_thrown
  refine v_aload_n dX11_thrown_0 rfl 0 rfl ?_
  refine v_getI fl_X11_38 tt_141 rfl dX11_thrown_1 ?_
  exact v_iret dX11_thrown_4 rfl rfl (by decide) (by decide)
theorem S_X11_thrown {g : GC} (hl : g.1.stackTraces = false) {w : XW} : ∀ q, f_X11_thrown  w = some q → MM g (.code yX11_thrown cX11_thrown 1 (some .int)) yX11_thrown (rmL 3 0 0) 0 0 [.ref (g.2.1 + 141)] w (oI q) := fun q hq => MM_of (own := RX11) hl (by decide) gw_1519 rfl (Nat.le_of_ble_eq_true rfl) (W_X11_thrown hl q hq) ⟨rfl, rfl⟩

theorem dX11_fails_0 : decode cX11_fails 0 = .ok (.aload_n 0, 1) := by decide +kernel
theorem dX11_fails_1 : decode cX11_fails 1 = .ok (.iload_n 1, 1) := by decide +kernel
theorem dX11_fails_2 : decode cX11_fails 2 = .ok (.putfield 38, 3) := by decide +kernel
theorem dX11_fails_5 : decode cX11_fails 5 = .ok (.iconst 0, 1) := by decide +kernel
theorem dX11_fails_6 : decode cX11_fails 6 = .ok (.ireturn, 1) := by decide +kernel
def f_X11_fails (x1 : Int32) (w : XW) : Option (Int32 × XW) := (some (0, (wset w 141 0 x1)))
set_option maxRecDepth 100000 in
theorem W_X11_fails {g : GC} (hl : g.1.stackTraces = false) {x1 : Int32} {w : XW} : VE g cX11_fails 2 RX11 (some .int) [] (rmL 3 0 0) 0 0 oI 0 0 0 [(0, .ref (g.2.1 + 141)), (1, .int x1)] [] w (f_X11_fails x1 w) := by
  unfold f_X11_fails
  refine v_aload_n dX11_fails_0 rfl 0 rfl ?_
  refine v_iload_n dX11_fails_1 rfl 1 rfl ?_
  refine v_putI fl_X11_38 tt_141 rfl (ty0 := .int) rfl rfl rfl dX11_fails_2 ?_
  refine v_iconst (v := 0) dX11_fails_5 (by decide) ?_
  exact v_iret dX11_fails_6 rfl rfl (by decide) (by decide)
theorem S_X11_fails {g : GC} (hl : g.1.stackTraces = false) {x1 : Int32} {w : XW} : ∀ q, f_X11_fails x1 w = some q → MM g (.code yX11_fails cX11_fails 2 (some .int)) yX11_fails (rmL 3 0 0) 0 0 [.ref (g.2.1 + 141), .int x1] w (oI q) := fun q hq => MM_of (own := RX11) hl (by decide) gw_1551 rfl (Nat.le_of_ble_eq_true rfl) (W_X11_fails hl q hq) ⟨rfl, rfl⟩

theorem dX11_in_0 : decode cX11_in 0 = .ok (.iload_n 0, 1) := by decide +kernel
theorem dX11_in_1 : decode cX11_in 1 = .ok (.iload_n 1, 1) := by decide +kernel
theorem dX11_in_2 : decode cX11_in 2 = .ok (.if_icmp .lt 12, 3) := by decide +kernel
theorem dX11_in_5 : decode cX11_in 5 = .ok (.iload_n 0, 1) := by decide +kernel
theorem dX11_in_6 : decode cX11_in 6 = .ok (.iload_n 2, 1) := by decide +kernel
theorem dX11_in_7 : decode cX11_in 7 = .ok (.if_icmp .gt 7, 3) := by decide +kernel
theorem dX11_in_10 : decode cX11_in 10 = .ok (.iconst 1, 1) := by decide +kernel
theorem dX11_in_11 : decode cX11_in 11 = .ok (.goto 4, 3) := by decide +kernel
theorem dX11_in_14 : decode cX11_in 14 = .ok (.iconst 0, 1) := by decide +kernel
theorem dX11_in_15 : decode cX11_in 15 = .ok (.ireturn, 1) := by decide +kernel
def f_X11_in (x0 : Int32) (x1 : Int32) (x2 : Int32) (w : XW) : Option (Int32 × XW) := (if x0 < x1 then (some (0, w)) else (if x2 < x0 then (some (0, w)) else (some (1, w))))
set_option maxRecDepth 100000 in
theorem W_X11_in {g : GC} (hl : g.1.stackTraces = false) {x0 : Int32} {x1 : Int32} {x2 : Int32} {w : XW} : VE g cX11_in 3 RX11 (some .boolean) [] (rmL 3 0 0) 0 0 oI 0 0 0 [(0, .int x0), (1, .int x1), (2, .int x2)] [] w (f_X11_in x0 x1 x2 w) := by
  unfold f_X11_in
  refine v_iload_n dX11_in_0 rfl 0 rfl ?_
  refine v_iload_n dX11_in_1 rfl 1 rfl ?_
  refine v_icmp_lt (tgt := 14) dX11_in_2 (by decide) ?_ ?_
  · refine v_iconst (v := 0) dX11_in_14 (by decide) ?_
    exact v_zret dX11_in_15 rfl rfl rfl (by decide) (by decide)
  · refine v_iload_n dX11_in_5 rfl 0 rfl ?_
    refine v_iload_n dX11_in_6 rfl 2 rfl ?_
    refine v_icmp_gt (tgt := 14) dX11_in_7 (by decide) ?_ ?_
    · refine v_iconst (v := 0) dX11_in_14 (by decide) ?_
      exact v_zret dX11_in_15 rfl rfl rfl (by decide) (by decide)
    · refine v_iconst (v := 1) dX11_in_10 (by decide) ?_
      refine v_goto (tgt := 15) dX11_in_11 (by decide) ?_
      exact v_zret dX11_in_15 rfl rfl rfl (by decide) (by decide)
theorem S_X11_in {g : GC} (hl : g.1.stackTraces = false) {x0 : Int32} {x1 : Int32} {x2 : Int32} {w : XW} : ∀ q, f_X11_in x0 x1 x2 w = some q → MM g (.code yX11_in cX11_in 3 (some .boolean)) yX11_in (rmL 3 0 0) 0 0 [.int x0, .int x1, .int x2] w (oI q) := fun q hq => MM_of (own := RX11) hl (by decide) gw_1566 rfl (Nat.le_of_ble_eq_true rfl) (W_X11_in hl q hq) ⟨rfl, rfl⟩

theorem dX11_remembers_0 : decode cX11_remembers 0 = .ok (.aload_n 0, 1) := by decide +kernel
theorem dX11_remembers_1 : decode cX11_remembers 1 = .ok (.iconst 0, 1) := by decide +kernel
theorem dX11_remembers_2 : decode cX11_remembers 2 = .ok (.putfield 38, 3) := by decide +kernel
theorem dX11_remembers_5 : decode cX11_remembers 5 = .ok (.iconst 0, 1) := by decide +kernel
theorem dX11_remembers_6 : decode cX11_remembers 6 = .ok (.istore_n 1, 1) := by decide +kernel
theorem dX11_remembers_7 : decode cX11_remembers 7 = .ok (.iload_n 1, 1) := by decide +kernel
theorem dX11_remembers_8 : decode cX11_remembers 8 = .ok (.bipush 66, 2) := by decide +kernel
theorem dX11_remembers_10 : decode cX11_remembers 10 = .ok (.if_icmp .ge 21, 3) := by decide +kernel
theorem dX11_remembers_13 : decode cX11_remembers 13 = .ok (.aload_n 0, 1) := by decide +kernel
theorem dX11_remembers_14 : decode cX11_remembers 14 = .ok (.getfield 13, 3) := by decide +kernel
theorem dX11_remembers_17 : decode cX11_remembers 17 = .ok (.iload_n 1, 1) := by decide +kernel
theorem dX11_remembers_18 : decode cX11_remembers 18 = .ok (.aload_n 0, 1) := by decide +kernel
theorem dX11_remembers_19 : decode cX11_remembers 19 = .ok (.getfield 7, 3) := by decide +kernel
theorem dX11_remembers_22 : decode cX11_remembers 22 = .ok (.iload_n 1, 1) := by decide +kernel
theorem dX11_remembers_23 : decode cX11_remembers 23 = .ok (.iaload, 1) := by decide +kernel
theorem dX11_remembers_24 : decode cX11_remembers 24 = .ok (.iastore, 1) := by decide +kernel
theorem dX11_remembers_25 : decode cX11_remembers 25 = .ok (.iinc 1 1, 3) := by decide +kernel
theorem dX11_remembers_28 : decode cX11_remembers 28 = .ok (.goto (-21), 3) := by decide +kernel
theorem dX11_remembers_31 : decode cX11_remembers 31 = .ok (.return_, 1) := by decide +kernel
def f_X11_remembers_7 : Nat → Int32 → XW → Option (XW)
  | 0, _, _ => none
  | n + 1, z1, w => (if 66 ≤ z1 then (some w) else (if inB z1 66 then (if inB z1 66 then (f_X11_remembers_7 n (z1 + 1) (wset w 143 (Int32.toNatClampNeg z1) (w.1 142 (Int32.toNatClampNeg z1)))) else none) else none))
set_option maxRecDepth 100000 in
theorem S_X11_remembers_7 {g : GC} (hl : g.1.stackTraces = false) : ∀ (n : Nat) (z1 : Int32) (w : XW), VE g cX11_remembers 2 RX11 none [] (rmL 3 0 0) 0 0 oV 0 0 7 [(0, .ref (g.2.1 + 141)), (1, .int z1)] [] w (f_X11_remembers_7  n z1 w) := by
  intro n
  induction n with
  | zero => intro z1 w; exact v_none
  | succ n ih =>
    intro z1 w
    rw [f_X11_remembers_7]
    refine v_iload_n dX11_remembers_7 rfl 1 rfl ?_
    refine v_bipush (v := 66) dX11_remembers_8 (by decide) ?_
    refine v_icmp_ge (tgt := 31) dX11_remembers_10 (by decide) ?_ ?_
    · exact v_vret dX11_remembers_31 rfl rfl (by decide) (by decide)
    · refine v_aload_n dX11_remembers_13 rfl 0 rfl ?_
      refine v_getR fl_X11_13 tt_141 rfl dX11_remembers_14 ?_
      refine v_iload_n dX11_remembers_17 rfl 1 rfl ?_
      refine v_aload_n dX11_remembers_18 rfl 0 rfl ?_
      refine v_getR fl_X11_7 tt_141 rfl dX11_remembers_19 ?_
      refine v_iload_n dX11_remembers_22 rfl 1 rfl ?_
      refine v_guard (fun h1 => ?_)
      refine v_iald tt_142 h1 dX11_remembers_23 ?_
      refine v_guard (fun h2 => ?_)
      refine v_iast tt_143 h2 dX11_remembers_24 ?_
      refine v_iinc (v := (z1 + 1)) dX11_remembers_25 (q := 1) rfl rfl (Nat.le_of_ble_eq_true rfl) rfl ?_
      refine v_goto (tgt := 7) dX11_remembers_28 (by decide) ?_
      refine v_sub [1, 0] rfl ?_
      exact ih _ _
def f_X11_remembers (w : XW) : Option (XW) := (f_X11_remembers_7 1000 0 (wset w 141 0 0))
set_option maxRecDepth 100000 in
theorem W_X11_remembers {g : GC} (hl : g.1.stackTraces = false) {w : XW} : VE g cX11_remembers 2 RX11 none [] (rmL 3 0 0) 0 0 oV 0 0 0 [(0, .ref (g.2.1 + 141))] [] w (f_X11_remembers  w) := by
  unfold f_X11_remembers
  refine v_aload_n dX11_remembers_0 rfl 0 rfl ?_
  refine v_iconst (v := 0) dX11_remembers_1 (by decide) ?_
  refine v_putI fl_X11_38 tt_141 rfl (ty0 := .int) rfl rfl rfl dX11_remembers_2 ?_
  refine v_iconst (v := 0) dX11_remembers_5 (by decide) ?_
  refine v_istore_n dX11_remembers_6 rfl (Nat.le_of_ble_eq_true rfl) rfl ?_
  refine v_sub [1, 0] rfl ?_
  exact S_X11_remembers_7 hl  _ _ _
theorem S_X11_remembers {g : GC} (hl : g.1.stackTraces = false) {w : XW} : ∀ q, f_X11_remembers  w = some q → MM g (.code yX11_remembers cX11_remembers 2 none) yX11_remembers (rmL 3 0 0) 0 0 [.ref (g.2.1 + 141)] w (oV q) := fun q hq => MM_of (own := RX11) hl (by decide) gw_1527 rfl (Nat.le_of_ble_eq_true rfl) (W_X11_remembers hl q hq) ⟨rfl, rfl⟩

theorem dX11_changed_0 : decode cX11_changed 0 = .ok (.aload_n 0, 1) := by decide +kernel
theorem dX11_changed_1 : decode cX11_changed 1 = .ok (.getfield 41, 3) := by decide +kernel
theorem dX11_changed_4 : decode cX11_changed 4 = .ok (.bipush 8, 2) := by decide +kernel
theorem dX11_changed_6 : decode cX11_changed 6 = .ok (.if_icmp .ne 36, 3) := by decide +kernel
theorem dX11_changed_9 : decode cX11_changed 9 = .ok (.iconst 0, 1) := by decide +kernel
theorem dX11_changed_10 : decode cX11_changed 10 = .ok (.istore_n 2, 1) := by decide +kernel
theorem dX11_changed_11 : decode cX11_changed 11 = .ok (.iload_n 2, 1) := by decide +kernel
theorem dX11_changed_12 : decode cX11_changed 12 = .ok (.sipush 462, 3) := by decide +kernel
theorem dX11_changed_15 : decode cX11_changed 15 = .ok (.if_icmp .ge 24, 3) := by decide +kernel
theorem dX11_changed_18 : decode cX11_changed 18 = .ok (.aload_n 0, 1) := by decide +kernel
theorem dX11_changed_19 : decode cX11_changed 19 = .ok (.getfield 19, 3) := by decide +kernel
theorem dX11_changed_22 : decode cX11_changed 22 = .ok (.iload_n 2, 1) := by decide +kernel
theorem dX11_changed_23 : decode cX11_changed 23 = .ok (.aload_n 0, 1) := by decide +kernel
theorem dX11_changed_24 : decode cX11_changed 24 = .ok (.getfield 19, 3) := by decide +kernel
theorem dX11_changed_27 : decode cX11_changed 27 = .ok (.iload_n 2, 1) := by decide +kernel
theorem dX11_changed_28 : decode cX11_changed 28 = .ok (.bipush 66, 2) := by decide +kernel
theorem dX11_changed_30 : decode cX11_changed 30 = .ok (.iadd, 1) := by decide +kernel
theorem dX11_changed_31 : decode cX11_changed 31 = .ok (.iaload, 1) := by decide +kernel
theorem dX11_changed_32 : decode cX11_changed 32 = .ok (.iastore, 1) := by decide +kernel
theorem dX11_changed_33 : decode cX11_changed 33 = .ok (.iinc 2 1, 3) := by decide +kernel
theorem dX11_changed_36 : decode cX11_changed 36 = .ok (.goto (-25), 3) := by decide +kernel
theorem dX11_changed_39 : decode cX11_changed 39 = .ok (.goto 13, 3) := by decide +kernel
theorem dX11_changed_42 : decode cX11_changed 42 = .ok (.aload_n 0, 1) := by decide +kernel
theorem dX11_changed_43 : decode cX11_changed 43 = .ok (.dup, 1) := by decide +kernel
theorem dX11_changed_44 : decode cX11_changed 44 = .ok (.getfield 41, 3) := by decide +kernel
theorem dX11_changed_47 : decode cX11_changed 47 = .ok (.iconst 1, 1) := by decide +kernel
theorem dX11_changed_48 : decode cX11_changed 48 = .ok (.iadd, 1) := by decide +kernel
theorem dX11_changed_49 : decode cX11_changed 49 = .ok (.putfield 41, 3) := by decide +kernel
theorem dX11_changed_52 : decode cX11_changed 52 = .ok (.iconst 0, 1) := by decide +kernel
theorem dX11_changed_53 : decode cX11_changed 53 = .ok (.istore_n 2, 1) := by decide +kernel
theorem dX11_changed_54 : decode cX11_changed 54 = .ok (.iload_n 2, 1) := by decide +kernel
theorem dX11_changed_55 : decode cX11_changed 55 = .ok (.bipush 66, 2) := by decide +kernel
theorem dX11_changed_57 : decode cX11_changed 57 = .ok (.if_icmp .ge 31, 3) := by decide +kernel
theorem dX11_changed_60 : decode cX11_changed 60 = .ok (.aload_n 0, 1) := by decide +kernel
theorem dX11_changed_61 : decode cX11_changed 61 = .ok (.getfield 19, 3) := by decide +kernel
theorem dX11_changed_64 : decode cX11_changed 64 = .ok (.bipush 66, 2) := by decide +kernel
theorem dX11_changed_66 : decode cX11_changed 66 = .ok (.aload_n 0, 1) := by decide +kernel
theorem dX11_changed_67 : decode cX11_changed 67 = .ok (.getfield 41, 3) := by decide +kernel
theorem dX11_changed_70 : decode cX11_changed 70 = .ok (.iconst 1, 1) := by decide +kernel
theorem dX11_changed_71 : decode cX11_changed 71 = .ok (.isub, 1) := by decide +kernel
theorem dX11_changed_72 : decode cX11_changed 72 = .ok (.imul, 1) := by decide +kernel
theorem dX11_changed_73 : decode cX11_changed 73 = .ok (.iload_n 2, 1) := by decide +kernel
theorem dX11_changed_74 : decode cX11_changed 74 = .ok (.iadd, 1) := by decide +kernel
theorem dX11_changed_75 : decode cX11_changed 75 = .ok (.aload_n 0, 1) := by decide +kernel
theorem dX11_changed_76 : decode cX11_changed 76 = .ok (.getfield 13, 3) := by decide +kernel
theorem dX11_changed_79 : decode cX11_changed 79 = .ok (.iload_n 2, 1) := by decide +kernel
theorem dX11_changed_80 : decode cX11_changed 80 = .ok (.iaload, 1) := by decide +kernel
theorem dX11_changed_81 : decode cX11_changed 81 = .ok (.iastore, 1) := by decide +kernel
theorem dX11_changed_82 : decode cX11_changed 82 = .ok (.iinc 2 1, 3) := by decide +kernel
theorem dX11_changed_85 : decode cX11_changed 85 = .ok (.goto (-31), 3) := by decide +kernel
theorem dX11_changed_88 : decode cX11_changed 88 = .ok (.iload_n 1, 1) := by decide +kernel
theorem dX11_changed_89 : decode cX11_changed 89 = .ok (.ireturn, 1) := by decide +kernel
def f_X11_changed_54 (y1 : Int32) : Nat → Int32 → XW → Option (Int32 × XW)
  | 0, _, _ => none
  | n + 1, z2, w => (if 66 ≤ z2 then (some (y1, w)) else (if inB z2 66 then (if inB ((66 * ((w.1 141 5) - 1)) + z2) 528 then (f_X11_changed_54 y1 n (z2 + 1) (wset w 145 (Int32.toNatClampNeg ((66 * ((w.1 141 5) - 1)) + z2)) (w.1 143 (Int32.toNatClampNeg z2)))) else none) else none))
set_option maxRecDepth 100000 in
theorem S_X11_changed_54 {g : GC} (hl : g.1.stackTraces = false) {y1 : Int32} : ∀ (n : Nat) (z2 : Int32) (w : XW), VE g cX11_changed 3 RX11 (some .int) [] (rmL 3 0 0) 0 0 oI 0 0 54 [(0, .ref (g.2.1 + 141)), (1, .int y1), (2, .int z2)] [] w (f_X11_changed_54 y1 n z2 w) := by
  intro n
  induction n with
  | zero => intro z2 w; exact v_none
  | succ n ih =>
    intro z2 w
    rw [f_X11_changed_54]
    refine v_iload_n dX11_changed_54 rfl 2 rfl ?_
    refine v_bipush (v := 66) dX11_changed_55 (by decide) ?_
    refine v_icmp_ge (tgt := 88) dX11_changed_57 (by decide) ?_ ?_
    · refine v_iload_n dX11_changed_88 rfl 1 rfl ?_
      exact v_iret dX11_changed_89 rfl rfl (by decide) (by decide)
    · refine v_aload_n dX11_changed_60 rfl 0 rfl ?_
      refine v_getR fl_X11_19 tt_141 rfl dX11_changed_61 ?_
      refine v_bipush (v := 66) dX11_changed_64 (by decide) ?_
      refine v_aload_n dX11_changed_66 rfl 0 rfl ?_
      refine v_getI fl_X11_41 tt_141 rfl dX11_changed_67 ?_
      refine v_iconst (v := 1) dX11_changed_70 (by decide) ?_
      refine v_isub dX11_changed_71 ?_
      refine v_imul dX11_changed_72 ?_
      refine v_iload_n dX11_changed_73 rfl 2 rfl ?_
      refine v_iadd dX11_changed_74 ?_
      refine v_aload_n dX11_changed_75 rfl 0 rfl ?_
      refine v_getR fl_X11_13 tt_141 rfl dX11_changed_76 ?_
      refine v_iload_n dX11_changed_79 rfl 2 rfl ?_
      refine v_guard (fun h1 => ?_)
      refine v_iald tt_143 h1 dX11_changed_80 ?_
      refine v_guard (fun h2 => ?_)
      refine v_iast tt_145 h2 dX11_changed_81 ?_
      refine v_iinc (v := (z2 + 1)) dX11_changed_82 (q := 2) rfl rfl (Nat.le_of_ble_eq_true rfl) rfl ?_
      refine v_goto (tgt := 54) dX11_changed_85 (by decide) ?_
      refine v_sub [1, 2, 0] rfl ?_
      exact ih _ _
def f_X11_changed_11 (y1 : Int32) : Nat → Int32 → XW → Option (Int32 × XW)
  | 0, _, _ => none
  | n + 1, z2, w => (if 462 ≤ z2 then (f_X11_changed_54 y1 1000 0 w) else (if inB (z2 + 66) 528 then (if inB z2 528 then (f_X11_changed_11 y1 n (z2 + 1) (wset w 145 (Int32.toNatClampNeg z2) (w.1 145 (Int32.toNatClampNeg (z2 + 66))))) else none) else none))
set_option maxRecDepth 100000 in
theorem S_X11_changed_11 {g : GC} (hl : g.1.stackTraces = false) {y1 : Int32} : ∀ (n : Nat) (z2 : Int32) (w : XW), VE g cX11_changed 3 RX11 (some .int) [] (rmL 3 0 0) 0 0 oI 0 0 11 [(0, .ref (g.2.1 + 141)), (1, .int y1), (2, .int z2)] [] w (f_X11_changed_11 y1 n z2 w) := by
  intro n
  induction n with
  | zero => intro z2 w; exact v_none
  | succ n ih =>
    intro z2 w
    rw [f_X11_changed_11]
    refine v_iload_n dX11_changed_11 rfl 2 rfl ?_
    refine v_sipush (v := 462) dX11_changed_12 (by decide) ?_
    refine v_icmp_ge (tgt := 39) dX11_changed_15 (by decide) ?_ ?_
    · refine v_goto (tgt := 52) dX11_changed_39 (by decide) ?_
      refine v_iconst (v := 0) dX11_changed_52 (by decide) ?_
      refine v_istore_n dX11_changed_53 rfl (Nat.le_of_ble_eq_true rfl) rfl ?_
      refine v_sub [1, 2, 0] rfl ?_
      exact S_X11_changed_54 hl  _ _ _
    · refine v_aload_n dX11_changed_18 rfl 0 rfl ?_
      refine v_getR fl_X11_19 tt_141 rfl dX11_changed_19 ?_
      refine v_iload_n dX11_changed_22 rfl 2 rfl ?_
      refine v_aload_n dX11_changed_23 rfl 0 rfl ?_
      refine v_getR fl_X11_19 tt_141 rfl dX11_changed_24 ?_
      refine v_iload_n dX11_changed_27 rfl 2 rfl ?_
      refine v_bipush (v := 66) dX11_changed_28 (by decide) ?_
      refine v_iadd dX11_changed_30 ?_
      refine v_guard (fun h3 => ?_)
      refine v_iald tt_145 h3 dX11_changed_31 ?_
      refine v_guard (fun h4 => ?_)
      refine v_iast tt_145 h4 dX11_changed_32 ?_
      refine v_iinc (v := (z2 + 1)) dX11_changed_33 (q := 2) rfl rfl (Nat.le_of_ble_eq_true rfl) rfl ?_
      refine v_goto (tgt := 11) dX11_changed_36 (by decide) ?_
      refine v_sub [1, 2, 0] rfl ?_
      exact ih _ _
def f_X11_changed (x1 : Int32) (w : XW) : Option (Int32 × XW) := (if (w.1 141 5) = 8 then (f_X11_changed_11 x1 1000 0 w) else (f_X11_changed_54 x1 1000 0 (wset w 141 5 ((w.1 141 5) + 1))))
set_option maxRecDepth 100000 in
theorem W_X11_changed {g : GC} (hl : g.1.stackTraces = false) {x1 : Int32} {w : XW} : VE g cX11_changed 3 RX11 (some .int) [] (rmL 3 0 0) 0 0 oI 0 0 0 [(0, .ref (g.2.1 + 141)), (1, .int x1)] [] w (f_X11_changed x1 w) := by
  unfold f_X11_changed
  refine v_aload_n dX11_changed_0 rfl 0 rfl ?_
  refine v_getI fl_X11_41 tt_141 rfl dX11_changed_1 ?_
  refine v_bipush (v := 8) dX11_changed_4 (by decide) ?_
  refine v_icmp_ne (tgt := 42) dX11_changed_6 (by decide) ?_ ?_
  · refine v_aload_n dX11_changed_42 rfl 0 rfl ?_
    refine v_dup dX11_changed_43 rfl ?_
    refine v_getI fl_X11_41 tt_141 rfl dX11_changed_44 ?_
    refine v_iconst (v := 1) dX11_changed_47 (by decide) ?_
    refine v_iadd dX11_changed_48 ?_
    refine v_putI fl_X11_41 tt_141 rfl (ty0 := .int) rfl rfl rfl dX11_changed_49 ?_
    refine v_iconst (v := 0) dX11_changed_52 (by decide) ?_
    refine v_istore_n dX11_changed_53 rfl (Nat.le_of_ble_eq_true rfl) rfl ?_
    refine v_sub [1, 2, 0] rfl ?_
    exact S_X11_changed_54 hl  _ _ _
  · refine v_iconst (v := 0) dX11_changed_9 (by decide) ?_
    refine v_istore_n dX11_changed_10 rfl (Nat.le_of_ble_eq_true rfl) rfl ?_
    refine v_sub [1, 2, 0] rfl ?_
    exact S_X11_changed_11 hl  _ _ _
theorem S_X11_changed {g : GC} (hl : g.1.stackTraces = false) {x1 : Int32} {w : XW} : ∀ q, f_X11_changed x1 w = some q → MM g (.code yX11_changed cX11_changed 3 (some .int)) yX11_changed (rmL 3 0 0) 0 0 [.ref (g.2.1 + 141), .int x1] w (oI q) := fun q hq => MM_of (own := RX11) hl (by decide) gw_1547 rfl (Nat.le_of_ble_eq_true rfl) (W_X11_changed hl q hq) ⟨rfl, rfl⟩

theorem dX11_done_0 : decode cX11_done 0 = .ok (.aload_n 0, 1) := by decide +kernel
theorem dX11_done_1 : decode cX11_done 1 = .ok (.iload_n 1, 1) := by decide +kernel
theorem dX11_done_2 : decode cX11_done 2 = .ok (.putfield 44, 3) := by decide +kernel
theorem dX11_done_5 : decode cX11_done 5 = .ok (.iconst 0, 1) := by decide +kernel
theorem dX11_done_6 : decode cX11_done 6 = .ok (.ireturn, 1) := by decide +kernel
def f_X11_done (x1 : Int32) (w : XW) : Option (Int32 × XW) := (some (0, (wset w 141 14 x1)))
set_option maxRecDepth 100000 in
theorem W_X11_done {g : GC} (hl : g.1.stackTraces = false) {x1 : Int32} {w : XW} : VE g cX11_done 2 RX11 (some .int) [] (rmL 3 0 0) 0 0 oI 0 0 0 [(0, .ref (g.2.1 + 141)), (1, .int x1)] [] w (f_X11_done x1 w) := by
  unfold f_X11_done
  refine v_aload_n dX11_done_0 rfl 0 rfl ?_
  refine v_iload_n dX11_done_1 rfl 1 rfl ?_
  refine v_putI fl_X11_44 tt_141 rfl (ty0 := .int) rfl rfl rfl dX11_done_2 ?_
  refine v_iconst (v := 0) dX11_done_5 (by decide) ?_
  exact v_iret dX11_done_6 rfl rfl (by decide) (by decide)
theorem S_X11_done {g : GC} (hl : g.1.stackTraces = false) {x1 : Int32} {w : XW} : ∀ q, f_X11_done x1 w = some q → MM g (.code yX11_done cX11_done 2 (some .int)) yX11_done (rmL 3 0 0) 0 0 [.ref (g.2.1 + 141), .int x1] w (oI q) := fun q hq => MM_of (own := RX11) hl (by decide) gw_1539 rfl (Nat.le_of_ble_eq_true rfl) (W_X11_done hl q hq) ⟨rfl, rfl⟩

theorem dX11_denied_0 : decode cX11_denied 0 = .ok (.aload_n 0, 1) := by decide +kernel
theorem dX11_denied_1 : decode cX11_denied 1 = .ok (.iload_n 1, 1) := by decide +kernel
theorem dX11_denied_2 : decode cX11_denied 2 = .ok (.putfield 47, 3) := by decide +kernel
theorem dX11_denied_5 : decode cX11_denied 5 = .ok (.aload_n 0, 1) := by decide +kernel
theorem dX11_denied_6 : decode cX11_denied 6 = .ok (.iload_n 2, 1) := by decide +kernel
theorem dX11_denied_7 : decode cX11_denied 7 = .ok (.putfield 50, 3) := by decide +kernel
theorem dX11_denied_10 : decode cX11_denied 10 = .ok (.aload_n 0, 1) := by decide +kernel
theorem dX11_denied_11 : decode cX11_denied 11 = .ok (.iconst 0, 1) := by decide +kernel
theorem dX11_denied_12 : decode cX11_denied 12 = .ok (.putfield 53, 3) := by decide +kernel
theorem dX11_denied_15 : decode cX11_denied 15 = .ok (.iload_n 1, 1) := by decide +kernel
theorem dX11_denied_16 : decode cX11_denied 16 = .ok (.ineg, 1) := by decide +kernel
theorem dX11_denied_17 : decode cX11_denied 17 = .ok (.ireturn, 1) := by decide +kernel
def f_X11_denied (x1 : Int32) (x2 : Int32) (w : XW) : Option (Int32 × XW) := (some ((-x1), (wset (wset (wset w 141 15 x1) 141 16 x2) 141 17 0)))
set_option maxRecDepth 100000 in
theorem W_X11_denied {g : GC} (hl : g.1.stackTraces = false) {x1 : Int32} {x2 : Int32} {w : XW} : VE g cX11_denied 3 RX11 (some .int) [] (rmL 3 0 0) 0 0 oI 0 0 0 [(0, .ref (g.2.1 + 141)), (1, .int x1), (2, .int x2)] [] w (f_X11_denied x1 x2 w) := by
  unfold f_X11_denied
  refine v_aload_n dX11_denied_0 rfl 0 rfl ?_
  refine v_iload_n dX11_denied_1 rfl 1 rfl ?_
  refine v_putI fl_X11_47 tt_141 rfl (ty0 := .int) rfl rfl rfl dX11_denied_2 ?_
  refine v_aload_n dX11_denied_5 rfl 0 rfl ?_
  refine v_iload_n dX11_denied_6 rfl 2 rfl ?_
  refine v_putI fl_X11_50 tt_141 rfl (ty0 := .int) rfl rfl rfl dX11_denied_7 ?_
  refine v_aload_n dX11_denied_10 rfl 0 rfl ?_
  refine v_iconst (v := 0) dX11_denied_11 (by decide) ?_
  refine v_putI fl_X11_53 tt_141 rfl (ty0 := .int) rfl rfl rfl dX11_denied_12 ?_
  refine v_iload_n dX11_denied_15 rfl 1 rfl ?_
  refine v_ineg dX11_denied_16 ?_
  exact v_iret dX11_denied_17 rfl rfl (by decide) (by decide)
theorem S_X11_denied {g : GC} (hl : g.1.stackTraces = false) {x1 : Int32} {x2 : Int32} {w : XW} : ∀ q, f_X11_denied x1 x2 w = some q → MM g (.code yX11_denied cX11_denied 3 (some .int)) yX11_denied (rmL 3 0 0) 0 0 [.ref (g.2.1 + 141), .int x1, .int x2] w (oI q) := fun q hq => MM_of (own := RX11) hl (by decide) gw_1535 rfl (Nat.le_of_ble_eq_true rfl) (W_X11_denied hl q hq) ⟨rfl, rfl⟩

theorem dX11_ends_0 : decode cX11_ends 0 = .ok (.iload_n 1, 1) := by decide +kernel
theorem dX11_ends_1 : decode cX11_ends 1 = .ok (.ifCond .ne 14, 3) := by decide +kernel
theorem dX11_ends_4 : decode cX11_ends 4 = .ok (.aload_n 0, 1) := by decide +kernel
theorem dX11_ends_5 : decode cX11_ends 5 = .ok (.aload_n 0, 1) := by decide +kernel
theorem dX11_ends_6 : decode cX11_ends 6 = .ok (.getfield 44, 3) := by decide +kernel
theorem dX11_ends_9 : decode cX11_ends 9 = .ok (.invokevirtual 56, 3) := by decide +kernel
theorem dX11_ends_12 : decode cX11_ends 12 = .ok (.goto 16, 3) := by decide +kernel
theorem dX11_ends_15 : decode cX11_ends 15 = .ok (.aload_n 0, 1) := by decide +kernel
theorem dX11_ends_16 : decode cX11_ends 16 = .ok (.iload_n 1, 1) := by decide +kernel
theorem dX11_ends_17 : decode cX11_ends 17 = .ok (.ifCond .ge 7, 3) := by decide +kernel
theorem dX11_ends_20 : decode cX11_ends 20 = .ok (.iload_n 2, 1) := by decide +kernel
theorem dX11_ends_21 : decode cX11_ends 21 = .ok (.goto 4, 3) := by decide +kernel
theorem dX11_ends_24 : decode cX11_ends 24 = .ok (.iload_n 1, 1) := by decide +kernel
theorem dX11_ends_25 : decode cX11_ends 25 = .ok (.invokevirtual 60, 3) := by decide +kernel
theorem dX11_ends_28 : decode cX11_ends 28 = .ok (.ireturn, 1) := by decide +kernel
def f_X11_ends (x1 : Int32) (x2 : Int32) (w : XW) : Option (Int32 × XW) := (if x1 = 0 then (bI (f_X11_changed (w.1 141 14) w) (fun r3 w3 => (some (r3, w3)))) else (if 0 ≤ x1 then (bI (f_X11_fails x1 w) (fun r1 w1 => (some (r1, w1)))) else (bI (f_X11_fails x2 w) (fun r2 w2 => (some (r2, w2))))))
set_option maxRecDepth 100000 in
theorem W_X11_ends {g : GC} (hl : g.1.stackTraces = false) {x1 : Int32} {x2 : Int32} {w : XW} : VE g cX11_ends 3 RX11 (some .int) [] (rmL 4 0 0) 0 0 oI 0 0 0 [(0, .ref (g.2.1 + 141)), (1, .int x1), (2, .int x2)] [] w (f_X11_ends x1 x2 w) := by
  unfold f_X11_ends
  refine v_iload_n dX11_ends_0 rfl 1 rfl ?_
  refine v_if_ne (tgt := 15) dX11_ends_1 (by decide) ?_ ?_
  · refine v_aload_n dX11_ends_15 rfl 0 rfl ?_
    refine v_iload_n dX11_ends_16 rfl 1 rfl ?_
    refine v_if_ge (tgt := 24) dX11_ends_17 (by decide) ?_ ?_
    · refine v_iload_n dX11_ends_24 rfl 1 rfl ?_
      refine v_callVi (As := [.int x1]) cv_X11_60 (S_X11_fails hl) tt_141 rfl rfl rfl (Nat.le_of_ble_eq_true rfl) dX11_ends_25 (CR_rm (by decide) (by decide) (by decide) (by decide)) (fun r1 w1 => ?_)
      exact v_iret dX11_ends_28 rfl rfl (by decide) (by decide)
    · refine v_iload_n dX11_ends_20 rfl 2 rfl ?_
      refine v_goto (tgt := 25) dX11_ends_21 (by decide) ?_
      refine v_callVi (As := [.int x2]) cv_X11_60 (S_X11_fails hl) tt_141 rfl rfl rfl (Nat.le_of_ble_eq_true rfl) dX11_ends_25 (CR_rm (by decide) (by decide) (by decide) (by decide)) (fun r2 w2 => ?_)
      exact v_iret dX11_ends_28 rfl rfl (by decide) (by decide)
  · refine v_aload_n dX11_ends_4 rfl 0 rfl ?_
    refine v_aload_n dX11_ends_5 rfl 0 rfl ?_
    refine v_getI fl_X11_44 tt_141 rfl dX11_ends_6 ?_
    refine v_callVi (As := [.int (w.1 141 14)]) cv_X11_56 (S_X11_changed hl) tt_141 rfl rfl rfl (Nat.le_of_ble_eq_true rfl) dX11_ends_9 (CR_rm (by decide) (by decide) (by decide) (by decide)) (fun r3 w3 => ?_)
    refine v_goto (tgt := 28) dX11_ends_12 (by decide) ?_
    exact v_iret dX11_ends_28 rfl rfl (by decide) (by decide)
theorem S_X11_ends {g : GC} (hl : g.1.stackTraces = false) {x1 : Int32} {x2 : Int32} {w : XW} : ∀ q, f_X11_ends x1 x2 w = some q → MM g (.code yX11_ends cX11_ends 3 (some .int)) yX11_ends (rmL 4 0 0) 0 0 [.ref (g.2.1 + 141), .int x1, .int x2] w (oI q) := fun q hq => MM_of (own := RX11) hl (by decide) gw_1543 rfl (Nat.le_of_ble_eq_true rfl) (W_X11_ends hl q hq) ⟨rfl, rfl⟩

theorem dX11_isSection_0 : decode cX11_isSection 0 = .ok (.iload_n 1, 1) := by decide +kernel
theorem dX11_isSection_1 : decode cX11_isSection 1 = .ok (.iconst 0, 1) := by decide +kernel
theorem dX11_isSection_2 : decode cX11_isSection 2 = .ok (.aload_n 0, 1) := by decide +kernel
theorem dX11_isSection_3 : decode cX11_isSection 3 = .ok (.getfield 7, 3) := by decide +kernel
theorem dX11_isSection_6 : decode cX11_isSection 6 = .ok (.iconst 0, 1) := by decide +kernel
theorem dX11_isSection_7 : decode cX11_isSection 7 = .ok (.iaload, 1) := by decide +kernel
theorem dX11_isSection_8 : decode cX11_isSection 8 = .ok (.iconst 1, 1) := by decide +kernel
theorem dX11_isSection_9 : decode cX11_isSection 9 = .ok (.isub, 1) := by decide +kernel
theorem dX11_isSection_10 : decode cX11_isSection 10 = .ok (.invokestatic 63, 3) := by decide +kernel
theorem dX11_isSection_13 : decode cX11_isSection 13 = .ok (.ireturn, 1) := by decide +kernel
def f_X11_isSection (x1 : Int32) (w : XW) : Option (Int32 × XW) := (bI (f_X11_in x1 0 ((w.1 142 (Int32.toNatClampNeg 0)) - 1) w) (fun r1 w1 => (if vp_nar .boolean r1 = r1 then (some (r1, w1)) else none)))
set_option maxRecDepth 100000 in
theorem W_X11_isSection {g : GC} (hl : g.1.stackTraces = false) {x1 : Int32} {w : XW} : VE g cX11_isSection 2 RX11 (some .boolean) [] (rmL 4 0 0) 0 0 oI 0 0 0 [(0, .ref (g.2.1 + 141)), (1, .int x1)] [] w (f_X11_isSection x1 w) := by
  unfold f_X11_isSection
  refine v_iload_n dX11_isSection_0 rfl 1 rfl ?_
  refine v_iconst (v := 0) dX11_isSection_1 (by decide) ?_
  refine v_aload_n dX11_isSection_2 rfl 0 rfl ?_
  refine v_getR fl_X11_7 tt_141 rfl dX11_isSection_3 ?_
  refine v_iconst (v := 0) dX11_isSection_6 (by decide) ?_
  refine v_iald tt_142 (by decide : inB 0 66) dX11_isSection_7 ?_
  refine v_iconst (v := 1) dX11_isSection_8 (by decide) ?_
  refine v_isub dX11_isSection_9 ?_
  refine v_callSi (As := [.int x1, .int 0, .int ((w.1 142 (Int32.toNatClampNeg 0)) - 1)]) cs_X11_63 (S_X11_in hl) rfl rfl (Nat.le_of_ble_eq_true rfl) dX11_isSection_10 (CR_rm (by decide) (by decide) (by decide) (by decide)) (fun r1 w1 => ?_)
  refine v_guard (fun h2 => ?_)
  exact v_zret dX11_isSection_13 rfl (narB_ok h2) rfl (by decide) (by decide)
theorem S_X11_isSection {g : GC} (hl : g.1.stackTraces = false) {x1 : Int32} {w : XW} : ∀ q, f_X11_isSection x1 w = some q → MM g (.code yX11_isSection cX11_isSection 2 (some .boolean)) yX11_isSection (rmL 4 0 0) 0 0 [.ref (g.2.1 + 141), .int x1] w (oI q) := fun q hq => MM_of (own := RX11) hl (by decide) gw_1563 rfl (Nat.le_of_ble_eq_true rfl) (W_X11_isSection hl q hq) ⟨rfl, rfl⟩

theorem dX11_isPipe_0 : decode cX11_isPipe 0 = .ok (.iload_n 1, 1) := by decide +kernel
theorem dX11_isPipe_1 : decode cX11_isPipe 1 = .ok (.iconst 0, 1) := by decide +kernel
theorem dX11_isPipe_2 : decode cX11_isPipe 2 = .ok (.aload_n 0, 1) := by decide +kernel
theorem dX11_isPipe_3 : decode cX11_isPipe 3 = .ok (.getfield 7, 3) := by decide +kernel
theorem dX11_isPipe_6 : decode cX11_isPipe 6 = .ok (.iconst 2, 1) := by decide +kernel
theorem dX11_isPipe_7 : decode cX11_isPipe 7 = .ok (.iaload, 1) := by decide +kernel
theorem dX11_isPipe_8 : decode cX11_isPipe 8 = .ok (.iconst 1, 1) := by decide +kernel
theorem dX11_isPipe_9 : decode cX11_isPipe 9 = .ok (.isub, 1) := by decide +kernel
theorem dX11_isPipe_10 : decode cX11_isPipe 10 = .ok (.invokestatic 63, 3) := by decide +kernel
theorem dX11_isPipe_13 : decode cX11_isPipe 13 = .ok (.ireturn, 1) := by decide +kernel
def f_X11_isPipe (x1 : Int32) (w : XW) : Option (Int32 × XW) := (bI (f_X11_in x1 0 ((w.1 142 (Int32.toNatClampNeg 2)) - 1) w) (fun r1 w1 => (if vp_nar .boolean r1 = r1 then (some (r1, w1)) else none)))
set_option maxRecDepth 100000 in
theorem W_X11_isPipe {g : GC} (hl : g.1.stackTraces = false) {x1 : Int32} {w : XW} : VE g cX11_isPipe 2 RX11 (some .boolean) [] (rmL 4 0 0) 0 0 oI 0 0 0 [(0, .ref (g.2.1 + 141)), (1, .int x1)] [] w (f_X11_isPipe x1 w) := by
  unfold f_X11_isPipe
  refine v_iload_n dX11_isPipe_0 rfl 1 rfl ?_
  refine v_iconst (v := 0) dX11_isPipe_1 (by decide) ?_
  refine v_aload_n dX11_isPipe_2 rfl 0 rfl ?_
  refine v_getR fl_X11_7 tt_141 rfl dX11_isPipe_3 ?_
  refine v_iconst (v := 2) dX11_isPipe_6 (by decide) ?_
  refine v_iald tt_142 (by decide : inB 2 66) dX11_isPipe_7 ?_
  refine v_iconst (v := 1) dX11_isPipe_8 (by decide) ?_
  refine v_isub dX11_isPipe_9 ?_
  refine v_callSi (As := [.int x1, .int 0, .int ((w.1 142 (Int32.toNatClampNeg 2)) - 1)]) cs_X11_63 (S_X11_in hl) rfl rfl (Nat.le_of_ble_eq_true rfl) dX11_isPipe_10 (CR_rm (by decide) (by decide) (by decide) (by decide)) (fun r1 w1 => ?_)
  refine v_guard (fun h2 => ?_)
  exact v_zret dX11_isPipe_13 rfl (narB_ok h2) rfl (by decide) (by decide)
theorem S_X11_isPipe {g : GC} (hl : g.1.stackTraces = false) {x1 : Int32} {w : XW} : ∀ q, f_X11_isPipe x1 w = some q → MM g (.code yX11_isPipe cX11_isPipe 2 (some .boolean)) yX11_isPipe (rmL 4 0 0) 0 0 [.ref (g.2.1 + 141), .int x1] w (oI q) := fun q hq => MM_of (own := RX11) hl (by decide) gw_1694 rfl (Nat.le_of_ble_eq_true rfl) (W_X11_isPipe hl q hq) ⟨rfl, rfl⟩

theorem dX11_isTerm_0 : decode cX11_isTerm 0 = .ok (.iload_n 0, 1) := by decide +kernel
theorem dX11_isTerm_1 : decode cX11_isTerm 1 = .ok (.bipush 97, 2) := by decide +kernel
theorem dX11_isTerm_3 : decode cX11_isTerm 3 = .ok (.bipush 104, 2) := by decide +kernel
theorem dX11_isTerm_5 : decode cX11_isTerm 5 = .ok (.invokestatic 63, 3) := by decide +kernel
theorem dX11_isTerm_8 : decode cX11_isTerm 8 = .ok (.ireturn, 1) := by decide +kernel
def f_X11_isTerm (x0 : Int32) (w : XW) : Option (Int32 × XW) := (bI (f_X11_in x0 97 104 w) (fun r1 w1 => (if vp_nar .boolean r1 = r1 then (some (r1, w1)) else none)))
set_option maxRecDepth 100000 in
theorem W_X11_isTerm {g : GC} (hl : g.1.stackTraces = false) {x0 : Int32} {w : XW} : VE g cX11_isTerm 1 RX11 (some .boolean) [] (rmL 4 0 0) 0 0 oI 0 0 0 [(0, .int x0)] [] w (f_X11_isTerm x0 w) := by
  unfold f_X11_isTerm
  refine v_iload_n dX11_isTerm_0 rfl 0 rfl ?_
  refine v_bipush (v := 97) dX11_isTerm_1 (by decide) ?_
  refine v_bipush (v := 104) dX11_isTerm_3 (by decide) ?_
  refine v_callSi (As := [.int x0, .int 97, .int 104]) cs_X11_63 (S_X11_in hl) rfl rfl (Nat.le_of_ble_eq_true rfl) dX11_isTerm_5 (CR_rm (by decide) (by decide) (by decide) (by decide)) (fun r1 w1 => ?_)
  refine v_guard (fun h2 => ?_)
  exact v_zret dX11_isTerm_8 rfl (narB_ok h2) rfl (by decide) (by decide)
theorem S_X11_isTerm {g : GC} (hl : g.1.stackTraces = false) {x0 : Int32} {w : XW} : ∀ q, f_X11_isTerm x0 w = some q → MM g (.code yX11_isTerm cX11_isTerm 1 (some .boolean)) yX11_isTerm (rmL 4 0 0) 0 0 [.int x0] w (oI q) := fun q hq => MM_of (own := RX11) hl (by decide) gw_1577 rfl (Nat.le_of_ble_eq_true rfl) (W_X11_isTerm hl q hq) ⟨rfl, rfl⟩

theorem dX11_has_0 : decode cX11_has 0 = .ok (.aload_n 0, 1) := by decide +kernel
theorem dX11_has_1 : decode cX11_has 1 = .ok (.getfield 7, 3) := by decide +kernel
theorem dX11_has_4 : decode cX11_has 4 = .ok (.bipush 12, 2) := by decide +kernel
theorem dX11_has_6 : decode cX11_has 6 = .ok (.iload_n 1, 1) := by decide +kernel
theorem dX11_has_7 : decode cX11_has 7 = .ok (.iadd, 1) := by decide +kernel
theorem dX11_has_8 : decode cX11_has 8 = .ok (.iaload, 1) := by decide +kernel
theorem dX11_has_9 : decode cX11_has 9 = .ok (.iload_n 2, 1) := by decide +kernel
theorem dX11_has_10 : decode cX11_has 10 = .ok (.bipush 97, 2) := by decide +kernel
theorem dX11_has_12 : decode cX11_has 12 = .ok (.isub, 1) := by decide +kernel
theorem dX11_has_13 : decode cX11_has 13 = .ok (.ishr, 1) := by decide +kernel
theorem dX11_has_14 : decode cX11_has 14 = .ok (.iconst 1, 1) := by decide +kernel
theorem dX11_has_15 : decode cX11_has 15 = .ok (.iand, 1) := by decide +kernel
theorem dX11_has_16 : decode cX11_has 16 = .ok (.iconst 1, 1) := by decide +kernel
theorem dX11_has_17 : decode cX11_has 17 = .ok (.if_icmp .ne 7, 3) := by decide +kernel
theorem dX11_has_20 : decode cX11_has 20 = .ok (.iconst 1, 1) := by decide +kernel
theorem dX11_has_21 : decode cX11_has 21 = .ok (.goto 4, 3) := by decide +kernel
theorem dX11_has_24 : decode cX11_has 24 = .ok (.iconst 0, 1) := by decide +kernel
theorem dX11_has_25 : decode cX11_has 25 = .ok (.ireturn, 1) := by decide +kernel
def f_X11_has (x1 : Int32) (x2 : Int32) (w : XW) : Option (Int32 × XW) := (if inB (12 + x1) 66 then (if (((w.1 142 (Int32.toNatClampNeg (12 + x1))) >>> ((x2 - 97) &&& 31)) &&& 1) = 1 then (some (1, w)) else (some (0, w))) else none)
set_option maxRecDepth 100000 in
theorem W_X11_has {g : GC} (hl : g.1.stackTraces = false) {x1 : Int32} {x2 : Int32} {w : XW} : VE g cX11_has 3 RX11 (some .boolean) [] (rmL 3 0 0) 0 0 oI 0 0 0 [(0, .ref (g.2.1 + 141)), (1, .int x1), (2, .int x2)] [] w (f_X11_has x1 x2 w) := by
  unfold f_X11_has
  refine v_aload_n dX11_has_0 rfl 0 rfl ?_
  refine v_getR fl_X11_7 tt_141 rfl dX11_has_1 ?_
  refine v_bipush (v := 12) dX11_has_4 (by decide) ?_
  refine v_iload_n dX11_has_6 rfl 1 rfl ?_
  refine v_iadd dX11_has_7 ?_
  refine v_guard (fun h1 => ?_)
  refine v_iald tt_142 h1 dX11_has_8 ?_
  refine v_iload_n dX11_has_9 rfl 2 rfl ?_
  refine v_bipush (v := 97) dX11_has_10 (by decide) ?_
  refine v_isub dX11_has_12 ?_
  refine v_ishr dX11_has_13 ?_
  refine v_iconst (v := 1) dX11_has_14 (by decide) ?_
  refine v_iand dX11_has_15 ?_
  refine v_iconst (v := 1) dX11_has_16 (by decide) ?_
  refine v_icmp_ne (tgt := 24) dX11_has_17 (by decide) ?_ ?_
  · refine v_iconst (v := 0) dX11_has_24 (by decide) ?_
    exact v_zret dX11_has_25 rfl rfl rfl (by decide) (by decide)
  · refine v_iconst (v := 1) dX11_has_20 (by decide) ?_
    refine v_goto (tgt := 25) dX11_has_21 (by decide) ?_
    exact v_zret dX11_has_25 rfl rfl rfl (by decide) (by decide)
theorem S_X11_has {g : GC} (hl : g.1.stackTraces = false) {x1 : Int32} {x2 : Int32} {w : XW} : ∀ q, f_X11_has x1 x2 w = some q → MM g (.code yX11_has cX11_has 3 (some .boolean)) yX11_has (rmL 3 0 0) 0 0 [.ref (g.2.1 + 141), .int x1, .int x2] w (oI q) := fun q hq => MM_of (own := RX11) hl (by decide) gw_1581 rfl (Nat.le_of_ble_eq_true rfl) (W_X11_has hl q hq) ⟨rfl, rfl⟩

theorem dX11_terms_0 : decode cX11_terms 0 = .ok (.iconst 0, 1) := by decide +kernel
theorem dX11_terms_1 : decode cX11_terms 1 = .ok (.istore_n 2, 1) := by decide +kernel
theorem dX11_terms_2 : decode cX11_terms 2 = .ok (.bipush 97, 2) := by decide +kernel
theorem dX11_terms_4 : decode cX11_terms 4 = .ok (.istore_n 3, 1) := by decide +kernel
theorem dX11_terms_5 : decode cX11_terms 5 = .ok (.iload_n 3, 1) := by decide +kernel
theorem dX11_terms_6 : decode cX11_terms 6 = .ok (.bipush 104, 2) := by decide +kernel
theorem dX11_terms_8 : decode cX11_terms 8 = .ok (.if_icmp .gt 26, 3) := by decide +kernel
theorem dX11_terms_11 : decode cX11_terms 11 = .ok (.iload_n 2, 1) := by decide +kernel
theorem dX11_terms_12 : decode cX11_terms 12 = .ok (.aload_n 0, 1) := by decide +kernel
theorem dX11_terms_13 : decode cX11_terms 13 = .ok (.iload_n 1, 1) := by decide +kernel
theorem dX11_terms_14 : decode cX11_terms 14 = .ok (.iload_n 3, 1) := by decide +kernel
theorem dX11_terms_15 : decode cX11_terms 15 = .ok (.invokevirtual 67, 3) := by decide +kernel
theorem dX11_terms_18 : decode cX11_terms 18 = .ok (.ifCond .eq 7, 3) := by decide +kernel
theorem dX11_terms_21 : decode cX11_terms 21 = .ok (.iconst 1, 1) := by decide +kernel
theorem dX11_terms_22 : decode cX11_terms 22 = .ok (.goto 4, 3) := by decide +kernel
theorem dX11_terms_25 : decode cX11_terms 25 = .ok (.iconst 0, 1) := by decide +kernel
theorem dX11_terms_26 : decode cX11_terms 26 = .ok (.iadd, 1) := by decide +kernel
theorem dX11_terms_27 : decode cX11_terms 27 = .ok (.istore_n 2, 1) := by decide +kernel
theorem dX11_terms_28 : decode cX11_terms 28 = .ok (.iinc 3 1, 3) := by decide +kernel
theorem dX11_terms_31 : decode cX11_terms 31 = .ok (.goto (-26), 3) := by decide +kernel
theorem dX11_terms_34 : decode cX11_terms 34 = .ok (.iload_n 2, 1) := by decide +kernel
theorem dX11_terms_35 : decode cX11_terms 35 = .ok (.ireturn, 1) := by decide +kernel
def f_X11_terms_5 (y1 : Int32) : Nat → Int32 → Int32 → XW → Option (Int32 × XW)
  | 0, _, _, _ => none
  | n + 1, z2, z3, w => (if 104 < z3 then (some (z2, w)) else (bI (f_X11_has y1 z3 w) (fun r1 w1 => (if r1 = 0 then (f_X11_terms_5 y1 n (z2 + 0) (z3 + 1) w1) else (f_X11_terms_5 y1 n (z2 + 1) (z3 + 1) w1)))))
set_option maxRecDepth 100000 in
theorem S_X11_terms_5 {g : GC} (hl : g.1.stackTraces = false) {y1 : Int32} : ∀ (n : Nat) (z2 : Int32) (z3 : Int32) (w : XW), VE g cX11_terms 4 RX11 (some .int) [] (rmL 4 0 0) 0 0 oI 0 0 5 [(0, .ref (g.2.1 + 141)), (1, .int y1), (2, .int z2), (3, .int z3)] [] w (f_X11_terms_5 y1 n z2 z3 w) := by
  intro n
  induction n with
  | zero => intro z2 z3 w; exact v_none
  | succ n ih =>
    intro z2 z3 w
    rw [f_X11_terms_5]
    refine v_iload_n dX11_terms_5 rfl 3 rfl ?_
    refine v_bipush (v := 104) dX11_terms_6 (by decide) ?_
    refine v_icmp_gt (tgt := 34) dX11_terms_8 (by decide) ?_ ?_
    · refine v_iload_n dX11_terms_34 rfl 2 rfl ?_
      exact v_iret dX11_terms_35 rfl rfl (by decide) (by decide)
    · refine v_iload_n dX11_terms_11 rfl 2 rfl ?_
      refine v_aload_n dX11_terms_12 rfl 0 rfl ?_
      refine v_iload_n dX11_terms_13 rfl 1 rfl ?_
      refine v_iload_n dX11_terms_14 rfl 3 rfl ?_
      refine v_callVi (As := [.int y1, .int z3]) cv_X11_67 (S_X11_has hl) tt_141 rfl rfl rfl (Nat.le_of_ble_eq_true rfl) dX11_terms_15 (CR_rm (by decide) (by decide) (by decide) (by decide)) (fun r1 w1 => ?_)
      refine v_if_eq (tgt := 25) dX11_terms_18 (by decide) ?_ ?_
      · refine v_iconst (v := 0) dX11_terms_25 (by decide) ?_
        refine v_iadd dX11_terms_26 ?_
        refine v_istore_n dX11_terms_27 rfl (Nat.le_of_ble_eq_true rfl) rfl ?_
        refine v_iinc (v := (z3 + 1)) dX11_terms_28 (q := 3) rfl rfl (Nat.le_of_ble_eq_true rfl) rfl ?_
        refine v_goto (tgt := 5) dX11_terms_31 (by decide) ?_
        refine v_sub [2, 3, 1, 0] rfl ?_
        exact ih _ _ _
      · refine v_iconst (v := 1) dX11_terms_21 (by decide) ?_
        refine v_goto (tgt := 26) dX11_terms_22 (by decide) ?_
        refine v_iadd dX11_terms_26 ?_
        refine v_istore_n dX11_terms_27 rfl (Nat.le_of_ble_eq_true rfl) rfl ?_
        refine v_iinc (v := (z3 + 1)) dX11_terms_28 (q := 3) rfl rfl (Nat.le_of_ble_eq_true rfl) rfl ?_
        refine v_goto (tgt := 5) dX11_terms_31 (by decide) ?_
        refine v_sub [2, 3, 1, 0] rfl ?_
        exact ih _ _ _
def f_X11_terms (x1 : Int32) (w : XW) : Option (Int32 × XW) := (f_X11_terms_5 x1 1000 0 97 w)
set_option maxRecDepth 100000 in
theorem W_X11_terms {g : GC} (hl : g.1.stackTraces = false) {x1 : Int32} {w : XW} : VE g cX11_terms 4 RX11 (some .int) [] (rmL 4 0 0) 0 0 oI 0 0 0 [(0, .ref (g.2.1 + 141)), (1, .int x1)] [] w (f_X11_terms x1 w) := by
  unfold f_X11_terms
  refine v_iconst (v := 0) dX11_terms_0 (by decide) ?_
  refine v_istore_n dX11_terms_1 rfl (Nat.le_of_ble_eq_true rfl) rfl ?_
  refine v_bipush (v := 97) dX11_terms_2 (by decide) ?_
  refine v_istore_n dX11_terms_4 rfl (Nat.le_of_ble_eq_true rfl) rfl ?_
  refine v_sub [2, 3, 1, 0] rfl ?_
  exact S_X11_terms_5 hl  _ _ _ _
theorem S_X11_terms {g : GC} (hl : g.1.stackTraces = false) {x1 : Int32} {w : XW} : ∀ q, f_X11_terms x1 w = some q → MM g (.code yX11_terms cX11_terms 4 (some .int)) yX11_terms (rmL 4 0 0) 0 0 [.ref (g.2.1 + 141), .int x1] w (oI q) := fun q hq => MM_of (own := RX11) hl (by decide) gw_1585 rfl (Nat.le_of_ble_eq_true rfl) (W_X11_terms hl q hq) ⟨rfl, rfl⟩

theorem dX11_pipe_0 : decode cX11_pipe 0 = .ok (.aload_n 0, 1) := by decide +kernel
theorem dX11_pipe_1 : decode cX11_pipe 1 = .ok (.getfield 7, 3) := by decide +kernel
theorem dX11_pipe_4 : decode cX11_pipe 4 = .ok (.bipush 26, 2) := by decide +kernel
theorem dX11_pipe_6 : decode cX11_pipe 6 = .ok (.iconst 4, 1) := by decide +kernel
theorem dX11_pipe_7 : decode cX11_pipe 7 = .ok (.iload_n 1, 1) := by decide +kernel
theorem dX11_pipe_8 : decode cX11_pipe 8 = .ok (.imul, 1) := by decide +kernel
theorem dX11_pipe_9 : decode cX11_pipe 9 = .ok (.iadd, 1) := by decide +kernel
theorem dX11_pipe_10 : decode cX11_pipe 10 = .ok (.iload_n 2, 1) := by decide +kernel
theorem dX11_pipe_11 : decode cX11_pipe 11 = .ok (.iadd, 1) := by decide +kernel
theorem dX11_pipe_12 : decode cX11_pipe 12 = .ok (.iaload, 1) := by decide +kernel
theorem dX11_pipe_13 : decode cX11_pipe 13 = .ok (.ireturn, 1) := by decide +kernel
def f_X11_pipe (x1 : Int32) (x2 : Int32) (w : XW) : Option (Int32 × XW) := (if inB ((26 + (4 * x1)) + x2) 66 then (some ((w.1 142 (Int32.toNatClampNeg ((26 + (4 * x1)) + x2))), w)) else none)
set_option maxRecDepth 100000 in
theorem W_X11_pipe {g : GC} (hl : g.1.stackTraces = false) {x1 : Int32} {x2 : Int32} {w : XW} : VE g cX11_pipe 3 RX11 (some .int) [] (rmL 3 0 0) 0 0 oI 0 0 0 [(0, .ref (g.2.1 + 141)), (1, .int x1), (2, .int x2)] [] w (f_X11_pipe x1 x2 w) := by
  unfold f_X11_pipe
  refine v_aload_n dX11_pipe_0 rfl 0 rfl ?_
  refine v_getR fl_X11_7 tt_141 rfl dX11_pipe_1 ?_
  refine v_bipush (v := 26) dX11_pipe_4 (by decide) ?_
  refine v_iconst (v := 4) dX11_pipe_6 (by decide) ?_
  refine v_iload_n dX11_pipe_7 rfl 1 rfl ?_
  refine v_imul dX11_pipe_8 ?_
  refine v_iadd dX11_pipe_9 ?_
  refine v_iload_n dX11_pipe_10 rfl 2 rfl ?_
  refine v_iadd dX11_pipe_11 ?_
  refine v_guard (fun h1 => ?_)
  refine v_iald tt_142 h1 dX11_pipe_12 ?_
  exact v_iret dX11_pipe_13 rfl rfl (by decide) (by decide)
theorem S_X11_pipe {g : GC} (hl : g.1.stackTraces = false) {x1 : Int32} {x2 : Int32} {w : XW} : ∀ q, f_X11_pipe x1 x2 w = some q → MM g (.code yX11_pipe cX11_pipe 3 (some .int)) yX11_pipe (rmL 3 0 0) 0 0 [.ref (g.2.1 + 141), .int x1, .int x2] w (oI q) := fun q hq => MM_of (own := RX11) hl (by decide) gw_1706 rfl (Nat.le_of_ble_eq_true rfl) (W_X11_pipe hl q hq) ⟨rfl, rfl⟩

theorem dX11_broken_0 : decode cX11_broken 0 = .ok (.iconst 0, 1) := by decide +kernel
theorem dX11_broken_1 : decode cX11_broken 1 = .ok (.istore_n 1, 1) := by decide +kernel
theorem dX11_broken_2 : decode cX11_broken 2 = .ok (.iconst 0, 1) := by decide +kernel
theorem dX11_broken_3 : decode cX11_broken 3 = .ok (.istore_n 2, 1) := by decide +kernel
theorem dX11_broken_4 : decode cX11_broken 4 = .ok (.iload_n 2, 1) := by decide +kernel
theorem dX11_broken_5 : decode cX11_broken 5 = .ok (.aload_n 0, 1) := by decide +kernel
theorem dX11_broken_6 : decode cX11_broken 6 = .ok (.getfield 7, 3) := by decide +kernel
theorem dX11_broken_9 : decode cX11_broken 9 = .ok (.iconst 2, 1) := by decide +kernel
theorem dX11_broken_10 : decode cX11_broken 10 = .ok (.iaload, 1) := by decide +kernel
theorem dX11_broken_11 : decode cX11_broken 11 = .ok (.if_icmp .ge 18, 3) := by decide +kernel
theorem dX11_broken_14 : decode cX11_broken 14 = .ok (.iload_n 1, 1) := by decide +kernel
theorem dX11_broken_15 : decode cX11_broken 15 = .ok (.aload_n 0, 1) := by decide +kernel
theorem dX11_broken_16 : decode cX11_broken 16 = .ok (.iload_n 2, 1) := by decide +kernel
theorem dX11_broken_17 : decode cX11_broken 17 = .ok (.iconst 3, 1) := by decide +kernel
theorem dX11_broken_18 : decode cX11_broken 18 = .ok (.invokevirtual 71, 3) := by decide +kernel
theorem dX11_broken_21 : decode cX11_broken 21 = .ok (.iadd, 1) := by decide +kernel
theorem dX11_broken_22 : decode cX11_broken 22 = .ok (.istore_n 1, 1) := by decide +kernel
theorem dX11_broken_23 : decode cX11_broken 23 = .ok (.iinc 2 1, 3) := by decide +kernel
theorem dX11_broken_26 : decode cX11_broken 26 = .ok (.goto (-22), 3) := by decide +kernel
theorem dX11_broken_29 : decode cX11_broken 29 = .ok (.iload_n 1, 1) := by decide +kernel
theorem dX11_broken_30 : decode cX11_broken 30 = .ok (.ireturn, 1) := by decide +kernel
def f_X11_broken_4 : Nat → Int32 → Int32 → XW → Option (Int32 × XW)
  | 0, _, _, _ => none
  | n + 1, z1, z2, w => (if (w.1 142 (Int32.toNatClampNeg 2)) ≤ z2 then (some (z1, w)) else (bI (f_X11_pipe z2 3 w) (fun r1 w1 => (f_X11_broken_4 n (z1 + r1) (z2 + 1) w1))))
set_option maxRecDepth 100000 in
theorem S_X11_broken_4 {g : GC} (hl : g.1.stackTraces = false) : ∀ (n : Nat) (z1 : Int32) (z2 : Int32) (w : XW), VE g cX11_broken 3 RX11 (some .int) [] (rmL 4 0 0) 0 0 oI 0 0 4 [(0, .ref (g.2.1 + 141)), (1, .int z1), (2, .int z2)] [] w (f_X11_broken_4  n z1 z2 w) := by
  intro n
  induction n with
  | zero => intro z1 z2 w; exact v_none
  | succ n ih =>
    intro z1 z2 w
    rw [f_X11_broken_4]
    refine v_iload_n dX11_broken_4 rfl 2 rfl ?_
    refine v_aload_n dX11_broken_5 rfl 0 rfl ?_
    refine v_getR fl_X11_7 tt_141 rfl dX11_broken_6 ?_
    refine v_iconst (v := 2) dX11_broken_9 (by decide) ?_
    refine v_iald tt_142 (by decide : inB 2 66) dX11_broken_10 ?_
    refine v_icmp_ge (tgt := 29) dX11_broken_11 (by decide) ?_ ?_
    · refine v_iload_n dX11_broken_29 rfl 1 rfl ?_
      exact v_iret dX11_broken_30 rfl rfl (by decide) (by decide)
    · refine v_iload_n dX11_broken_14 rfl 1 rfl ?_
      refine v_aload_n dX11_broken_15 rfl 0 rfl ?_
      refine v_iload_n dX11_broken_16 rfl 2 rfl ?_
      refine v_iconst (v := 3) dX11_broken_17 (by decide) ?_
      refine v_callVi (As := [.int z2, .int 3]) cv_X11_71 (S_X11_pipe hl) tt_141 rfl rfl rfl (Nat.le_of_ble_eq_true rfl) dX11_broken_18 (CR_rm (by decide) (by decide) (by decide) (by decide)) (fun r1 w1 => ?_)
      refine v_iadd dX11_broken_21 ?_
      refine v_istore_n dX11_broken_22 rfl (Nat.le_of_ble_eq_true rfl) rfl ?_
      refine v_iinc (v := (z2 + 1)) dX11_broken_23 (q := 2) rfl rfl (Nat.le_of_ble_eq_true rfl) rfl ?_
      refine v_goto (tgt := 4) dX11_broken_26 (by decide) ?_
      refine v_sub [2, 1, 0] rfl ?_
      exact ih _ _ _
def f_X11_broken (w : XW) : Option (Int32 × XW) := (f_X11_broken_4 1000 0 0 w)
set_option maxRecDepth 100000 in
theorem W_X11_broken {g : GC} (hl : g.1.stackTraces = false) {w : XW} : VE g cX11_broken 3 RX11 (some .int) [] (rmL 4 0 0) 0 0 oI 0 0 0 [(0, .ref (g.2.1 + 141))] [] w (f_X11_broken  w) := by
  unfold f_X11_broken
  refine v_iconst (v := 0) dX11_broken_0 (by decide) ?_
  refine v_istore_n dX11_broken_1 rfl (Nat.le_of_ble_eq_true rfl) rfl ?_
  refine v_iconst (v := 0) dX11_broken_2 (by decide) ?_
  refine v_istore_n dX11_broken_3 rfl (Nat.le_of_ble_eq_true rfl) rfl ?_
  refine v_sub [2, 1, 0] rfl ?_
  exact S_X11_broken_4 hl  _ _ _ _
theorem S_X11_broken {g : GC} (hl : g.1.stackTraces = false) {w : XW} : ∀ q, f_X11_broken  w = some q → MM g (.code yX11_broken cX11_broken 3 (some .int)) yX11_broken (rmL 4 0 0) 0 0 [.ref (g.2.1 + 141)] w (oI q) := fun q hq => MM_of (own := RX11) hl (by decide) gw_1710 rfl (Nat.le_of_ble_eq_true rfl) (W_X11_broken hl q hq) ⟨rfl, rfl⟩

theorem dX11_lays_0 : decode cX11_lays 0 = .ok (.iconst 0, 1) := by decide +kernel
theorem dX11_lays_1 : decode cX11_lays 1 = .ok (.istore_n 2, 1) := by decide +kernel
theorem dX11_lays_2 : decode cX11_lays 2 = .ok (.iload_n 2, 1) := by decide +kernel
theorem dX11_lays_3 : decode cX11_lays 3 = .ok (.aload_n 0, 1) := by decide +kernel
theorem dX11_lays_4 : decode cX11_lays 4 = .ok (.getfield 7, 3) := by decide +kernel
theorem dX11_lays_7 : decode cX11_lays 7 = .ok (.iconst 1, 1) := by decide +kernel
theorem dX11_lays_8 : decode cX11_lays 8 = .ok (.iaload, 1) := by decide +kernel
theorem dX11_lays_9 : decode cX11_lays 9 = .ok (.if_icmp .ge 35, 3) := by decide +kernel
theorem dX11_lays_12 : decode cX11_lays 12 = .ok (.aload_n 0, 1) := by decide +kernel
theorem dX11_lays_13 : decode cX11_lays 13 = .ok (.getfield 31, 3) := by decide +kernel
theorem dX11_lays_16 : decode cX11_lays 16 = .ok (.aload_n 0, 1) := by decide +kernel
theorem dX11_lays_17 : decode cX11_lays 17 = .ok (.getfield 7, 3) := by decide +kernel
theorem dX11_lays_20 : decode cX11_lays 20 = .ok (.bipush 19, 2) := by decide +kernel
theorem dX11_lays_22 : decode cX11_lays 22 = .ok (.iload_n 2, 1) := by decide +kernel
theorem dX11_lays_23 : decode cX11_lays 23 = .ok (.iadd, 1) := by decide +kernel
theorem dX11_lays_24 : decode cX11_lays 24 = .ok (.iaload, 1) := by decide +kernel
theorem dX11_lays_25 : decode cX11_lays 25 = .ok (.iload_n 2, 1) := by decide +kernel
theorem dX11_lays_26 : decode cX11_lays 26 = .ok (.iload_n 1, 1) := by decide +kernel
theorem dX11_lays_27 : decode cX11_lays 27 = .ok (.if_icmp .ge 7, 3) := by decide +kernel
theorem dX11_lays_30 : decode cX11_lays 30 = .ok (.iload_n 2, 1) := by decide +kernel
theorem dX11_lays_31 : decode cX11_lays 31 = .ok (.goto 6, 3) := by decide +kernel
theorem dX11_lays_34 : decode cX11_lays 34 = .ok (.iload_n 2, 1) := by decide +kernel
theorem dX11_lays_35 : decode cX11_lays 35 = .ok (.iconst 1, 1) := by decide +kernel
theorem dX11_lays_36 : decode cX11_lays 36 = .ok (.iadd, 1) := by decide +kernel
theorem dX11_lays_37 : decode cX11_lays 37 = .ok (.iastore, 1) := by decide +kernel
theorem dX11_lays_38 : decode cX11_lays 38 = .ok (.iinc 2 1, 3) := by decide +kernel
theorem dX11_lays_41 : decode cX11_lays 41 = .ok (.goto (-39), 3) := by decide +kernel
theorem dX11_lays_44 : decode cX11_lays 44 = .ok (.aload_n 0, 1) := by decide +kernel
theorem dX11_lays_45 : decode cX11_lays 45 = .ok (.getfield 31, 3) := by decide +kernel
theorem dX11_lays_48 : decode cX11_lays 48 = .ok (.aload_n 0, 1) := by decide +kernel
theorem dX11_lays_49 : decode cX11_lays 49 = .ok (.getfield 7, 3) := by decide +kernel
theorem dX11_lays_52 : decode cX11_lays 52 = .ok (.iconst 1, 1) := by decide +kernel
theorem dX11_lays_53 : decode cX11_lays 53 = .ok (.iaload, 1) := by decide +kernel
theorem dX11_lays_54 : decode cX11_lays 54 = .ok (.iload_n 1, 1) := by decide +kernel
theorem dX11_lays_55 : decode cX11_lays 55 = .ok (.iastore, 1) := by decide +kernel
theorem dX11_lays_56 : decode cX11_lays 56 = .ok (.return_, 1) := by decide +kernel
def f_X11_lays_2 (y1 : Int32) : Nat → Int32 → XW → Option (XW)
  | 0, _, _ => none
  | n + 1, z2, w => (if (w.1 142 (Int32.toNatClampNeg 1)) ≤ z2 then (if inB (w.1 142 (Int32.toNatClampNeg 1)) 7 then (some (wset w 149 (Int32.toNatClampNeg (w.1 142 (Int32.toNatClampNeg 1))) y1)) else none) else (if inB (19 + z2) 66 then (if y1 ≤ z2 then (if inB (w.1 142 (Int32.toNatClampNeg (19 + z2))) 7 then (f_X11_lays_2 y1 n (z2 + 1) (wset w 149 (Int32.toNatClampNeg (w.1 142 (Int32.toNatClampNeg (19 + z2)))) (z2 + 1))) else none) else (if inB (w.1 142 (Int32.toNatClampNeg (19 + z2))) 7 then (f_X11_lays_2 y1 n (z2 + 1) (wset w 149 (Int32.toNatClampNeg (w.1 142 (Int32.toNatClampNeg (19 + z2)))) z2)) else none)) else none))
set_option maxRecDepth 100000 in
theorem S_X11_lays_2 {g : GC} (hl : g.1.stackTraces = false) {y1 : Int32} : ∀ (n : Nat) (z2 : Int32) (w : XW), VE g cX11_lays 3 RX11 none [] (rmL 3 0 0) 0 0 oV 0 0 2 [(0, .ref (g.2.1 + 141)), (1, .int y1), (2, .int z2)] [] w (f_X11_lays_2 y1 n z2 w) := by
  intro n
  induction n with
  | zero => intro z2 w; exact v_none
  | succ n ih =>
    intro z2 w
    rw [f_X11_lays_2]
    refine v_iload_n dX11_lays_2 rfl 2 rfl ?_
    refine v_aload_n dX11_lays_3 rfl 0 rfl ?_
    refine v_getR fl_X11_7 tt_141 rfl dX11_lays_4 ?_
    refine v_iconst (v := 1) dX11_lays_7 (by decide) ?_
    refine v_iald tt_142 (by decide : inB 1 66) dX11_lays_8 ?_
    refine v_icmp_ge (tgt := 44) dX11_lays_9 (by decide) ?_ ?_
    · refine v_aload_n dX11_lays_44 rfl 0 rfl ?_
      refine v_getR fl_X11_31 tt_141 rfl dX11_lays_45 ?_
      refine v_aload_n dX11_lays_48 rfl 0 rfl ?_
      refine v_getR fl_X11_7 tt_141 rfl dX11_lays_49 ?_
      refine v_iconst (v := 1) dX11_lays_52 (by decide) ?_
      refine v_iald tt_142 (by decide : inB 1 66) dX11_lays_53 ?_
      refine v_iload_n dX11_lays_54 rfl 1 rfl ?_
      refine v_guard (fun h1 => ?_)
      refine v_iast tt_149 h1 dX11_lays_55 ?_
      exact v_vret dX11_lays_56 rfl rfl (by decide) (by decide)
    · refine v_aload_n dX11_lays_12 rfl 0 rfl ?_
      refine v_getR fl_X11_31 tt_141 rfl dX11_lays_13 ?_
      refine v_aload_n dX11_lays_16 rfl 0 rfl ?_
      refine v_getR fl_X11_7 tt_141 rfl dX11_lays_17 ?_
      refine v_bipush (v := 19) dX11_lays_20 (by decide) ?_
      refine v_iload_n dX11_lays_22 rfl 2 rfl ?_
      refine v_iadd dX11_lays_23 ?_
      refine v_guard (fun h2 => ?_)
      refine v_iald tt_142 h2 dX11_lays_24 ?_
      refine v_iload_n dX11_lays_25 rfl 2 rfl ?_
      refine v_iload_n dX11_lays_26 rfl 1 rfl ?_
      refine v_icmp_ge (tgt := 34) dX11_lays_27 (by decide) ?_ ?_
      · refine v_iload_n dX11_lays_34 rfl 2 rfl ?_
        refine v_iconst (v := 1) dX11_lays_35 (by decide) ?_
        refine v_iadd dX11_lays_36 ?_
        refine v_guard (fun h3 => ?_)
        refine v_iast tt_149 h3 dX11_lays_37 ?_
        refine v_iinc (v := (z2 + 1)) dX11_lays_38 (q := 2) rfl rfl (Nat.le_of_ble_eq_true rfl) rfl ?_
        refine v_goto (tgt := 2) dX11_lays_41 (by decide) ?_
        refine v_sub [1, 2, 0] rfl ?_
        exact ih _ _
      · refine v_iload_n dX11_lays_30 rfl 2 rfl ?_
        refine v_goto (tgt := 37) dX11_lays_31 (by decide) ?_
        refine v_guard (fun h4 => ?_)
        refine v_iast tt_149 h4 dX11_lays_37 ?_
        refine v_iinc (v := (z2 + 1)) dX11_lays_38 (q := 2) rfl rfl (Nat.le_of_ble_eq_true rfl) rfl ?_
        refine v_goto (tgt := 2) dX11_lays_41 (by decide) ?_
        refine v_sub [1, 2, 0] rfl ?_
        exact ih _ _
def f_X11_lays (x1 : Int32) (w : XW) : Option (XW) := (f_X11_lays_2 x1 1000 0 w)
set_option maxRecDepth 100000 in
theorem W_X11_lays {g : GC} (hl : g.1.stackTraces = false) {x1 : Int32} {w : XW} : VE g cX11_lays 3 RX11 none [] (rmL 3 0 0) 0 0 oV 0 0 0 [(0, .ref (g.2.1 + 141)), (1, .int x1)] [] w (f_X11_lays x1 w) := by
  unfold f_X11_lays
  refine v_iconst (v := 0) dX11_lays_0 (by decide) ?_
  refine v_istore_n dX11_lays_1 rfl (Nat.le_of_ble_eq_true rfl) rfl ?_
  refine v_sub [1, 2, 0] rfl ?_
  exact S_X11_lays_2 hl  _ _ _
theorem S_X11_lays {g : GC} (hl : g.1.stackTraces = false) {x1 : Int32} {w : XW} : ∀ q, f_X11_lays x1 w = some q → MM g (.code yX11_lays cX11_lays 3 none) yX11_lays (rmL 3 0 0) 0 0 [.ref (g.2.1 + 141), .int x1] w (oV q) := fun q hq => MM_of (own := RX11) hl (by decide) gw_1629 rfl (Nat.le_of_ble_eq_true rfl) (W_X11_lays hl q hq) ⟨rfl, rfl⟩

theorem dX11_crossed_0 : decode cX11_crossed 0 = .ok (.aload_n 0, 1) := by decide +kernel
theorem dX11_crossed_1 : decode cX11_crossed 1 = .ok (.getfield 7, 3) := by decide +kernel
theorem dX11_crossed_4 : decode cX11_crossed 4 = .ok (.iconst 1, 1) := by decide +kernel
theorem dX11_crossed_5 : decode cX11_crossed 5 = .ok (.iaload, 1) := by decide +kernel
theorem dX11_crossed_6 : decode cX11_crossed 6 = .ok (.iconst 1, 1) := by decide +kernel
theorem dX11_crossed_7 : decode cX11_crossed 7 = .ok (.isub, 1) := by decide +kernel
theorem dX11_crossed_8 : decode cX11_crossed 8 = .ok (.istore_n 2, 1) := by decide +kernel
theorem dX11_crossed_9 : decode cX11_crossed 9 = .ok (.iload_n 2, 1) := by decide +kernel
theorem dX11_crossed_10 : decode cX11_crossed 10 = .ok (.ifCond .ge 5, 3) := by decide +kernel
theorem dX11_crossed_13 : decode cX11_crossed 13 = .ok (.iconst (-1), 1) := by decide +kernel
theorem dX11_crossed_14 : decode cX11_crossed 14 = .ok (.ireturn, 1) := by decide +kernel
theorem dX11_crossed_15 : decode cX11_crossed 15 = .ok (.aload_n 0, 1) := by decide +kernel
theorem dX11_crossed_16 : decode cX11_crossed 16 = .ok (.iload_n 1, 1) := by decide +kernel
theorem dX11_crossed_17 : decode cX11_crossed 17 = .ok (.invokevirtual 75, 3) := by decide +kernel
theorem dX11_crossed_20 : decode cX11_crossed 20 = .ok (.aload_n 0, 1) := by decide +kernel
theorem dX11_crossed_21 : decode cX11_crossed 21 = .ok (.getfield 31, 3) := by decide +kernel
theorem dX11_crossed_24 : decode cX11_crossed 24 = .ok (.iload_n 2, 1) := by decide +kernel
theorem dX11_crossed_25 : decode cX11_crossed 25 = .ok (.iaload, 1) := by decide +kernel
theorem dX11_crossed_26 : decode cX11_crossed 26 = .ok (.aload_n 0, 1) := by decide +kernel
theorem dX11_crossed_27 : decode cX11_crossed 27 = .ok (.getfield 31, 3) := by decide +kernel
theorem dX11_crossed_30 : decode cX11_crossed 30 = .ok (.iload_n 2, 1) := by decide +kernel
theorem dX11_crossed_31 : decode cX11_crossed 31 = .ok (.iconst 1, 1) := by decide +kernel
theorem dX11_crossed_32 : decode cX11_crossed 32 = .ok (.iadd, 1) := by decide +kernel
theorem dX11_crossed_33 : decode cX11_crossed 33 = .ok (.iaload, 1) := by decide +kernel
theorem dX11_crossed_34 : decode cX11_crossed 34 = .ok (.if_icmp .ge 12, 3) := by decide +kernel
theorem dX11_crossed_37 : decode cX11_crossed 37 = .ok (.aload_n 0, 1) := by decide +kernel
theorem dX11_crossed_38 : decode cX11_crossed 38 = .ok (.getfield 31, 3) := by decide +kernel
theorem dX11_crossed_41 : decode cX11_crossed 41 = .ok (.iload_n 2, 1) := by decide +kernel
theorem dX11_crossed_42 : decode cX11_crossed 42 = .ok (.iaload, 1) := by decide +kernel
theorem dX11_crossed_43 : decode cX11_crossed 43 = .ok (.goto 11, 3) := by decide +kernel
theorem dX11_crossed_46 : decode cX11_crossed 46 = .ok (.aload_n 0, 1) := by decide +kernel
theorem dX11_crossed_47 : decode cX11_crossed 47 = .ok (.getfield 31, 3) := by decide +kernel
theorem dX11_crossed_50 : decode cX11_crossed 50 = .ok (.iload_n 2, 1) := by decide +kernel
theorem dX11_crossed_51 : decode cX11_crossed 51 = .ok (.iconst 1, 1) := by decide +kernel
theorem dX11_crossed_52 : decode cX11_crossed 52 = .ok (.iadd, 1) := by decide +kernel
theorem dX11_crossed_53 : decode cX11_crossed 53 = .ok (.iaload, 1) := by decide +kernel
theorem dX11_crossed_54 : decode cX11_crossed 54 = .ok (.istore_n 3, 1) := by decide +kernel
theorem dX11_crossed_55 : decode cX11_crossed 55 = .ok (.aload_n 0, 1) := by decide +kernel
theorem dX11_crossed_56 : decode cX11_crossed 56 = .ok (.getfield 31, 3) := by decide +kernel
theorem dX11_crossed_59 : decode cX11_crossed 59 = .ok (.iload_n 2, 1) := by decide +kernel
theorem dX11_crossed_60 : decode cX11_crossed 60 = .ok (.iaload, 1) := by decide +kernel
theorem dX11_crossed_61 : decode cX11_crossed 61 = .ok (.aload_n 0, 1) := by decide +kernel
theorem dX11_crossed_62 : decode cX11_crossed 62 = .ok (.getfield 31, 3) := by decide +kernel
theorem dX11_crossed_65 : decode cX11_crossed 65 = .ok (.iload_n 2, 1) := by decide +kernel
theorem dX11_crossed_66 : decode cX11_crossed 66 = .ok (.iconst 1, 1) := by decide +kernel
theorem dX11_crossed_67 : decode cX11_crossed 67 = .ok (.iadd, 1) := by decide +kernel
theorem dX11_crossed_68 : decode cX11_crossed 68 = .ok (.iaload, 1) := by decide +kernel
theorem dX11_crossed_69 : decode cX11_crossed 69 = .ok (.iadd, 1) := by decide +kernel
theorem dX11_crossed_70 : decode cX11_crossed 70 = .ok (.iload_n 3, 1) := by decide +kernel
theorem dX11_crossed_71 : decode cX11_crossed 71 = .ok (.isub, 1) := by decide +kernel
theorem dX11_crossed_72 : decode cX11_crossed 72 = .ok (.istore 4, 2) := by decide +kernel
theorem dX11_crossed_74 : decode cX11_crossed 74 = .ok (.iload_n 2, 1) := by decide +kernel
theorem dX11_crossed_75 : decode cX11_crossed 75 = .ok (.iconst 1, 1) := by decide +kernel
theorem dX11_crossed_76 : decode cX11_crossed 76 = .ok (.iand, 1) := by decide +kernel
theorem dX11_crossed_77 : decode cX11_crossed 77 = .ok (.istore 5, 2) := by decide +kernel
theorem dX11_crossed_79 : decode cX11_crossed 79 = .ok (.iload 5, 2) := by decide +kernel
theorem dX11_crossed_81 : decode cX11_crossed 81 = .ok (.iload_n 2, 1) := by decide +kernel
theorem dX11_crossed_82 : decode cX11_crossed 82 = .ok (.if_icmp .ge 113, 3) := by decide +kernel
theorem dX11_crossed_85 : decode cX11_crossed 85 = .ok (.aload_n 0, 1) := by decide +kernel
theorem dX11_crossed_86 : decode cX11_crossed 86 = .ok (.getfield 31, 3) := by decide +kernel
theorem dX11_crossed_89 : decode cX11_crossed 89 = .ok (.iload 5, 2) := by decide +kernel
theorem dX11_crossed_91 : decode cX11_crossed 91 = .ok (.iaload, 1) := by decide +kernel
theorem dX11_crossed_92 : decode cX11_crossed 92 = .ok (.aload_n 0, 1) := by decide +kernel
theorem dX11_crossed_93 : decode cX11_crossed 93 = .ok (.getfield 31, 3) := by decide +kernel
theorem dX11_crossed_96 : decode cX11_crossed 96 = .ok (.iload 5, 2) := by decide +kernel
theorem dX11_crossed_98 : decode cX11_crossed 98 = .ok (.iconst 1, 1) := by decide +kernel
theorem dX11_crossed_99 : decode cX11_crossed 99 = .ok (.iadd, 1) := by decide +kernel
theorem dX11_crossed_100 : decode cX11_crossed 100 = .ok (.iaload, 1) := by decide +kernel
theorem dX11_crossed_101 : decode cX11_crossed 101 = .ok (.if_icmp .ge 13, 3) := by decide +kernel
theorem dX11_crossed_104 : decode cX11_crossed 104 = .ok (.aload_n 0, 1) := by decide +kernel
theorem dX11_crossed_105 : decode cX11_crossed 105 = .ok (.getfield 31, 3) := by decide +kernel
theorem dX11_crossed_108 : decode cX11_crossed 108 = .ok (.iload 5, 2) := by decide +kernel
theorem dX11_crossed_110 : decode cX11_crossed 110 = .ok (.iaload, 1) := by decide +kernel
theorem dX11_crossed_111 : decode cX11_crossed 111 = .ok (.goto 12, 3) := by decide +kernel
theorem dX11_crossed_114 : decode cX11_crossed 114 = .ok (.aload_n 0, 1) := by decide +kernel
theorem dX11_crossed_115 : decode cX11_crossed 115 = .ok (.getfield 31, 3) := by decide +kernel
theorem dX11_crossed_118 : decode cX11_crossed 118 = .ok (.iload 5, 2) := by decide +kernel
theorem dX11_crossed_120 : decode cX11_crossed 120 = .ok (.iconst 1, 1) := by decide +kernel
theorem dX11_crossed_121 : decode cX11_crossed 121 = .ok (.iadd, 1) := by decide +kernel
theorem dX11_crossed_122 : decode cX11_crossed 122 = .ok (.iaload, 1) := by decide +kernel
theorem dX11_crossed_123 : decode cX11_crossed 123 = .ok (.istore 6, 2) := by decide +kernel
theorem dX11_crossed_125 : decode cX11_crossed 125 = .ok (.aload_n 0, 1) := by decide +kernel
theorem dX11_crossed_126 : decode cX11_crossed 126 = .ok (.getfield 31, 3) := by decide +kernel
theorem dX11_crossed_129 : decode cX11_crossed 129 = .ok (.iload 5, 2) := by decide +kernel
theorem dX11_crossed_131 : decode cX11_crossed 131 = .ok (.iaload, 1) := by decide +kernel
theorem dX11_crossed_132 : decode cX11_crossed 132 = .ok (.aload_n 0, 1) := by decide +kernel
theorem dX11_crossed_133 : decode cX11_crossed 133 = .ok (.getfield 31, 3) := by decide +kernel
theorem dX11_crossed_136 : decode cX11_crossed 136 = .ok (.iload 5, 2) := by decide +kernel
theorem dX11_crossed_138 : decode cX11_crossed 138 = .ok (.iconst 1, 1) := by decide +kernel
theorem dX11_crossed_139 : decode cX11_crossed 139 = .ok (.iadd, 1) := by decide +kernel
theorem dX11_crossed_140 : decode cX11_crossed 140 = .ok (.iaload, 1) := by decide +kernel
theorem dX11_crossed_141 : decode cX11_crossed 141 = .ok (.iadd, 1) := by decide +kernel
theorem dX11_crossed_142 : decode cX11_crossed 142 = .ok (.iload 6, 2) := by decide +kernel
theorem dX11_crossed_144 : decode cX11_crossed 144 = .ok (.isub, 1) := by decide +kernel
theorem dX11_crossed_145 : decode cX11_crossed 145 = .ok (.istore 7, 2) := by decide +kernel
theorem dX11_crossed_147 : decode cX11_crossed 147 = .ok (.iload 6, 2) := by decide +kernel
theorem dX11_crossed_149 : decode cX11_crossed 149 = .ok (.iload_n 3, 1) := by decide +kernel
theorem dX11_crossed_150 : decode cX11_crossed 150 = .ok (.if_icmp .ge 16, 3) := by decide +kernel
theorem dX11_crossed_153 : decode cX11_crossed 153 = .ok (.iload_n 3, 1) := by decide +kernel
theorem dX11_crossed_154 : decode cX11_crossed 154 = .ok (.iload 7, 2) := by decide +kernel
theorem dX11_crossed_156 : decode cX11_crossed 156 = .ok (.if_icmp .ge 10, 3) := by decide +kernel
theorem dX11_crossed_159 : decode cX11_crossed 159 = .ok (.iload 7, 2) := by decide +kernel
theorem dX11_crossed_161 : decode cX11_crossed 161 = .ok (.iload 4, 2) := by decide +kernel
theorem dX11_crossed_163 : decode cX11_crossed 163 = .ok (.if_icmp .lt 23, 3) := by decide +kernel
theorem dX11_crossed_166 : decode cX11_crossed 166 = .ok (.iload_n 3, 1) := by decide +kernel
theorem dX11_crossed_167 : decode cX11_crossed 167 = .ok (.iload 6, 2) := by decide +kernel
theorem dX11_crossed_169 : decode cX11_crossed 169 = .ok (.if_icmp .ge 20, 3) := by decide +kernel
theorem dX11_crossed_172 : decode cX11_crossed 172 = .ok (.iload 6, 2) := by decide +kernel
theorem dX11_crossed_174 : decode cX11_crossed 174 = .ok (.iload 4, 2) := by decide +kernel
theorem dX11_crossed_176 : decode cX11_crossed 176 = .ok (.if_icmp .ge 13, 3) := by decide +kernel
theorem dX11_crossed_179 : decode cX11_crossed 179 = .ok (.iload 4, 2) := by decide +kernel
theorem dX11_crossed_181 : decode cX11_crossed 181 = .ok (.iload 7, 2) := by decide +kernel
theorem dX11_crossed_183 : decode cX11_crossed 183 = .ok (.if_icmp .ge 6, 3) := by decide +kernel
theorem dX11_crossed_186 : decode cX11_crossed 186 = .ok (.iload 5, 2) := by decide +kernel
theorem dX11_crossed_188 : decode cX11_crossed 188 = .ok (.ireturn, 1) := by decide +kernel
theorem dX11_crossed_189 : decode cX11_crossed 189 = .ok (.iinc 5 2, 3) := by decide +kernel
theorem dX11_crossed_192 : decode cX11_crossed 192 = .ok (.goto (-113), 3) := by decide +kernel
theorem dX11_crossed_195 : decode cX11_crossed 195 = .ok (.iconst (-1), 1) := by decide +kernel
theorem dX11_crossed_196 : decode cX11_crossed 196 = .ok (.ireturn, 1) := by decide +kernel
def f_X11_crossed_79 (y2 : Int32) (y3 : Int32) (y4 : Int32) : Nat → Int32 → XW → Option (Int32 × XW)
  | 0, _, _ => none
  | n + 1, z5, w => (if y2 ≤ z5 then (some ((-1), w)) else (if inB z5 7 then (if inB (z5 + 1) 7 then (if (w.1 149 (Int32.toNatClampNeg (z5 + 1))) ≤ (w.1 149 (Int32.toNatClampNeg z5)) then (if inB (z5 + 1) 7 then (if inB z5 7 then (if inB (z5 + 1) 7 then (if y3 ≤ (w.1 149 (Int32.toNatClampNeg (z5 + 1))) then (if (w.1 149 (Int32.toNatClampNeg (z5 + 1))) ≤ y3 then (f_X11_crossed_79 y2 y3 y4 n (z5 + 2) w) else (if y4 ≤ (w.1 149 (Int32.toNatClampNeg (z5 + 1))) then (f_X11_crossed_79 y2 y3 y4 n (z5 + 2) w) else (if (((w.1 149 (Int32.toNatClampNeg z5)) + (w.1 149 (Int32.toNatClampNeg (z5 + 1)))) - (w.1 149 (Int32.toNatClampNeg (z5 + 1)))) ≤ y4 then (f_X11_crossed_79 y2 y3 y4 n (z5 + 2) w) else (some (z5, w))))) else (if (((w.1 149 (Int32.toNatClampNeg z5)) + (w.1 149 (Int32.toNatClampNeg (z5 + 1)))) - (w.1 149 (Int32.toNatClampNeg (z5 + 1)))) ≤ y3 then (if (w.1 149 (Int32.toNatClampNeg (z5 + 1))) ≤ y3 then (f_X11_crossed_79 y2 y3 y4 n (z5 + 2) w) else (if y4 ≤ (w.1 149 (Int32.toNatClampNeg (z5 + 1))) then (f_X11_crossed_79 y2 y3 y4 n (z5 + 2) w) else (if (((w.1 149 (Int32.toNatClampNeg z5)) + (w.1 149 (Int32.toNatClampNeg (z5 + 1)))) - (w.1 149 (Int32.toNatClampNeg (z5 + 1)))) ≤ y4 then (f_X11_crossed_79 y2 y3 y4 n (z5 + 2) w) else (some (z5, w))))) else (if (((w.1 149 (Int32.toNatClampNeg z5)) + (w.1 149 (Int32.toNatClampNeg (z5 + 1)))) - (w.1 149 (Int32.toNatClampNeg (z5 + 1)))) < y4 then (some (z5, w)) else (if (w.1 149 (Int32.toNatClampNeg (z5 + 1))) ≤ y3 then (f_X11_crossed_79 y2 y3 y4 n (z5 + 2) w) else (if y4 ≤ (w.1 149 (Int32.toNatClampNeg (z5 + 1))) then (f_X11_crossed_79 y2 y3 y4 n (z5 + 2) w) else (if (((w.1 149 (Int32.toNatClampNeg z5)) + (w.1 149 (Int32.toNatClampNeg (z5 + 1)))) - (w.1 149 (Int32.toNatClampNeg (z5 + 1)))) ≤ y4 then (f_X11_crossed_79 y2 y3 y4 n (z5 + 2) w) else (some (z5, w)))))))) else none) else none) else none) else (if inB z5 7 then (if inB z5 7 then (if inB (z5 + 1) 7 then (if y3 ≤ (w.1 149 (Int32.toNatClampNeg z5)) then (if (w.1 149 (Int32.toNatClampNeg z5)) ≤ y3 then (f_X11_crossed_79 y2 y3 y4 n (z5 + 2) w) else (if y4 ≤ (w.1 149 (Int32.toNatClampNeg z5)) then (f_X11_crossed_79 y2 y3 y4 n (z5 + 2) w) else (if (((w.1 149 (Int32.toNatClampNeg z5)) + (w.1 149 (Int32.toNatClampNeg (z5 + 1)))) - (w.1 149 (Int32.toNatClampNeg z5))) ≤ y4 then (f_X11_crossed_79 y2 y3 y4 n (z5 + 2) w) else (some (z5, w))))) else (if (((w.1 149 (Int32.toNatClampNeg z5)) + (w.1 149 (Int32.toNatClampNeg (z5 + 1)))) - (w.1 149 (Int32.toNatClampNeg z5))) ≤ y3 then (if (w.1 149 (Int32.toNatClampNeg z5)) ≤ y3 then (f_X11_crossed_79 y2 y3 y4 n (z5 + 2) w) else (if y4 ≤ (w.1 149 (Int32.toNatClampNeg z5)) then (f_X11_crossed_79 y2 y3 y4 n (z5 + 2) w) else (if (((w.1 149 (Int32.toNatClampNeg z5)) + (w.1 149 (Int32.toNatClampNeg (z5 + 1)))) - (w.1 149 (Int32.toNatClampNeg z5))) ≤ y4 then (f_X11_crossed_79 y2 y3 y4 n (z5 + 2) w) else (some (z5, w))))) else (if (((w.1 149 (Int32.toNatClampNeg z5)) + (w.1 149 (Int32.toNatClampNeg (z5 + 1)))) - (w.1 149 (Int32.toNatClampNeg z5))) < y4 then (some (z5, w)) else (if (w.1 149 (Int32.toNatClampNeg z5)) ≤ y3 then (f_X11_crossed_79 y2 y3 y4 n (z5 + 2) w) else (if y4 ≤ (w.1 149 (Int32.toNatClampNeg z5)) then (f_X11_crossed_79 y2 y3 y4 n (z5 + 2) w) else (if (((w.1 149 (Int32.toNatClampNeg z5)) + (w.1 149 (Int32.toNatClampNeg (z5 + 1)))) - (w.1 149 (Int32.toNatClampNeg z5))) ≤ y4 then (f_X11_crossed_79 y2 y3 y4 n (z5 + 2) w) else (some (z5, w)))))))) else none) else none) else none)) else none) else none))
set_option maxRecDepth 100000 in
theorem S_X11_crossed_79 {g : GC} (hl : g.1.stackTraces = false) {y2 : Int32} {y3 : Int32} {y4 : Int32} : ∀ (n : Nat) (z5 : Int32) (w : XW), VE g cX11_crossed 8 RX11 (some .int) [] (rmL 4 0 0) 0 0 oI 0 0 79 [(0, .ref (g.2.1 + 141)), (2, .int y2), (3, .int y3), (4, .int y4), (5, .int z5)] [] w (f_X11_crossed_79 y2 y3 y4 n z5 w) := by
  intro n
  induction n with
  | zero => intro z5 w; exact v_none
  | succ n ih =>
    intro z5 w
    rw [f_X11_crossed_79]
    refine v_iload dX11_crossed_79 4 rfl ?_
    refine v_iload_n dX11_crossed_81 rfl 1 rfl ?_
    refine v_icmp_ge (tgt := 195) dX11_crossed_82 (by decide) ?_ ?_
    · refine v_iconst (v := (-1)) dX11_crossed_195 (by decide) ?_
      exact v_iret dX11_crossed_196 rfl rfl (by decide) (by decide)
    · refine v_aload_n dX11_crossed_85 rfl 0 rfl ?_
      refine v_getR fl_X11_31 tt_141 rfl dX11_crossed_86 ?_
      refine v_iload dX11_crossed_89 4 rfl ?_
      refine v_guard (fun h10 => ?_)
      refine v_iald tt_149 h10 dX11_crossed_91 ?_
      refine v_aload_n dX11_crossed_92 rfl 0 rfl ?_
      refine v_getR fl_X11_31 tt_141 rfl dX11_crossed_93 ?_
      refine v_iload dX11_crossed_96 4 rfl ?_
      refine v_iconst (v := 1) dX11_crossed_98 (by decide) ?_
      refine v_iadd dX11_crossed_99 ?_
      refine v_guard (fun h11 => ?_)
      refine v_iald tt_149 h11 dX11_crossed_100 ?_
      refine v_icmp_ge (tgt := 114) dX11_crossed_101 (by decide) ?_ ?_
      · refine v_aload_n dX11_crossed_114 rfl 0 rfl ?_
        refine v_getR fl_X11_31 tt_141 rfl dX11_crossed_115 ?_
        refine v_iload dX11_crossed_118 4 rfl ?_
        refine v_iconst (v := 1) dX11_crossed_120 (by decide) ?_
        refine v_iadd dX11_crossed_121 ?_
        refine v_guard (fun h12 => ?_)
        refine v_iald tt_149 h12 dX11_crossed_122 ?_
        refine v_istore dX11_crossed_123 (Nat.le_of_ble_eq_true rfl) rfl ?_
        refine v_aload_n dX11_crossed_125 rfl 1 rfl ?_
        refine v_getR fl_X11_31 tt_141 rfl dX11_crossed_126 ?_
        refine v_iload dX11_crossed_129 5 rfl ?_
        refine v_guard (fun h13 => ?_)
        refine v_iald tt_149 h13 dX11_crossed_131 ?_
        refine v_aload_n dX11_crossed_132 rfl 1 rfl ?_
        refine v_getR fl_X11_31 tt_141 rfl dX11_crossed_133 ?_
        refine v_iload dX11_crossed_136 5 rfl ?_
        refine v_iconst (v := 1) dX11_crossed_138 (by decide) ?_
        refine v_iadd dX11_crossed_139 ?_
        refine v_guard (fun h14 => ?_)
        refine v_iald tt_149 h14 dX11_crossed_140 ?_
        refine v_iadd dX11_crossed_141 ?_
        refine v_iload dX11_crossed_142 0 rfl ?_
        refine v_isub dX11_crossed_144 ?_
        refine v_istore dX11_crossed_145 (Nat.le_of_ble_eq_true rfl) rfl ?_
        refine v_iload dX11_crossed_147 1 rfl ?_
        refine v_iload_n dX11_crossed_149 rfl 4 rfl ?_
        refine v_icmp_ge (tgt := 166) dX11_crossed_150 (by decide) ?_ ?_
        · refine v_iload_n dX11_crossed_166 rfl 4 rfl ?_
          refine v_iload dX11_crossed_167 1 rfl ?_
          refine v_icmp_ge (tgt := 189) dX11_crossed_169 (by decide) ?_ ?_
          · refine v_iinc (v := (z5 + 2)) dX11_crossed_189 (q := 6) rfl rfl (Nat.le_of_ble_eq_true rfl) rfl ?_
            refine v_goto (tgt := 79) dX11_crossed_192 (by decide) ?_
            refine v_sub [3, 4, 5, 6, 0] rfl ?_
            exact ih _ _
          · refine v_iload dX11_crossed_172 1 rfl ?_
            refine v_iload dX11_crossed_174 5 rfl ?_
            refine v_icmp_ge (tgt := 189) dX11_crossed_176 (by decide) ?_ ?_
            · refine v_iinc (v := (z5 + 2)) dX11_crossed_189 (q := 6) rfl rfl (Nat.le_of_ble_eq_true rfl) rfl ?_
              refine v_goto (tgt := 79) dX11_crossed_192 (by decide) ?_
              refine v_sub [3, 4, 5, 6, 0] rfl ?_
              exact ih _ _
            · refine v_iload dX11_crossed_179 5 rfl ?_
              refine v_iload dX11_crossed_181 0 rfl ?_
              refine v_icmp_ge (tgt := 189) dX11_crossed_183 (by decide) ?_ ?_
              · refine v_iinc (v := (z5 + 2)) dX11_crossed_189 (q := 6) rfl rfl (Nat.le_of_ble_eq_true rfl) rfl ?_
                refine v_goto (tgt := 79) dX11_crossed_192 (by decide) ?_
                refine v_sub [3, 4, 5, 6, 0] rfl ?_
                exact ih _ _
              · refine v_iload dX11_crossed_186 6 rfl ?_
                exact v_iret dX11_crossed_188 rfl rfl (by decide) (by decide)
        · refine v_iload_n dX11_crossed_153 rfl 4 rfl ?_
          refine v_iload dX11_crossed_154 0 rfl ?_
          refine v_icmp_ge (tgt := 166) dX11_crossed_156 (by decide) ?_ ?_
          · refine v_iload_n dX11_crossed_166 rfl 4 rfl ?_
            refine v_iload dX11_crossed_167 1 rfl ?_
            refine v_icmp_ge (tgt := 189) dX11_crossed_169 (by decide) ?_ ?_
            · refine v_iinc (v := (z5 + 2)) dX11_crossed_189 (q := 6) rfl rfl (Nat.le_of_ble_eq_true rfl) rfl ?_
              refine v_goto (tgt := 79) dX11_crossed_192 (by decide) ?_
              refine v_sub [3, 4, 5, 6, 0] rfl ?_
              exact ih _ _
            · refine v_iload dX11_crossed_172 1 rfl ?_
              refine v_iload dX11_crossed_174 5 rfl ?_
              refine v_icmp_ge (tgt := 189) dX11_crossed_176 (by decide) ?_ ?_
              · refine v_iinc (v := (z5 + 2)) dX11_crossed_189 (q := 6) rfl rfl (Nat.le_of_ble_eq_true rfl) rfl ?_
                refine v_goto (tgt := 79) dX11_crossed_192 (by decide) ?_
                refine v_sub [3, 4, 5, 6, 0] rfl ?_
                exact ih _ _
              · refine v_iload dX11_crossed_179 5 rfl ?_
                refine v_iload dX11_crossed_181 0 rfl ?_
                refine v_icmp_ge (tgt := 189) dX11_crossed_183 (by decide) ?_ ?_
                · refine v_iinc (v := (z5 + 2)) dX11_crossed_189 (q := 6) rfl rfl (Nat.le_of_ble_eq_true rfl) rfl ?_
                  refine v_goto (tgt := 79) dX11_crossed_192 (by decide) ?_
                  refine v_sub [3, 4, 5, 6, 0] rfl ?_
                  exact ih _ _
                · refine v_iload dX11_crossed_186 6 rfl ?_
                  exact v_iret dX11_crossed_188 rfl rfl (by decide) (by decide)
          · refine v_iload dX11_crossed_159 0 rfl ?_
            refine v_iload dX11_crossed_161 5 rfl ?_
            refine v_icmp_lt (tgt := 186) dX11_crossed_163 (by decide) ?_ ?_
            · refine v_iload dX11_crossed_186 6 rfl ?_
              exact v_iret dX11_crossed_188 rfl rfl (by decide) (by decide)
            · refine v_iload_n dX11_crossed_166 rfl 4 rfl ?_
              refine v_iload dX11_crossed_167 1 rfl ?_
              refine v_icmp_ge (tgt := 189) dX11_crossed_169 (by decide) ?_ ?_
              · refine v_iinc (v := (z5 + 2)) dX11_crossed_189 (q := 6) rfl rfl (Nat.le_of_ble_eq_true rfl) rfl ?_
                refine v_goto (tgt := 79) dX11_crossed_192 (by decide) ?_
                refine v_sub [3, 4, 5, 6, 0] rfl ?_
                exact ih _ _
              · refine v_iload dX11_crossed_172 1 rfl ?_
                refine v_iload dX11_crossed_174 5 rfl ?_
                refine v_icmp_ge (tgt := 189) dX11_crossed_176 (by decide) ?_ ?_
                · refine v_iinc (v := (z5 + 2)) dX11_crossed_189 (q := 6) rfl rfl (Nat.le_of_ble_eq_true rfl) rfl ?_
                  refine v_goto (tgt := 79) dX11_crossed_192 (by decide) ?_
                  refine v_sub [3, 4, 5, 6, 0] rfl ?_
                  exact ih _ _
                · refine v_iload dX11_crossed_179 5 rfl ?_
                  refine v_iload dX11_crossed_181 0 rfl ?_
                  refine v_icmp_ge (tgt := 189) dX11_crossed_183 (by decide) ?_ ?_
                  · refine v_iinc (v := (z5 + 2)) dX11_crossed_189 (q := 6) rfl rfl (Nat.le_of_ble_eq_true rfl) rfl ?_
                    refine v_goto (tgt := 79) dX11_crossed_192 (by decide) ?_
                    refine v_sub [3, 4, 5, 6, 0] rfl ?_
                    exact ih _ _
                  · refine v_iload dX11_crossed_186 6 rfl ?_
                    exact v_iret dX11_crossed_188 rfl rfl (by decide) (by decide)
      · refine v_aload_n dX11_crossed_104 rfl 0 rfl ?_
        refine v_getR fl_X11_31 tt_141 rfl dX11_crossed_105 ?_
        refine v_iload dX11_crossed_108 4 rfl ?_
        refine v_guard (fun h15 => ?_)
        refine v_iald tt_149 h15 dX11_crossed_110 ?_
        refine v_goto (tgt := 123) dX11_crossed_111 (by decide) ?_
        refine v_istore dX11_crossed_123 (Nat.le_of_ble_eq_true rfl) rfl ?_
        refine v_aload_n dX11_crossed_125 rfl 1 rfl ?_
        refine v_getR fl_X11_31 tt_141 rfl dX11_crossed_126 ?_
        refine v_iload dX11_crossed_129 5 rfl ?_
        refine v_guard (fun h16 => ?_)
        refine v_iald tt_149 h16 dX11_crossed_131 ?_
        refine v_aload_n dX11_crossed_132 rfl 1 rfl ?_
        refine v_getR fl_X11_31 tt_141 rfl dX11_crossed_133 ?_
        refine v_iload dX11_crossed_136 5 rfl ?_
        refine v_iconst (v := 1) dX11_crossed_138 (by decide) ?_
        refine v_iadd dX11_crossed_139 ?_
        refine v_guard (fun h17 => ?_)
        refine v_iald tt_149 h17 dX11_crossed_140 ?_
        refine v_iadd dX11_crossed_141 ?_
        refine v_iload dX11_crossed_142 0 rfl ?_
        refine v_isub dX11_crossed_144 ?_
        refine v_istore dX11_crossed_145 (Nat.le_of_ble_eq_true rfl) rfl ?_
        refine v_iload dX11_crossed_147 1 rfl ?_
        refine v_iload_n dX11_crossed_149 rfl 4 rfl ?_
        refine v_icmp_ge (tgt := 166) dX11_crossed_150 (by decide) ?_ ?_
        · refine v_iload_n dX11_crossed_166 rfl 4 rfl ?_
          refine v_iload dX11_crossed_167 1 rfl ?_
          refine v_icmp_ge (tgt := 189) dX11_crossed_169 (by decide) ?_ ?_
          · refine v_iinc (v := (z5 + 2)) dX11_crossed_189 (q := 6) rfl rfl (Nat.le_of_ble_eq_true rfl) rfl ?_
            refine v_goto (tgt := 79) dX11_crossed_192 (by decide) ?_
            refine v_sub [3, 4, 5, 6, 0] rfl ?_
            exact ih _ _
          · refine v_iload dX11_crossed_172 1 rfl ?_
            refine v_iload dX11_crossed_174 5 rfl ?_
            refine v_icmp_ge (tgt := 189) dX11_crossed_176 (by decide) ?_ ?_
            · refine v_iinc (v := (z5 + 2)) dX11_crossed_189 (q := 6) rfl rfl (Nat.le_of_ble_eq_true rfl) rfl ?_
              refine v_goto (tgt := 79) dX11_crossed_192 (by decide) ?_
              refine v_sub [3, 4, 5, 6, 0] rfl ?_
              exact ih _ _
            · refine v_iload dX11_crossed_179 5 rfl ?_
              refine v_iload dX11_crossed_181 0 rfl ?_
              refine v_icmp_ge (tgt := 189) dX11_crossed_183 (by decide) ?_ ?_
              · refine v_iinc (v := (z5 + 2)) dX11_crossed_189 (q := 6) rfl rfl (Nat.le_of_ble_eq_true rfl) rfl ?_
                refine v_goto (tgt := 79) dX11_crossed_192 (by decide) ?_
                refine v_sub [3, 4, 5, 6, 0] rfl ?_
                exact ih _ _
              · refine v_iload dX11_crossed_186 6 rfl ?_
                exact v_iret dX11_crossed_188 rfl rfl (by decide) (by decide)
        · refine v_iload_n dX11_crossed_153 rfl 4 rfl ?_
          refine v_iload dX11_crossed_154 0 rfl ?_
          refine v_icmp_ge (tgt := 166) dX11_crossed_156 (by decide) ?_ ?_
          · refine v_iload_n dX11_crossed_166 rfl 4 rfl ?_
            refine v_iload dX11_crossed_167 1 rfl ?_
            refine v_icmp_ge (tgt := 189) dX11_crossed_169 (by decide) ?_ ?_
            · refine v_iinc (v := (z5 + 2)) dX11_crossed_189 (q := 6) rfl rfl (Nat.le_of_ble_eq_true rfl) rfl ?_
              refine v_goto (tgt := 79) dX11_crossed_192 (by decide) ?_
              refine v_sub [3, 4, 5, 6, 0] rfl ?_
              exact ih _ _
            · refine v_iload dX11_crossed_172 1 rfl ?_
              refine v_iload dX11_crossed_174 5 rfl ?_
              refine v_icmp_ge (tgt := 189) dX11_crossed_176 (by decide) ?_ ?_
              · refine v_iinc (v := (z5 + 2)) dX11_crossed_189 (q := 6) rfl rfl (Nat.le_of_ble_eq_true rfl) rfl ?_
                refine v_goto (tgt := 79) dX11_crossed_192 (by decide) ?_
                refine v_sub [3, 4, 5, 6, 0] rfl ?_
                exact ih _ _
              · refine v_iload dX11_crossed_179 5 rfl ?_
                refine v_iload dX11_crossed_181 0 rfl ?_
                refine v_icmp_ge (tgt := 189) dX11_crossed_183 (by decide) ?_ ?_
                · refine v_iinc (v := (z5 + 2)) dX11_crossed_189 (q := 6) rfl rfl (Nat.le_of_ble_eq_true rfl) rfl ?_
                  refine v_goto (tgt := 79) dX11_crossed_192 (by decide) ?_
                  refine v_sub [3, 4, 5, 6, 0] rfl ?_
                  exact ih _ _
                · refine v_iload dX11_crossed_186 6 rfl ?_
                  exact v_iret dX11_crossed_188 rfl rfl (by decide) (by decide)
          · refine v_iload dX11_crossed_159 0 rfl ?_
            refine v_iload dX11_crossed_161 5 rfl ?_
            refine v_icmp_lt (tgt := 186) dX11_crossed_163 (by decide) ?_ ?_
            · refine v_iload dX11_crossed_186 6 rfl ?_
              exact v_iret dX11_crossed_188 rfl rfl (by decide) (by decide)
            · refine v_iload_n dX11_crossed_166 rfl 4 rfl ?_
              refine v_iload dX11_crossed_167 1 rfl ?_
              refine v_icmp_ge (tgt := 189) dX11_crossed_169 (by decide) ?_ ?_
              · refine v_iinc (v := (z5 + 2)) dX11_crossed_189 (q := 6) rfl rfl (Nat.le_of_ble_eq_true rfl) rfl ?_
                refine v_goto (tgt := 79) dX11_crossed_192 (by decide) ?_
                refine v_sub [3, 4, 5, 6, 0] rfl ?_
                exact ih _ _
              · refine v_iload dX11_crossed_172 1 rfl ?_
                refine v_iload dX11_crossed_174 5 rfl ?_
                refine v_icmp_ge (tgt := 189) dX11_crossed_176 (by decide) ?_ ?_
                · refine v_iinc (v := (z5 + 2)) dX11_crossed_189 (q := 6) rfl rfl (Nat.le_of_ble_eq_true rfl) rfl ?_
                  refine v_goto (tgt := 79) dX11_crossed_192 (by decide) ?_
                  refine v_sub [3, 4, 5, 6, 0] rfl ?_
                  exact ih _ _
                · refine v_iload dX11_crossed_179 5 rfl ?_
                  refine v_iload dX11_crossed_181 0 rfl ?_
                  refine v_icmp_ge (tgt := 189) dX11_crossed_183 (by decide) ?_ ?_
                  · refine v_iinc (v := (z5 + 2)) dX11_crossed_189 (q := 6) rfl rfl (Nat.le_of_ble_eq_true rfl) rfl ?_
                    refine v_goto (tgt := 79) dX11_crossed_192 (by decide) ?_
                    refine v_sub [3, 4, 5, 6, 0] rfl ?_
                    exact ih _ _
                  · refine v_iload dX11_crossed_186 6 rfl ?_
                    exact v_iret dX11_crossed_188 rfl rfl (by decide) (by decide)
def f_X11_crossed (x1 : Int32) (w : XW) : Option (Int32 × XW) := (if 0 ≤ ((w.1 142 (Int32.toNatClampNeg 1)) - 1) then (bV (f_X11_lays x1 w) (fun w1 => (if inB ((w.1 142 (Int32.toNatClampNeg 1)) - 1) 7 then (if inB (((w.1 142 (Int32.toNatClampNeg 1)) - 1) + 1) 7 then (if (w1.1 149 (Int32.toNatClampNeg (((w.1 142 (Int32.toNatClampNeg 1)) - 1) + 1))) ≤ (w1.1 149 (Int32.toNatClampNeg ((w.1 142 (Int32.toNatClampNeg 1)) - 1))) then (if inB (((w.1 142 (Int32.toNatClampNeg 1)) - 1) + 1) 7 then (if inB ((w.1 142 (Int32.toNatClampNeg 1)) - 1) 7 then (if inB (((w.1 142 (Int32.toNatClampNeg 1)) - 1) + 1) 7 then (f_X11_crossed_79 ((w.1 142 (Int32.toNatClampNeg 1)) - 1) (w1.1 149 (Int32.toNatClampNeg (((w.1 142 (Int32.toNatClampNeg 1)) - 1) + 1))) (((w1.1 149 (Int32.toNatClampNeg ((w.1 142 (Int32.toNatClampNeg 1)) - 1))) + (w1.1 149 (Int32.toNatClampNeg (((w.1 142 (Int32.toNatClampNeg 1)) - 1) + 1)))) - (w1.1 149 (Int32.toNatClampNeg (((w.1 142 (Int32.toNatClampNeg 1)) - 1) + 1)))) 1000 (((w.1 142 (Int32.toNatClampNeg 1)) - 1) &&& 1) w1) else none) else none) else none) else (if inB ((w.1 142 (Int32.toNatClampNeg 1)) - 1) 7 then (if inB ((w.1 142 (Int32.toNatClampNeg 1)) - 1) 7 then (if inB (((w.1 142 (Int32.toNatClampNeg 1)) - 1) + 1) 7 then (f_X11_crossed_79 ((w.1 142 (Int32.toNatClampNeg 1)) - 1) (w1.1 149 (Int32.toNatClampNeg ((w.1 142 (Int32.toNatClampNeg 1)) - 1))) (((w1.1 149 (Int32.toNatClampNeg ((w.1 142 (Int32.toNatClampNeg 1)) - 1))) + (w1.1 149 (Int32.toNatClampNeg (((w.1 142 (Int32.toNatClampNeg 1)) - 1) + 1)))) - (w1.1 149 (Int32.toNatClampNeg ((w.1 142 (Int32.toNatClampNeg 1)) - 1)))) 1000 (((w.1 142 (Int32.toNatClampNeg 1)) - 1) &&& 1) w1) else none) else none) else none)) else none) else none))) else (some ((-1), w)))
set_option maxRecDepth 100000 in
theorem W_X11_crossed {g : GC} (hl : g.1.stackTraces = false) {x1 : Int32} {w : XW} : VE g cX11_crossed 8 RX11 (some .int) [] (rmL 4 0 0) 0 0 oI 0 0 0 [(0, .ref (g.2.1 + 141)), (1, .int x1)] [] w (f_X11_crossed x1 w) := by
  unfold f_X11_crossed
  refine v_aload_n dX11_crossed_0 rfl 0 rfl ?_
  refine v_getR fl_X11_7 tt_141 rfl dX11_crossed_1 ?_
  refine v_iconst (v := 1) dX11_crossed_4 (by decide) ?_
  refine v_iald tt_142 (by decide : inB 1 66) dX11_crossed_5 ?_
  refine v_iconst (v := 1) dX11_crossed_6 (by decide) ?_
  refine v_isub dX11_crossed_7 ?_
  refine v_istore_n dX11_crossed_8 rfl (Nat.le_of_ble_eq_true rfl) rfl ?_
  refine v_iload_n dX11_crossed_9 rfl 0 rfl ?_
  refine v_if_ge (tgt := 15) dX11_crossed_10 (by decide) ?_ ?_
  · refine v_aload_n dX11_crossed_15 rfl 1 rfl ?_
    refine v_iload_n dX11_crossed_16 rfl 2 rfl ?_
    refine v_callVv (As := [.int x1]) cv_X11_75 (S_X11_lays hl) tt_141 rfl rfl rfl (Nat.le_of_ble_eq_true rfl) dX11_crossed_17 (CR_rm (by decide) (by decide) (by decide) (by decide)) (fun w1 => ?_)
    refine v_aload_n dX11_crossed_20 rfl 1 rfl ?_
    refine v_getR fl_X11_31 tt_141 rfl dX11_crossed_21 ?_
    refine v_iload_n dX11_crossed_24 rfl 0 rfl ?_
    refine v_guard (fun h2 => ?_)
    refine v_iald tt_149 h2 dX11_crossed_25 ?_
    refine v_aload_n dX11_crossed_26 rfl 1 rfl ?_
    refine v_getR fl_X11_31 tt_141 rfl dX11_crossed_27 ?_
    refine v_iload_n dX11_crossed_30 rfl 0 rfl ?_
    refine v_iconst (v := 1) dX11_crossed_31 (by decide) ?_
    refine v_iadd dX11_crossed_32 ?_
    refine v_guard (fun h3 => ?_)
    refine v_iald tt_149 h3 dX11_crossed_33 ?_
    refine v_icmp_ge (tgt := 46) dX11_crossed_34 (by decide) ?_ ?_
    · refine v_aload_n dX11_crossed_46 rfl 1 rfl ?_
      refine v_getR fl_X11_31 tt_141 rfl dX11_crossed_47 ?_
      refine v_iload_n dX11_crossed_50 rfl 0 rfl ?_
      refine v_iconst (v := 1) dX11_crossed_51 (by decide) ?_
      refine v_iadd dX11_crossed_52 ?_
      refine v_guard (fun h4 => ?_)
      refine v_iald tt_149 h4 dX11_crossed_53 ?_
      refine v_istore_n dX11_crossed_54 rfl (Nat.le_of_ble_eq_true rfl) rfl ?_
      refine v_aload_n dX11_crossed_55 rfl 2 rfl ?_
      refine v_getR fl_X11_31 tt_141 rfl dX11_crossed_56 ?_
      refine v_iload_n dX11_crossed_59 rfl 1 rfl ?_
      refine v_guard (fun h5 => ?_)
      refine v_iald tt_149 h5 dX11_crossed_60 ?_
      refine v_aload_n dX11_crossed_61 rfl 2 rfl ?_
      refine v_getR fl_X11_31 tt_141 rfl dX11_crossed_62 ?_
      refine v_iload_n dX11_crossed_65 rfl 1 rfl ?_
      refine v_iconst (v := 1) dX11_crossed_66 (by decide) ?_
      refine v_iadd dX11_crossed_67 ?_
      refine v_guard (fun h6 => ?_)
      refine v_iald tt_149 h6 dX11_crossed_68 ?_
      refine v_iadd dX11_crossed_69 ?_
      refine v_iload_n dX11_crossed_70 rfl 0 rfl ?_
      refine v_isub dX11_crossed_71 ?_
      refine v_istore dX11_crossed_72 (Nat.le_of_ble_eq_true rfl) rfl ?_
      refine v_iload_n dX11_crossed_74 rfl 2 rfl ?_
      refine v_iconst (v := 1) dX11_crossed_75 (by decide) ?_
      refine v_iand dX11_crossed_76 ?_
      refine v_istore dX11_crossed_77 (Nat.le_of_ble_eq_true rfl) rfl ?_
      refine v_sub [4, 3, 2, 1, 0] rfl ?_
      exact S_X11_crossed_79 hl  _ _ _
    · refine v_aload_n dX11_crossed_37 rfl 1 rfl ?_
      refine v_getR fl_X11_31 tt_141 rfl dX11_crossed_38 ?_
      refine v_iload_n dX11_crossed_41 rfl 0 rfl ?_
      refine v_guard (fun h7 => ?_)
      refine v_iald tt_149 h7 dX11_crossed_42 ?_
      refine v_goto (tgt := 54) dX11_crossed_43 (by decide) ?_
      refine v_istore_n dX11_crossed_54 rfl (Nat.le_of_ble_eq_true rfl) rfl ?_
      refine v_aload_n dX11_crossed_55 rfl 2 rfl ?_
      refine v_getR fl_X11_31 tt_141 rfl dX11_crossed_56 ?_
      refine v_iload_n dX11_crossed_59 rfl 1 rfl ?_
      refine v_guard (fun h8 => ?_)
      refine v_iald tt_149 h8 dX11_crossed_60 ?_
      refine v_aload_n dX11_crossed_61 rfl 2 rfl ?_
      refine v_getR fl_X11_31 tt_141 rfl dX11_crossed_62 ?_
      refine v_iload_n dX11_crossed_65 rfl 1 rfl ?_
      refine v_iconst (v := 1) dX11_crossed_66 (by decide) ?_
      refine v_iadd dX11_crossed_67 ?_
      refine v_guard (fun h9 => ?_)
      refine v_iald tt_149 h9 dX11_crossed_68 ?_
      refine v_iadd dX11_crossed_69 ?_
      refine v_iload_n dX11_crossed_70 rfl 0 rfl ?_
      refine v_isub dX11_crossed_71 ?_
      refine v_istore dX11_crossed_72 (Nat.le_of_ble_eq_true rfl) rfl ?_
      refine v_iload_n dX11_crossed_74 rfl 2 rfl ?_
      refine v_iconst (v := 1) dX11_crossed_75 (by decide) ?_
      refine v_iand dX11_crossed_76 ?_
      refine v_istore dX11_crossed_77 (Nat.le_of_ble_eq_true rfl) rfl ?_
      refine v_sub [4, 3, 2, 1, 0] rfl ?_
      exact S_X11_crossed_79 hl  _ _ _
  · refine v_iconst (v := (-1)) dX11_crossed_13 (by decide) ?_
    exact v_iret dX11_crossed_14 rfl rfl (by decide) (by decide)
theorem S_X11_crossed {g : GC} (hl : g.1.stackTraces = false) {x1 : Int32} {w : XW} : ∀ q, f_X11_crossed x1 w = some q → MM g (.code yX11_crossed cX11_crossed 8 (some .int)) yX11_crossed (rmL 4 0 0) 0 0 [.ref (g.2.1 + 141), .int x1] w (oI q) := fun q hq => MM_of (own := RX11) hl (by decide) gw_1625 rfl (Nat.le_of_ble_eq_true rfl) (W_X11_crossed hl q hq) ⟨rfl, rfl⟩

theorem dX11_puts_0 : decode cX11_puts 0 = .ok (.aload_n 0, 1) := by decide +kernel
theorem dX11_puts_1 : decode cX11_puts 1 = .ok (.getfield 7, 3) := by decide +kernel
theorem dX11_puts_4 : decode cX11_puts 4 = .ok (.iconst 1, 1) := by decide +kernel
theorem dX11_puts_5 : decode cX11_puts 5 = .ok (.iaload, 1) := by decide +kernel
theorem dX11_puts_6 : decode cX11_puts 6 = .ok (.istore_n 2, 1) := by decide +kernel
theorem dX11_puts_7 : decode cX11_puts 7 = .ok (.iload_n 2, 1) := by decide +kernel
theorem dX11_puts_8 : decode cX11_puts 8 = .ok (.istore_n 3, 1) := by decide +kernel
theorem dX11_puts_9 : decode cX11_puts 9 = .ok (.iload_n 3, 1) := by decide +kernel
theorem dX11_puts_10 : decode cX11_puts 10 = .ok (.iload_n 1, 1) := by decide +kernel
theorem dX11_puts_11 : decode cX11_puts 11 = .ok (.if_icmp .le 29, 3) := by decide +kernel
theorem dX11_puts_14 : decode cX11_puts 14 = .ok (.aload_n 0, 1) := by decide +kernel
theorem dX11_puts_15 : decode cX11_puts 15 = .ok (.getfield 7, 3) := by decide +kernel
theorem dX11_puts_18 : decode cX11_puts 18 = .ok (.bipush 19, 2) := by decide +kernel
theorem dX11_puts_20 : decode cX11_puts 20 = .ok (.iload_n 3, 1) := by decide +kernel
theorem dX11_puts_21 : decode cX11_puts 21 = .ok (.iadd, 1) := by decide +kernel
theorem dX11_puts_22 : decode cX11_puts 22 = .ok (.aload_n 0, 1) := by decide +kernel
theorem dX11_puts_23 : decode cX11_puts 23 = .ok (.getfield 7, 3) := by decide +kernel
theorem dX11_puts_26 : decode cX11_puts 26 = .ok (.bipush 19, 2) := by decide +kernel
theorem dX11_puts_28 : decode cX11_puts 28 = .ok (.iload_n 3, 1) := by decide +kernel
theorem dX11_puts_29 : decode cX11_puts 29 = .ok (.iadd, 1) := by decide +kernel
theorem dX11_puts_30 : decode cX11_puts 30 = .ok (.iconst 1, 1) := by decide +kernel
theorem dX11_puts_31 : decode cX11_puts 31 = .ok (.isub, 1) := by decide +kernel
theorem dX11_puts_32 : decode cX11_puts 32 = .ok (.iaload, 1) := by decide +kernel
theorem dX11_puts_33 : decode cX11_puts 33 = .ok (.iastore, 1) := by decide +kernel
theorem dX11_puts_34 : decode cX11_puts 34 = .ok (.iinc 3 (-1), 3) := by decide +kernel
theorem dX11_puts_37 : decode cX11_puts 37 = .ok (.goto (-28), 3) := by decide +kernel
theorem dX11_puts_40 : decode cX11_puts 40 = .ok (.aload_n 0, 1) := by decide +kernel
theorem dX11_puts_41 : decode cX11_puts 41 = .ok (.getfield 7, 3) := by decide +kernel
theorem dX11_puts_44 : decode cX11_puts 44 = .ok (.bipush 19, 2) := by decide +kernel
theorem dX11_puts_46 : decode cX11_puts 46 = .ok (.iload_n 1, 1) := by decide +kernel
theorem dX11_puts_47 : decode cX11_puts 47 = .ok (.iadd, 1) := by decide +kernel
theorem dX11_puts_48 : decode cX11_puts 48 = .ok (.iload_n 2, 1) := by decide +kernel
theorem dX11_puts_49 : decode cX11_puts 49 = .ok (.iastore, 1) := by decide +kernel
theorem dX11_puts_50 : decode cX11_puts 50 = .ok (.aload_n 0, 1) := by decide +kernel
theorem dX11_puts_51 : decode cX11_puts 51 = .ok (.getfield 7, 3) := by decide +kernel
theorem dX11_puts_54 : decode cX11_puts 54 = .ok (.iconst 1, 1) := by decide +kernel
theorem dX11_puts_55 : decode cX11_puts 55 = .ok (.iload_n 2, 1) := by decide +kernel
theorem dX11_puts_56 : decode cX11_puts 56 = .ok (.iconst 1, 1) := by decide +kernel
theorem dX11_puts_57 : decode cX11_puts 57 = .ok (.iadd, 1) := by decide +kernel
theorem dX11_puts_58 : decode cX11_puts 58 = .ok (.iastore, 1) := by decide +kernel
theorem dX11_puts_59 : decode cX11_puts 59 = .ok (.return_, 1) := by decide +kernel
def f_X11_puts_9 (y1 : Int32) (y2 : Int32) : Nat → Int32 → XW → Option (XW)
  | 0, _, _ => none
  | n + 1, z3, w => (if z3 ≤ y1 then (if inB (19 + y1) 66 then (some (wset (wset w 142 (Int32.toNatClampNeg (19 + y1)) y2) 142 (Int32.toNatClampNeg 1) (y2 + 1))) else none) else (if inB ((19 + z3) - 1) 66 then (if inB (19 + z3) 66 then (f_X11_puts_9 y1 y2 n (z3 + (-1)) (wset w 142 (Int32.toNatClampNeg (19 + z3)) (w.1 142 (Int32.toNatClampNeg ((19 + z3) - 1))))) else none) else none))
set_option maxRecDepth 100000 in
theorem S_X11_puts_9 {g : GC} (hl : g.1.stackTraces = false) {y1 : Int32} {y2 : Int32} : ∀ (n : Nat) (z3 : Int32) (w : XW), VE g cX11_puts 4 RX11 none [] (rmL 3 0 0) 0 0 oV 0 0 9 [(0, .ref (g.2.1 + 141)), (1, .int y1), (2, .int y2), (3, .int z3)] [] w (f_X11_puts_9 y1 y2 n z3 w) := by
  intro n
  induction n with
  | zero => intro z3 w; exact v_none
  | succ n ih =>
    intro z3 w
    rw [f_X11_puts_9]
    refine v_iload_n dX11_puts_9 rfl 3 rfl ?_
    refine v_iload_n dX11_puts_10 rfl 1 rfl ?_
    refine v_icmp_le (tgt := 40) dX11_puts_11 (by decide) ?_ ?_
    · refine v_aload_n dX11_puts_40 rfl 0 rfl ?_
      refine v_getR fl_X11_7 tt_141 rfl dX11_puts_41 ?_
      refine v_bipush (v := 19) dX11_puts_44 (by decide) ?_
      refine v_iload_n dX11_puts_46 rfl 1 rfl ?_
      refine v_iadd dX11_puts_47 ?_
      refine v_iload_n dX11_puts_48 rfl 2 rfl ?_
      refine v_guard (fun h1 => ?_)
      refine v_iast tt_142 h1 dX11_puts_49 ?_
      refine v_aload_n dX11_puts_50 rfl 0 rfl ?_
      refine v_getR fl_X11_7 tt_141 rfl dX11_puts_51 ?_
      refine v_iconst (v := 1) dX11_puts_54 (by decide) ?_
      refine v_iload_n dX11_puts_55 rfl 2 rfl ?_
      refine v_iconst (v := 1) dX11_puts_56 (by decide) ?_
      refine v_iadd dX11_puts_57 ?_
      refine v_iast tt_142 (by decide : inB 1 66) dX11_puts_58 ?_
      exact v_vret dX11_puts_59 rfl rfl (by decide) (by decide)
    · refine v_aload_n dX11_puts_14 rfl 0 rfl ?_
      refine v_getR fl_X11_7 tt_141 rfl dX11_puts_15 ?_
      refine v_bipush (v := 19) dX11_puts_18 (by decide) ?_
      refine v_iload_n dX11_puts_20 rfl 3 rfl ?_
      refine v_iadd dX11_puts_21 ?_
      refine v_aload_n dX11_puts_22 rfl 0 rfl ?_
      refine v_getR fl_X11_7 tt_141 rfl dX11_puts_23 ?_
      refine v_bipush (v := 19) dX11_puts_26 (by decide) ?_
      refine v_iload_n dX11_puts_28 rfl 3 rfl ?_
      refine v_iadd dX11_puts_29 ?_
      refine v_iconst (v := 1) dX11_puts_30 (by decide) ?_
      refine v_isub dX11_puts_31 ?_
      refine v_guard (fun h2 => ?_)
      refine v_iald tt_142 h2 dX11_puts_32 ?_
      refine v_guard (fun h3 => ?_)
      refine v_iast tt_142 h3 dX11_puts_33 ?_
      refine v_iinc (v := (z3 + (-1))) dX11_puts_34 (q := 3) rfl rfl (Nat.le_of_ble_eq_true rfl) rfl ?_
      refine v_goto (tgt := 9) dX11_puts_37 (by decide) ?_
      refine v_sub [1, 2, 3, 0] rfl ?_
      exact ih _ _
def f_X11_puts (x1 : Int32) (w : XW) : Option (XW) := (f_X11_puts_9 x1 (w.1 142 (Int32.toNatClampNeg 1)) 1000 (w.1 142 (Int32.toNatClampNeg 1)) w)
set_option maxRecDepth 100000 in
theorem W_X11_puts {g : GC} (hl : g.1.stackTraces = false) {x1 : Int32} {w : XW} : VE g cX11_puts 4 RX11 none [] (rmL 3 0 0) 0 0 oV 0 0 0 [(0, .ref (g.2.1 + 141)), (1, .int x1)] [] w (f_X11_puts x1 w) := by
  unfold f_X11_puts
  refine v_aload_n dX11_puts_0 rfl 0 rfl ?_
  refine v_getR fl_X11_7 tt_141 rfl dX11_puts_1 ?_
  refine v_iconst (v := 1) dX11_puts_4 (by decide) ?_
  refine v_iald tt_142 (by decide : inB 1 66) dX11_puts_5 ?_
  refine v_istore_n dX11_puts_6 rfl (Nat.le_of_ble_eq_true rfl) rfl ?_
  refine v_iload_n dX11_puts_7 rfl 0 rfl ?_
  refine v_istore_n dX11_puts_8 rfl (Nat.le_of_ble_eq_true rfl) rfl ?_
  refine v_sub [2, 3, 1, 0] rfl ?_
  exact S_X11_puts_9 hl  _ _ _
theorem S_X11_puts {g : GC} (hl : g.1.stackTraces = false) {x1 : Int32} {w : XW} : ∀ q, f_X11_puts x1 w = some q → MM g (.code yX11_puts cX11_puts 4 none) yX11_puts (rmL 3 0 0) 0 0 [.ref (g.2.1 + 141), .int x1] w (oV q) := fun q hq => MM_of (own := RX11) hl (by decide) gw_1633 rfl (Nat.le_of_ble_eq_true rfl) (W_X11_puts hl q hq) ⟨rfl, rfl⟩

theorem dX11_takes_0 : decode cX11_takes 0 = .ok (.aload_n 0, 1) := by decide +kernel
theorem dX11_takes_1 : decode cX11_takes 1 = .ok (.getfield 7, 3) := by decide +kernel
theorem dX11_takes_4 : decode cX11_takes 4 = .ok (.iconst 1, 1) := by decide +kernel
theorem dX11_takes_5 : decode cX11_takes 5 = .ok (.iaload, 1) := by decide +kernel
theorem dX11_takes_6 : decode cX11_takes 6 = .ok (.iconst 1, 1) := by decide +kernel
theorem dX11_takes_7 : decode cX11_takes 7 = .ok (.isub, 1) := by decide +kernel
theorem dX11_takes_8 : decode cX11_takes 8 = .ok (.istore_n 1, 1) := by decide +kernel
theorem dX11_takes_9 : decode cX11_takes 9 = .ok (.iconst 0, 1) := by decide +kernel
theorem dX11_takes_10 : decode cX11_takes 10 = .ok (.istore_n 2, 1) := by decide +kernel
theorem dX11_takes_11 : decode cX11_takes 11 = .ok (.aload_n 0, 1) := by decide +kernel
theorem dX11_takes_12 : decode cX11_takes 12 = .ok (.getfield 7, 3) := by decide +kernel
theorem dX11_takes_15 : decode cX11_takes 15 = .ok (.bipush 19, 2) := by decide +kernel
theorem dX11_takes_17 : decode cX11_takes 17 = .ok (.iload_n 2, 1) := by decide +kernel
theorem dX11_takes_18 : decode cX11_takes 18 = .ok (.iadd, 1) := by decide +kernel
theorem dX11_takes_19 : decode cX11_takes 19 = .ok (.iaload, 1) := by decide +kernel
theorem dX11_takes_20 : decode cX11_takes 20 = .ok (.iload_n 1, 1) := by decide +kernel
theorem dX11_takes_21 : decode cX11_takes 21 = .ok (.if_icmp .eq 9, 3) := by decide +kernel
theorem dX11_takes_24 : decode cX11_takes 24 = .ok (.iinc 2 1, 3) := by decide +kernel
theorem dX11_takes_27 : decode cX11_takes 27 = .ok (.goto (-16), 3) := by decide +kernel
theorem dX11_takes_30 : decode cX11_takes 30 = .ok (.iload_n 2, 1) := by decide +kernel
theorem dX11_takes_31 : decode cX11_takes 31 = .ok (.istore_n 3, 1) := by decide +kernel
theorem dX11_takes_32 : decode cX11_takes 32 = .ok (.iload_n 3, 1) := by decide +kernel
theorem dX11_takes_33 : decode cX11_takes 33 = .ok (.iload_n 1, 1) := by decide +kernel
theorem dX11_takes_34 : decode cX11_takes 34 = .ok (.if_icmp .ge 29, 3) := by decide +kernel
theorem dX11_takes_37 : decode cX11_takes 37 = .ok (.aload_n 0, 1) := by decide +kernel
theorem dX11_takes_38 : decode cX11_takes 38 = .ok (.getfield 7, 3) := by decide +kernel
theorem dX11_takes_41 : decode cX11_takes 41 = .ok (.bipush 19, 2) := by decide +kernel
theorem dX11_takes_43 : decode cX11_takes 43 = .ok (.iload_n 3, 1) := by decide +kernel
theorem dX11_takes_44 : decode cX11_takes 44 = .ok (.iadd, 1) := by decide +kernel
theorem dX11_takes_45 : decode cX11_takes 45 = .ok (.aload_n 0, 1) := by decide +kernel
theorem dX11_takes_46 : decode cX11_takes 46 = .ok (.getfield 7, 3) := by decide +kernel
theorem dX11_takes_49 : decode cX11_takes 49 = .ok (.bipush 19, 2) := by decide +kernel
theorem dX11_takes_51 : decode cX11_takes 51 = .ok (.iload_n 3, 1) := by decide +kernel
theorem dX11_takes_52 : decode cX11_takes 52 = .ok (.iadd, 1) := by decide +kernel
theorem dX11_takes_53 : decode cX11_takes 53 = .ok (.iconst 1, 1) := by decide +kernel
theorem dX11_takes_54 : decode cX11_takes 54 = .ok (.iadd, 1) := by decide +kernel
theorem dX11_takes_55 : decode cX11_takes 55 = .ok (.iaload, 1) := by decide +kernel
theorem dX11_takes_56 : decode cX11_takes 56 = .ok (.iastore, 1) := by decide +kernel
theorem dX11_takes_57 : decode cX11_takes 57 = .ok (.iinc 3 1, 3) := by decide +kernel
theorem dX11_takes_60 : decode cX11_takes 60 = .ok (.goto (-28), 3) := by decide +kernel
theorem dX11_takes_63 : decode cX11_takes 63 = .ok (.aload_n 0, 1) := by decide +kernel
theorem dX11_takes_64 : decode cX11_takes 64 = .ok (.getfield 7, 3) := by decide +kernel
theorem dX11_takes_67 : decode cX11_takes 67 = .ok (.bipush 19, 2) := by decide +kernel
theorem dX11_takes_69 : decode cX11_takes 69 = .ok (.iload_n 1, 1) := by decide +kernel
theorem dX11_takes_70 : decode cX11_takes 70 = .ok (.iadd, 1) := by decide +kernel
theorem dX11_takes_71 : decode cX11_takes 71 = .ok (.iconst 0, 1) := by decide +kernel
theorem dX11_takes_72 : decode cX11_takes 72 = .ok (.iastore, 1) := by decide +kernel
theorem dX11_takes_73 : decode cX11_takes 73 = .ok (.aload_n 0, 1) := by decide +kernel
theorem dX11_takes_74 : decode cX11_takes 74 = .ok (.getfield 7, 3) := by decide +kernel
theorem dX11_takes_77 : decode cX11_takes 77 = .ok (.iconst 1, 1) := by decide +kernel
theorem dX11_takes_78 : decode cX11_takes 78 = .ok (.iload_n 1, 1) := by decide +kernel
theorem dX11_takes_79 : decode cX11_takes 79 = .ok (.iastore, 1) := by decide +kernel
theorem dX11_takes_80 : decode cX11_takes 80 = .ok (.iload_n 2, 1) := by decide +kernel
theorem dX11_takes_81 : decode cX11_takes 81 = .ok (.ireturn, 1) := by decide +kernel
def f_X11_takes_32 (y1 : Int32) (y2 : Int32) : Nat → Int32 → XW → Option (Int32 × XW)
  | 0, _, _ => none
  | n + 1, z3, w => (if y1 ≤ z3 then (if inB (19 + y1) 66 then (some (y2, (wset (wset w 142 (Int32.toNatClampNeg (19 + y1)) 0) 142 (Int32.toNatClampNeg 1) y1))) else none) else (if inB ((19 + z3) + 1) 66 then (if inB (19 + z3) 66 then (f_X11_takes_32 y1 y2 n (z3 + 1) (wset w 142 (Int32.toNatClampNeg (19 + z3)) (w.1 142 (Int32.toNatClampNeg ((19 + z3) + 1))))) else none) else none))
set_option maxRecDepth 100000 in
theorem S_X11_takes_32 {g : GC} (hl : g.1.stackTraces = false) {y1 : Int32} {y2 : Int32} : ∀ (n : Nat) (z3 : Int32) (w : XW), VE g cX11_takes 4 RX11 (some .int) [] (rmL 3 0 0) 0 0 oI 0 0 32 [(0, .ref (g.2.1 + 141)), (1, .int y1), (2, .int y2), (3, .int z3)] [] w (f_X11_takes_32 y1 y2 n z3 w) := by
  intro n
  induction n with
  | zero => intro z3 w; exact v_none
  | succ n ih =>
    intro z3 w
    rw [f_X11_takes_32]
    refine v_iload_n dX11_takes_32 rfl 3 rfl ?_
    refine v_iload_n dX11_takes_33 rfl 1 rfl ?_
    refine v_icmp_ge (tgt := 63) dX11_takes_34 (by decide) ?_ ?_
    · refine v_aload_n dX11_takes_63 rfl 0 rfl ?_
      refine v_getR fl_X11_7 tt_141 rfl dX11_takes_64 ?_
      refine v_bipush (v := 19) dX11_takes_67 (by decide) ?_
      refine v_iload_n dX11_takes_69 rfl 1 rfl ?_
      refine v_iadd dX11_takes_70 ?_
      refine v_iconst (v := 0) dX11_takes_71 (by decide) ?_
      refine v_guard (fun h2 => ?_)
      refine v_iast tt_142 h2 dX11_takes_72 ?_
      refine v_aload_n dX11_takes_73 rfl 0 rfl ?_
      refine v_getR fl_X11_7 tt_141 rfl dX11_takes_74 ?_
      refine v_iconst (v := 1) dX11_takes_77 (by decide) ?_
      refine v_iload_n dX11_takes_78 rfl 1 rfl ?_
      refine v_iast tt_142 (by decide : inB 1 66) dX11_takes_79 ?_
      refine v_iload_n dX11_takes_80 rfl 2 rfl ?_
      exact v_iret dX11_takes_81 rfl rfl (by decide) (by decide)
    · refine v_aload_n dX11_takes_37 rfl 0 rfl ?_
      refine v_getR fl_X11_7 tt_141 rfl dX11_takes_38 ?_
      refine v_bipush (v := 19) dX11_takes_41 (by decide) ?_
      refine v_iload_n dX11_takes_43 rfl 3 rfl ?_
      refine v_iadd dX11_takes_44 ?_
      refine v_aload_n dX11_takes_45 rfl 0 rfl ?_
      refine v_getR fl_X11_7 tt_141 rfl dX11_takes_46 ?_
      refine v_bipush (v := 19) dX11_takes_49 (by decide) ?_
      refine v_iload_n dX11_takes_51 rfl 3 rfl ?_
      refine v_iadd dX11_takes_52 ?_
      refine v_iconst (v := 1) dX11_takes_53 (by decide) ?_
      refine v_iadd dX11_takes_54 ?_
      refine v_guard (fun h3 => ?_)
      refine v_iald tt_142 h3 dX11_takes_55 ?_
      refine v_guard (fun h4 => ?_)
      refine v_iast tt_142 h4 dX11_takes_56 ?_
      refine v_iinc (v := (z3 + 1)) dX11_takes_57 (q := 3) rfl rfl (Nat.le_of_ble_eq_true rfl) rfl ?_
      refine v_goto (tgt := 32) dX11_takes_60 (by decide) ?_
      refine v_sub [1, 2, 3, 0] rfl ?_
      exact ih _ _
def f_X11_takes_11 (y1 : Int32) : Nat → Int32 → XW → Option (Int32 × XW)
  | 0, _, _ => none
  | n + 1, z2, w => (if inB (19 + z2) 66 then (if (w.1 142 (Int32.toNatClampNeg (19 + z2))) = y1 then (f_X11_takes_32 y1 z2 1000 z2 w) else (f_X11_takes_11 y1 n (z2 + 1) w)) else none)
set_option maxRecDepth 100000 in
theorem S_X11_takes_11 {g : GC} (hl : g.1.stackTraces = false) {y1 : Int32} : ∀ (n : Nat) (z2 : Int32) (w : XW), VE g cX11_takes 4 RX11 (some .int) [] (rmL 3 0 0) 0 0 oI 0 0 11 [(0, .ref (g.2.1 + 141)), (1, .int y1), (2, .int z2)] [] w (f_X11_takes_11 y1 n z2 w) := by
  intro n
  induction n with
  | zero => intro z2 w; exact v_none
  | succ n ih =>
    intro z2 w
    rw [f_X11_takes_11]
    refine v_aload_n dX11_takes_11 rfl 0 rfl ?_
    refine v_getR fl_X11_7 tt_141 rfl dX11_takes_12 ?_
    refine v_bipush (v := 19) dX11_takes_15 (by decide) ?_
    refine v_iload_n dX11_takes_17 rfl 2 rfl ?_
    refine v_iadd dX11_takes_18 ?_
    refine v_guard (fun h1 => ?_)
    refine v_iald tt_142 h1 dX11_takes_19 ?_
    refine v_iload_n dX11_takes_20 rfl 1 rfl ?_
    refine v_icmp_eq (tgt := 30) dX11_takes_21 (by decide) ?_ ?_
    · refine v_iload_n dX11_takes_30 rfl 2 rfl ?_
      refine v_istore_n dX11_takes_31 rfl (Nat.le_of_ble_eq_true rfl) rfl ?_
      refine v_sub [1, 2, 3, 0] rfl ?_
      exact S_X11_takes_32 hl  _ _ _
    · refine v_iinc (v := (z2 + 1)) dX11_takes_24 (q := 2) rfl rfl (Nat.le_of_ble_eq_true rfl) rfl ?_
      refine v_goto (tgt := 11) dX11_takes_27 (by decide) ?_
      refine v_sub [1, 2, 0] rfl ?_
      exact ih _ _
def f_X11_takes (w : XW) : Option (Int32 × XW) := (f_X11_takes_11 ((w.1 142 (Int32.toNatClampNeg 1)) - 1) 1000 0 w)
set_option maxRecDepth 100000 in
theorem W_X11_takes {g : GC} (hl : g.1.stackTraces = false) {w : XW} : VE g cX11_takes 4 RX11 (some .int) [] (rmL 3 0 0) 0 0 oI 0 0 0 [(0, .ref (g.2.1 + 141))] [] w (f_X11_takes  w) := by
  unfold f_X11_takes
  refine v_aload_n dX11_takes_0 rfl 0 rfl ?_
  refine v_getR fl_X11_7 tt_141 rfl dX11_takes_1 ?_
  refine v_iconst (v := 1) dX11_takes_4 (by decide) ?_
  refine v_iald tt_142 (by decide : inB 1 66) dX11_takes_5 ?_
  refine v_iconst (v := 1) dX11_takes_6 (by decide) ?_
  refine v_isub dX11_takes_7 ?_
  refine v_istore_n dX11_takes_8 rfl (Nat.le_of_ble_eq_true rfl) rfl ?_
  refine v_iconst (v := 0) dX11_takes_9 (by decide) ?_
  refine v_istore_n dX11_takes_10 rfl (Nat.le_of_ble_eq_true rfl) rfl ?_
  refine v_sub [2, 1, 0] rfl ?_
  exact S_X11_takes_11 hl  _ _ _
theorem S_X11_takes {g : GC} (hl : g.1.stackTraces = false) {w : XW} : ∀ q, f_X11_takes  w = some q → MM g (.code yX11_takes cX11_takes 4 (some .int)) yX11_takes (rmL 3 0 0) 0 0 [.ref (g.2.1 + 141)] w (oI q) := fun q hq => MM_of (own := RX11) hl (by decide) gw_1645 rfl (Nat.le_of_ble_eq_true rfl) (W_X11_takes hl q hq) ⟨rfl, rfl⟩

theorem dX11_ways_0 : decode cX11_ways 0 = .ok (.aload_n 0, 1) := by decide +kernel
theorem dX11_ways_1 : decode cX11_ways 1 = .ok (.getfield 7, 3) := by decide +kernel
theorem dX11_ways_4 : decode cX11_ways 4 = .ok (.iconst 1, 1) := by decide +kernel
theorem dX11_ways_5 : decode cX11_ways 5 = .ok (.iaload, 1) := by decide +kernel
theorem dX11_ways_6 : decode cX11_ways 6 = .ok (.aload_n 0, 1) := by decide +kernel
theorem dX11_ways_7 : decode cX11_ways 7 = .ok (.getfield 7, 3) := by decide +kernel
theorem dX11_ways_10 : decode cX11_ways 10 = .ok (.iconst 0, 1) := by decide +kernel
theorem dX11_ways_11 : decode cX11_ways 11 = .ok (.iaload, 1) := by decide +kernel
theorem dX11_ways_12 : decode cX11_ways 12 = .ok (.if_icmp .ne 5, 3) := by decide +kernel
theorem dX11_ways_15 : decode cX11_ways 15 = .ok (.iconst 1, 1) := by decide +kernel
theorem dX11_ways_16 : decode cX11_ways 16 = .ok (.ireturn, 1) := by decide +kernel
theorem dX11_ways_17 : decode cX11_ways 17 = .ok (.iconst 0, 1) := by decide +kernel
theorem dX11_ways_18 : decode cX11_ways 18 = .ok (.istore_n 1, 1) := by decide +kernel
theorem dX11_ways_19 : decode cX11_ways 19 = .ok (.aload_n 0, 1) := by decide +kernel
theorem dX11_ways_20 : decode cX11_ways 20 = .ok (.getfield 7, 3) := by decide +kernel
theorem dX11_ways_23 : decode cX11_ways 23 = .ok (.iconst 1, 1) := by decide +kernel
theorem dX11_ways_24 : decode cX11_ways 24 = .ok (.iaload, 1) := by decide +kernel
theorem dX11_ways_25 : decode cX11_ways 25 = .ok (.istore_n 2, 1) := by decide +kernel
theorem dX11_ways_26 : decode cX11_ways 26 = .ok (.iconst 0, 1) := by decide +kernel
theorem dX11_ways_27 : decode cX11_ways 27 = .ok (.istore_n 3, 1) := by decide +kernel
theorem dX11_ways_28 : decode cX11_ways 28 = .ok (.iload_n 3, 1) := by decide +kernel
theorem dX11_ways_29 : decode cX11_ways 29 = .ok (.iload_n 2, 1) := by decide +kernel
theorem dX11_ways_30 : decode cX11_ways 30 = .ok (.if_icmp .gt 39, 3) := by decide +kernel
theorem dX11_ways_33 : decode cX11_ways 33 = .ok (.aload_n 0, 1) := by decide +kernel
theorem dX11_ways_34 : decode cX11_ways 34 = .ok (.iload_n 3, 1) := by decide +kernel
theorem dX11_ways_35 : decode cX11_ways 35 = .ok (.invokevirtual 79, 3) := by decide +kernel
theorem dX11_ways_38 : decode cX11_ways 38 = .ok (.iconst (-1), 1) := by decide +kernel
theorem dX11_ways_39 : decode cX11_ways 39 = .ok (.if_icmp .eq 6, 3) := by decide +kernel
theorem dX11_ways_42 : decode cX11_ways 42 = .ok (.goto 21, 3) := by decide +kernel
theorem dX11_ways_45 : decode cX11_ways 45 = .ok (.aload_n 0, 1) := by decide +kernel
theorem dX11_ways_46 : decode cX11_ways 46 = .ok (.iload_n 3, 1) := by decide +kernel
theorem dX11_ways_47 : decode cX11_ways 47 = .ok (.invokevirtual 82, 3) := by decide +kernel
theorem dX11_ways_50 : decode cX11_ways 50 = .ok (.iload_n 1, 1) := by decide +kernel
theorem dX11_ways_51 : decode cX11_ways 51 = .ok (.aload_n 0, 1) := by decide +kernel
theorem dX11_ways_52 : decode cX11_ways 52 = .ok (.invokevirtual 85, 3) := by decide +kernel
theorem dX11_ways_55 : decode cX11_ways 55 = .ok (.iadd, 1) := by decide +kernel
theorem dX11_ways_56 : decode cX11_ways 56 = .ok (.istore_n 1, 1) := by decide +kernel
theorem dX11_ways_57 : decode cX11_ways 57 = .ok (.aload_n 0, 1) := by decide +kernel
theorem dX11_ways_58 : decode cX11_ways 58 = .ok (.invokevirtual 89, 3) := by decide +kernel
theorem dX11_ways_61 : decode cX11_ways 61 = .ok (.istore 4, 2) := by decide +kernel
theorem dX11_ways_63 : decode cX11_ways 63 = .ok (.iinc 3 1, 3) := by decide +kernel
theorem dX11_ways_66 : decode cX11_ways 66 = .ok (.goto (-38), 3) := by decide +kernel
theorem dX11_ways_69 : decode cX11_ways 69 = .ok (.iload_n 1, 1) := by decide +kernel
theorem dX11_ways_70 : decode cX11_ways 70 = .ok (.ireturn, 1) := by decide +kernel
def f_X11_ways_28 (RC : XW → Option (Int32 × XW)) (y2 : Int32) : Nat → Int32 → Int32 → XW → Option (Int32 × XW)
  | 0, _, _, _ => none
  | n + 1, z1, z3, w => (if y2 < z3 then (some (z1, w)) else (bI (f_X11_crossed z3 w) (fun r1 w1 => (if r1 = (-1) then (bV (f_X11_puts z3 w1) (fun w2 => (bI (RC w2) (fun r3 w3 => (bI (f_X11_takes w3) (fun r4 w4 => (f_X11_ways_28 RC y2 n (z1 + r3) (z3 + 1) w4))))))) else (f_X11_ways_28 RC y2 n z1 (z3 + 1) w1)))))
set_option maxRecDepth 100000 in
theorem S_X11_ways_28 {g : GC} (hl : g.1.stackTraces = false) {n0 : Nat} (hn0 : 5 ≤ n0) {RC : XW → Option (Int32 × XW)} (hRC : ∀  (w : XW) q, RC  w = some q → MM g (.code yX11_ways cX11_ways 5 (some .int)) yX11_ways (rmL n0 0 0) 0 0 [.ref (g.2.1 + 141)] w (oI q)) {y2 : Int32} : ∀ (n : Nat) (z1 : Int32) (z3 : Int32) (w : XW), VE g cX11_ways 5 RX11 (some .int) [] (rmL (n0 + 1) 0 0) 0 0 oI 0 0 28 [(0, .ref (g.2.1 + 141)), (1, .int z1), (2, .int y2), (3, .int z3)] [] w (f_X11_ways_28 RC y2 n z1 z3 w) := by
  intro n
  induction n with
  | zero => intro z1 z3 w; exact v_none
  | succ n ih =>
    intro z1 z3 w
    rw [f_X11_ways_28]
    refine v_iload_n dX11_ways_28 rfl 3 rfl ?_
    refine v_iload_n dX11_ways_29 rfl 2 rfl ?_
    refine v_icmp_gt (tgt := 69) dX11_ways_30 (by decide) ?_ ?_
    · refine v_iload_n dX11_ways_69 rfl 1 rfl ?_
      exact v_iret dX11_ways_70 rfl rfl (by decide) (by decide)
    · refine v_aload_n dX11_ways_33 rfl 0 rfl ?_
      refine v_iload_n dX11_ways_34 rfl 3 rfl ?_
      refine v_callVi (As := [.int z3]) cv_X11_79 (S_X11_crossed hl) tt_141 rfl rfl rfl (Nat.le_of_ble_eq_true rfl) dX11_ways_35 (CR_rm (by omega) (by decide) (by decide) (by decide)) (fun r1 w1 => ?_)
      refine v_iconst (v := (-1)) dX11_ways_38 (by decide) ?_
      refine v_icmp_eq (tgt := 45) dX11_ways_39 (by decide) ?_ ?_
      · refine v_aload_n dX11_ways_45 rfl 0 rfl ?_
        refine v_iload_n dX11_ways_46 rfl 3 rfl ?_
        refine v_callVv (As := [.int z3]) cv_X11_82 (S_X11_puts hl) tt_141 rfl rfl rfl (Nat.le_of_ble_eq_true rfl) dX11_ways_47 (CR_rm (by omega) (by decide) (by decide) (by decide)) (fun w2 => ?_)
        refine v_iload_n dX11_ways_50 rfl 1 rfl ?_
        refine v_aload_n dX11_ways_51 rfl 0 rfl ?_
        refine v_callVi (As := []) cv_X11_85 (hRC _) tt_141 rfl rfl rfl (Nat.le_of_ble_eq_true rfl) dX11_ways_52 (CR_rm (by omega) (by decide) (by decide) (by decide)) (fun r3 w3 => ?_)
        refine v_iadd dX11_ways_55 ?_
        refine v_istore_n dX11_ways_56 rfl (Nat.le_of_ble_eq_true rfl) rfl ?_
        refine v_aload_n dX11_ways_57 rfl 1 rfl ?_
        refine v_callVi (As := []) cv_X11_89 (S_X11_takes hl) tt_141 rfl rfl rfl (Nat.le_of_ble_eq_true rfl) dX11_ways_58 (CR_rm (by omega) (by decide) (by decide) (by decide)) (fun r4 w4 => ?_)
        refine v_istore dX11_ways_61 (Nat.le_of_ble_eq_true rfl) rfl ?_
        refine v_iinc (v := (z3 + 1)) dX11_ways_63 (q := 4) rfl rfl (Nat.le_of_ble_eq_true rfl) rfl ?_
        refine v_goto (tgt := 28) dX11_ways_66 (by decide) ?_
        refine v_sub [3, 2, 4, 0] rfl ?_
        exact ih _ _ _
      · refine v_goto (tgt := 63) dX11_ways_42 (by decide) ?_
        refine v_iinc (v := (z3 + 1)) dX11_ways_63 (q := 3) rfl rfl (Nat.le_of_ble_eq_true rfl) rfl ?_
        refine v_goto (tgt := 28) dX11_ways_66 (by decide) ?_
        refine v_sub [1, 2, 3, 0] rfl ?_
        exact ih _ _ _
def f_X11_waysO (RC : XW → Option (Int32 × XW)) (w : XW) : Option (Int32 × XW) := (if (w.1 142 (Int32.toNatClampNeg 1)) = (w.1 142 (Int32.toNatClampNeg 0)) then (some (1, w)) else (f_X11_ways_28 RC (w.1 142 (Int32.toNatClampNeg 1)) 1000 0 0 w))
set_option maxRecDepth 100000 in
theorem W_X11_waysO {g : GC} (hl : g.1.stackTraces = false) {n0 : Nat} (hn0 : 5 ≤ n0) {RC : XW → Option (Int32 × XW)} (hRC : ∀  (w : XW) q, RC  w = some q → MM g (.code yX11_ways cX11_ways 5 (some .int)) yX11_ways (rmL n0 0 0) 0 0 [.ref (g.2.1 + 141)] w (oI q)) {w : XW} : VE g cX11_ways 5 RX11 (some .int) [] (rmL (n0 + 1) 0 0) 0 0 oI 0 0 0 [(0, .ref (g.2.1 + 141))] [] w (f_X11_waysO RC  w) := by
  unfold f_X11_waysO
  refine v_aload_n dX11_ways_0 rfl 0 rfl ?_
  refine v_getR fl_X11_7 tt_141 rfl dX11_ways_1 ?_
  refine v_iconst (v := 1) dX11_ways_4 (by decide) ?_
  refine v_iald tt_142 (by decide : inB 1 66) dX11_ways_5 ?_
  refine v_aload_n dX11_ways_6 rfl 0 rfl ?_
  refine v_getR fl_X11_7 tt_141 rfl dX11_ways_7 ?_
  refine v_iconst (v := 0) dX11_ways_10 (by decide) ?_
  refine v_iald tt_142 (by decide : inB 0 66) dX11_ways_11 ?_
  refine v_icmp_ne (tgt := 17) dX11_ways_12 (by decide) ?_ ?_
  · refine v_iconst (v := 0) dX11_ways_17 (by decide) ?_
    refine v_istore_n dX11_ways_18 rfl (Nat.le_of_ble_eq_true rfl) rfl ?_
    refine v_aload_n dX11_ways_19 rfl 1 rfl ?_
    refine v_getR fl_X11_7 tt_141 rfl dX11_ways_20 ?_
    refine v_iconst (v := 1) dX11_ways_23 (by decide) ?_
    refine v_iald tt_142 (by decide : inB 1 66) dX11_ways_24 ?_
    refine v_istore_n dX11_ways_25 rfl (Nat.le_of_ble_eq_true rfl) rfl ?_
    refine v_iconst (v := 0) dX11_ways_26 (by decide) ?_
    refine v_istore_n dX11_ways_27 rfl (Nat.le_of_ble_eq_true rfl) rfl ?_
    refine v_sub [3, 2, 1, 0] rfl ?_
    exact S_X11_ways_28 hl hn0 hRC  _ _ _ _
  · refine v_iconst (v := 1) dX11_ways_15 (by decide) ?_
    exact v_iret dX11_ways_16 rfl rfl (by decide) (by decide)
theorem S_X11_waysO {g : GC} (hl : g.1.stackTraces = false) {n0 : Nat} (hn0 : 5 ≤ n0) {RC : XW → Option (Int32 × XW)} (hRC : ∀  (w : XW) q, RC  w = some q → MM g (.code yX11_ways cX11_ways 5 (some .int)) yX11_ways (rmL n0 0 0) 0 0 [.ref (g.2.1 + 141)] w (oI q)) {w : XW} : ∀ q, f_X11_waysO RC  w = some q → MM g (.code yX11_ways cX11_ways 5 (some .int)) yX11_ways (rmL (n0 + 1) 0 0) 0 0 [.ref (g.2.1 + 141)] w (oI q) := fun q hq => MM_of (own := RX11) hl (by decide) gw_1669 rfl (Nat.le_of_ble_eq_true rfl) (W_X11_waysO hl hn0 hRC q hq) ⟨rfl, rfl⟩
def f_X11_ways : Nat → XW → Option (Int32 × XW)
  | 0, _ => none
  | n + 1, w => f_X11_waysO (f_X11_ways n)  w
theorem S_X11_ways {g : GC} (hl : g.1.stackTraces = false) : ∀ (n : Nat)  (w : XW) q, f_X11_ways n  w = some q → MM g (.code yX11_ways cX11_ways 5 (some .int)) yX11_ways (rmL (5 + 1 * n) 0 0) 0 0 [.ref (g.2.1 + 141)] w (oI q) := by
  intro n
  induction n with
  | zero => intro  w q h; cases h
  | succ n ih =>
    intro  w q h
    exact S_X11_waysO hl (n0 := 5 + 1 * n) (by omega) ih q h

theorem dX11_cut_0 : decode cX11_cut 0 = .ok (.aload_n 0, 1) := by decide +kernel
theorem dX11_cut_1 : decode cX11_cut 1 = .ok (.getfield 7, 3) := by decide +kernel
theorem dX11_cut_4 : decode cX11_cut 4 = .ok (.iconst 0, 1) := by decide +kernel
theorem dX11_cut_5 : decode cX11_cut 5 = .ok (.iaload, 1) := by decide +kernel
theorem dX11_cut_6 : decode cX11_cut 6 = .ok (.iconst 1, 1) := by decide +kernel
theorem dX11_cut_7 : decode cX11_cut 7 = .ok (.isub, 1) := by decide +kernel
theorem dX11_cut_8 : decode cX11_cut 8 = .ok (.istore_n 2, 1) := by decide +kernel
theorem dX11_cut_9 : decode cX11_cut 9 = .ok (.iconst (-1), 1) := by decide +kernel
theorem dX11_cut_10 : decode cX11_cut 10 = .ok (.istore_n 3, 1) := by decide +kernel
theorem dX11_cut_11 : decode cX11_cut 11 = .ok (.iconst 1, 1) := by decide +kernel
theorem dX11_cut_12 : decode cX11_cut 12 = .ok (.istore 4, 2) := by decide +kernel
theorem dX11_cut_14 : decode cX11_cut 14 = .ok (.iload 4, 2) := by decide +kernel
theorem dX11_cut_16 : decode cX11_cut 16 = .ok (.iconst 1, 1) := by decide +kernel
theorem dX11_cut_17 : decode cX11_cut 17 = .ok (.iload_n 2, 1) := by decide +kernel
theorem dX11_cut_18 : decode cX11_cut 18 = .ok (.ishl, 1) := by decide +kernel
theorem dX11_cut_19 : decode cX11_cut 19 = .ok (.if_icmp .ge 125, 3) := by decide +kernel
theorem dX11_cut_22 : decode cX11_cut 22 = .ok (.iconst 0, 1) := by decide +kernel
theorem dX11_cut_23 : decode cX11_cut 23 = .ok (.istore 5, 2) := by decide +kernel
theorem dX11_cut_25 : decode cX11_cut 25 = .ok (.iconst 0, 1) := by decide +kernel
theorem dX11_cut_26 : decode cX11_cut 26 = .ok (.istore 6, 2) := by decide +kernel
theorem dX11_cut_28 : decode cX11_cut 28 = .ok (.iload 6, 2) := by decide +kernel
theorem dX11_cut_30 : decode cX11_cut 30 = .ok (.aload_n 0, 1) := by decide +kernel
theorem dX11_cut_31 : decode cX11_cut 31 = .ok (.getfield 7, 3) := by decide +kernel
theorem dX11_cut_34 : decode cX11_cut 34 = .ok (.iconst 2, 1) := by decide +kernel
theorem dX11_cut_35 : decode cX11_cut 35 = .ok (.iaload, 1) := by decide +kernel
theorem dX11_cut_36 : decode cX11_cut 36 = .ok (.if_icmp .ge 84, 3) := by decide +kernel
theorem dX11_cut_39 : decode cX11_cut 39 = .ok (.aload_n 0, 1) := by decide +kernel
theorem dX11_cut_40 : decode cX11_cut 40 = .ok (.iload 6, 2) := by decide +kernel
theorem dX11_cut_42 : decode cX11_cut 42 = .ok (.iconst 3, 1) := by decide +kernel
theorem dX11_cut_43 : decode cX11_cut 43 = .ok (.invokevirtual 71, 3) := by decide +kernel
theorem dX11_cut_46 : decode cX11_cut 46 = .ok (.ifCond .ne 44, 3) := by decide +kernel
theorem dX11_cut_49 : decode cX11_cut 49 = .ok (.iload 6, 2) := by decide +kernel
theorem dX11_cut_51 : decode cX11_cut 51 = .ok (.iload_n 1, 1) := by decide +kernel
theorem dX11_cut_52 : decode cX11_cut 52 = .ok (.if_icmp .eq 38, 3) := by decide +kernel
theorem dX11_cut_55 : decode cX11_cut 55 = .ok (.iload 4, 2) := by decide +kernel
theorem dX11_cut_57 : decode cX11_cut 57 = .ok (.aload_n 0, 1) := by decide +kernel
theorem dX11_cut_58 : decode cX11_cut 58 = .ok (.iload 6, 2) := by decide +kernel
theorem dX11_cut_60 : decode cX11_cut 60 = .ok (.iconst 0, 1) := by decide +kernel
theorem dX11_cut_61 : decode cX11_cut 61 = .ok (.invokevirtual 71, 3) := by decide +kernel
theorem dX11_cut_64 : decode cX11_cut 64 = .ok (.ishr, 1) := by decide +kernel
theorem dX11_cut_65 : decode cX11_cut 65 = .ok (.iconst 1, 1) := by decide +kernel
theorem dX11_cut_66 : decode cX11_cut 66 = .ok (.iand, 1) := by decide +kernel
theorem dX11_cut_67 : decode cX11_cut 67 = .ok (.iconst 1, 1) := by decide +kernel
theorem dX11_cut_68 : decode cX11_cut 68 = .ok (.if_icmp .ne 22, 3) := by decide +kernel
theorem dX11_cut_71 : decode cX11_cut 71 = .ok (.iload 4, 2) := by decide +kernel
theorem dX11_cut_73 : decode cX11_cut 73 = .ok (.aload_n 0, 1) := by decide +kernel
theorem dX11_cut_74 : decode cX11_cut 74 = .ok (.iload 6, 2) := by decide +kernel
theorem dX11_cut_76 : decode cX11_cut 76 = .ok (.iconst 1, 1) := by decide +kernel
theorem dX11_cut_77 : decode cX11_cut 77 = .ok (.invokevirtual 71, 3) := by decide +kernel
theorem dX11_cut_80 : decode cX11_cut 80 = .ok (.ishr, 1) := by decide +kernel
theorem dX11_cut_81 : decode cX11_cut 81 = .ok (.iconst 1, 1) := by decide +kernel
theorem dX11_cut_82 : decode cX11_cut 82 = .ok (.iand, 1) := by decide +kernel
theorem dX11_cut_83 : decode cX11_cut 83 = .ok (.ifCond .ne 7, 3) := by decide +kernel
theorem dX11_cut_86 : decode cX11_cut 86 = .ok (.iconst 1, 1) := by decide +kernel
theorem dX11_cut_87 : decode cX11_cut 87 = .ok (.goto 4, 3) := by decide +kernel
theorem dX11_cut_90 : decode cX11_cut 90 = .ok (.iconst 0, 1) := by decide +kernel
theorem dX11_cut_91 : decode cX11_cut 91 = .ok (.istore 7, 2) := by decide +kernel
theorem dX11_cut_93 : decode cX11_cut 93 = .ok (.iload 5, 2) := by decide +kernel
theorem dX11_cut_95 : decode cX11_cut 95 = .ok (.iload 7, 2) := by decide +kernel
theorem dX11_cut_97 : decode cX11_cut 97 = .ok (.ifCond .eq 13, 3) := by decide +kernel
theorem dX11_cut_100 : decode cX11_cut 100 = .ok (.aload_n 0, 1) := by decide +kernel
theorem dX11_cut_101 : decode cX11_cut 101 = .ok (.iload 6, 2) := by decide +kernel
theorem dX11_cut_103 : decode cX11_cut 103 = .ok (.iconst 2, 1) := by decide +kernel
theorem dX11_cut_104 : decode cX11_cut 104 = .ok (.invokevirtual 71, 3) := by decide +kernel
theorem dX11_cut_107 : decode cX11_cut 107 = .ok (.goto 4, 3) := by decide +kernel
theorem dX11_cut_110 : decode cX11_cut 110 = .ok (.iconst 0, 1) := by decide +kernel
theorem dX11_cut_111 : decode cX11_cut 111 = .ok (.iadd, 1) := by decide +kernel
theorem dX11_cut_112 : decode cX11_cut 112 = .ok (.istore 5, 2) := by decide +kernel
theorem dX11_cut_114 : decode cX11_cut 114 = .ok (.iinc 6 1, 3) := by decide +kernel
theorem dX11_cut_117 : decode cX11_cut 117 = .ok (.goto (-89), 3) := by decide +kernel
theorem dX11_cut_120 : decode cX11_cut 120 = .ok (.iload_n 3, 1) := by decide +kernel
theorem dX11_cut_121 : decode cX11_cut 121 = .ok (.iconst (-1), 1) := by decide +kernel
theorem dX11_cut_122 : decode cX11_cut 122 = .ok (.if_icmp .eq 9, 3) := by decide +kernel
theorem dX11_cut_125 : decode cX11_cut 125 = .ok (.iload 5, 2) := by decide +kernel
theorem dX11_cut_127 : decode cX11_cut 127 = .ok (.iload_n 3, 1) := by decide +kernel
theorem dX11_cut_128 : decode cX11_cut 128 = .ok (.if_icmp .ge 8, 3) := by decide +kernel
theorem dX11_cut_131 : decode cX11_cut 131 = .ok (.iload 5, 2) := by decide +kernel
theorem dX11_cut_133 : decode cX11_cut 133 = .ok (.goto 4, 3) := by decide +kernel
theorem dX11_cut_136 : decode cX11_cut 136 = .ok (.iload_n 3, 1) := by decide +kernel
theorem dX11_cut_137 : decode cX11_cut 137 = .ok (.istore_n 3, 1) := by decide +kernel
theorem dX11_cut_138 : decode cX11_cut 138 = .ok (.iinc 4 2, 3) := by decide +kernel
theorem dX11_cut_141 : decode cX11_cut 141 = .ok (.goto (-127), 3) := by decide +kernel
theorem dX11_cut_144 : decode cX11_cut 144 = .ok (.iload_n 3, 1) := by decide +kernel
theorem dX11_cut_145 : decode cX11_cut 145 = .ok (.ireturn, 1) := by decide +kernel
def f_X11_cut_28 (K14 : Int32 → Int32 → XW → Option (Int32 × XW)) (y1 : Int32) (y2 : Int32) (y3 : Int32) (y4 : Int32) : Nat → Int32 → Int32 → XW → Option (Int32 × XW)
  | 0, _, _, _ => none
  | n + 1, z5, z6, w => (if (w.1 142 (Int32.toNatClampNeg 2)) ≤ z6 then (if y3 = (-1) then (K14 z5 (y4 + 2) w) else (if y3 ≤ z5 then (K14 y3 (y4 + 2) w) else (K14 z5 (y4 + 2) w))) else (bI (f_X11_pipe z6 3 w) (fun r1 w1 => (if r1 = 0 then (if z6 = y1 then (f_X11_cut_28 K14 y1 y2 y3 y4 n (z5 + 0) (z6 + 1) w1) else (bI (f_X11_pipe z6 0 w1) (fun r2 w2 => (if ((y4 >>> (r2 &&& 31)) &&& 1) = 1 then (bI (f_X11_pipe z6 1 w2) (fun r3 w3 => (if ((y4 >>> (r3 &&& 31)) &&& 1) = 0 then (bI (f_X11_pipe z6 2 w3) (fun r4 w4 => (f_X11_cut_28 K14 y1 y2 y3 y4 n (z5 + r4) (z6 + 1) w4))) else (f_X11_cut_28 K14 y1 y2 y3 y4 n (z5 + 0) (z6 + 1) w3)))) else (f_X11_cut_28 K14 y1 y2 y3 y4 n (z5 + 0) (z6 + 1) w2))))) else (f_X11_cut_28 K14 y1 y2 y3 y4 n (z5 + 0) (z6 + 1) w1)))))
set_option maxRecDepth 100000 in
theorem S_X11_cut_28 {g : GC} (hl : g.1.stackTraces = false) {y1 : Int32} {y2 : Int32} {y3 : Int32} {y4 : Int32} {K14 : Int32 → Int32 → XW → Option (Int32 × XW)} (hK14 : ∀ (z3 : Int32) (z4 : Int32) (w : XW), VE g cX11_cut 8 RX11 (some .int) [] (rmL 4 0 0) 0 0 oI 0 0 14 [(0, .ref (g.2.1 + 141)), (1, .int y1), (2, .int y2), (3, .int z3), (4, .int z4)] [] w (K14 z3 z4 w)) : ∀ (n : Nat) (z5 : Int32) (z6 : Int32) (w : XW), VE g cX11_cut 8 RX11 (some .int) [] (rmL 4 0 0) 0 0 oI 0 0 28 [(0, .ref (g.2.1 + 141)), (1, .int y1), (2, .int y2), (3, .int y3), (4, .int y4), (5, .int z5), (6, .int z6)] [] w (f_X11_cut_28 K14 y1 y2 y3 y4 n z5 z6 w) := by
  intro n
  induction n with
  | zero => intro z5 z6 w; exact v_none
  | succ n ih =>
    intro z5 z6 w
    rw [f_X11_cut_28]
    refine v_iload dX11_cut_28 6 rfl ?_
    refine v_aload_n dX11_cut_30 rfl 0 rfl ?_
    refine v_getR fl_X11_7 tt_141 rfl dX11_cut_31 ?_
    refine v_iconst (v := 2) dX11_cut_34 (by decide) ?_
    refine v_iald tt_142 (by decide : inB 2 66) dX11_cut_35 ?_
    refine v_icmp_ge (tgt := 120) dX11_cut_36 (by decide) ?_ ?_
    · refine v_iload_n dX11_cut_120 rfl 3 rfl ?_
      refine v_iconst (v := (-1)) dX11_cut_121 (by decide) ?_
      refine v_icmp_eq (tgt := 131) dX11_cut_122 (by decide) ?_ ?_
      · refine v_iload dX11_cut_131 5 rfl ?_
        refine v_goto (tgt := 137) dX11_cut_133 (by decide) ?_
        refine v_istore_n dX11_cut_137 rfl (Nat.le_of_ble_eq_true rfl) rfl ?_
        refine v_iinc (v := (y4 + 2)) dX11_cut_138 (q := 4) rfl rfl (Nat.le_of_ble_eq_true rfl) rfl ?_
        refine v_goto (tgt := 14) dX11_cut_141 (by decide) ?_
        refine v_sub [2, 3, 4, 1, 0] rfl ?_
        exact hK14 _ _ _
      · refine v_iload dX11_cut_125 5 rfl ?_
        refine v_iload_n dX11_cut_127 rfl 3 rfl ?_
        refine v_icmp_ge (tgt := 136) dX11_cut_128 (by decide) ?_ ?_
        · refine v_iload_n dX11_cut_136 rfl 3 rfl ?_
          refine v_istore_n dX11_cut_137 rfl (Nat.le_of_ble_eq_true rfl) rfl ?_
          refine v_iinc (v := (y4 + 2)) dX11_cut_138 (q := 4) rfl rfl (Nat.le_of_ble_eq_true rfl) rfl ?_
          refine v_goto (tgt := 14) dX11_cut_141 (by decide) ?_
          refine v_sub [2, 3, 4, 1, 0] rfl ?_
          exact hK14 _ _ _
        · refine v_iload dX11_cut_131 5 rfl ?_
          refine v_goto (tgt := 137) dX11_cut_133 (by decide) ?_
          refine v_istore_n dX11_cut_137 rfl (Nat.le_of_ble_eq_true rfl) rfl ?_
          refine v_iinc (v := (y4 + 2)) dX11_cut_138 (q := 4) rfl rfl (Nat.le_of_ble_eq_true rfl) rfl ?_
          refine v_goto (tgt := 14) dX11_cut_141 (by decide) ?_
          refine v_sub [2, 3, 4, 1, 0] rfl ?_
          exact hK14 _ _ _
    · refine v_aload_n dX11_cut_39 rfl 0 rfl ?_
      refine v_iload dX11_cut_40 6 rfl ?_
      refine v_iconst (v := 3) dX11_cut_42 (by decide) ?_
      refine v_callVi (As := [.int z6, .int 3]) cv_X11_71 (S_X11_pipe hl) tt_141 rfl rfl rfl (Nat.le_of_ble_eq_true rfl) dX11_cut_43 (CR_rm (by decide) (by decide) (by decide) (by decide)) (fun r1 w1 => ?_)
      refine v_if_ne (tgt := 90) dX11_cut_46 (by decide) ?_ ?_
      · refine v_iconst (v := 0) dX11_cut_90 (by decide) ?_
        refine v_istore dX11_cut_91 (Nat.le_of_ble_eq_true rfl) rfl ?_
        refine v_iload dX11_cut_93 6 rfl ?_
        refine v_iload dX11_cut_95 0 rfl ?_
        refine v_if_eqT (tgt := 110) dX11_cut_97 (by decide) (by decide) ?_
        refine v_iconst (v := 0) dX11_cut_110 (by decide) ?_
        refine v_iadd dX11_cut_111 ?_
        refine v_istore dX11_cut_112 (Nat.le_of_ble_eq_true rfl) rfl ?_
        refine v_iinc (v := (z6 + 1)) dX11_cut_114 (q := 7) rfl rfl (Nat.le_of_ble_eq_true rfl) rfl ?_
        refine v_goto (tgt := 28) dX11_cut_117 (by decide) ?_
        refine v_sub [3, 4, 5, 6, 7, 1, 0] rfl ?_
        exact ih _ _ _
      · refine v_iload dX11_cut_49 6 rfl ?_
        refine v_iload_n dX11_cut_51 rfl 1 rfl ?_
        refine v_icmp_eq (tgt := 90) dX11_cut_52 (by decide) ?_ ?_
        · refine v_iconst (v := 0) dX11_cut_90 (by decide) ?_
          refine v_istore dX11_cut_91 (Nat.le_of_ble_eq_true rfl) rfl ?_
          refine v_iload dX11_cut_93 6 rfl ?_
          refine v_iload dX11_cut_95 0 rfl ?_
          refine v_if_eqT (tgt := 110) dX11_cut_97 (by decide) (by decide) ?_
          refine v_iconst (v := 0) dX11_cut_110 (by decide) ?_
          refine v_iadd dX11_cut_111 ?_
          refine v_istore dX11_cut_112 (Nat.le_of_ble_eq_true rfl) rfl ?_
          refine v_iinc (v := (z6 + 1)) dX11_cut_114 (q := 7) rfl rfl (Nat.le_of_ble_eq_true rfl) rfl ?_
          refine v_goto (tgt := 28) dX11_cut_117 (by decide) ?_
          refine v_sub [3, 4, 5, 6, 7, 1, 0] rfl ?_
          exact ih _ _ _
        · refine v_iload dX11_cut_55 4 rfl ?_
          refine v_aload_n dX11_cut_57 rfl 0 rfl ?_
          refine v_iload dX11_cut_58 6 rfl ?_
          refine v_iconst (v := 0) dX11_cut_60 (by decide) ?_
          refine v_callVi (As := [.int z6, .int 0]) cv_X11_71 (S_X11_pipe hl) tt_141 rfl rfl rfl (Nat.le_of_ble_eq_true rfl) dX11_cut_61 (CR_rm (by decide) (by decide) (by decide) (by decide)) (fun r2 w2 => ?_)
          refine v_ishr dX11_cut_64 ?_
          refine v_iconst (v := 1) dX11_cut_65 (by decide) ?_
          refine v_iand dX11_cut_66 ?_
          refine v_iconst (v := 1) dX11_cut_67 (by decide) ?_
          refine v_icmp_ne (tgt := 90) dX11_cut_68 (by decide) ?_ ?_
          · refine v_iconst (v := 0) dX11_cut_90 (by decide) ?_
            refine v_istore dX11_cut_91 (Nat.le_of_ble_eq_true rfl) rfl ?_
            refine v_iload dX11_cut_93 6 rfl ?_
            refine v_iload dX11_cut_95 0 rfl ?_
            refine v_if_eqT (tgt := 110) dX11_cut_97 (by decide) (by decide) ?_
            refine v_iconst (v := 0) dX11_cut_110 (by decide) ?_
            refine v_iadd dX11_cut_111 ?_
            refine v_istore dX11_cut_112 (Nat.le_of_ble_eq_true rfl) rfl ?_
            refine v_iinc (v := (z6 + 1)) dX11_cut_114 (q := 7) rfl rfl (Nat.le_of_ble_eq_true rfl) rfl ?_
            refine v_goto (tgt := 28) dX11_cut_117 (by decide) ?_
            refine v_sub [3, 4, 5, 6, 7, 1, 0] rfl ?_
            exact ih _ _ _
          · refine v_iload dX11_cut_71 4 rfl ?_
            refine v_aload_n dX11_cut_73 rfl 0 rfl ?_
            refine v_iload dX11_cut_74 6 rfl ?_
            refine v_iconst (v := 1) dX11_cut_76 (by decide) ?_
            refine v_callVi (As := [.int z6, .int 1]) cv_X11_71 (S_X11_pipe hl) tt_141 rfl rfl rfl (Nat.le_of_ble_eq_true rfl) dX11_cut_77 (CR_rm (by decide) (by decide) (by decide) (by decide)) (fun r3 w3 => ?_)
            refine v_ishr dX11_cut_80 ?_
            refine v_iconst (v := 1) dX11_cut_81 (by decide) ?_
            refine v_iand dX11_cut_82 ?_
            refine v_if_ne (tgt := 90) dX11_cut_83 (by decide) ?_ ?_
            · refine v_iconst (v := 0) dX11_cut_90 (by decide) ?_
              refine v_istore dX11_cut_91 (Nat.le_of_ble_eq_true rfl) rfl ?_
              refine v_iload dX11_cut_93 6 rfl ?_
              refine v_iload dX11_cut_95 0 rfl ?_
              refine v_if_eqT (tgt := 110) dX11_cut_97 (by decide) (by decide) ?_
              refine v_iconst (v := 0) dX11_cut_110 (by decide) ?_
              refine v_iadd dX11_cut_111 ?_
              refine v_istore dX11_cut_112 (Nat.le_of_ble_eq_true rfl) rfl ?_
              refine v_iinc (v := (z6 + 1)) dX11_cut_114 (q := 7) rfl rfl (Nat.le_of_ble_eq_true rfl) rfl ?_
              refine v_goto (tgt := 28) dX11_cut_117 (by decide) ?_
              refine v_sub [3, 4, 5, 6, 7, 1, 0] rfl ?_
              exact ih _ _ _
            · refine v_iconst (v := 1) dX11_cut_86 (by decide) ?_
              refine v_goto (tgt := 91) dX11_cut_87 (by decide) ?_
              refine v_istore dX11_cut_91 (Nat.le_of_ble_eq_true rfl) rfl ?_
              refine v_iload dX11_cut_93 6 rfl ?_
              refine v_iload dX11_cut_95 0 rfl ?_
              refine v_if_eqF (tgt := 110) dX11_cut_97 (by decide) (by decide) ?_
              refine v_aload_n dX11_cut_100 rfl 1 rfl ?_
              refine v_iload dX11_cut_101 7 rfl ?_
              refine v_iconst (v := 2) dX11_cut_103 (by decide) ?_
              refine v_callVi (As := [.int z6, .int 2]) cv_X11_71 (S_X11_pipe hl) tt_141 rfl rfl rfl (Nat.le_of_ble_eq_true rfl) dX11_cut_104 (CR_rm (by decide) (by decide) (by decide) (by decide)) (fun r4 w4 => ?_)
              refine v_goto (tgt := 111) dX11_cut_107 (by decide) ?_
              refine v_iadd dX11_cut_111 ?_
              refine v_istore dX11_cut_112 (Nat.le_of_ble_eq_true rfl) rfl ?_
              refine v_iinc (v := (z6 + 1)) dX11_cut_114 (q := 7) rfl rfl (Nat.le_of_ble_eq_true rfl) rfl ?_
              refine v_goto (tgt := 28) dX11_cut_117 (by decide) ?_
              refine v_sub [3, 4, 5, 6, 7, 1, 0] rfl ?_
              exact ih _ _ _
def f_X11_cut_14 (y1 : Int32) (y2 : Int32) : Nat → Int32 → Int32 → XW → Option (Int32 × XW)
  | 0, _, _, _ => none
  | n + 1, z3, z4, w => (if (1 <<< (y2 &&& 31)) ≤ z4 then (some (z3, w)) else (f_X11_cut_28 (fun a0 a1 w9 => f_X11_cut_14 y1 y2 n a0 a1 w9) y1 y2 z3 z4 1000 0 0 w))
set_option maxRecDepth 100000 in
theorem S_X11_cut_14 {g : GC} (hl : g.1.stackTraces = false) {y1 : Int32} {y2 : Int32} : ∀ (n : Nat) (z3 : Int32) (z4 : Int32) (w : XW), VE g cX11_cut 8 RX11 (some .int) [] (rmL 4 0 0) 0 0 oI 0 0 14 [(0, .ref (g.2.1 + 141)), (1, .int y1), (2, .int y2), (3, .int z3), (4, .int z4)] [] w (f_X11_cut_14 y1 y2 n z3 z4 w) := by
  intro n
  induction n with
  | zero => intro z3 z4 w; exact v_none
  | succ n ih =>
    intro z3 z4 w
    rw [f_X11_cut_14]
    refine v_iload dX11_cut_14 4 rfl ?_
    refine v_iconst (v := 1) dX11_cut_16 (by decide) ?_
    refine v_iload_n dX11_cut_17 rfl 2 rfl ?_
    refine v_ishl dX11_cut_18 ?_
    refine v_icmp_ge (tgt := 144) dX11_cut_19 (by decide) ?_ ?_
    · refine v_iload_n dX11_cut_144 rfl 3 rfl ?_
      exact v_iret dX11_cut_145 rfl rfl (by decide) (by decide)
    · refine v_iconst (v := 0) dX11_cut_22 (by decide) ?_
      refine v_istore dX11_cut_23 (Nat.le_of_ble_eq_true rfl) rfl ?_
      refine v_iconst (v := 0) dX11_cut_25 (by decide) ?_
      refine v_istore dX11_cut_26 (Nat.le_of_ble_eq_true rfl) rfl ?_
      refine v_sub [2, 3, 4, 5, 6, 1, 0] rfl ?_
      exact S_X11_cut_28 hl (fun a0 a1 a2 => ih a0 a1 a2) _ _ _ _
def f_X11_cut (x1 : Int32) (w : XW) : Option (Int32 × XW) := (f_X11_cut_14 x1 ((w.1 142 (Int32.toNatClampNeg 0)) - 1) 1000 (-1) 1 w)
set_option maxRecDepth 100000 in
theorem W_X11_cut {g : GC} (hl : g.1.stackTraces = false) {x1 : Int32} {w : XW} : VE g cX11_cut 8 RX11 (some .int) [] (rmL 4 0 0) 0 0 oI 0 0 0 [(0, .ref (g.2.1 + 141)), (1, .int x1)] [] w (f_X11_cut x1 w) := by
  unfold f_X11_cut
  refine v_aload_n dX11_cut_0 rfl 0 rfl ?_
  refine v_getR fl_X11_7 tt_141 rfl dX11_cut_1 ?_
  refine v_iconst (v := 0) dX11_cut_4 (by decide) ?_
  refine v_iald tt_142 (by decide : inB 0 66) dX11_cut_5 ?_
  refine v_iconst (v := 1) dX11_cut_6 (by decide) ?_
  refine v_isub dX11_cut_7 ?_
  refine v_istore_n dX11_cut_8 rfl (Nat.le_of_ble_eq_true rfl) rfl ?_
  refine v_iconst (v := (-1)) dX11_cut_9 (by decide) ?_
  refine v_istore_n dX11_cut_10 rfl (Nat.le_of_ble_eq_true rfl) rfl ?_
  refine v_iconst (v := 1) dX11_cut_11 (by decide) ?_
  refine v_istore dX11_cut_12 (Nat.le_of_ble_eq_true rfl) rfl ?_
  refine v_sub [3, 4, 2, 1, 0] rfl ?_
  exact S_X11_cut_14 hl  _ _ _ _
theorem S_X11_cut {g : GC} (hl : g.1.stackTraces = false) {x1 : Int32} {w : XW} : ∀ q, f_X11_cut x1 w = some q → MM g (.code yX11_cut cX11_cut 8 (some .int)) yX11_cut (rmL 4 0 0) 0 0 [.ref (g.2.1 + 141), .int x1] w (oI q) := fun q hq => MM_of (own := RX11) hl (by decide) gw_1746 rfl (Nat.le_of_ble_eq_true rfl) (W_X11_cut hl q hq) ⟨rfl, rfl⟩

theorem dX11_adds_0 : decode cX11_adds 0 = .ok (.aload_n 0, 1) := by decide +kernel
theorem dX11_adds_1 : decode cX11_adds 1 = .ok (.getfield 7, 3) := by decide +kernel
theorem dX11_adds_4 : decode cX11_adds 4 = .ok (.iconst 0, 1) := by decide +kernel
theorem dX11_adds_5 : decode cX11_adds 5 = .ok (.iaload, 1) := by decide +kernel
theorem dX11_adds_6 : decode cX11_adds 6 = .ok (.istore_n 1, 1) := by decide +kernel
theorem dX11_adds_7 : decode cX11_adds 7 = .ok (.iload_n 1, 1) := by decide +kernel
theorem dX11_adds_8 : decode cX11_adds 8 = .ok (.bipush 7, 2) := by decide +kernel
theorem dX11_adds_10 : decode cX11_adds 10 = .ok (.if_icmp .ne 11, 3) := by decide +kernel
theorem dX11_adds_13 : decode cX11_adds 13 = .ok (.aload_n 0, 1) := by decide +kernel
theorem dX11_adds_14 : decode cX11_adds 14 = .ok (.iconst 1, 1) := by decide +kernel
theorem dX11_adds_15 : decode cX11_adds 15 = .ok (.bipush 7, 2) := by decide +kernel
theorem dX11_adds_17 : decode cX11_adds 17 = .ok (.invokevirtual 92, 3) := by decide +kernel
theorem dX11_adds_20 : decode cX11_adds 20 = .ok (.ireturn, 1) := by decide +kernel
theorem dX11_adds_21 : decode cX11_adds 21 = .ok (.aload_n 0, 1) := by decide +kernel
theorem dX11_adds_22 : decode cX11_adds 22 = .ok (.getfield 7, 3) := by decide +kernel
theorem dX11_adds_25 : decode cX11_adds 25 = .ok (.iconst 0, 1) := by decide +kernel
theorem dX11_adds_26 : decode cX11_adds 26 = .ok (.iload_n 1, 1) := by decide +kernel
theorem dX11_adds_27 : decode cX11_adds 27 = .ok (.iconst 1, 1) := by decide +kernel
theorem dX11_adds_28 : decode cX11_adds 28 = .ok (.iadd, 1) := by decide +kernel
theorem dX11_adds_29 : decode cX11_adds 29 = .ok (.iastore, 1) := by decide +kernel
theorem dX11_adds_30 : decode cX11_adds 30 = .ok (.aload_n 0, 1) := by decide +kernel
theorem dX11_adds_31 : decode cX11_adds 31 = .ok (.iload_n 1, 1) := by decide +kernel
theorem dX11_adds_32 : decode cX11_adds 32 = .ok (.invokevirtual 95, 3) := by decide +kernel
theorem dX11_adds_35 : decode cX11_adds 35 = .ok (.ireturn, 1) := by decide +kernel
def f_X11_adds (w : XW) : Option (Int32 × XW) := (if (w.1 142 (Int32.toNatClampNeg 0)) = 7 then (bI (f_X11_denied 1 7 w) (fun r2 w2 => (some (r2, w2)))) else (bI (f_X11_done (w.1 142 (Int32.toNatClampNeg 0)) (wset w 142 (Int32.toNatClampNeg 0) ((w.1 142 (Int32.toNatClampNeg 0)) + 1))) (fun r1 w1 => (some (r1, w1)))))
set_option maxRecDepth 100000 in
theorem W_X11_adds {g : GC} (hl : g.1.stackTraces = false) {w : XW} : VE g cX11_adds 2 RX11 (some .int) [] (rmL 4 0 0) 0 0 oI 0 0 0 [(0, .ref (g.2.1 + 141))] [] w (f_X11_adds  w) := by
  unfold f_X11_adds
  refine v_aload_n dX11_adds_0 rfl 0 rfl ?_
  refine v_getR fl_X11_7 tt_141 rfl dX11_adds_1 ?_
  refine v_iconst (v := 0) dX11_adds_4 (by decide) ?_
  refine v_iald tt_142 (by decide : inB 0 66) dX11_adds_5 ?_
  refine v_istore_n dX11_adds_6 rfl (Nat.le_of_ble_eq_true rfl) rfl ?_
  refine v_iload_n dX11_adds_7 rfl 0 rfl ?_
  refine v_bipush (v := 7) dX11_adds_8 (by decide) ?_
  refine v_icmp_ne (tgt := 21) dX11_adds_10 (by decide) ?_ ?_
  · refine v_aload_n dX11_adds_21 rfl 1 rfl ?_
    refine v_getR fl_X11_7 tt_141 rfl dX11_adds_22 ?_
    refine v_iconst (v := 0) dX11_adds_25 (by decide) ?_
    refine v_iload_n dX11_adds_26 rfl 0 rfl ?_
    refine v_iconst (v := 1) dX11_adds_27 (by decide) ?_
    refine v_iadd dX11_adds_28 ?_
    refine v_iast tt_142 (by decide : inB 0 66) dX11_adds_29 ?_
    refine v_aload_n dX11_adds_30 rfl 1 rfl ?_
    refine v_iload_n dX11_adds_31 rfl 0 rfl ?_
    refine v_callVi (As := [.int (w.1 142 (Int32.toNatClampNeg 0))]) cv_X11_95 (S_X11_done hl) tt_141 rfl rfl rfl (Nat.le_of_ble_eq_true rfl) dX11_adds_32 (CR_rm (by decide) (by decide) (by decide) (by decide)) (fun r1 w1 => ?_)
    exact v_iret dX11_adds_35 rfl rfl (by decide) (by decide)
  · refine v_aload_n dX11_adds_13 rfl 1 rfl ?_
    refine v_iconst (v := 1) dX11_adds_14 (by decide) ?_
    refine v_bipush (v := 7) dX11_adds_15 (by decide) ?_
    refine v_callVi (As := [.int 1, .int 7]) cv_X11_92 (S_X11_denied hl) tt_141 rfl rfl rfl (Nat.le_of_ble_eq_true rfl) dX11_adds_17 (CR_rm (by decide) (by decide) (by decide) (by decide)) (fun r2 w2 => ?_)
    exact v_iret dX11_adds_20 rfl rfl (by decide) (by decide)
theorem S_X11_adds {g : GC} (hl : g.1.stackTraces = false) {w : XW} : ∀ q, f_X11_adds  w = some q → MM g (.code yX11_adds cX11_adds 2 (some .int)) yX11_adds (rmL 4 0 0) 0 0 [.ref (g.2.1 + 141)] w (oI q) := fun q hq => MM_of (own := RX11) hl (by decide) gw_1531 rfl (Nat.le_of_ble_eq_true rfl) (W_X11_adds hl q hq) ⟨rfl, rfl⟩

theorem dX11_pours_0 : decode cX11_pours 0 = .ok (.aload_n 0, 1) := by decide +kernel
theorem dX11_pours_1 : decode cX11_pours 1 = .ok (.iload_n 1, 1) := by decide +kernel
theorem dX11_pours_2 : decode cX11_pours 2 = .ok (.invokevirtual 98, 3) := by decide +kernel
theorem dX11_pours_5 : decode cX11_pours 5 = .ok (.ifCond .ne 5, 3) := by decide +kernel
theorem dX11_pours_8 : decode cX11_pours 8 = .ok (.iconst 1, 1) := by decide +kernel
theorem dX11_pours_9 : decode cX11_pours 9 = .ok (.ireturn, 1) := by decide +kernel
theorem dX11_pours_10 : decode cX11_pours 10 = .ok (.iload_n 2, 1) := by decide +kernel
theorem dX11_pours_11 : decode cX11_pours 11 = .ok (.iconst 1, 1) := by decide +kernel
theorem dX11_pours_12 : decode cX11_pours 12 = .ok (.bipush 99, 2) := by decide +kernel
theorem dX11_pours_14 : decode cX11_pours 14 = .ok (.invokestatic 63, 3) := by decide +kernel
theorem dX11_pours_17 : decode cX11_pours 17 = .ok (.ifCond .ne 5, 3) := by decide +kernel
theorem dX11_pours_20 : decode cX11_pours 20 = .ok (.iconst 2, 1) := by decide +kernel
theorem dX11_pours_21 : decode cX11_pours 21 = .ok (.ireturn, 1) := by decide +kernel
theorem dX11_pours_22 : decode cX11_pours 22 = .ok (.aload_n 0, 1) := by decide +kernel
theorem dX11_pours_23 : decode cX11_pours 23 = .ok (.getfield 7, 3) := by decide +kernel
theorem dX11_pours_26 : decode cX11_pours 26 = .ok (.iconst 5, 1) := by decide +kernel
theorem dX11_pours_27 : decode cX11_pours 27 = .ok (.iload_n 1, 1) := by decide +kernel
theorem dX11_pours_28 : decode cX11_pours 28 = .ok (.iadd, 1) := by decide +kernel
theorem dX11_pours_29 : decode cX11_pours 29 = .ok (.iaload, 1) := by decide +kernel
theorem dX11_pours_30 : decode cX11_pours 30 = .ok (.iload_n 2, 1) := by decide +kernel
theorem dX11_pours_31 : decode cX11_pours 31 = .ok (.iadd, 1) := by decide +kernel
theorem dX11_pours_32 : decode cX11_pours 32 = .ok (.bipush 99, 2) := by decide +kernel
theorem dX11_pours_34 : decode cX11_pours 34 = .ok (.if_icmp .le 11, 3) := by decide +kernel
theorem dX11_pours_37 : decode cX11_pours 37 = .ok (.aload_n 0, 1) := by decide +kernel
theorem dX11_pours_38 : decode cX11_pours 38 = .ok (.iconst 1, 1) := by decide +kernel
theorem dX11_pours_39 : decode cX11_pours 39 = .ok (.bipush 99, 2) := by decide +kernel
theorem dX11_pours_41 : decode cX11_pours 41 = .ok (.invokevirtual 92, 3) := by decide +kernel
theorem dX11_pours_44 : decode cX11_pours 44 = .ok (.ireturn, 1) := by decide +kernel
theorem dX11_pours_45 : decode cX11_pours 45 = .ok (.aload_n 0, 1) := by decide +kernel
theorem dX11_pours_46 : decode cX11_pours 46 = .ok (.getfield 7, 3) := by decide +kernel
theorem dX11_pours_49 : decode cX11_pours 49 = .ok (.iconst 5, 1) := by decide +kernel
theorem dX11_pours_50 : decode cX11_pours 50 = .ok (.iload_n 1, 1) := by decide +kernel
theorem dX11_pours_51 : decode cX11_pours 51 = .ok (.iadd, 1) := by decide +kernel
theorem dX11_pours_52 : decode cX11_pours 52 = .ok (.dup2, 1) := by decide +kernel
theorem dX11_pours_53 : decode cX11_pours 53 = .ok (.iaload, 1) := by decide +kernel
theorem dX11_pours_54 : decode cX11_pours 54 = .ok (.iload_n 2, 1) := by decide +kernel
theorem dX11_pours_55 : decode cX11_pours 55 = .ok (.iadd, 1) := by decide +kernel
theorem dX11_pours_56 : decode cX11_pours 56 = .ok (.iastore, 1) := by decide +kernel
theorem dX11_pours_57 : decode cX11_pours 57 = .ok (.aload_n 0, 1) := by decide +kernel
theorem dX11_pours_58 : decode cX11_pours 58 = .ok (.getfield 7, 3) := by decide +kernel
theorem dX11_pours_61 : decode cX11_pours 61 = .ok (.iconst 3, 1) := by decide +kernel
theorem dX11_pours_62 : decode cX11_pours 62 = .ok (.dup2, 1) := by decide +kernel
theorem dX11_pours_63 : decode cX11_pours 63 = .ok (.iaload, 1) := by decide +kernel
theorem dX11_pours_64 : decode cX11_pours 64 = .ok (.iload_n 2, 1) := by decide +kernel
theorem dX11_pours_65 : decode cX11_pours 65 = .ok (.iadd, 1) := by decide +kernel
theorem dX11_pours_66 : decode cX11_pours 66 = .ok (.iastore, 1) := by decide +kernel
theorem dX11_pours_67 : decode cX11_pours 67 = .ok (.aload_n 0, 1) := by decide +kernel
theorem dX11_pours_68 : decode cX11_pours 68 = .ok (.aload_n 0, 1) := by decide +kernel
theorem dX11_pours_69 : decode cX11_pours 69 = .ok (.getfield 7, 3) := by decide +kernel
theorem dX11_pours_72 : decode cX11_pours 72 = .ok (.iconst 5, 1) := by decide +kernel
theorem dX11_pours_73 : decode cX11_pours 73 = .ok (.iload_n 1, 1) := by decide +kernel
theorem dX11_pours_74 : decode cX11_pours 74 = .ok (.iadd, 1) := by decide +kernel
theorem dX11_pours_75 : decode cX11_pours 75 = .ok (.iaload, 1) := by decide +kernel
theorem dX11_pours_76 : decode cX11_pours 76 = .ok (.invokevirtual 95, 3) := by decide +kernel
theorem dX11_pours_79 : decode cX11_pours 79 = .ok (.ireturn, 1) := by decide +kernel
def f_X11_pours (x1 : Int32) (x2 : Int32) (w : XW) : Option (Int32 × XW) := (bI (f_X11_isSection x1 w) (fun r1 w1 => (if r1 = 0 then (some (1, w1)) else (bI (f_X11_in x2 1 99 w1) (fun r2 w2 => (if r2 = 0 then (some (2, w2)) else (if inB (5 + x1) 66 then (if ((w2.1 142 (Int32.toNatClampNeg (5 + x1))) + x2) ≤ 99 then (if inB (5 + x1) 66 then (if inB (5 + x1) 66 then (if inB (5 + x1) 66 then (bI (f_X11_done ((wset (wset w2 142 (Int32.toNatClampNeg (5 + x1)) ((w2.1 142 (Int32.toNatClampNeg (5 + x1))) + x2)) 142 (Int32.toNatClampNeg 3) (((wset w2 142 (Int32.toNatClampNeg (5 + x1)) ((w2.1 142 (Int32.toNatClampNeg (5 + x1))) + x2)).1 142 (Int32.toNatClampNeg 3)) + x2)).1 142 (Int32.toNatClampNeg (5 + x1))) (wset (wset w2 142 (Int32.toNatClampNeg (5 + x1)) ((w2.1 142 (Int32.toNatClampNeg (5 + x1))) + x2)) 142 (Int32.toNatClampNeg 3) (((wset w2 142 (Int32.toNatClampNeg (5 + x1)) ((w2.1 142 (Int32.toNatClampNeg (5 + x1))) + x2)).1 142 (Int32.toNatClampNeg 3)) + x2))) (fun r7 w7 => (some (r7, w7)))) else none) else none) else none) else (bI (f_X11_denied 1 99 w2) (fun r8 w8 => (some (r8, w8))))) else none)))))))
set_option maxRecDepth 100000 in
theorem W_X11_pours {g : GC} (hl : g.1.stackTraces = false) {x1 : Int32} {x2 : Int32} {w : XW} : VE g cX11_pours 3 RX11 (some .int) [] (rmL 5 0 0) 0 0 oI 0 0 0 [(0, .ref (g.2.1 + 141)), (1, .int x1), (2, .int x2)] [] w (f_X11_pours x1 x2 w) := by
  unfold f_X11_pours
  refine v_aload_n dX11_pours_0 rfl 0 rfl ?_
  refine v_iload_n dX11_pours_1 rfl 1 rfl ?_
  refine v_callVi (As := [.int x1]) cv_X11_98 (S_X11_isSection hl) tt_141 rfl rfl rfl (Nat.le_of_ble_eq_true rfl) dX11_pours_2 (CR_rm (by decide) (by decide) (by decide) (by decide)) (fun r1 w1 => ?_)
  refine v_if_ne (tgt := 10) dX11_pours_5 (by decide) ?_ ?_
  · refine v_iload_n dX11_pours_10 rfl 2 rfl ?_
    refine v_iconst (v := 1) dX11_pours_11 (by decide) ?_
    refine v_bipush (v := 99) dX11_pours_12 (by decide) ?_
    refine v_callSi (As := [.int x2, .int 1, .int 99]) cs_X11_63 (S_X11_in hl) rfl rfl (Nat.le_of_ble_eq_true rfl) dX11_pours_14 (CR_rm (by decide) (by decide) (by decide) (by decide)) (fun r2 w2 => ?_)
    refine v_if_ne (tgt := 22) dX11_pours_17 (by decide) ?_ ?_
    · refine v_aload_n dX11_pours_22 rfl 0 rfl ?_
      refine v_getR fl_X11_7 tt_141 rfl dX11_pours_23 ?_
      refine v_iconst (v := 5) dX11_pours_26 (by decide) ?_
      refine v_iload_n dX11_pours_27 rfl 1 rfl ?_
      refine v_iadd dX11_pours_28 ?_
      refine v_guard (fun h3 => ?_)
      refine v_iald tt_142 h3 dX11_pours_29 ?_
      refine v_iload_n dX11_pours_30 rfl 2 rfl ?_
      refine v_iadd dX11_pours_31 ?_
      refine v_bipush (v := 99) dX11_pours_32 (by decide) ?_
      refine v_icmp_le (tgt := 45) dX11_pours_34 (by decide) ?_ ?_
      · refine v_aload_n dX11_pours_45 rfl 0 rfl ?_
        refine v_getR fl_X11_7 tt_141 rfl dX11_pours_46 ?_
        refine v_iconst (v := 5) dX11_pours_49 (by decide) ?_
        refine v_iload_n dX11_pours_50 rfl 1 rfl ?_
        refine v_iadd dX11_pours_51 ?_
        refine v_dup2 dX11_pours_52 rfl rfl ?_
        refine v_guard (fun h4 => ?_)
        refine v_iald tt_142 h4 dX11_pours_53 ?_
        refine v_iload_n dX11_pours_54 rfl 2 rfl ?_
        refine v_iadd dX11_pours_55 ?_
        refine v_guard (fun h5 => ?_)
        refine v_iast tt_142 h5 dX11_pours_56 ?_
        refine v_aload_n dX11_pours_57 rfl 0 rfl ?_
        refine v_getR fl_X11_7 tt_141 rfl dX11_pours_58 ?_
        refine v_iconst (v := 3) dX11_pours_61 (by decide) ?_
        refine v_dup2 dX11_pours_62 rfl rfl ?_
        refine v_iald tt_142 (by decide : inB 3 66) dX11_pours_63 ?_
        refine v_iload_n dX11_pours_64 rfl 2 rfl ?_
        refine v_iadd dX11_pours_65 ?_
        refine v_iast tt_142 (by decide : inB 3 66) dX11_pours_66 ?_
        refine v_aload_n dX11_pours_67 rfl 0 rfl ?_
        refine v_aload_n dX11_pours_68 rfl 0 rfl ?_
        refine v_getR fl_X11_7 tt_141 rfl dX11_pours_69 ?_
        refine v_iconst (v := 5) dX11_pours_72 (by decide) ?_
        refine v_iload_n dX11_pours_73 rfl 1 rfl ?_
        refine v_iadd dX11_pours_74 ?_
        refine v_guard (fun h6 => ?_)
        refine v_iald tt_142 h6 dX11_pours_75 ?_
        refine v_callVi (As := [.int ((wset (wset w2 142 (Int32.toNatClampNeg (5 + x1)) ((w2.1 142 (Int32.toNatClampNeg (5 + x1))) + x2)) 142 (Int32.toNatClampNeg 3) (((wset w2 142 (Int32.toNatClampNeg (5 + x1)) ((w2.1 142 (Int32.toNatClampNeg (5 + x1))) + x2)).1 142 (Int32.toNatClampNeg 3)) + x2)).1 142 (Int32.toNatClampNeg (5 + x1)))]) cv_X11_95 (S_X11_done hl) tt_141 rfl rfl rfl (Nat.le_of_ble_eq_true rfl) dX11_pours_76 (CR_rm (by decide) (by decide) (by decide) (by decide)) (fun r7 w7 => ?_)
        exact v_iret dX11_pours_79 rfl rfl (by decide) (by decide)
      · refine v_aload_n dX11_pours_37 rfl 0 rfl ?_
        refine v_iconst (v := 1) dX11_pours_38 (by decide) ?_
        refine v_bipush (v := 99) dX11_pours_39 (by decide) ?_
        refine v_callVi (As := [.int 1, .int 99]) cv_X11_92 (S_X11_denied hl) tt_141 rfl rfl rfl (Nat.le_of_ble_eq_true rfl) dX11_pours_41 (CR_rm (by decide) (by decide) (by decide) (by decide)) (fun r8 w8 => ?_)
        exact v_iret dX11_pours_44 rfl rfl (by decide) (by decide)
    · refine v_iconst (v := 2) dX11_pours_20 (by decide) ?_
      exact v_iret dX11_pours_21 rfl rfl (by decide) (by decide)
  · refine v_iconst (v := 1) dX11_pours_8 (by decide) ?_
    exact v_iret dX11_pours_9 rfl rfl (by decide) (by decide)
theorem S_X11_pours {g : GC} (hl : g.1.stackTraces = false) {x1 : Int32} {x2 : Int32} {w : XW} : ∀ q, f_X11_pours x1 x2 w = some q → MM g (.code yX11_pours cX11_pours 3 (some .int)) yX11_pours (rmL 5 0 0) 0 0 [.ref (g.2.1 + 141), .int x1, .int x2] w (oI q) := fun q hq => MM_of (own := RX11) hl (by decide) gw_1559 rfl (Nat.le_of_ble_eq_true rfl) (W_X11_pours hl q hq) ⟨rfl, rfl⟩

theorem dX11_tags_0 : decode cX11_tags 0 = .ok (.aload_n 0, 1) := by decide +kernel
theorem dX11_tags_1 : decode cX11_tags 1 = .ok (.iload_n 1, 1) := by decide +kernel
theorem dX11_tags_2 : decode cX11_tags 2 = .ok (.invokevirtual 98, 3) := by decide +kernel
theorem dX11_tags_5 : decode cX11_tags 5 = .ok (.ifCond .ne 5, 3) := by decide +kernel
theorem dX11_tags_8 : decode cX11_tags 8 = .ok (.iconst 1, 1) := by decide +kernel
theorem dX11_tags_9 : decode cX11_tags 9 = .ok (.ireturn, 1) := by decide +kernel
theorem dX11_tags_10 : decode cX11_tags 10 = .ok (.iload_n 2, 1) := by decide +kernel
theorem dX11_tags_11 : decode cX11_tags 11 = .ok (.invokestatic 102, 3) := by decide +kernel
theorem dX11_tags_14 : decode cX11_tags 14 = .ok (.ifCond .ne 5, 3) := by decide +kernel
theorem dX11_tags_17 : decode cX11_tags 17 = .ok (.iconst 2, 1) := by decide +kernel
theorem dX11_tags_18 : decode cX11_tags 18 = .ok (.ireturn, 1) := by decide +kernel
theorem dX11_tags_19 : decode cX11_tags 19 = .ok (.aload_n 0, 1) := by decide +kernel
theorem dX11_tags_20 : decode cX11_tags 20 = .ok (.iload_n 1, 1) := by decide +kernel
theorem dX11_tags_21 : decode cX11_tags 21 = .ok (.iload_n 2, 1) := by decide +kernel
theorem dX11_tags_22 : decode cX11_tags 22 = .ok (.invokevirtual 67, 3) := by decide +kernel
theorem dX11_tags_25 : decode cX11_tags 25 = .ok (.iload_n 3, 1) := by decide +kernel
theorem dX11_tags_26 : decode cX11_tags 26 = .ok (.if_icmp .ne 14, 3) := by decide +kernel
theorem dX11_tags_29 : decode cX11_tags 29 = .ok (.aload_n 0, 1) := by decide +kernel
theorem dX11_tags_30 : decode cX11_tags 30 = .ok (.iconst 5, 1) := by decide +kernel
theorem dX11_tags_31 : decode cX11_tags 31 = .ok (.aload_n 0, 1) := by decide +kernel
theorem dX11_tags_32 : decode cX11_tags 32 = .ok (.iload_n 1, 1) := by decide +kernel
theorem dX11_tags_33 : decode cX11_tags 33 = .ok (.invokevirtual 105, 3) := by decide +kernel
theorem dX11_tags_36 : decode cX11_tags 36 = .ok (.invokevirtual 92, 3) := by decide +kernel
theorem dX11_tags_39 : decode cX11_tags 39 = .ok (.ireturn, 1) := by decide +kernel
theorem dX11_tags_40 : decode cX11_tags 40 = .ok (.aload_n 0, 1) := by decide +kernel
theorem dX11_tags_41 : decode cX11_tags 41 = .ok (.getfield 7, 3) := by decide +kernel
theorem dX11_tags_44 : decode cX11_tags 44 = .ok (.bipush 12, 2) := by decide +kernel
theorem dX11_tags_46 : decode cX11_tags 46 = .ok (.iload_n 1, 1) := by decide +kernel
theorem dX11_tags_47 : decode cX11_tags 47 = .ok (.iadd, 1) := by decide +kernel
theorem dX11_tags_48 : decode cX11_tags 48 = .ok (.dup2, 1) := by decide +kernel
theorem dX11_tags_49 : decode cX11_tags 49 = .ok (.iaload, 1) := by decide +kernel
theorem dX11_tags_50 : decode cX11_tags 50 = .ok (.iconst 1, 1) := by decide +kernel
theorem dX11_tags_51 : decode cX11_tags 51 = .ok (.iload_n 2, 1) := by decide +kernel
theorem dX11_tags_52 : decode cX11_tags 52 = .ok (.bipush 97, 2) := by decide +kernel
theorem dX11_tags_54 : decode cX11_tags 54 = .ok (.isub, 1) := by decide +kernel
theorem dX11_tags_55 : decode cX11_tags 55 = .ok (.ishl, 1) := by decide +kernel
theorem dX11_tags_56 : decode cX11_tags 56 = .ok (.ixor, 1) := by decide +kernel
theorem dX11_tags_57 : decode cX11_tags 57 = .ok (.iastore, 1) := by decide +kernel
theorem dX11_tags_58 : decode cX11_tags 58 = .ok (.aload_n 0, 1) := by decide +kernel
theorem dX11_tags_59 : decode cX11_tags 59 = .ok (.aload_n 0, 1) := by decide +kernel
theorem dX11_tags_60 : decode cX11_tags 60 = .ok (.iload_n 1, 1) := by decide +kernel
theorem dX11_tags_61 : decode cX11_tags 61 = .ok (.invokevirtual 105, 3) := by decide +kernel
theorem dX11_tags_64 : decode cX11_tags 64 = .ok (.invokevirtual 95, 3) := by decide +kernel
theorem dX11_tags_67 : decode cX11_tags 67 = .ok (.ireturn, 1) := by decide +kernel
def f_X11_tags (x1 : Int32) (x2 : Int32) (x3 : Int32) (w : XW) : Option (Int32 × XW) := (bI (f_X11_isSection x1 w) (fun r1 w1 => (if r1 = 0 then (some (1, w1)) else (bI (f_X11_isTerm x2 w1) (fun r2 w2 => (if r2 = 0 then (some (2, w2)) else (bI (f_X11_has x1 x2 w2) (fun r3 w3 => (if r3 = x3 then (bI (f_X11_terms x1 w3) (fun r8 w8 => (bI (f_X11_denied 5 r8 w8) (fun r9 w9 => (some (r9, w9)))))) else (if inB (12 + x1) 66 then (if inB (12 + x1) 66 then (bI (f_X11_terms x1 (wset w3 142 (Int32.toNatClampNeg (12 + x1)) ((w3.1 142 (Int32.toNatClampNeg (12 + x1))) ^^^ (1 <<< ((x2 - 97) &&& 31))))) (fun r6 w6 => (bI (f_X11_done r6 w6) (fun r7 w7 => (some (r7, w7)))))) else none) else none))))))))))
set_option maxRecDepth 100000 in
theorem W_X11_tags {g : GC} (hl : g.1.stackTraces = false) {x1 : Int32} {x2 : Int32} {x3 : Int32} {w : XW} : VE g cX11_tags 4 RX11 (some .int) [] (rmL 5 0 0) 0 0 oI 0 0 0 [(0, .ref (g.2.1 + 141)), (1, .int x1), (2, .int x2), (3, .int x3)] [] w (f_X11_tags x1 x2 x3 w) := by
  unfold f_X11_tags
  refine v_aload_n dX11_tags_0 rfl 0 rfl ?_
  refine v_iload_n dX11_tags_1 rfl 1 rfl ?_
  refine v_callVi (As := [.int x1]) cv_X11_98 (S_X11_isSection hl) tt_141 rfl rfl rfl (Nat.le_of_ble_eq_true rfl) dX11_tags_2 (CR_rm (by decide) (by decide) (by decide) (by decide)) (fun r1 w1 => ?_)
  refine v_if_ne (tgt := 10) dX11_tags_5 (by decide) ?_ ?_
  · refine v_iload_n dX11_tags_10 rfl 2 rfl ?_
    refine v_callSi (As := [.int x2]) cs_X11_102 (S_X11_isTerm hl) rfl rfl (Nat.le_of_ble_eq_true rfl) dX11_tags_11 (CR_rm (by decide) (by decide) (by decide) (by decide)) (fun r2 w2 => ?_)
    refine v_if_ne (tgt := 19) dX11_tags_14 (by decide) ?_ ?_
    · refine v_aload_n dX11_tags_19 rfl 0 rfl ?_
      refine v_iload_n dX11_tags_20 rfl 1 rfl ?_
      refine v_iload_n dX11_tags_21 rfl 2 rfl ?_
      refine v_callVi (As := [.int x1, .int x2]) cv_X11_67 (S_X11_has hl) tt_141 rfl rfl rfl (Nat.le_of_ble_eq_true rfl) dX11_tags_22 (CR_rm (by decide) (by decide) (by decide) (by decide)) (fun r3 w3 => ?_)
      refine v_iload_n dX11_tags_25 rfl 3 rfl ?_
      refine v_icmp_ne (tgt := 40) dX11_tags_26 (by decide) ?_ ?_
      · refine v_aload_n dX11_tags_40 rfl 0 rfl ?_
        refine v_getR fl_X11_7 tt_141 rfl dX11_tags_41 ?_
        refine v_bipush (v := 12) dX11_tags_44 (by decide) ?_
        refine v_iload_n dX11_tags_46 rfl 1 rfl ?_
        refine v_iadd dX11_tags_47 ?_
        refine v_dup2 dX11_tags_48 rfl rfl ?_
        refine v_guard (fun h4 => ?_)
        refine v_iald tt_142 h4 dX11_tags_49 ?_
        refine v_iconst (v := 1) dX11_tags_50 (by decide) ?_
        refine v_iload_n dX11_tags_51 rfl 2 rfl ?_
        refine v_bipush (v := 97) dX11_tags_52 (by decide) ?_
        refine v_isub dX11_tags_54 ?_
        refine v_ishl dX11_tags_55 ?_
        refine v_ixor dX11_tags_56 ?_
        refine v_guard (fun h5 => ?_)
        refine v_iast tt_142 h5 dX11_tags_57 ?_
        refine v_aload_n dX11_tags_58 rfl 0 rfl ?_
        refine v_aload_n dX11_tags_59 rfl 0 rfl ?_
        refine v_iload_n dX11_tags_60 rfl 1 rfl ?_
        refine v_callVi (As := [.int x1]) cv_X11_105 (S_X11_terms hl) tt_141 rfl rfl rfl (Nat.le_of_ble_eq_true rfl) dX11_tags_61 (CR_rm (by decide) (by decide) (by decide) (by decide)) (fun r6 w6 => ?_)
        refine v_callVi (As := [.int r6]) cv_X11_95 (S_X11_done hl) tt_141 rfl rfl rfl (Nat.le_of_ble_eq_true rfl) dX11_tags_64 (CR_rm (by decide) (by decide) (by decide) (by decide)) (fun r7 w7 => ?_)
        exact v_iret dX11_tags_67 rfl rfl (by decide) (by decide)
      · refine v_aload_n dX11_tags_29 rfl 0 rfl ?_
        refine v_iconst (v := 5) dX11_tags_30 (by decide) ?_
        refine v_aload_n dX11_tags_31 rfl 0 rfl ?_
        refine v_iload_n dX11_tags_32 rfl 1 rfl ?_
        refine v_callVi (As := [.int x1]) cv_X11_105 (S_X11_terms hl) tt_141 rfl rfl rfl (Nat.le_of_ble_eq_true rfl) dX11_tags_33 (CR_rm (by decide) (by decide) (by decide) (by decide)) (fun r8 w8 => ?_)
        refine v_callVi (As := [.int 5, .int r8]) cv_X11_92 (S_X11_denied hl) tt_141 rfl rfl rfl (Nat.le_of_ble_eq_true rfl) dX11_tags_36 (CR_rm (by decide) (by decide) (by decide) (by decide)) (fun r9 w9 => ?_)
        exact v_iret dX11_tags_39 rfl rfl (by decide) (by decide)
    · refine v_iconst (v := 2) dX11_tags_17 (by decide) ?_
      exact v_iret dX11_tags_18 rfl rfl (by decide) (by decide)
  · refine v_iconst (v := 1) dX11_tags_8 (by decide) ?_
    exact v_iret dX11_tags_9 rfl rfl (by decide) (by decide)
theorem S_X11_tags {g : GC} (hl : g.1.stackTraces = false) {x1 : Int32} {x2 : Int32} {x3 : Int32} {w : XW} : ∀ q, f_X11_tags x1 x2 x3 w = some q → MM g (.code yX11_tags cX11_tags 4 (some .int)) yX11_tags (rmL 5 0 0) 0 0 [.ref (g.2.1 + 141), .int x1, .int x2, .int x3] w (oI q) := fun q hq => MM_of (own := RX11) hl (by decide) gw_1574 rfl (Nat.le_of_ble_eq_true rfl) (W_X11_tags hl q hq) ⟨rfl, rfl⟩

theorem dX11_folds_0 : decode cX11_folds 0 = .ok (.iload_n 1, 1) := by decide +kernel
theorem dX11_folds_1 : decode cX11_folds 1 = .ok (.iconst 0, 1) := by decide +kernel
theorem dX11_folds_2 : decode cX11_folds 2 = .ok (.aload_n 0, 1) := by decide +kernel
theorem dX11_folds_3 : decode cX11_folds 3 = .ok (.getfield 7, 3) := by decide +kernel
theorem dX11_folds_6 : decode cX11_folds 6 = .ok (.iconst 1, 1) := by decide +kernel
theorem dX11_folds_7 : decode cX11_folds 7 = .ok (.iaload, 1) := by decide +kernel
theorem dX11_folds_8 : decode cX11_folds 8 = .ok (.invokestatic 63, 3) := by decide +kernel
theorem dX11_folds_11 : decode cX11_folds 11 = .ok (.ifCond .ne 5, 3) := by decide +kernel
theorem dX11_folds_14 : decode cX11_folds 14 = .ok (.iconst 1, 1) := by decide +kernel
theorem dX11_folds_15 : decode cX11_folds 15 = .ok (.ireturn, 1) := by decide +kernel
theorem dX11_folds_16 : decode cX11_folds 16 = .ok (.aload_n 0, 1) := by decide +kernel
theorem dX11_folds_17 : decode cX11_folds 17 = .ok (.getfield 7, 3) := by decide +kernel
theorem dX11_folds_20 : decode cX11_folds 20 = .ok (.iconst 1, 1) := by decide +kernel
theorem dX11_folds_21 : decode cX11_folds 21 = .ok (.iaload, 1) := by decide +kernel
theorem dX11_folds_22 : decode cX11_folds 22 = .ok (.aload_n 0, 1) := by decide +kernel
theorem dX11_folds_23 : decode cX11_folds 23 = .ok (.getfield 7, 3) := by decide +kernel
theorem dX11_folds_26 : decode cX11_folds 26 = .ok (.iconst 0, 1) := by decide +kernel
theorem dX11_folds_27 : decode cX11_folds 27 = .ok (.iaload, 1) := by decide +kernel
theorem dX11_folds_28 : decode cX11_folds 28 = .ok (.if_icmp .ne 15, 3) := by decide +kernel
theorem dX11_folds_31 : decode cX11_folds 31 = .ok (.aload_n 0, 1) := by decide +kernel
theorem dX11_folds_32 : decode cX11_folds 32 = .ok (.iconst 2, 1) := by decide +kernel
theorem dX11_folds_33 : decode cX11_folds 33 = .ok (.aload_n 0, 1) := by decide +kernel
theorem dX11_folds_34 : decode cX11_folds 34 = .ok (.getfield 7, 3) := by decide +kernel
theorem dX11_folds_37 : decode cX11_folds 37 = .ok (.iconst 0, 1) := by decide +kernel
theorem dX11_folds_38 : decode cX11_folds 38 = .ok (.iaload, 1) := by decide +kernel
theorem dX11_folds_39 : decode cX11_folds 39 = .ok (.invokevirtual 92, 3) := by decide +kernel
theorem dX11_folds_42 : decode cX11_folds 42 = .ok (.ireturn, 1) := by decide +kernel
theorem dX11_folds_43 : decode cX11_folds 43 = .ok (.aload_n 0, 1) := by decide +kernel
theorem dX11_folds_44 : decode cX11_folds 44 = .ok (.iload_n 1, 1) := by decide +kernel
theorem dX11_folds_45 : decode cX11_folds 45 = .ok (.invokevirtual 79, 3) := by decide +kernel
theorem dX11_folds_48 : decode cX11_folds 48 = .ok (.istore_n 2, 1) := by decide +kernel
theorem dX11_folds_49 : decode cX11_folds 49 = .ok (.iload_n 2, 1) := by decide +kernel
theorem dX11_folds_50 : decode cX11_folds 50 = .ok (.iconst (-1), 1) := by decide +kernel
theorem dX11_folds_51 : decode cX11_folds 51 = .ok (.if_icmp .eq 10, 3) := by decide +kernel
theorem dX11_folds_54 : decode cX11_folds 54 = .ok (.aload_n 0, 1) := by decide +kernel
theorem dX11_folds_55 : decode cX11_folds 55 = .ok (.iconst 4, 1) := by decide +kernel
theorem dX11_folds_56 : decode cX11_folds 56 = .ok (.iload_n 2, 1) := by decide +kernel
theorem dX11_folds_57 : decode cX11_folds 57 = .ok (.invokevirtual 92, 3) := by decide +kernel
theorem dX11_folds_60 : decode cX11_folds 60 = .ok (.ireturn, 1) := by decide +kernel
theorem dX11_folds_61 : decode cX11_folds 61 = .ok (.aload_n 0, 1) := by decide +kernel
theorem dX11_folds_62 : decode cX11_folds 62 = .ok (.iload_n 1, 1) := by decide +kernel
theorem dX11_folds_63 : decode cX11_folds 63 = .ok (.invokevirtual 82, 3) := by decide +kernel
theorem dX11_folds_66 : decode cX11_folds 66 = .ok (.aload_n 0, 1) := by decide +kernel
theorem dX11_folds_67 : decode cX11_folds 67 = .ok (.aload_n 0, 1) := by decide +kernel
theorem dX11_folds_68 : decode cX11_folds 68 = .ok (.getfield 7, 3) := by decide +kernel
theorem dX11_folds_71 : decode cX11_folds 71 = .ok (.iconst 1, 1) := by decide +kernel
theorem dX11_folds_72 : decode cX11_folds 72 = .ok (.iaload, 1) := by decide +kernel
theorem dX11_folds_73 : decode cX11_folds 73 = .ok (.invokevirtual 95, 3) := by decide +kernel
theorem dX11_folds_76 : decode cX11_folds 76 = .ok (.ireturn, 1) := by decide +kernel
def f_X11_folds (x1 : Int32) (w : XW) : Option (Int32 × XW) := (bI (f_X11_in x1 0 (w.1 142 (Int32.toNatClampNeg 1)) w) (fun r1 w1 => (if r1 = 0 then (some (1, w1)) else (if (w1.1 142 (Int32.toNatClampNeg 1)) = (w1.1 142 (Int32.toNatClampNeg 0)) then (bI (f_X11_denied 2 (w1.1 142 (Int32.toNatClampNeg 0)) w1) (fun r6 w6 => (some (r6, w6)))) else (bI (f_X11_crossed x1 w1) (fun r2 w2 => (if r2 = (-1) then (bV (f_X11_puts x1 w2) (fun w3 => (bI (f_X11_done (w3.1 142 (Int32.toNatClampNeg 1)) w3) (fun r4 w4 => (some (r4, w4)))))) else (bI (f_X11_denied 4 r2 w2) (fun r5 w5 => (some (r5, w5)))))))))))
set_option maxRecDepth 100000 in
theorem W_X11_folds {g : GC} (hl : g.1.stackTraces = false) {x1 : Int32} {w : XW} : VE g cX11_folds 3 RX11 (some .int) [] (rmL 5 0 0) 0 0 oI 0 0 0 [(0, .ref (g.2.1 + 141)), (1, .int x1)] [] w (f_X11_folds x1 w) := by
  unfold f_X11_folds
  refine v_iload_n dX11_folds_0 rfl 1 rfl ?_
  refine v_iconst (v := 0) dX11_folds_1 (by decide) ?_
  refine v_aload_n dX11_folds_2 rfl 0 rfl ?_
  refine v_getR fl_X11_7 tt_141 rfl dX11_folds_3 ?_
  refine v_iconst (v := 1) dX11_folds_6 (by decide) ?_
  refine v_iald tt_142 (by decide : inB 1 66) dX11_folds_7 ?_
  refine v_callSi (As := [.int x1, .int 0, .int (w.1 142 (Int32.toNatClampNeg 1))]) cs_X11_63 (S_X11_in hl) rfl rfl (Nat.le_of_ble_eq_true rfl) dX11_folds_8 (CR_rm (by decide) (by decide) (by decide) (by decide)) (fun r1 w1 => ?_)
  refine v_if_ne (tgt := 16) dX11_folds_11 (by decide) ?_ ?_
  · refine v_aload_n dX11_folds_16 rfl 0 rfl ?_
    refine v_getR fl_X11_7 tt_141 rfl dX11_folds_17 ?_
    refine v_iconst (v := 1) dX11_folds_20 (by decide) ?_
    refine v_iald tt_142 (by decide : inB 1 66) dX11_folds_21 ?_
    refine v_aload_n dX11_folds_22 rfl 0 rfl ?_
    refine v_getR fl_X11_7 tt_141 rfl dX11_folds_23 ?_
    refine v_iconst (v := 0) dX11_folds_26 (by decide) ?_
    refine v_iald tt_142 (by decide : inB 0 66) dX11_folds_27 ?_
    refine v_icmp_ne (tgt := 43) dX11_folds_28 (by decide) ?_ ?_
    · refine v_aload_n dX11_folds_43 rfl 0 rfl ?_
      refine v_iload_n dX11_folds_44 rfl 1 rfl ?_
      refine v_callVi (As := [.int x1]) cv_X11_79 (S_X11_crossed hl) tt_141 rfl rfl rfl (Nat.le_of_ble_eq_true rfl) dX11_folds_45 (CR_rm (by decide) (by decide) (by decide) (by decide)) (fun r2 w2 => ?_)
      refine v_istore_n dX11_folds_48 rfl (Nat.le_of_ble_eq_true rfl) rfl ?_
      refine v_iload_n dX11_folds_49 rfl 0 rfl ?_
      refine v_iconst (v := (-1)) dX11_folds_50 (by decide) ?_
      refine v_icmp_eq (tgt := 61) dX11_folds_51 (by decide) ?_ ?_
      · refine v_aload_n dX11_folds_61 rfl 1 rfl ?_
        refine v_iload_n dX11_folds_62 rfl 2 rfl ?_
        refine v_callVv (As := [.int x1]) cv_X11_82 (S_X11_puts hl) tt_141 rfl rfl rfl (Nat.le_of_ble_eq_true rfl) dX11_folds_63 (CR_rm (by decide) (by decide) (by decide) (by decide)) (fun w3 => ?_)
        refine v_aload_n dX11_folds_66 rfl 1 rfl ?_
        refine v_aload_n dX11_folds_67 rfl 1 rfl ?_
        refine v_getR fl_X11_7 tt_141 rfl dX11_folds_68 ?_
        refine v_iconst (v := 1) dX11_folds_71 (by decide) ?_
        refine v_iald tt_142 (by decide : inB 1 66) dX11_folds_72 ?_
        refine v_callVi (As := [.int (w3.1 142 (Int32.toNatClampNeg 1))]) cv_X11_95 (S_X11_done hl) tt_141 rfl rfl rfl (Nat.le_of_ble_eq_true rfl) dX11_folds_73 (CR_rm (by decide) (by decide) (by decide) (by decide)) (fun r4 w4 => ?_)
        exact v_iret dX11_folds_76 rfl rfl (by decide) (by decide)
      · refine v_aload_n dX11_folds_54 rfl 1 rfl ?_
        refine v_iconst (v := 4) dX11_folds_55 (by decide) ?_
        refine v_iload_n dX11_folds_56 rfl 0 rfl ?_
        refine v_callVi (As := [.int 4, .int r2]) cv_X11_92 (S_X11_denied hl) tt_141 rfl rfl rfl (Nat.le_of_ble_eq_true rfl) dX11_folds_57 (CR_rm (by decide) (by decide) (by decide) (by decide)) (fun r5 w5 => ?_)
        exact v_iret dX11_folds_60 rfl rfl (by decide) (by decide)
    · refine v_aload_n dX11_folds_31 rfl 0 rfl ?_
      refine v_iconst (v := 2) dX11_folds_32 (by decide) ?_
      refine v_aload_n dX11_folds_33 rfl 0 rfl ?_
      refine v_getR fl_X11_7 tt_141 rfl dX11_folds_34 ?_
      refine v_iconst (v := 0) dX11_folds_37 (by decide) ?_
      refine v_iald tt_142 (by decide : inB 0 66) dX11_folds_38 ?_
      refine v_callVi (As := [.int 2, .int (w1.1 142 (Int32.toNatClampNeg 0))]) cv_X11_92 (S_X11_denied hl) tt_141 rfl rfl rfl (Nat.le_of_ble_eq_true rfl) dX11_folds_39 (CR_rm (by decide) (by decide) (by decide) (by decide)) (fun r6 w6 => ?_)
      exact v_iret dX11_folds_42 rfl rfl (by decide) (by decide)
  · refine v_iconst (v := 1) dX11_folds_14 (by decide) ?_
    exact v_iret dX11_folds_15 rfl rfl (by decide) (by decide)
theorem S_X11_folds {g : GC} (hl : g.1.stackTraces = false) {x1 : Int32} {w : XW} : ∀ q, f_X11_folds x1 w = some q → MM g (.code yX11_folds cX11_folds 3 (some .int)) yX11_folds (rmL 5 0 0) 0 0 [.ref (g.2.1 + 141), .int x1] w (oI q) := fun q hq => MM_of (own := RX11) hl (by decide) gw_1621 rfl (Nat.le_of_ble_eq_true rfl) (W_X11_folds hl q hq) ⟨rfl, rfl⟩

theorem dX11_opens_0 : decode cX11_opens 0 = .ok (.aload_n 0, 1) := by decide +kernel
theorem dX11_opens_1 : decode cX11_opens 1 = .ok (.getfield 7, 3) := by decide +kernel
theorem dX11_opens_4 : decode cX11_opens 4 = .ok (.iconst 1, 1) := by decide +kernel
theorem dX11_opens_5 : decode cX11_opens 5 = .ok (.iaload, 1) := by decide +kernel
theorem dX11_opens_6 : decode cX11_opens 6 = .ok (.ifCond .ne 17, 3) := by decide +kernel
theorem dX11_opens_9 : decode cX11_opens 9 = .ok (.aload_n 0, 1) := by decide +kernel
theorem dX11_opens_10 : decode cX11_opens 10 = .ok (.iconst 3, 1) := by decide +kernel
theorem dX11_opens_11 : decode cX11_opens 11 = .ok (.aload_n 0, 1) := by decide +kernel
theorem dX11_opens_12 : decode cX11_opens 12 = .ok (.getfield 7, 3) := by decide +kernel
theorem dX11_opens_15 : decode cX11_opens 15 = .ok (.iconst 0, 1) := by decide +kernel
theorem dX11_opens_16 : decode cX11_opens 16 = .ok (.iaload, 1) := by decide +kernel
theorem dX11_opens_17 : decode cX11_opens 17 = .ok (.invokevirtual 92, 3) := by decide +kernel
theorem dX11_opens_20 : decode cX11_opens 20 = .ok (.goto 11, 3) := by decide +kernel
theorem dX11_opens_23 : decode cX11_opens 23 = .ok (.aload_n 0, 1) := by decide +kernel
theorem dX11_opens_24 : decode cX11_opens 24 = .ok (.aload_n 0, 1) := by decide +kernel
theorem dX11_opens_25 : decode cX11_opens 25 = .ok (.invokevirtual 89, 3) := by decide +kernel
theorem dX11_opens_28 : decode cX11_opens 28 = .ok (.invokevirtual 95, 3) := by decide +kernel
theorem dX11_opens_31 : decode cX11_opens 31 = .ok (.ireturn, 1) := by decide +kernel
def f_X11_opens (w : XW) : Option (Int32 × XW) := (if (w.1 142 (Int32.toNatClampNeg 1)) = 0 then (bI (f_X11_denied 3 (w.1 142 (Int32.toNatClampNeg 0)) w) (fun r3 w3 => (some (r3, w3)))) else (bI (f_X11_takes w) (fun r1 w1 => (bI (f_X11_done r1 w1) (fun r2 w2 => (some (r2, w2)))))))
set_option maxRecDepth 100000 in
theorem W_X11_opens {g : GC} (hl : g.1.stackTraces = false) {w : XW} : VE g cX11_opens 1 RX11 (some .int) [] (rmL 4 0 0) 0 0 oI 0 0 0 [(0, .ref (g.2.1 + 141))] [] w (f_X11_opens  w) := by
  unfold f_X11_opens
  refine v_aload_n dX11_opens_0 rfl 0 rfl ?_
  refine v_getR fl_X11_7 tt_141 rfl dX11_opens_1 ?_
  refine v_iconst (v := 1) dX11_opens_4 (by decide) ?_
  refine v_iald tt_142 (by decide : inB 1 66) dX11_opens_5 ?_
  refine v_if_ne (tgt := 23) dX11_opens_6 (by decide) ?_ ?_
  · refine v_aload_n dX11_opens_23 rfl 0 rfl ?_
    refine v_aload_n dX11_opens_24 rfl 0 rfl ?_
    refine v_callVi (As := []) cv_X11_89 (S_X11_takes hl) tt_141 rfl rfl rfl (Nat.le_of_ble_eq_true rfl) dX11_opens_25 (CR_rm (by decide) (by decide) (by decide) (by decide)) (fun r1 w1 => ?_)
    refine v_callVi (As := [.int r1]) cv_X11_95 (S_X11_done hl) tt_141 rfl rfl rfl (Nat.le_of_ble_eq_true rfl) dX11_opens_28 (CR_rm (by decide) (by decide) (by decide) (by decide)) (fun r2 w2 => ?_)
    exact v_iret dX11_opens_31 rfl rfl (by decide) (by decide)
  · refine v_aload_n dX11_opens_9 rfl 0 rfl ?_
    refine v_iconst (v := 3) dX11_opens_10 (by decide) ?_
    refine v_aload_n dX11_opens_11 rfl 0 rfl ?_
    refine v_getR fl_X11_7 tt_141 rfl dX11_opens_12 ?_
    refine v_iconst (v := 0) dX11_opens_15 (by decide) ?_
    refine v_iald tt_142 (by decide : inB 0 66) dX11_opens_16 ?_
    refine v_callVi (As := [.int 3, .int (w.1 142 (Int32.toNatClampNeg 0))]) cv_X11_92 (S_X11_denied hl) tt_141 rfl rfl rfl (Nat.le_of_ble_eq_true rfl) dX11_opens_17 (CR_rm (by decide) (by decide) (by decide) (by decide)) (fun r3 w3 => ?_)
    refine v_goto (tgt := 31) dX11_opens_20 (by decide) ?_
    exact v_iret dX11_opens_31 rfl rfl (by decide) (by decide)
theorem S_X11_opens {g : GC} (hl : g.1.stackTraces = false) {w : XW} : ∀ q, f_X11_opens  w = some q → MM g (.code yX11_opens cX11_opens 1 (some .int)) yX11_opens (rmL 4 0 0) 0 0 [.ref (g.2.1 + 141)] w (oI q) := fun q hq => MM_of (own := RX11) hl (by decide) gw_1641 rfl (Nat.le_of_ble_eq_true rfl) (W_X11_opens hl q hq) ⟨rfl, rfl⟩

theorem dX11_pipes_0 : decode cX11_pipes 0 = .ok (.aload_n 0, 1) := by decide +kernel
theorem dX11_pipes_1 : decode cX11_pipes 1 = .ok (.iload_n 1, 1) := by decide +kernel
theorem dX11_pipes_2 : decode cX11_pipes 2 = .ok (.invokevirtual 98, 3) := by decide +kernel
theorem dX11_pipes_5 : decode cX11_pipes 5 = .ok (.ifCond .eq 11, 3) := by decide +kernel
theorem dX11_pipes_8 : decode cX11_pipes 8 = .ok (.aload_n 0, 1) := by decide +kernel
theorem dX11_pipes_9 : decode cX11_pipes 9 = .ok (.iload_n 2, 1) := by decide +kernel
theorem dX11_pipes_10 : decode cX11_pipes 10 = .ok (.invokevirtual 98, 3) := by decide +kernel
theorem dX11_pipes_13 : decode cX11_pipes 13 = .ok (.ifCond .ne 5, 3) := by decide +kernel
theorem dX11_pipes_16 : decode cX11_pipes 16 = .ok (.iconst 1, 1) := by decide +kernel
theorem dX11_pipes_17 : decode cX11_pipes 17 = .ok (.ireturn, 1) := by decide +kernel
theorem dX11_pipes_18 : decode cX11_pipes 18 = .ok (.iload_n 1, 1) := by decide +kernel
theorem dX11_pipes_19 : decode cX11_pipes 19 = .ok (.iload_n 2, 1) := by decide +kernel
theorem dX11_pipes_20 : decode cX11_pipes 20 = .ok (.if_icmp .eq 13, 3) := by decide +kernel
theorem dX11_pipes_23 : decode cX11_pipes 23 = .ok (.iload_n 3, 1) := by decide +kernel
theorem dX11_pipes_24 : decode cX11_pipes 24 = .ok (.iconst 1, 1) := by decide +kernel
theorem dX11_pipes_25 : decode cX11_pipes 25 = .ok (.bipush 20, 2) := by decide +kernel
theorem dX11_pipes_27 : decode cX11_pipes 27 = .ok (.invokestatic 63, 3) := by decide +kernel
theorem dX11_pipes_30 : decode cX11_pipes 30 = .ok (.ifCond .ne 5, 3) := by decide +kernel
theorem dX11_pipes_33 : decode cX11_pipes 33 = .ok (.iconst 2, 1) := by decide +kernel
theorem dX11_pipes_34 : decode cX11_pipes 34 = .ok (.ireturn, 1) := by decide +kernel
theorem dX11_pipes_35 : decode cX11_pipes 35 = .ok (.aload_n 0, 1) := by decide +kernel
theorem dX11_pipes_36 : decode cX11_pipes 36 = .ok (.getfield 7, 3) := by decide +kernel
theorem dX11_pipes_39 : decode cX11_pipes 39 = .ok (.iconst 2, 1) := by decide +kernel
theorem dX11_pipes_40 : decode cX11_pipes 40 = .ok (.iaload, 1) := by decide +kernel
theorem dX11_pipes_41 : decode cX11_pipes 41 = .ok (.istore 4, 2) := by decide +kernel
theorem dX11_pipes_43 : decode cX11_pipes 43 = .ok (.iload 4, 2) := by decide +kernel
theorem dX11_pipes_45 : decode cX11_pipes 45 = .ok (.bipush 10, 2) := by decide +kernel
theorem dX11_pipes_47 : decode cX11_pipes 47 = .ok (.if_icmp .ne 11, 3) := by decide +kernel
theorem dX11_pipes_50 : decode cX11_pipes 50 = .ok (.aload_n 0, 1) := by decide +kernel
theorem dX11_pipes_51 : decode cX11_pipes 51 = .ok (.iconst 1, 1) := by decide +kernel
theorem dX11_pipes_52 : decode cX11_pipes 52 = .ok (.bipush 10, 2) := by decide +kernel
theorem dX11_pipes_54 : decode cX11_pipes 54 = .ok (.invokevirtual 92, 3) := by decide +kernel
theorem dX11_pipes_57 : decode cX11_pipes 57 = .ok (.ireturn, 1) := by decide +kernel
theorem dX11_pipes_58 : decode cX11_pipes 58 = .ok (.aload_n 0, 1) := by decide +kernel
theorem dX11_pipes_59 : decode cX11_pipes 59 = .ok (.getfield 7, 3) := by decide +kernel
theorem dX11_pipes_62 : decode cX11_pipes 62 = .ok (.bipush 26, 2) := by decide +kernel
theorem dX11_pipes_64 : decode cX11_pipes 64 = .ok (.iconst 4, 1) := by decide +kernel
theorem dX11_pipes_65 : decode cX11_pipes 65 = .ok (.iload 4, 2) := by decide +kernel
theorem dX11_pipes_67 : decode cX11_pipes 67 = .ok (.imul, 1) := by decide +kernel
theorem dX11_pipes_68 : decode cX11_pipes 68 = .ok (.iadd, 1) := by decide +kernel
theorem dX11_pipes_69 : decode cX11_pipes 69 = .ok (.iconst 0, 1) := by decide +kernel
theorem dX11_pipes_70 : decode cX11_pipes 70 = .ok (.iadd, 1) := by decide +kernel
theorem dX11_pipes_71 : decode cX11_pipes 71 = .ok (.iload_n 1, 1) := by decide +kernel
theorem dX11_pipes_72 : decode cX11_pipes 72 = .ok (.iastore, 1) := by decide +kernel
theorem dX11_pipes_73 : decode cX11_pipes 73 = .ok (.aload_n 0, 1) := by decide +kernel
theorem dX11_pipes_74 : decode cX11_pipes 74 = .ok (.getfield 7, 3) := by decide +kernel
theorem dX11_pipes_77 : decode cX11_pipes 77 = .ok (.bipush 26, 2) := by decide +kernel
theorem dX11_pipes_79 : decode cX11_pipes 79 = .ok (.iconst 4, 1) := by decide +kernel
theorem dX11_pipes_80 : decode cX11_pipes 80 = .ok (.iload 4, 2) := by decide +kernel
theorem dX11_pipes_82 : decode cX11_pipes 82 = .ok (.imul, 1) := by decide +kernel
theorem dX11_pipes_83 : decode cX11_pipes 83 = .ok (.iadd, 1) := by decide +kernel
theorem dX11_pipes_84 : decode cX11_pipes 84 = .ok (.iconst 1, 1) := by decide +kernel
theorem dX11_pipes_85 : decode cX11_pipes 85 = .ok (.iadd, 1) := by decide +kernel
theorem dX11_pipes_86 : decode cX11_pipes 86 = .ok (.iload_n 2, 1) := by decide +kernel
theorem dX11_pipes_87 : decode cX11_pipes 87 = .ok (.iastore, 1) := by decide +kernel
theorem dX11_pipes_88 : decode cX11_pipes 88 = .ok (.aload_n 0, 1) := by decide +kernel
theorem dX11_pipes_89 : decode cX11_pipes 89 = .ok (.getfield 7, 3) := by decide +kernel
theorem dX11_pipes_92 : decode cX11_pipes 92 = .ok (.bipush 26, 2) := by decide +kernel
theorem dX11_pipes_94 : decode cX11_pipes 94 = .ok (.iconst 4, 1) := by decide +kernel
theorem dX11_pipes_95 : decode cX11_pipes 95 = .ok (.iload 4, 2) := by decide +kernel
theorem dX11_pipes_97 : decode cX11_pipes 97 = .ok (.imul, 1) := by decide +kernel
theorem dX11_pipes_98 : decode cX11_pipes 98 = .ok (.iadd, 1) := by decide +kernel
theorem dX11_pipes_99 : decode cX11_pipes 99 = .ok (.iconst 2, 1) := by decide +kernel
theorem dX11_pipes_100 : decode cX11_pipes 100 = .ok (.iadd, 1) := by decide +kernel
theorem dX11_pipes_101 : decode cX11_pipes 101 = .ok (.iload_n 3, 1) := by decide +kernel
theorem dX11_pipes_102 : decode cX11_pipes 102 = .ok (.iastore, 1) := by decide +kernel
theorem dX11_pipes_103 : decode cX11_pipes 103 = .ok (.aload_n 0, 1) := by decide +kernel
theorem dX11_pipes_104 : decode cX11_pipes 104 = .ok (.getfield 7, 3) := by decide +kernel
theorem dX11_pipes_107 : decode cX11_pipes 107 = .ok (.bipush 26, 2) := by decide +kernel
theorem dX11_pipes_109 : decode cX11_pipes 109 = .ok (.iconst 4, 1) := by decide +kernel
theorem dX11_pipes_110 : decode cX11_pipes 110 = .ok (.iload 4, 2) := by decide +kernel
theorem dX11_pipes_112 : decode cX11_pipes 112 = .ok (.imul, 1) := by decide +kernel
theorem dX11_pipes_113 : decode cX11_pipes 113 = .ok (.iadd, 1) := by decide +kernel
theorem dX11_pipes_114 : decode cX11_pipes 114 = .ok (.iconst 3, 1) := by decide +kernel
theorem dX11_pipes_115 : decode cX11_pipes 115 = .ok (.iadd, 1) := by decide +kernel
theorem dX11_pipes_116 : decode cX11_pipes 116 = .ok (.iconst 0, 1) := by decide +kernel
theorem dX11_pipes_117 : decode cX11_pipes 117 = .ok (.iastore, 1) := by decide +kernel
theorem dX11_pipes_118 : decode cX11_pipes 118 = .ok (.aload_n 0, 1) := by decide +kernel
theorem dX11_pipes_119 : decode cX11_pipes 119 = .ok (.getfield 7, 3) := by decide +kernel
theorem dX11_pipes_122 : decode cX11_pipes 122 = .ok (.iconst 2, 1) := by decide +kernel
theorem dX11_pipes_123 : decode cX11_pipes 123 = .ok (.iload 4, 2) := by decide +kernel
theorem dX11_pipes_125 : decode cX11_pipes 125 = .ok (.iconst 1, 1) := by decide +kernel
theorem dX11_pipes_126 : decode cX11_pipes 126 = .ok (.iadd, 1) := by decide +kernel
theorem dX11_pipes_127 : decode cX11_pipes 127 = .ok (.iastore, 1) := by decide +kernel
theorem dX11_pipes_128 : decode cX11_pipes 128 = .ok (.aload_n 0, 1) := by decide +kernel
theorem dX11_pipes_129 : decode cX11_pipes 129 = .ok (.iload 4, 2) := by decide +kernel
theorem dX11_pipes_131 : decode cX11_pipes 131 = .ok (.invokevirtual 95, 3) := by decide +kernel
theorem dX11_pipes_134 : decode cX11_pipes 134 = .ok (.ireturn, 1) := by decide +kernel
def f_X11_pipes (x1 : Int32) (x2 : Int32) (x3 : Int32) (w : XW) : Option (Int32 × XW) := (bI (f_X11_isSection x1 w) (fun r1 w1 => (if r1 = 0 then (some (1, w1)) else (bI (f_X11_isSection x2 w1) (fun r2 w2 => (if r2 = 0 then (some (1, w2)) else (if x1 = x2 then (some (2, w2)) else (bI (f_X11_in x3 1 20 w2) (fun r3 w3 => (if r3 = 0 then (some (2, w3)) else (if (w3.1 142 (Int32.toNatClampNeg 2)) = 10 then (bI (f_X11_denied 1 10 w3) (fun r9 w9 => (some (r9, w9)))) else (if inB ((26 + (4 * (w3.1 142 (Int32.toNatClampNeg 2)))) + 0) 66 then (if inB ((26 + (4 * (w3.1 142 (Int32.toNatClampNeg 2)))) + 1) 66 then (if inB ((26 + (4 * (w3.1 142 (Int32.toNatClampNeg 2)))) + 2) 66 then (if inB ((26 + (4 * (w3.1 142 (Int32.toNatClampNeg 2)))) + 3) 66 then (bI (f_X11_done (w3.1 142 (Int32.toNatClampNeg 2)) (wset (wset (wset (wset (wset w3 142 (Int32.toNatClampNeg ((26 + (4 * (w3.1 142 (Int32.toNatClampNeg 2)))) + 0)) x1) 142 (Int32.toNatClampNeg ((26 + (4 * (w3.1 142 (Int32.toNatClampNeg 2)))) + 1)) x2) 142 (Int32.toNatClampNeg ((26 + (4 * (w3.1 142 (Int32.toNatClampNeg 2)))) + 2)) x3) 142 (Int32.toNatClampNeg ((26 + (4 * (w3.1 142 (Int32.toNatClampNeg 2)))) + 3)) 0) 142 (Int32.toNatClampNeg 2) ((w3.1 142 (Int32.toNatClampNeg 2)) + 1))) (fun r8 w8 => (some (r8, w8)))) else none) else none) else none) else none))))))))))))
set_option maxRecDepth 100000 in
theorem W_X11_pipes {g : GC} (hl : g.1.stackTraces = false) {x1 : Int32} {x2 : Int32} {x3 : Int32} {w : XW} : VE g cX11_pipes 5 RX11 (some .int) [] (rmL 5 0 0) 0 0 oI 0 0 0 [(0, .ref (g.2.1 + 141)), (1, .int x1), (2, .int x2), (3, .int x3)] [] w (f_X11_pipes x1 x2 x3 w) := by
  unfold f_X11_pipes
  refine v_aload_n dX11_pipes_0 rfl 0 rfl ?_
  refine v_iload_n dX11_pipes_1 rfl 1 rfl ?_
  refine v_callVi (As := [.int x1]) cv_X11_98 (S_X11_isSection hl) tt_141 rfl rfl rfl (Nat.le_of_ble_eq_true rfl) dX11_pipes_2 (CR_rm (by decide) (by decide) (by decide) (by decide)) (fun r1 w1 => ?_)
  refine v_if_eq (tgt := 16) dX11_pipes_5 (by decide) ?_ ?_
  · refine v_iconst (v := 1) dX11_pipes_16 (by decide) ?_
    exact v_iret dX11_pipes_17 rfl rfl (by decide) (by decide)
  · refine v_aload_n dX11_pipes_8 rfl 0 rfl ?_
    refine v_iload_n dX11_pipes_9 rfl 2 rfl ?_
    refine v_callVi (As := [.int x2]) cv_X11_98 (S_X11_isSection hl) tt_141 rfl rfl rfl (Nat.le_of_ble_eq_true rfl) dX11_pipes_10 (CR_rm (by decide) (by decide) (by decide) (by decide)) (fun r2 w2 => ?_)
    refine v_if_ne (tgt := 18) dX11_pipes_13 (by decide) ?_ ?_
    · refine v_iload_n dX11_pipes_18 rfl 1 rfl ?_
      refine v_iload_n dX11_pipes_19 rfl 2 rfl ?_
      refine v_icmp_eq (tgt := 33) dX11_pipes_20 (by decide) ?_ ?_
      · refine v_iconst (v := 2) dX11_pipes_33 (by decide) ?_
        exact v_iret dX11_pipes_34 rfl rfl (by decide) (by decide)
      · refine v_iload_n dX11_pipes_23 rfl 3 rfl ?_
        refine v_iconst (v := 1) dX11_pipes_24 (by decide) ?_
        refine v_bipush (v := 20) dX11_pipes_25 (by decide) ?_
        refine v_callSi (As := [.int x3, .int 1, .int 20]) cs_X11_63 (S_X11_in hl) rfl rfl (Nat.le_of_ble_eq_true rfl) dX11_pipes_27 (CR_rm (by decide) (by decide) (by decide) (by decide)) (fun r3 w3 => ?_)
        refine v_if_ne (tgt := 35) dX11_pipes_30 (by decide) ?_ ?_
        · refine v_aload_n dX11_pipes_35 rfl 0 rfl ?_
          refine v_getR fl_X11_7 tt_141 rfl dX11_pipes_36 ?_
          refine v_iconst (v := 2) dX11_pipes_39 (by decide) ?_
          refine v_iald tt_142 (by decide : inB 2 66) dX11_pipes_40 ?_
          refine v_istore dX11_pipes_41 (Nat.le_of_ble_eq_true rfl) rfl ?_
          refine v_iload dX11_pipes_43 0 rfl ?_
          refine v_bipush (v := 10) dX11_pipes_45 (by decide) ?_
          refine v_icmp_ne (tgt := 58) dX11_pipes_47 (by decide) ?_ ?_
          · refine v_aload_n dX11_pipes_58 rfl 1 rfl ?_
            refine v_getR fl_X11_7 tt_141 rfl dX11_pipes_59 ?_
            refine v_bipush (v := 26) dX11_pipes_62 (by decide) ?_
            refine v_iconst (v := 4) dX11_pipes_64 (by decide) ?_
            refine v_iload dX11_pipes_65 0 rfl ?_
            refine v_imul dX11_pipes_67 ?_
            refine v_iadd dX11_pipes_68 ?_
            refine v_iconst (v := 0) dX11_pipes_69 (by decide) ?_
            refine v_iadd dX11_pipes_70 ?_
            refine v_iload_n dX11_pipes_71 rfl 2 rfl ?_
            refine v_guard (fun h4 => ?_)
            refine v_iast tt_142 h4 dX11_pipes_72 ?_
            refine v_aload_n dX11_pipes_73 rfl 1 rfl ?_
            refine v_getR fl_X11_7 tt_141 rfl dX11_pipes_74 ?_
            refine v_bipush (v := 26) dX11_pipes_77 (by decide) ?_
            refine v_iconst (v := 4) dX11_pipes_79 (by decide) ?_
            refine v_iload dX11_pipes_80 0 rfl ?_
            refine v_imul dX11_pipes_82 ?_
            refine v_iadd dX11_pipes_83 ?_
            refine v_iconst (v := 1) dX11_pipes_84 (by decide) ?_
            refine v_iadd dX11_pipes_85 ?_
            refine v_iload_n dX11_pipes_86 rfl 3 rfl ?_
            refine v_guard (fun h5 => ?_)
            refine v_iast tt_142 h5 dX11_pipes_87 ?_
            refine v_aload_n dX11_pipes_88 rfl 1 rfl ?_
            refine v_getR fl_X11_7 tt_141 rfl dX11_pipes_89 ?_
            refine v_bipush (v := 26) dX11_pipes_92 (by decide) ?_
            refine v_iconst (v := 4) dX11_pipes_94 (by decide) ?_
            refine v_iload dX11_pipes_95 0 rfl ?_
            refine v_imul dX11_pipes_97 ?_
            refine v_iadd dX11_pipes_98 ?_
            refine v_iconst (v := 2) dX11_pipes_99 (by decide) ?_
            refine v_iadd dX11_pipes_100 ?_
            refine v_iload_n dX11_pipes_101 rfl 4 rfl ?_
            refine v_guard (fun h6 => ?_)
            refine v_iast tt_142 h6 dX11_pipes_102 ?_
            refine v_aload_n dX11_pipes_103 rfl 1 rfl ?_
            refine v_getR fl_X11_7 tt_141 rfl dX11_pipes_104 ?_
            refine v_bipush (v := 26) dX11_pipes_107 (by decide) ?_
            refine v_iconst (v := 4) dX11_pipes_109 (by decide) ?_
            refine v_iload dX11_pipes_110 0 rfl ?_
            refine v_imul dX11_pipes_112 ?_
            refine v_iadd dX11_pipes_113 ?_
            refine v_iconst (v := 3) dX11_pipes_114 (by decide) ?_
            refine v_iadd dX11_pipes_115 ?_
            refine v_iconst (v := 0) dX11_pipes_116 (by decide) ?_
            refine v_guard (fun h7 => ?_)
            refine v_iast tt_142 h7 dX11_pipes_117 ?_
            refine v_aload_n dX11_pipes_118 rfl 1 rfl ?_
            refine v_getR fl_X11_7 tt_141 rfl dX11_pipes_119 ?_
            refine v_iconst (v := 2) dX11_pipes_122 (by decide) ?_
            refine v_iload dX11_pipes_123 0 rfl ?_
            refine v_iconst (v := 1) dX11_pipes_125 (by decide) ?_
            refine v_iadd dX11_pipes_126 ?_
            refine v_iast tt_142 (by decide : inB 2 66) dX11_pipes_127 ?_
            refine v_aload_n dX11_pipes_128 rfl 1 rfl ?_
            refine v_iload dX11_pipes_129 0 rfl ?_
            refine v_callVi (As := [.int (w3.1 142 (Int32.toNatClampNeg 2))]) cv_X11_95 (S_X11_done hl) tt_141 rfl rfl rfl (Nat.le_of_ble_eq_true rfl) dX11_pipes_131 (CR_rm (by decide) (by decide) (by decide) (by decide)) (fun r8 w8 => ?_)
            exact v_iret dX11_pipes_134 rfl rfl (by decide) (by decide)
          · refine v_aload_n dX11_pipes_50 rfl 1 rfl ?_
            refine v_iconst (v := 1) dX11_pipes_51 (by decide) ?_
            refine v_bipush (v := 10) dX11_pipes_52 (by decide) ?_
            refine v_callVi (As := [.int 1, .int 10]) cv_X11_92 (S_X11_denied hl) tt_141 rfl rfl rfl (Nat.le_of_ble_eq_true rfl) dX11_pipes_54 (CR_rm (by decide) (by decide) (by decide) (by decide)) (fun r9 w9 => ?_)
            exact v_iret dX11_pipes_57 rfl rfl (by decide) (by decide)
        · refine v_iconst (v := 2) dX11_pipes_33 (by decide) ?_
          exact v_iret dX11_pipes_34 rfl rfl (by decide) (by decide)
    · refine v_iconst (v := 1) dX11_pipes_16 (by decide) ?_
      exact v_iret dX11_pipes_17 rfl rfl (by decide) (by decide)
theorem S_X11_pipes {g : GC} (hl : g.1.stackTraces = false) {x1 : Int32} {x2 : Int32} {x3 : Int32} {w : XW} : ∀ q, f_X11_pipes x1 x2 x3 w = some q → MM g (.code yX11_pipes cX11_pipes 5 (some .int)) yX11_pipes (rmL 5 0 0) 0 0 [.ref (g.2.1 + 141), .int x1, .int x2, .int x3] w (oI q) := fun q hq => MM_of (own := RX11) hl (by decide) gw_1682 rfl (Nat.le_of_ble_eq_true rfl) (W_X11_pipes hl q hq) ⟨rfl, rfl⟩

theorem dX11_cuts_0 : decode cX11_cuts 0 = .ok (.aload_n 0, 1) := by decide +kernel
theorem dX11_cuts_1 : decode cX11_cuts 1 = .ok (.iload_n 1, 1) := by decide +kernel
theorem dX11_cuts_2 : decode cX11_cuts 2 = .ok (.invokevirtual 108, 3) := by decide +kernel
theorem dX11_cuts_5 : decode cX11_cuts 5 = .ok (.ifCond .ne 5, 3) := by decide +kernel
theorem dX11_cuts_8 : decode cX11_cuts 8 = .ok (.iconst 1, 1) := by decide +kernel
theorem dX11_cuts_9 : decode cX11_cuts 9 = .ok (.ireturn, 1) := by decide +kernel
theorem dX11_cuts_10 : decode cX11_cuts 10 = .ok (.aload_n 0, 1) := by decide +kernel
theorem dX11_cuts_11 : decode cX11_cuts 11 = .ok (.getfield 7, 3) := by decide +kernel
theorem dX11_cuts_14 : decode cX11_cuts 14 = .ok (.iconst 2, 1) := by decide +kernel
theorem dX11_cuts_15 : decode cX11_cuts 15 = .ok (.iaload, 1) := by decide +kernel
theorem dX11_cuts_16 : decode cX11_cuts 16 = .ok (.iconst 1, 1) := by decide +kernel
theorem dX11_cuts_17 : decode cX11_cuts 17 = .ok (.isub, 1) := by decide +kernel
theorem dX11_cuts_18 : decode cX11_cuts 18 = .ok (.istore_n 2, 1) := by decide +kernel
theorem dX11_cuts_19 : decode cX11_cuts 19 = .ok (.iconst 4, 1) := by decide +kernel
theorem dX11_cuts_20 : decode cX11_cuts 20 = .ok (.iload_n 1, 1) := by decide +kernel
theorem dX11_cuts_21 : decode cX11_cuts 21 = .ok (.imul, 1) := by decide +kernel
theorem dX11_cuts_22 : decode cX11_cuts 22 = .ok (.istore_n 3, 1) := by decide +kernel
theorem dX11_cuts_23 : decode cX11_cuts 23 = .ok (.iload_n 3, 1) := by decide +kernel
theorem dX11_cuts_24 : decode cX11_cuts 24 = .ok (.iconst 4, 1) := by decide +kernel
theorem dX11_cuts_25 : decode cX11_cuts 25 = .ok (.iload_n 2, 1) := by decide +kernel
theorem dX11_cuts_26 : decode cX11_cuts 26 = .ok (.imul, 1) := by decide +kernel
theorem dX11_cuts_27 : decode cX11_cuts 27 = .ok (.if_icmp .ge 29, 3) := by decide +kernel
theorem dX11_cuts_30 : decode cX11_cuts 30 = .ok (.aload_n 0, 1) := by decide +kernel
theorem dX11_cuts_31 : decode cX11_cuts 31 = .ok (.getfield 7, 3) := by decide +kernel
theorem dX11_cuts_34 : decode cX11_cuts 34 = .ok (.bipush 26, 2) := by decide +kernel
theorem dX11_cuts_36 : decode cX11_cuts 36 = .ok (.iload_n 3, 1) := by decide +kernel
theorem dX11_cuts_37 : decode cX11_cuts 37 = .ok (.iadd, 1) := by decide +kernel
theorem dX11_cuts_38 : decode cX11_cuts 38 = .ok (.aload_n 0, 1) := by decide +kernel
theorem dX11_cuts_39 : decode cX11_cuts 39 = .ok (.getfield 7, 3) := by decide +kernel
theorem dX11_cuts_42 : decode cX11_cuts 42 = .ok (.bipush 26, 2) := by decide +kernel
theorem dX11_cuts_44 : decode cX11_cuts 44 = .ok (.iload_n 3, 1) := by decide +kernel
theorem dX11_cuts_45 : decode cX11_cuts 45 = .ok (.iadd, 1) := by decide +kernel
theorem dX11_cuts_46 : decode cX11_cuts 46 = .ok (.iconst 4, 1) := by decide +kernel
theorem dX11_cuts_47 : decode cX11_cuts 47 = .ok (.iadd, 1) := by decide +kernel
theorem dX11_cuts_48 : decode cX11_cuts 48 = .ok (.iaload, 1) := by decide +kernel
theorem dX11_cuts_49 : decode cX11_cuts 49 = .ok (.iastore, 1) := by decide +kernel
theorem dX11_cuts_50 : decode cX11_cuts 50 = .ok (.iinc 3 1, 3) := by decide +kernel
theorem dX11_cuts_53 : decode cX11_cuts 53 = .ok (.goto (-30), 3) := by decide +kernel
theorem dX11_cuts_56 : decode cX11_cuts 56 = .ok (.iconst 0, 1) := by decide +kernel
theorem dX11_cuts_57 : decode cX11_cuts 57 = .ok (.istore_n 3, 1) := by decide +kernel
theorem dX11_cuts_58 : decode cX11_cuts 58 = .ok (.iload_n 3, 1) := by decide +kernel
theorem dX11_cuts_59 : decode cX11_cuts 59 = .ok (.iconst 4, 1) := by decide +kernel
theorem dX11_cuts_60 : decode cX11_cuts 60 = .ok (.if_icmp .ge 23, 3) := by decide +kernel
theorem dX11_cuts_63 : decode cX11_cuts 63 = .ok (.aload_n 0, 1) := by decide +kernel
theorem dX11_cuts_64 : decode cX11_cuts 64 = .ok (.getfield 7, 3) := by decide +kernel
theorem dX11_cuts_67 : decode cX11_cuts 67 = .ok (.bipush 26, 2) := by decide +kernel
theorem dX11_cuts_69 : decode cX11_cuts 69 = .ok (.iconst 4, 1) := by decide +kernel
theorem dX11_cuts_70 : decode cX11_cuts 70 = .ok (.iload_n 2, 1) := by decide +kernel
theorem dX11_cuts_71 : decode cX11_cuts 71 = .ok (.imul, 1) := by decide +kernel
theorem dX11_cuts_72 : decode cX11_cuts 72 = .ok (.iadd, 1) := by decide +kernel
theorem dX11_cuts_73 : decode cX11_cuts 73 = .ok (.iload_n 3, 1) := by decide +kernel
theorem dX11_cuts_74 : decode cX11_cuts 74 = .ok (.iadd, 1) := by decide +kernel
theorem dX11_cuts_75 : decode cX11_cuts 75 = .ok (.iconst 0, 1) := by decide +kernel
theorem dX11_cuts_76 : decode cX11_cuts 76 = .ok (.iastore, 1) := by decide +kernel
theorem dX11_cuts_77 : decode cX11_cuts 77 = .ok (.iinc 3 1, 3) := by decide +kernel
theorem dX11_cuts_80 : decode cX11_cuts 80 = .ok (.goto (-22), 3) := by decide +kernel
theorem dX11_cuts_83 : decode cX11_cuts 83 = .ok (.aload_n 0, 1) := by decide +kernel
theorem dX11_cuts_84 : decode cX11_cuts 84 = .ok (.getfield 7, 3) := by decide +kernel
theorem dX11_cuts_87 : decode cX11_cuts 87 = .ok (.iconst 2, 1) := by decide +kernel
theorem dX11_cuts_88 : decode cX11_cuts 88 = .ok (.iload_n 2, 1) := by decide +kernel
theorem dX11_cuts_89 : decode cX11_cuts 89 = .ok (.iastore, 1) := by decide +kernel
theorem dX11_cuts_90 : decode cX11_cuts 90 = .ok (.aload_n 0, 1) := by decide +kernel
theorem dX11_cuts_91 : decode cX11_cuts 91 = .ok (.iload_n 2, 1) := by decide +kernel
theorem dX11_cuts_92 : decode cX11_cuts 92 = .ok (.invokevirtual 95, 3) := by decide +kernel
theorem dX11_cuts_95 : decode cX11_cuts 95 = .ok (.ireturn, 1) := by decide +kernel
def f_X11_cuts_58 (y2 : Int32) : Nat → Int32 → XW → Option (Int32 × XW)
  | 0, _, _ => none
  | n + 1, z3, w => (if 4 ≤ z3 then (bI (f_X11_done y2 (wset w 142 (Int32.toNatClampNeg 2) y2)) (fun r4 w4 => (some (r4, w4)))) else (if inB ((26 + (4 * y2)) + z3) 66 then (f_X11_cuts_58 y2 n (z3 + 1) (wset w 142 (Int32.toNatClampNeg ((26 + (4 * y2)) + z3)) 0)) else none))
set_option maxRecDepth 100000 in
theorem S_X11_cuts_58 {g : GC} (hl : g.1.stackTraces = false) {y2 : Int32} : ∀ (n : Nat) (z3 : Int32) (w : XW), VE g cX11_cuts 4 RX11 (some .int) [] (rmL 5 0 0) 0 0 oI 0 0 58 [(0, .ref (g.2.1 + 141)), (2, .int y2), (3, .int z3)] [] w (f_X11_cuts_58 y2 n z3 w) := by
  intro n
  induction n with
  | zero => intro z3 w; exact v_none
  | succ n ih =>
    intro z3 w
    rw [f_X11_cuts_58]
    refine v_iload_n dX11_cuts_58 rfl 2 rfl ?_
    refine v_iconst (v := 4) dX11_cuts_59 (by decide) ?_
    refine v_icmp_ge (tgt := 83) dX11_cuts_60 (by decide) ?_ ?_
    · refine v_aload_n dX11_cuts_83 rfl 0 rfl ?_
      refine v_getR fl_X11_7 tt_141 rfl dX11_cuts_84 ?_
      refine v_iconst (v := 2) dX11_cuts_87 (by decide) ?_
      refine v_iload_n dX11_cuts_88 rfl 1 rfl ?_
      refine v_iast tt_142 (by decide : inB 2 66) dX11_cuts_89 ?_
      refine v_aload_n dX11_cuts_90 rfl 0 rfl ?_
      refine v_iload_n dX11_cuts_91 rfl 1 rfl ?_
      refine v_callVi (As := [.int y2]) cv_X11_95 (S_X11_done hl) tt_141 rfl rfl rfl (Nat.le_of_ble_eq_true rfl) dX11_cuts_92 (CR_rm (by decide) (by decide) (by decide) (by decide)) (fun r4 w4 => ?_)
      exact v_iret dX11_cuts_95 rfl rfl (by decide) (by decide)
    · refine v_aload_n dX11_cuts_63 rfl 0 rfl ?_
      refine v_getR fl_X11_7 tt_141 rfl dX11_cuts_64 ?_
      refine v_bipush (v := 26) dX11_cuts_67 (by decide) ?_
      refine v_iconst (v := 4) dX11_cuts_69 (by decide) ?_
      refine v_iload_n dX11_cuts_70 rfl 1 rfl ?_
      refine v_imul dX11_cuts_71 ?_
      refine v_iadd dX11_cuts_72 ?_
      refine v_iload_n dX11_cuts_73 rfl 2 rfl ?_
      refine v_iadd dX11_cuts_74 ?_
      refine v_iconst (v := 0) dX11_cuts_75 (by decide) ?_
      refine v_guard (fun h5 => ?_)
      refine v_iast tt_142 h5 dX11_cuts_76 ?_
      refine v_iinc (v := (z3 + 1)) dX11_cuts_77 (q := 2) rfl rfl (Nat.le_of_ble_eq_true rfl) rfl ?_
      refine v_goto (tgt := 58) dX11_cuts_80 (by decide) ?_
      refine v_sub [1, 2, 0] rfl ?_
      exact ih _ _
def f_X11_cuts_23 (y2 : Int32) : Nat → Int32 → XW → Option (Int32 × XW)
  | 0, _, _ => none
  | n + 1, z3, w => (if (4 * y2) ≤ z3 then (f_X11_cuts_58 y2 1000 0 w) else (if inB ((26 + z3) + 4) 66 then (if inB (26 + z3) 66 then (f_X11_cuts_23 y2 n (z3 + 1) (wset w 142 (Int32.toNatClampNeg (26 + z3)) (w.1 142 (Int32.toNatClampNeg ((26 + z3) + 4))))) else none) else none))
set_option maxRecDepth 100000 in
theorem S_X11_cuts_23 {g : GC} (hl : g.1.stackTraces = false) {y2 : Int32} : ∀ (n : Nat) (z3 : Int32) (w : XW), VE g cX11_cuts 4 RX11 (some .int) [] (rmL 5 0 0) 0 0 oI 0 0 23 [(0, .ref (g.2.1 + 141)), (2, .int y2), (3, .int z3)] [] w (f_X11_cuts_23 y2 n z3 w) := by
  intro n
  induction n with
  | zero => intro z3 w; exact v_none
  | succ n ih =>
    intro z3 w
    rw [f_X11_cuts_23]
    refine v_iload_n dX11_cuts_23 rfl 2 rfl ?_
    refine v_iconst (v := 4) dX11_cuts_24 (by decide) ?_
    refine v_iload_n dX11_cuts_25 rfl 1 rfl ?_
    refine v_imul dX11_cuts_26 ?_
    refine v_icmp_ge (tgt := 56) dX11_cuts_27 (by decide) ?_ ?_
    · refine v_iconst (v := 0) dX11_cuts_56 (by decide) ?_
      refine v_istore_n dX11_cuts_57 rfl (Nat.le_of_ble_eq_true rfl) rfl ?_
      refine v_sub [1, 2, 0] rfl ?_
      exact S_X11_cuts_58 hl  _ _ _
    · refine v_aload_n dX11_cuts_30 rfl 0 rfl ?_
      refine v_getR fl_X11_7 tt_141 rfl dX11_cuts_31 ?_
      refine v_bipush (v := 26) dX11_cuts_34 (by decide) ?_
      refine v_iload_n dX11_cuts_36 rfl 2 rfl ?_
      refine v_iadd dX11_cuts_37 ?_
      refine v_aload_n dX11_cuts_38 rfl 0 rfl ?_
      refine v_getR fl_X11_7 tt_141 rfl dX11_cuts_39 ?_
      refine v_bipush (v := 26) dX11_cuts_42 (by decide) ?_
      refine v_iload_n dX11_cuts_44 rfl 2 rfl ?_
      refine v_iadd dX11_cuts_45 ?_
      refine v_iconst (v := 4) dX11_cuts_46 (by decide) ?_
      refine v_iadd dX11_cuts_47 ?_
      refine v_guard (fun h2 => ?_)
      refine v_iald tt_142 h2 dX11_cuts_48 ?_
      refine v_guard (fun h3 => ?_)
      refine v_iast tt_142 h3 dX11_cuts_49 ?_
      refine v_iinc (v := (z3 + 1)) dX11_cuts_50 (q := 2) rfl rfl (Nat.le_of_ble_eq_true rfl) rfl ?_
      refine v_goto (tgt := 23) dX11_cuts_53 (by decide) ?_
      refine v_sub [1, 2, 0] rfl ?_
      exact ih _ _
def f_X11_cuts (x1 : Int32) (w : XW) : Option (Int32 × XW) := (bI (f_X11_isPipe x1 w) (fun r1 w1 => (if r1 = 0 then (some (1, w1)) else (f_X11_cuts_23 ((w1.1 142 (Int32.toNatClampNeg 2)) - 1) 1000 (4 * x1) w1))))
set_option maxRecDepth 100000 in
theorem W_X11_cuts {g : GC} (hl : g.1.stackTraces = false) {x1 : Int32} {w : XW} : VE g cX11_cuts 4 RX11 (some .int) [] (rmL 5 0 0) 0 0 oI 0 0 0 [(0, .ref (g.2.1 + 141)), (1, .int x1)] [] w (f_X11_cuts x1 w) := by
  unfold f_X11_cuts
  refine v_aload_n dX11_cuts_0 rfl 0 rfl ?_
  refine v_iload_n dX11_cuts_1 rfl 1 rfl ?_
  refine v_callVi (As := [.int x1]) cv_X11_108 (S_X11_isPipe hl) tt_141 rfl rfl rfl (Nat.le_of_ble_eq_true rfl) dX11_cuts_2 (CR_rm (by decide) (by decide) (by decide) (by decide)) (fun r1 w1 => ?_)
  refine v_if_ne (tgt := 10) dX11_cuts_5 (by decide) ?_ ?_
  · refine v_aload_n dX11_cuts_10 rfl 0 rfl ?_
    refine v_getR fl_X11_7 tt_141 rfl dX11_cuts_11 ?_
    refine v_iconst (v := 2) dX11_cuts_14 (by decide) ?_
    refine v_iald tt_142 (by decide : inB 2 66) dX11_cuts_15 ?_
    refine v_iconst (v := 1) dX11_cuts_16 (by decide) ?_
    refine v_isub dX11_cuts_17 ?_
    refine v_istore_n dX11_cuts_18 rfl (Nat.le_of_ble_eq_true rfl) rfl ?_
    refine v_iconst (v := 4) dX11_cuts_19 (by decide) ?_
    refine v_iload_n dX11_cuts_20 rfl 2 rfl ?_
    refine v_imul dX11_cuts_21 ?_
    refine v_istore_n dX11_cuts_22 rfl (Nat.le_of_ble_eq_true rfl) rfl ?_
    refine v_sub [2, 1, 0] rfl ?_
    exact S_X11_cuts_23 hl  _ _ _
  · refine v_iconst (v := 1) dX11_cuts_8 (by decide) ?_
    exact v_iret dX11_cuts_9 rfl rfl (by decide) (by decide)
theorem S_X11_cuts {g : GC} (hl : g.1.stackTraces = false) {x1 : Int32} {w : XW} : ∀ q, f_X11_cuts x1 w = some q → MM g (.code yX11_cuts cX11_cuts 4 (some .int)) yX11_cuts (rmL 5 0 0) 0 0 [.ref (g.2.1 + 141), .int x1] w (oI q) := fun q hq => MM_of (own := RX11) hl (by decide) gw_1690 rfl (Nat.le_of_ble_eq_true rfl) (W_X11_cuts hl q hq) ⟨rfl, rfl⟩

theorem dX11_turns_0 : decode cX11_turns 0 = .ok (.aload_n 0, 1) := by decide +kernel
theorem dX11_turns_1 : decode cX11_turns 1 = .ok (.iload_n 1, 1) := by decide +kernel
theorem dX11_turns_2 : decode cX11_turns 2 = .ok (.invokevirtual 108, 3) := by decide +kernel
theorem dX11_turns_5 : decode cX11_turns 5 = .ok (.ifCond .ne 5, 3) := by decide +kernel
theorem dX11_turns_8 : decode cX11_turns 8 = .ok (.iconst 1, 1) := by decide +kernel
theorem dX11_turns_9 : decode cX11_turns 9 = .ok (.ireturn, 1) := by decide +kernel
theorem dX11_turns_10 : decode cX11_turns 10 = .ok (.aload_n 0, 1) := by decide +kernel
theorem dX11_turns_11 : decode cX11_turns 11 = .ok (.iload_n 1, 1) := by decide +kernel
theorem dX11_turns_12 : decode cX11_turns 12 = .ok (.iconst 3, 1) := by decide +kernel
theorem dX11_turns_13 : decode cX11_turns 13 = .ok (.invokevirtual 71, 3) := by decide +kernel
theorem dX11_turns_16 : decode cX11_turns 16 = .ok (.iload_n 2, 1) := by decide +kernel
theorem dX11_turns_17 : decode cX11_turns 17 = .ok (.if_icmp .ne 16, 3) := by decide +kernel
theorem dX11_turns_20 : decode cX11_turns 20 = .ok (.aload_n 0, 1) := by decide +kernel
theorem dX11_turns_21 : decode cX11_turns 21 = .ok (.bipush 6, 2) := by decide +kernel
theorem dX11_turns_23 : decode cX11_turns 23 = .ok (.aload_n 0, 1) := by decide +kernel
theorem dX11_turns_24 : decode cX11_turns 24 = .ok (.iload_n 1, 1) := by decide +kernel
theorem dX11_turns_25 : decode cX11_turns 25 = .ok (.iconst 2, 1) := by decide +kernel
theorem dX11_turns_26 : decode cX11_turns 26 = .ok (.invokevirtual 71, 3) := by decide +kernel
theorem dX11_turns_29 : decode cX11_turns 29 = .ok (.invokevirtual 92, 3) := by decide +kernel
theorem dX11_turns_32 : decode cX11_turns 32 = .ok (.ireturn, 1) := by decide +kernel
theorem dX11_turns_33 : decode cX11_turns 33 = .ok (.aload_n 0, 1) := by decide +kernel
theorem dX11_turns_34 : decode cX11_turns 34 = .ok (.getfield 7, 3) := by decide +kernel
theorem dX11_turns_37 : decode cX11_turns 37 = .ok (.bipush 26, 2) := by decide +kernel
theorem dX11_turns_39 : decode cX11_turns 39 = .ok (.iconst 4, 1) := by decide +kernel
theorem dX11_turns_40 : decode cX11_turns 40 = .ok (.iload_n 1, 1) := by decide +kernel
theorem dX11_turns_41 : decode cX11_turns 41 = .ok (.imul, 1) := by decide +kernel
theorem dX11_turns_42 : decode cX11_turns 42 = .ok (.iadd, 1) := by decide +kernel
theorem dX11_turns_43 : decode cX11_turns 43 = .ok (.iconst 3, 1) := by decide +kernel
theorem dX11_turns_44 : decode cX11_turns 44 = .ok (.iadd, 1) := by decide +kernel
theorem dX11_turns_45 : decode cX11_turns 45 = .ok (.iload_n 2, 1) := by decide +kernel
theorem dX11_turns_46 : decode cX11_turns 46 = .ok (.iastore, 1) := by decide +kernel
theorem dX11_turns_47 : decode cX11_turns 47 = .ok (.aload_n 0, 1) := by decide +kernel
theorem dX11_turns_48 : decode cX11_turns 48 = .ok (.aload_n 0, 1) := by decide +kernel
theorem dX11_turns_49 : decode cX11_turns 49 = .ok (.invokevirtual 111, 3) := by decide +kernel
theorem dX11_turns_52 : decode cX11_turns 52 = .ok (.invokevirtual 95, 3) := by decide +kernel
theorem dX11_turns_55 : decode cX11_turns 55 = .ok (.ireturn, 1) := by decide +kernel
def f_X11_turns (x1 : Int32) (x2 : Int32) (w : XW) : Option (Int32 × XW) := (bI (f_X11_isPipe x1 w) (fun r1 w1 => (if r1 = 0 then (some (1, w1)) else (bI (f_X11_pipe x1 3 w1) (fun r2 w2 => (if r2 = x2 then (bI (f_X11_pipe x1 2 w2) (fun r6 w6 => (bI (f_X11_denied 6 r6 w6) (fun r7 w7 => (some (r7, w7)))))) else (if inB ((26 + (4 * x1)) + 3) 66 then (bI (f_X11_broken (wset w2 142 (Int32.toNatClampNeg ((26 + (4 * x1)) + 3)) x2)) (fun r4 w4 => (bI (f_X11_done r4 w4) (fun r5 w5 => (some (r5, w5)))))) else none)))))))
set_option maxRecDepth 100000 in
theorem W_X11_turns {g : GC} (hl : g.1.stackTraces = false) {x1 : Int32} {x2 : Int32} {w : XW} : VE g cX11_turns 3 RX11 (some .int) [] (rmL 5 0 0) 0 0 oI 0 0 0 [(0, .ref (g.2.1 + 141)), (1, .int x1), (2, .int x2)] [] w (f_X11_turns x1 x2 w) := by
  unfold f_X11_turns
  refine v_aload_n dX11_turns_0 rfl 0 rfl ?_
  refine v_iload_n dX11_turns_1 rfl 1 rfl ?_
  refine v_callVi (As := [.int x1]) cv_X11_108 (S_X11_isPipe hl) tt_141 rfl rfl rfl (Nat.le_of_ble_eq_true rfl) dX11_turns_2 (CR_rm (by decide) (by decide) (by decide) (by decide)) (fun r1 w1 => ?_)
  refine v_if_ne (tgt := 10) dX11_turns_5 (by decide) ?_ ?_
  · refine v_aload_n dX11_turns_10 rfl 0 rfl ?_
    refine v_iload_n dX11_turns_11 rfl 1 rfl ?_
    refine v_iconst (v := 3) dX11_turns_12 (by decide) ?_
    refine v_callVi (As := [.int x1, .int 3]) cv_X11_71 (S_X11_pipe hl) tt_141 rfl rfl rfl (Nat.le_of_ble_eq_true rfl) dX11_turns_13 (CR_rm (by decide) (by decide) (by decide) (by decide)) (fun r2 w2 => ?_)
    refine v_iload_n dX11_turns_16 rfl 2 rfl ?_
    refine v_icmp_ne (tgt := 33) dX11_turns_17 (by decide) ?_ ?_
    · refine v_aload_n dX11_turns_33 rfl 0 rfl ?_
      refine v_getR fl_X11_7 tt_141 rfl dX11_turns_34 ?_
      refine v_bipush (v := 26) dX11_turns_37 (by decide) ?_
      refine v_iconst (v := 4) dX11_turns_39 (by decide) ?_
      refine v_iload_n dX11_turns_40 rfl 1 rfl ?_
      refine v_imul dX11_turns_41 ?_
      refine v_iadd dX11_turns_42 ?_
      refine v_iconst (v := 3) dX11_turns_43 (by decide) ?_
      refine v_iadd dX11_turns_44 ?_
      refine v_iload_n dX11_turns_45 rfl 2 rfl ?_
      refine v_guard (fun h3 => ?_)
      refine v_iast tt_142 h3 dX11_turns_46 ?_
      refine v_aload_n dX11_turns_47 rfl 0 rfl ?_
      refine v_aload_n dX11_turns_48 rfl 0 rfl ?_
      refine v_callVi (As := []) cv_X11_111 (S_X11_broken hl) tt_141 rfl rfl rfl (Nat.le_of_ble_eq_true rfl) dX11_turns_49 (CR_rm (by decide) (by decide) (by decide) (by decide)) (fun r4 w4 => ?_)
      refine v_callVi (As := [.int r4]) cv_X11_95 (S_X11_done hl) tt_141 rfl rfl rfl (Nat.le_of_ble_eq_true rfl) dX11_turns_52 (CR_rm (by decide) (by decide) (by decide) (by decide)) (fun r5 w5 => ?_)
      exact v_iret dX11_turns_55 rfl rfl (by decide) (by decide)
    · refine v_aload_n dX11_turns_20 rfl 0 rfl ?_
      refine v_bipush (v := 6) dX11_turns_21 (by decide) ?_
      refine v_aload_n dX11_turns_23 rfl 0 rfl ?_
      refine v_iload_n dX11_turns_24 rfl 1 rfl ?_
      refine v_iconst (v := 2) dX11_turns_25 (by decide) ?_
      refine v_callVi (As := [.int x1, .int 2]) cv_X11_71 (S_X11_pipe hl) tt_141 rfl rfl rfl (Nat.le_of_ble_eq_true rfl) dX11_turns_26 (CR_rm (by decide) (by decide) (by decide) (by decide)) (fun r6 w6 => ?_)
      refine v_callVi (As := [.int 6, .int r6]) cv_X11_92 (S_X11_denied hl) tt_141 rfl rfl rfl (Nat.le_of_ble_eq_true rfl) dX11_turns_29 (CR_rm (by decide) (by decide) (by decide) (by decide)) (fun r7 w7 => ?_)
      exact v_iret dX11_turns_32 rfl rfl (by decide) (by decide)
  · refine v_iconst (v := 1) dX11_turns_8 (by decide) ?_
    exact v_iret dX11_turns_9 rfl rfl (by decide) (by decide)
theorem S_X11_turns {g : GC} (hl : g.1.stackTraces = false) {x1 : Int32} {x2 : Int32} {w : XW} : ∀ q, f_X11_turns x1 x2 w = some q → MM g (.code yX11_turns cX11_turns 3 (some .int)) yX11_turns (rmL 5 0 0) 0 0 [.ref (g.2.1 + 141), .int x1, .int x2] w (oI q) := fun q hq => MM_of (own := RX11) hl (by decide) gw_1702 rfl (Nat.le_of_ble_eq_true rfl) (W_X11_turns hl q hq) ⟨rfl, rfl⟩

theorem dX11_comes_0 : decode cX11_comes 0 = .ok (.bipush 99, 2) := by decide +kernel
theorem dX11_comes_2 : decode cX11_comes 2 = .ok (.aload_n 0, 1) := by decide +kernel
theorem dX11_comes_3 : decode cX11_comes 3 = .ok (.getfield 7, 3) := by decide +kernel
theorem dX11_comes_6 : decode cX11_comes 6 = .ok (.iconst 5, 1) := by decide +kernel
theorem dX11_comes_7 : decode cX11_comes 7 = .ok (.iload_n 1, 1) := by decide +kernel
theorem dX11_comes_8 : decode cX11_comes 8 = .ok (.iadd, 1) := by decide +kernel
theorem dX11_comes_9 : decode cX11_comes 9 = .ok (.iaload, 1) := by decide +kernel
theorem dX11_comes_10 : decode cX11_comes 10 = .ok (.isub, 1) := by decide +kernel
theorem dX11_comes_11 : decode cX11_comes 11 = .ok (.istore_n 3, 1) := by decide +kernel
theorem dX11_comes_12 : decode cX11_comes 12 = .ok (.aload_n 0, 1) := by decide +kernel
theorem dX11_comes_13 : decode cX11_comes 13 = .ok (.getfield 7, 3) := by decide +kernel
theorem dX11_comes_16 : decode cX11_comes 16 = .ok (.iconst 4, 1) := by decide +kernel
theorem dX11_comes_17 : decode cX11_comes 17 = .ok (.dup2, 1) := by decide +kernel
theorem dX11_comes_18 : decode cX11_comes 18 = .ok (.iaload, 1) := by decide +kernel
theorem dX11_comes_19 : decode cX11_comes 19 = .ok (.iload_n 2, 1) := by decide +kernel
theorem dX11_comes_20 : decode cX11_comes 20 = .ok (.iload_n 3, 1) := by decide +kernel
theorem dX11_comes_21 : decode cX11_comes 21 = .ok (.if_icmp .le 9, 3) := by decide +kernel
theorem dX11_comes_24 : decode cX11_comes 24 = .ok (.iload_n 2, 1) := by decide +kernel
theorem dX11_comes_25 : decode cX11_comes 25 = .ok (.iload_n 3, 1) := by decide +kernel
theorem dX11_comes_26 : decode cX11_comes 26 = .ok (.isub, 1) := by decide +kernel
theorem dX11_comes_27 : decode cX11_comes 27 = .ok (.goto 4, 3) := by decide +kernel
theorem dX11_comes_30 : decode cX11_comes 30 = .ok (.iconst 0, 1) := by decide +kernel
theorem dX11_comes_31 : decode cX11_comes 31 = .ok (.iadd, 1) := by decide +kernel
theorem dX11_comes_32 : decode cX11_comes 32 = .ok (.iastore, 1) := by decide +kernel
theorem dX11_comes_33 : decode cX11_comes 33 = .ok (.aload_n 0, 1) := by decide +kernel
theorem dX11_comes_34 : decode cX11_comes 34 = .ok (.getfield 7, 3) := by decide +kernel
theorem dX11_comes_37 : decode cX11_comes 37 = .ok (.iconst 5, 1) := by decide +kernel
theorem dX11_comes_38 : decode cX11_comes 38 = .ok (.iload_n 1, 1) := by decide +kernel
theorem dX11_comes_39 : decode cX11_comes 39 = .ok (.iadd, 1) := by decide +kernel
theorem dX11_comes_40 : decode cX11_comes 40 = .ok (.dup2, 1) := by decide +kernel
theorem dX11_comes_41 : decode cX11_comes 41 = .ok (.iaload, 1) := by decide +kernel
theorem dX11_comes_42 : decode cX11_comes 42 = .ok (.iload_n 2, 1) := by decide +kernel
theorem dX11_comes_43 : decode cX11_comes 43 = .ok (.iload_n 3, 1) := by decide +kernel
theorem dX11_comes_44 : decode cX11_comes 44 = .ok (.if_icmp .le 7, 3) := by decide +kernel
theorem dX11_comes_47 : decode cX11_comes 47 = .ok (.iload_n 3, 1) := by decide +kernel
theorem dX11_comes_48 : decode cX11_comes 48 = .ok (.goto 4, 3) := by decide +kernel
theorem dX11_comes_51 : decode cX11_comes 51 = .ok (.iload_n 2, 1) := by decide +kernel
theorem dX11_comes_52 : decode cX11_comes 52 = .ok (.iadd, 1) := by decide +kernel
theorem dX11_comes_53 : decode cX11_comes 53 = .ok (.iastore, 1) := by decide +kernel
theorem dX11_comes_54 : decode cX11_comes 54 = .ok (.return_, 1) := by decide +kernel
def f_X11_comes (x1 : Int32) (x2 : Int32) (w : XW) : Option (XW) := (if inB (5 + x1) 66 then (if x2 ≤ (99 - (w.1 142 (Int32.toNatClampNeg (5 + x1)))) then (if inB (5 + x1) 66 then (if x2 ≤ (99 - (w.1 142 (Int32.toNatClampNeg (5 + x1)))) then (if inB (5 + x1) 66 then (some (wset (wset w 142 (Int32.toNatClampNeg 4) ((w.1 142 (Int32.toNatClampNeg 4)) + 0)) 142 (Int32.toNatClampNeg (5 + x1)) (((wset w 142 (Int32.toNatClampNeg 4) ((w.1 142 (Int32.toNatClampNeg 4)) + 0)).1 142 (Int32.toNatClampNeg (5 + x1))) + x2))) else none) else (if inB (5 + x1) 66 then (some (wset (wset w 142 (Int32.toNatClampNeg 4) ((w.1 142 (Int32.toNatClampNeg 4)) + 0)) 142 (Int32.toNatClampNeg (5 + x1)) (((wset w 142 (Int32.toNatClampNeg 4) ((w.1 142 (Int32.toNatClampNeg 4)) + 0)).1 142 (Int32.toNatClampNeg (5 + x1))) + (99 - (w.1 142 (Int32.toNatClampNeg (5 + x1))))))) else none)) else none) else (if inB (5 + x1) 66 then (if x2 ≤ (99 - (w.1 142 (Int32.toNatClampNeg (5 + x1)))) then (if inB (5 + x1) 66 then (some (wset (wset w 142 (Int32.toNatClampNeg 4) ((w.1 142 (Int32.toNatClampNeg 4)) + (x2 - (99 - (w.1 142 (Int32.toNatClampNeg (5 + x1))))))) 142 (Int32.toNatClampNeg (5 + x1)) (((wset w 142 (Int32.toNatClampNeg 4) ((w.1 142 (Int32.toNatClampNeg 4)) + (x2 - (99 - (w.1 142 (Int32.toNatClampNeg (5 + x1))))))).1 142 (Int32.toNatClampNeg (5 + x1))) + x2))) else none) else (if inB (5 + x1) 66 then (some (wset (wset w 142 (Int32.toNatClampNeg 4) ((w.1 142 (Int32.toNatClampNeg 4)) + (x2 - (99 - (w.1 142 (Int32.toNatClampNeg (5 + x1))))))) 142 (Int32.toNatClampNeg (5 + x1)) (((wset w 142 (Int32.toNatClampNeg 4) ((w.1 142 (Int32.toNatClampNeg 4)) + (x2 - (99 - (w.1 142 (Int32.toNatClampNeg (5 + x1))))))).1 142 (Int32.toNatClampNeg (5 + x1))) + (99 - (w.1 142 (Int32.toNatClampNeg (5 + x1))))))) else none)) else none)) else none)
set_option maxRecDepth 100000 in
theorem W_X11_comes {g : GC} (hl : g.1.stackTraces = false) {x1 : Int32} {x2 : Int32} {w : XW} : VE g cX11_comes 4 RX11 none [] (rmL 3 0 0) 0 0 oV 0 0 0 [(0, .ref (g.2.1 + 141)), (1, .int x1), (2, .int x2)] [] w (f_X11_comes x1 x2 w) := by
  unfold f_X11_comes
  refine v_bipush (v := 99) dX11_comes_0 (by decide) ?_
  refine v_aload_n dX11_comes_2 rfl 0 rfl ?_
  refine v_getR fl_X11_7 tt_141 rfl dX11_comes_3 ?_
  refine v_iconst (v := 5) dX11_comes_6 (by decide) ?_
  refine v_iload_n dX11_comes_7 rfl 1 rfl ?_
  refine v_iadd dX11_comes_8 ?_
  refine v_guard (fun h1 => ?_)
  refine v_iald tt_142 h1 dX11_comes_9 ?_
  refine v_isub dX11_comes_10 ?_
  refine v_istore_n dX11_comes_11 rfl (Nat.le_of_ble_eq_true rfl) rfl ?_
  refine v_aload_n dX11_comes_12 rfl 1 rfl ?_
  refine v_getR fl_X11_7 tt_141 rfl dX11_comes_13 ?_
  refine v_iconst (v := 4) dX11_comes_16 (by decide) ?_
  refine v_dup2 dX11_comes_17 rfl rfl ?_
  refine v_iald tt_142 (by decide : inB 4 66) dX11_comes_18 ?_
  refine v_iload_n dX11_comes_19 rfl 3 rfl ?_
  refine v_iload_n dX11_comes_20 rfl 0 rfl ?_
  refine v_icmp_le (tgt := 30) dX11_comes_21 (by decide) ?_ ?_
  · refine v_iconst (v := 0) dX11_comes_30 (by decide) ?_
    refine v_iadd dX11_comes_31 ?_
    refine v_iast tt_142 (by decide : inB 4 66) dX11_comes_32 ?_
    refine v_aload_n dX11_comes_33 rfl 1 rfl ?_
    refine v_getR fl_X11_7 tt_141 rfl dX11_comes_34 ?_
    refine v_iconst (v := 5) dX11_comes_37 (by decide) ?_
    refine v_iload_n dX11_comes_38 rfl 2 rfl ?_
    refine v_iadd dX11_comes_39 ?_
    refine v_dup2 dX11_comes_40 rfl rfl ?_
    refine v_guard (fun h2 => ?_)
    refine v_iald tt_142 h2 dX11_comes_41 ?_
    refine v_iload_n dX11_comes_42 rfl 3 rfl ?_
    refine v_iload_n dX11_comes_43 rfl 0 rfl ?_
    refine v_icmp_le (tgt := 51) dX11_comes_44 (by decide) ?_ ?_
    · refine v_iload_n dX11_comes_51 rfl 3 rfl ?_
      refine v_iadd dX11_comes_52 ?_
      refine v_guard (fun h3 => ?_)
      refine v_iast tt_142 h3 dX11_comes_53 ?_
      exact v_vret dX11_comes_54 rfl rfl (by decide) (by decide)
    · refine v_iload_n dX11_comes_47 rfl 0 rfl ?_
      refine v_goto (tgt := 52) dX11_comes_48 (by decide) ?_
      refine v_iadd dX11_comes_52 ?_
      refine v_guard (fun h4 => ?_)
      refine v_iast tt_142 h4 dX11_comes_53 ?_
      exact v_vret dX11_comes_54 rfl rfl (by decide) (by decide)
  · refine v_iload_n dX11_comes_24 rfl 3 rfl ?_
    refine v_iload_n dX11_comes_25 rfl 0 rfl ?_
    refine v_isub dX11_comes_26 ?_
    refine v_goto (tgt := 31) dX11_comes_27 (by decide) ?_
    refine v_iadd dX11_comes_31 ?_
    refine v_iast tt_142 (by decide : inB 4 66) dX11_comes_32 ?_
    refine v_aload_n dX11_comes_33 rfl 1 rfl ?_
    refine v_getR fl_X11_7 tt_141 rfl dX11_comes_34 ?_
    refine v_iconst (v := 5) dX11_comes_37 (by decide) ?_
    refine v_iload_n dX11_comes_38 rfl 2 rfl ?_
    refine v_iadd dX11_comes_39 ?_
    refine v_dup2 dX11_comes_40 rfl rfl ?_
    refine v_guard (fun h5 => ?_)
    refine v_iald tt_142 h5 dX11_comes_41 ?_
    refine v_iload_n dX11_comes_42 rfl 3 rfl ?_
    refine v_iload_n dX11_comes_43 rfl 0 rfl ?_
    refine v_icmp_le (tgt := 51) dX11_comes_44 (by decide) ?_ ?_
    · refine v_iload_n dX11_comes_51 rfl 3 rfl ?_
      refine v_iadd dX11_comes_52 ?_
      refine v_guard (fun h6 => ?_)
      refine v_iast tt_142 h6 dX11_comes_53 ?_
      exact v_vret dX11_comes_54 rfl rfl (by decide) (by decide)
    · refine v_iload_n dX11_comes_47 rfl 0 rfl ?_
      refine v_goto (tgt := 52) dX11_comes_48 (by decide) ?_
      refine v_iadd dX11_comes_52 ?_
      refine v_guard (fun h7 => ?_)
      refine v_iast tt_142 h7 dX11_comes_53 ?_
      exact v_vret dX11_comes_54 rfl rfl (by decide) (by decide)
theorem S_X11_comes {g : GC} (hl : g.1.stackTraces = false) {x1 : Int32} {x2 : Int32} {w : XW} : ∀ q, f_X11_comes x1 x2 w = some q → MM g (.code yX11_comes cX11_comes 4 none) yX11_comes (rmL 3 0 0) 0 0 [.ref (g.2.1 + 141), .int x1, .int x2] w (oV q) := fun q hq => MM_of (own := RX11) hl (by decide) gw_1767 rfl (Nat.le_of_ble_eq_true rfl) (W_X11_comes hl q hq) ⟨rfl, rfl⟩

theorem dX11_drains_0 : decode cX11_drains 0 = .ok (.aload_n 0, 1) := by decide +kernel
theorem dX11_drains_1 : decode cX11_drains 1 = .ok (.getfield 7, 3) := by decide +kernel
theorem dX11_drains_4 : decode cX11_drains 4 = .ok (.iconst 0, 1) := by decide +kernel
theorem dX11_drains_5 : decode cX11_drains 5 = .ok (.iaload, 1) := by decide +kernel
theorem dX11_drains_6 : decode cX11_drains 6 = .ok (.istore_n 1, 1) := by decide +kernel
theorem dX11_drains_7 : decode cX11_drains 7 = .ok (.iload_n 1, 1) := by decide +kernel
theorem dX11_drains_8 : decode cX11_drains 8 = .ok (.iconst 2, 1) := by decide +kernel
theorem dX11_drains_9 : decode cX11_drains 9 = .ok (.if_icmp .ge 11, 3) := by decide +kernel
theorem dX11_drains_12 : decode cX11_drains 12 = .ok (.aload_n 0, 1) := by decide +kernel
theorem dX11_drains_13 : decode cX11_drains 13 = .ok (.bipush 7, 2) := by decide +kernel
theorem dX11_drains_15 : decode cX11_drains 15 = .ok (.iload_n 1, 1) := by decide +kernel
theorem dX11_drains_16 : decode cX11_drains 16 = .ok (.invokevirtual 92, 3) := by decide +kernel
theorem dX11_drains_19 : decode cX11_drains 19 = .ok (.ireturn, 1) := by decide +kernel
theorem dX11_drains_20 : decode cX11_drains 20 = .ok (.aload_n 0, 1) := by decide +kernel
theorem dX11_drains_21 : decode cX11_drains 21 = .ok (.iconst (-1), 1) := by decide +kernel
theorem dX11_drains_22 : decode cX11_drains 22 = .ok (.invokevirtual 114, 3) := by decide +kernel
theorem dX11_drains_25 : decode cX11_drains 25 = .ok (.istore_n 2, 1) := by decide +kernel
theorem dX11_drains_26 : decode cX11_drains 26 = .ok (.aload_n 0, 1) := by decide +kernel
theorem dX11_drains_27 : decode cX11_drains 27 = .ok (.getfield 7, 3) := by decide +kernel
theorem dX11_drains_30 : decode cX11_drains 30 = .ok (.iconst 5, 1) := by decide +kernel
theorem dX11_drains_31 : decode cX11_drains 31 = .ok (.iaload, 1) := by decide +kernel
theorem dX11_drains_32 : decode cX11_drains 32 = .ok (.iload_n 2, 1) := by decide +kernel
theorem dX11_drains_33 : decode cX11_drains 33 = .ok (.if_icmp .ge 12, 3) := by decide +kernel
theorem dX11_drains_36 : decode cX11_drains 36 = .ok (.aload_n 0, 1) := by decide +kernel
theorem dX11_drains_37 : decode cX11_drains 37 = .ok (.getfield 7, 3) := by decide +kernel
theorem dX11_drains_40 : decode cX11_drains 40 = .ok (.iconst 5, 1) := by decide +kernel
theorem dX11_drains_41 : decode cX11_drains 41 = .ok (.iaload, 1) := by decide +kernel
theorem dX11_drains_42 : decode cX11_drains 42 = .ok (.goto 4, 3) := by decide +kernel
theorem dX11_drains_45 : decode cX11_drains 45 = .ok (.iload_n 2, 1) := by decide +kernel
theorem dX11_drains_46 : decode cX11_drains 46 = .ok (.istore_n 3, 1) := by decide +kernel
theorem dX11_drains_47 : decode cX11_drains 47 = .ok (.aload_n 0, 1) := by decide +kernel
theorem dX11_drains_48 : decode cX11_drains 48 = .ok (.invokevirtual 111, 3) := by decide +kernel
theorem dX11_drains_51 : decode cX11_drains 51 = .ok (.iload_n 3, 1) := by decide +kernel
theorem dX11_drains_52 : decode cX11_drains 52 = .ok (.if_icmp .ge 10, 3) := by decide +kernel
theorem dX11_drains_55 : decode cX11_drains 55 = .ok (.aload_n 0, 1) := by decide +kernel
theorem dX11_drains_56 : decode cX11_drains 56 = .ok (.invokevirtual 111, 3) := by decide +kernel
theorem dX11_drains_59 : decode cX11_drains 59 = .ok (.goto 4, 3) := by decide +kernel
theorem dX11_drains_62 : decode cX11_drains 62 = .ok (.iload_n 3, 1) := by decide +kernel
theorem dX11_drains_63 : decode cX11_drains 63 = .ok (.istore 4, 2) := by decide +kernel
theorem dX11_drains_65 : decode cX11_drains 65 = .ok (.aload_n 0, 1) := by decide +kernel
theorem dX11_drains_66 : decode cX11_drains 66 = .ok (.getfield 7, 3) := by decide +kernel
theorem dX11_drains_69 : decode cX11_drains 69 = .ok (.iconst 5, 1) := by decide +kernel
theorem dX11_drains_70 : decode cX11_drains 70 = .ok (.dup2, 1) := by decide +kernel
theorem dX11_drains_71 : decode cX11_drains 71 = .ok (.iaload, 1) := by decide +kernel
theorem dX11_drains_72 : decode cX11_drains 72 = .ok (.iload_n 3, 1) := by decide +kernel
theorem dX11_drains_73 : decode cX11_drains 73 = .ok (.isub, 1) := by decide +kernel
theorem dX11_drains_74 : decode cX11_drains 74 = .ok (.iastore, 1) := by decide +kernel
theorem dX11_drains_75 : decode cX11_drains 75 = .ok (.aload_n 0, 1) := by decide +kernel
theorem dX11_drains_76 : decode cX11_drains 76 = .ok (.getfield 7, 3) := by decide +kernel
theorem dX11_drains_79 : decode cX11_drains 79 = .ok (.iconst 4, 1) := by decide +kernel
theorem dX11_drains_80 : decode cX11_drains 80 = .ok (.dup2, 1) := by decide +kernel
theorem dX11_drains_81 : decode cX11_drains 81 = .ok (.iaload, 1) := by decide +kernel
theorem dX11_drains_82 : decode cX11_drains 82 = .ok (.iload 4, 2) := by decide +kernel
theorem dX11_drains_84 : decode cX11_drains 84 = .ok (.iadd, 1) := by decide +kernel
theorem dX11_drains_85 : decode cX11_drains 85 = .ok (.iastore, 1) := by decide +kernel
theorem dX11_drains_86 : decode cX11_drains 86 = .ok (.aload_n 0, 1) := by decide +kernel
theorem dX11_drains_87 : decode cX11_drains 87 = .ok (.iload_n 1, 1) := by decide +kernel
theorem dX11_drains_88 : decode cX11_drains 88 = .ok (.iconst 1, 1) := by decide +kernel
theorem dX11_drains_89 : decode cX11_drains 89 = .ok (.isub, 1) := by decide +kernel
theorem dX11_drains_90 : decode cX11_drains 90 = .ok (.iload_n 3, 1) := by decide +kernel
theorem dX11_drains_91 : decode cX11_drains 91 = .ok (.iload 4, 2) := by decide +kernel
theorem dX11_drains_93 : decode cX11_drains 93 = .ok (.isub, 1) := by decide +kernel
theorem dX11_drains_94 : decode cX11_drains 94 = .ok (.invokevirtual 117, 3) := by decide +kernel
theorem dX11_drains_97 : decode cX11_drains 97 = .ok (.aload_n 0, 1) := by decide +kernel
theorem dX11_drains_98 : decode cX11_drains 98 = .ok (.iload_n 3, 1) := by decide +kernel
theorem dX11_drains_99 : decode cX11_drains 99 = .ok (.invokevirtual 95, 3) := by decide +kernel
theorem dX11_drains_102 : decode cX11_drains 102 = .ok (.ireturn, 1) := by decide +kernel
def f_X11_drains (w : XW) : Option (Int32 × XW) := (if 2 ≤ (w.1 142 (Int32.toNatClampNeg 0)) then (bI (f_X11_cut (-1) w) (fun r1 w1 => (if r1 ≤ (w1.1 142 (Int32.toNatClampNeg 5)) then (bI (f_X11_broken w1) (fun r2 w2 => (if r1 ≤ r2 then (bV (f_X11_comes ((w.1 142 (Int32.toNatClampNeg 0)) - 1) (r1 - r1) (wset (wset w2 142 (Int32.toNatClampNeg 5) ((w2.1 142 (Int32.toNatClampNeg 5)) - r1)) 142 (Int32.toNatClampNeg 4) (((wset w2 142 (Int32.toNatClampNeg 5) ((w2.1 142 (Int32.toNatClampNeg 5)) - r1)).1 142 (Int32.toNatClampNeg 4)) + r1))) (fun w3 => (bI (f_X11_done r1 w3) (fun r4 w4 => (some (r4, w4)))))) else (bI (f_X11_broken w2) (fun r5 w5 => (bV (f_X11_comes ((w.1 142 (Int32.toNatClampNeg 0)) - 1) (r1 - r5) (wset (wset w5 142 (Int32.toNatClampNeg 5) ((w5.1 142 (Int32.toNatClampNeg 5)) - r1)) 142 (Int32.toNatClampNeg 4) (((wset w5 142 (Int32.toNatClampNeg 5) ((w5.1 142 (Int32.toNatClampNeg 5)) - r1)).1 142 (Int32.toNatClampNeg 4)) + r5))) (fun w6 => (bI (f_X11_done r1 w6) (fun r7 w7 => (some (r7, w7))))))))))) else (bI (f_X11_broken w1) (fun r8 w8 => (if (w1.1 142 (Int32.toNatClampNeg 5)) ≤ r8 then (bV (f_X11_comes ((w.1 142 (Int32.toNatClampNeg 0)) - 1) ((w1.1 142 (Int32.toNatClampNeg 5)) - (w1.1 142 (Int32.toNatClampNeg 5))) (wset (wset w8 142 (Int32.toNatClampNeg 5) ((w8.1 142 (Int32.toNatClampNeg 5)) - (w1.1 142 (Int32.toNatClampNeg 5)))) 142 (Int32.toNatClampNeg 4) (((wset w8 142 (Int32.toNatClampNeg 5) ((w8.1 142 (Int32.toNatClampNeg 5)) - (w1.1 142 (Int32.toNatClampNeg 5)))).1 142 (Int32.toNatClampNeg 4)) + (w1.1 142 (Int32.toNatClampNeg 5))))) (fun w9 => (bI (f_X11_done (w1.1 142 (Int32.toNatClampNeg 5)) w9) (fun r10 w10 => (some (r10, w10)))))) else (bI (f_X11_broken w8) (fun r11 w11 => (bV (f_X11_comes ((w.1 142 (Int32.toNatClampNeg 0)) - 1) ((w1.1 142 (Int32.toNatClampNeg 5)) - r11) (wset (wset w11 142 (Int32.toNatClampNeg 5) ((w11.1 142 (Int32.toNatClampNeg 5)) - (w1.1 142 (Int32.toNatClampNeg 5)))) 142 (Int32.toNatClampNeg 4) (((wset w11 142 (Int32.toNatClampNeg 5) ((w11.1 142 (Int32.toNatClampNeg 5)) - (w1.1 142 (Int32.toNatClampNeg 5)))).1 142 (Int32.toNatClampNeg 4)) + r11))) (fun w12 => (bI (f_X11_done (w1.1 142 (Int32.toNatClampNeg 5)) w12) (fun r13 w13 => (some (r13, w13)))))))))))))) else (bI (f_X11_denied 7 (w.1 142 (Int32.toNatClampNeg 0)) w) (fun r14 w14 => (some (r14, w14)))))
set_option maxRecDepth 100000 in
theorem W_X11_drains {g : GC} (hl : g.1.stackTraces = false) {w : XW} : VE g cX11_drains 5 RX11 (some .int) [] (rmL 5 0 0) 0 0 oI 0 0 0 [(0, .ref (g.2.1 + 141))] [] w (f_X11_drains  w) := by
  unfold f_X11_drains
  refine v_aload_n dX11_drains_0 rfl 0 rfl ?_
  refine v_getR fl_X11_7 tt_141 rfl dX11_drains_1 ?_
  refine v_iconst (v := 0) dX11_drains_4 (by decide) ?_
  refine v_iald tt_142 (by decide : inB 0 66) dX11_drains_5 ?_
  refine v_istore_n dX11_drains_6 rfl (Nat.le_of_ble_eq_true rfl) rfl ?_
  refine v_iload_n dX11_drains_7 rfl 0 rfl ?_
  refine v_iconst (v := 2) dX11_drains_8 (by decide) ?_
  refine v_icmp_ge (tgt := 20) dX11_drains_9 (by decide) ?_ ?_
  · refine v_aload_n dX11_drains_20 rfl 1 rfl ?_
    refine v_iconst (v := (-1)) dX11_drains_21 (by decide) ?_
    refine v_callVi (As := [.int (-1)]) cv_X11_114 (S_X11_cut hl) tt_141 rfl rfl rfl (Nat.le_of_ble_eq_true rfl) dX11_drains_22 (CR_rm (by decide) (by decide) (by decide) (by decide)) (fun r1 w1 => ?_)
    refine v_istore_n dX11_drains_25 rfl (Nat.le_of_ble_eq_true rfl) rfl ?_
    refine v_aload_n dX11_drains_26 rfl 2 rfl ?_
    refine v_getR fl_X11_7 tt_141 rfl dX11_drains_27 ?_
    refine v_iconst (v := 5) dX11_drains_30 (by decide) ?_
    refine v_iald tt_142 (by decide : inB 5 66) dX11_drains_31 ?_
    refine v_iload_n dX11_drains_32 rfl 0 rfl ?_
    refine v_icmp_ge (tgt := 45) dX11_drains_33 (by decide) ?_ ?_
    · refine v_iload_n dX11_drains_45 rfl 0 rfl ?_
      refine v_istore_n dX11_drains_46 rfl (Nat.le_of_ble_eq_true rfl) rfl ?_
      refine v_aload_n dX11_drains_47 rfl 3 rfl ?_
      refine v_callVi (As := []) cv_X11_111 (S_X11_broken hl) tt_141 rfl rfl rfl (Nat.le_of_ble_eq_true rfl) dX11_drains_48 (CR_rm (by decide) (by decide) (by decide) (by decide)) (fun r2 w2 => ?_)
      refine v_iload_n dX11_drains_51 rfl 0 rfl ?_
      refine v_icmp_ge (tgt := 62) dX11_drains_52 (by decide) ?_ ?_
      · refine v_iload_n dX11_drains_62 rfl 0 rfl ?_
        refine v_istore dX11_drains_63 (Nat.le_of_ble_eq_true rfl) rfl ?_
        refine v_aload_n dX11_drains_65 rfl 4 rfl ?_
        refine v_getR fl_X11_7 tt_141 rfl dX11_drains_66 ?_
        refine v_iconst (v := 5) dX11_drains_69 (by decide) ?_
        refine v_dup2 dX11_drains_70 rfl rfl ?_
        refine v_iald tt_142 (by decide : inB 5 66) dX11_drains_71 ?_
        refine v_iload_n dX11_drains_72 rfl 1 rfl ?_
        refine v_isub dX11_drains_73 ?_
        refine v_iast tt_142 (by decide : inB 5 66) dX11_drains_74 ?_
        refine v_aload_n dX11_drains_75 rfl 4 rfl ?_
        refine v_getR fl_X11_7 tt_141 rfl dX11_drains_76 ?_
        refine v_iconst (v := 4) dX11_drains_79 (by decide) ?_
        refine v_dup2 dX11_drains_80 rfl rfl ?_
        refine v_iald tt_142 (by decide : inB 4 66) dX11_drains_81 ?_
        refine v_iload dX11_drains_82 0 rfl ?_
        refine v_iadd dX11_drains_84 ?_
        refine v_iast tt_142 (by decide : inB 4 66) dX11_drains_85 ?_
        refine v_aload_n dX11_drains_86 rfl 4 rfl ?_
        refine v_iload_n dX11_drains_87 rfl 3 rfl ?_
        refine v_iconst (v := 1) dX11_drains_88 (by decide) ?_
        refine v_isub dX11_drains_89 ?_
        refine v_iload_n dX11_drains_90 rfl 1 rfl ?_
        refine v_iload dX11_drains_91 0 rfl ?_
        refine v_isub dX11_drains_93 ?_
        refine v_callVv (As := [.int ((w.1 142 (Int32.toNatClampNeg 0)) - 1), .int (r1 - r1)]) cv_X11_117 (S_X11_comes hl) tt_141 rfl rfl rfl (Nat.le_of_ble_eq_true rfl) dX11_drains_94 (CR_rm (by decide) (by decide) (by decide) (by decide)) (fun w3 => ?_)
        refine v_aload_n dX11_drains_97 rfl 4 rfl ?_
        refine v_iload_n dX11_drains_98 rfl 1 rfl ?_
        refine v_callVi (As := [.int r1]) cv_X11_95 (S_X11_done hl) tt_141 rfl rfl rfl (Nat.le_of_ble_eq_true rfl) dX11_drains_99 (CR_rm (by decide) (by decide) (by decide) (by decide)) (fun r4 w4 => ?_)
        exact v_iret dX11_drains_102 rfl rfl (by decide) (by decide)
      · refine v_aload_n dX11_drains_55 rfl 3 rfl ?_
        refine v_callVi (As := []) cv_X11_111 (S_X11_broken hl) tt_141 rfl rfl rfl (Nat.le_of_ble_eq_true rfl) dX11_drains_56 (CR_rm (by decide) (by decide) (by decide) (by decide)) (fun r5 w5 => ?_)
        refine v_goto (tgt := 63) dX11_drains_59 (by decide) ?_
        refine v_istore dX11_drains_63 (Nat.le_of_ble_eq_true rfl) rfl ?_
        refine v_aload_n dX11_drains_65 rfl 4 rfl ?_
        refine v_getR fl_X11_7 tt_141 rfl dX11_drains_66 ?_
        refine v_iconst (v := 5) dX11_drains_69 (by decide) ?_
        refine v_dup2 dX11_drains_70 rfl rfl ?_
        refine v_iald tt_142 (by decide : inB 5 66) dX11_drains_71 ?_
        refine v_iload_n dX11_drains_72 rfl 1 rfl ?_
        refine v_isub dX11_drains_73 ?_
        refine v_iast tt_142 (by decide : inB 5 66) dX11_drains_74 ?_
        refine v_aload_n dX11_drains_75 rfl 4 rfl ?_
        refine v_getR fl_X11_7 tt_141 rfl dX11_drains_76 ?_
        refine v_iconst (v := 4) dX11_drains_79 (by decide) ?_
        refine v_dup2 dX11_drains_80 rfl rfl ?_
        refine v_iald tt_142 (by decide : inB 4 66) dX11_drains_81 ?_
        refine v_iload dX11_drains_82 0 rfl ?_
        refine v_iadd dX11_drains_84 ?_
        refine v_iast tt_142 (by decide : inB 4 66) dX11_drains_85 ?_
        refine v_aload_n dX11_drains_86 rfl 4 rfl ?_
        refine v_iload_n dX11_drains_87 rfl 3 rfl ?_
        refine v_iconst (v := 1) dX11_drains_88 (by decide) ?_
        refine v_isub dX11_drains_89 ?_
        refine v_iload_n dX11_drains_90 rfl 1 rfl ?_
        refine v_iload dX11_drains_91 0 rfl ?_
        refine v_isub dX11_drains_93 ?_
        refine v_callVv (As := [.int ((w.1 142 (Int32.toNatClampNeg 0)) - 1), .int (r1 - r5)]) cv_X11_117 (S_X11_comes hl) tt_141 rfl rfl rfl (Nat.le_of_ble_eq_true rfl) dX11_drains_94 (CR_rm (by decide) (by decide) (by decide) (by decide)) (fun w6 => ?_)
        refine v_aload_n dX11_drains_97 rfl 4 rfl ?_
        refine v_iload_n dX11_drains_98 rfl 1 rfl ?_
        refine v_callVi (As := [.int r1]) cv_X11_95 (S_X11_done hl) tt_141 rfl rfl rfl (Nat.le_of_ble_eq_true rfl) dX11_drains_99 (CR_rm (by decide) (by decide) (by decide) (by decide)) (fun r7 w7 => ?_)
        exact v_iret dX11_drains_102 rfl rfl (by decide) (by decide)
    · refine v_aload_n dX11_drains_36 rfl 2 rfl ?_
      refine v_getR fl_X11_7 tt_141 rfl dX11_drains_37 ?_
      refine v_iconst (v := 5) dX11_drains_40 (by decide) ?_
      refine v_iald tt_142 (by decide : inB 5 66) dX11_drains_41 ?_
      refine v_goto (tgt := 46) dX11_drains_42 (by decide) ?_
      refine v_istore_n dX11_drains_46 rfl (Nat.le_of_ble_eq_true rfl) rfl ?_
      refine v_aload_n dX11_drains_47 rfl 3 rfl ?_
      refine v_callVi (As := []) cv_X11_111 (S_X11_broken hl) tt_141 rfl rfl rfl (Nat.le_of_ble_eq_true rfl) dX11_drains_48 (CR_rm (by decide) (by decide) (by decide) (by decide)) (fun r8 w8 => ?_)
      refine v_iload_n dX11_drains_51 rfl 0 rfl ?_
      refine v_icmp_ge (tgt := 62) dX11_drains_52 (by decide) ?_ ?_
      · refine v_iload_n dX11_drains_62 rfl 0 rfl ?_
        refine v_istore dX11_drains_63 (Nat.le_of_ble_eq_true rfl) rfl ?_
        refine v_aload_n dX11_drains_65 rfl 4 rfl ?_
        refine v_getR fl_X11_7 tt_141 rfl dX11_drains_66 ?_
        refine v_iconst (v := 5) dX11_drains_69 (by decide) ?_
        refine v_dup2 dX11_drains_70 rfl rfl ?_
        refine v_iald tt_142 (by decide : inB 5 66) dX11_drains_71 ?_
        refine v_iload_n dX11_drains_72 rfl 1 rfl ?_
        refine v_isub dX11_drains_73 ?_
        refine v_iast tt_142 (by decide : inB 5 66) dX11_drains_74 ?_
        refine v_aload_n dX11_drains_75 rfl 4 rfl ?_
        refine v_getR fl_X11_7 tt_141 rfl dX11_drains_76 ?_
        refine v_iconst (v := 4) dX11_drains_79 (by decide) ?_
        refine v_dup2 dX11_drains_80 rfl rfl ?_
        refine v_iald tt_142 (by decide : inB 4 66) dX11_drains_81 ?_
        refine v_iload dX11_drains_82 0 rfl ?_
        refine v_iadd dX11_drains_84 ?_
        refine v_iast tt_142 (by decide : inB 4 66) dX11_drains_85 ?_
        refine v_aload_n dX11_drains_86 rfl 4 rfl ?_
        refine v_iload_n dX11_drains_87 rfl 3 rfl ?_
        refine v_iconst (v := 1) dX11_drains_88 (by decide) ?_
        refine v_isub dX11_drains_89 ?_
        refine v_iload_n dX11_drains_90 rfl 1 rfl ?_
        refine v_iload dX11_drains_91 0 rfl ?_
        refine v_isub dX11_drains_93 ?_
        refine v_callVv (As := [.int ((w.1 142 (Int32.toNatClampNeg 0)) - 1), .int ((w1.1 142 (Int32.toNatClampNeg 5)) - (w1.1 142 (Int32.toNatClampNeg 5)))]) cv_X11_117 (S_X11_comes hl) tt_141 rfl rfl rfl (Nat.le_of_ble_eq_true rfl) dX11_drains_94 (CR_rm (by decide) (by decide) (by decide) (by decide)) (fun w9 => ?_)
        refine v_aload_n dX11_drains_97 rfl 4 rfl ?_
        refine v_iload_n dX11_drains_98 rfl 1 rfl ?_
        refine v_callVi (As := [.int (w1.1 142 (Int32.toNatClampNeg 5))]) cv_X11_95 (S_X11_done hl) tt_141 rfl rfl rfl (Nat.le_of_ble_eq_true rfl) dX11_drains_99 (CR_rm (by decide) (by decide) (by decide) (by decide)) (fun r10 w10 => ?_)
        exact v_iret dX11_drains_102 rfl rfl (by decide) (by decide)
      · refine v_aload_n dX11_drains_55 rfl 3 rfl ?_
        refine v_callVi (As := []) cv_X11_111 (S_X11_broken hl) tt_141 rfl rfl rfl (Nat.le_of_ble_eq_true rfl) dX11_drains_56 (CR_rm (by decide) (by decide) (by decide) (by decide)) (fun r11 w11 => ?_)
        refine v_goto (tgt := 63) dX11_drains_59 (by decide) ?_
        refine v_istore dX11_drains_63 (Nat.le_of_ble_eq_true rfl) rfl ?_
        refine v_aload_n dX11_drains_65 rfl 4 rfl ?_
        refine v_getR fl_X11_7 tt_141 rfl dX11_drains_66 ?_
        refine v_iconst (v := 5) dX11_drains_69 (by decide) ?_
        refine v_dup2 dX11_drains_70 rfl rfl ?_
        refine v_iald tt_142 (by decide : inB 5 66) dX11_drains_71 ?_
        refine v_iload_n dX11_drains_72 rfl 1 rfl ?_
        refine v_isub dX11_drains_73 ?_
        refine v_iast tt_142 (by decide : inB 5 66) dX11_drains_74 ?_
        refine v_aload_n dX11_drains_75 rfl 4 rfl ?_
        refine v_getR fl_X11_7 tt_141 rfl dX11_drains_76 ?_
        refine v_iconst (v := 4) dX11_drains_79 (by decide) ?_
        refine v_dup2 dX11_drains_80 rfl rfl ?_
        refine v_iald tt_142 (by decide : inB 4 66) dX11_drains_81 ?_
        refine v_iload dX11_drains_82 0 rfl ?_
        refine v_iadd dX11_drains_84 ?_
        refine v_iast tt_142 (by decide : inB 4 66) dX11_drains_85 ?_
        refine v_aload_n dX11_drains_86 rfl 4 rfl ?_
        refine v_iload_n dX11_drains_87 rfl 3 rfl ?_
        refine v_iconst (v := 1) dX11_drains_88 (by decide) ?_
        refine v_isub dX11_drains_89 ?_
        refine v_iload_n dX11_drains_90 rfl 1 rfl ?_
        refine v_iload dX11_drains_91 0 rfl ?_
        refine v_isub dX11_drains_93 ?_
        refine v_callVv (As := [.int ((w.1 142 (Int32.toNatClampNeg 0)) - 1), .int ((w1.1 142 (Int32.toNatClampNeg 5)) - r11)]) cv_X11_117 (S_X11_comes hl) tt_141 rfl rfl rfl (Nat.le_of_ble_eq_true rfl) dX11_drains_94 (CR_rm (by decide) (by decide) (by decide) (by decide)) (fun w12 => ?_)
        refine v_aload_n dX11_drains_97 rfl 4 rfl ?_
        refine v_iload_n dX11_drains_98 rfl 1 rfl ?_
        refine v_callVi (As := [.int (w1.1 142 (Int32.toNatClampNeg 5))]) cv_X11_95 (S_X11_done hl) tt_141 rfl rfl rfl (Nat.le_of_ble_eq_true rfl) dX11_drains_99 (CR_rm (by decide) (by decide) (by decide) (by decide)) (fun r13 w13 => ?_)
        exact v_iret dX11_drains_102 rfl rfl (by decide) (by decide)
  · refine v_aload_n dX11_drains_12 rfl 1 rfl ?_
    refine v_bipush (v := 7) dX11_drains_13 (by decide) ?_
    refine v_iload_n dX11_drains_15 rfl 0 rfl ?_
    refine v_callVi (As := [.int 7, .int (w.1 142 (Int32.toNatClampNeg 0))]) cv_X11_92 (S_X11_denied hl) tt_141 rfl rfl rfl (Nat.le_of_ble_eq_true rfl) dX11_drains_16 (CR_rm (by decide) (by decide) (by decide) (by decide)) (fun r14 w14 => ?_)
    exact v_iret dX11_drains_19 rfl rfl (by decide) (by decide)
theorem S_X11_drains {g : GC} (hl : g.1.stackTraces = false) {w : XW} : ∀ q, f_X11_drains  w = some q → MM g (.code yX11_drains cX11_drains 5 (some .int)) yX11_drains (rmL 5 0 0) 0 0 [.ref (g.2.1 + 141)] w (oI q) := fun q hq => MM_of (own := RX11) hl (by decide) gw_1763 rfl (Nat.le_of_ble_eq_true rfl) (W_X11_drains hl q hq) ⟨rfl, rfl⟩

theorem dX11_seeps_0 : decode cX11_seeps 0 = .ok (.aload_n 0, 1) := by decide +kernel
theorem dX11_seeps_1 : decode cX11_seeps 1 = .ok (.getfield 7, 3) := by decide +kernel
theorem dX11_seeps_4 : decode cX11_seeps 4 = .ok (.iconst 1, 1) := by decide +kernel
theorem dX11_seeps_5 : decode cX11_seeps 5 = .ok (.iaload, 1) := by decide +kernel
theorem dX11_seeps_6 : decode cX11_seeps 6 = .ok (.ifCond .ne 15, 3) := by decide +kernel
theorem dX11_seeps_9 : decode cX11_seeps 9 = .ok (.aload_n 0, 1) := by decide +kernel
theorem dX11_seeps_10 : decode cX11_seeps 10 = .ok (.iconst 3, 1) := by decide +kernel
theorem dX11_seeps_11 : decode cX11_seeps 11 = .ok (.aload_n 0, 1) := by decide +kernel
theorem dX11_seeps_12 : decode cX11_seeps 12 = .ok (.getfield 7, 3) := by decide +kernel
theorem dX11_seeps_15 : decode cX11_seeps 15 = .ok (.iconst 0, 1) := by decide +kernel
theorem dX11_seeps_16 : decode cX11_seeps 16 = .ok (.iaload, 1) := by decide +kernel
theorem dX11_seeps_17 : decode cX11_seeps 17 = .ok (.invokevirtual 92, 3) := by decide +kernel
theorem dX11_seeps_20 : decode cX11_seeps 20 = .ok (.ireturn, 1) := by decide +kernel
theorem dX11_seeps_21 : decode cX11_seeps 21 = .ok (.aload_n 0, 1) := by decide +kernel
theorem dX11_seeps_22 : decode cX11_seeps 22 = .ok (.getfield 7, 3) := by decide +kernel
theorem dX11_seeps_25 : decode cX11_seeps 25 = .ok (.iconst 4, 1) := by decide +kernel
theorem dX11_seeps_26 : decode cX11_seeps 26 = .ok (.iaload, 1) := by decide +kernel
theorem dX11_seeps_27 : decode cX11_seeps 27 = .ok (.istore_n 1, 1) := by decide +kernel
theorem dX11_seeps_28 : decode cX11_seeps 28 = .ok (.aload_n 0, 1) := by decide +kernel
theorem dX11_seeps_29 : decode cX11_seeps 29 = .ok (.getfield 7, 3) := by decide +kernel
theorem dX11_seeps_32 : decode cX11_seeps 32 = .ok (.iconst 1, 1) := by decide +kernel
theorem dX11_seeps_33 : decode cX11_seeps 33 = .ok (.iaload, 1) := by decide +kernel
theorem dX11_seeps_34 : decode cX11_seeps 34 = .ok (.iconst 1, 1) := by decide +kernel
theorem dX11_seeps_35 : decode cX11_seeps 35 = .ok (.isub, 1) := by decide +kernel
theorem dX11_seeps_36 : decode cX11_seeps 36 = .ok (.istore_n 2, 1) := by decide +kernel
theorem dX11_seeps_37 : decode cX11_seeps 37 = .ok (.iload_n 2, 1) := by decide +kernel
theorem dX11_seeps_38 : decode cX11_seeps 38 = .ok (.ifCond .lt 85, 3) := by decide +kernel
theorem dX11_seeps_41 : decode cX11_seeps 41 = .ok (.aload_n 0, 1) := by decide +kernel
theorem dX11_seeps_42 : decode cX11_seeps 42 = .ok (.getfield 7, 3) := by decide +kernel
theorem dX11_seeps_45 : decode cX11_seeps 45 = .ok (.bipush 19, 2) := by decide +kernel
theorem dX11_seeps_47 : decode cX11_seeps 47 = .ok (.iload_n 2, 1) := by decide +kernel
theorem dX11_seeps_48 : decode cX11_seeps 48 = .ok (.iadd, 1) := by decide +kernel
theorem dX11_seeps_49 : decode cX11_seeps 49 = .ok (.iaload, 1) := by decide +kernel
theorem dX11_seeps_50 : decode cX11_seeps 50 = .ok (.istore_n 3, 1) := by decide +kernel
theorem dX11_seeps_51 : decode cX11_seeps 51 = .ok (.aload_n 0, 1) := by decide +kernel
theorem dX11_seeps_52 : decode cX11_seeps 52 = .ok (.getfield 7, 3) := by decide +kernel
theorem dX11_seeps_55 : decode cX11_seeps 55 = .ok (.iconst 5, 1) := by decide +kernel
theorem dX11_seeps_56 : decode cX11_seeps 56 = .ok (.iload_n 3, 1) := by decide +kernel
theorem dX11_seeps_57 : decode cX11_seeps 57 = .ok (.iadd, 1) := by decide +kernel
theorem dX11_seeps_58 : decode cX11_seeps 58 = .ok (.iaload, 1) := by decide +kernel
theorem dX11_seeps_59 : decode cX11_seeps 59 = .ok (.bipush 20, 2) := by decide +kernel
theorem dX11_seeps_61 : decode cX11_seeps 61 = .ok (.isub, 1) := by decide +kernel
theorem dX11_seeps_62 : decode cX11_seeps 62 = .ok (.istore 4, 2) := by decide +kernel
theorem dX11_seeps_64 : decode cX11_seeps 64 = .ok (.iload 4, 2) := by decide +kernel
theorem dX11_seeps_66 : decode cX11_seeps 66 = .ok (.ifCond .gt 6, 3) := by decide +kernel
theorem dX11_seeps_69 : decode cX11_seeps 69 = .ok (.goto 48, 3) := by decide +kernel
theorem dX11_seeps_72 : decode cX11_seeps 72 = .ok (.aload_n 0, 1) := by decide +kernel
theorem dX11_seeps_73 : decode cX11_seeps 73 = .ok (.getfield 7, 3) := by decide +kernel
theorem dX11_seeps_76 : decode cX11_seeps 76 = .ok (.iconst 5, 1) := by decide +kernel
theorem dX11_seeps_77 : decode cX11_seeps 77 = .ok (.iload_n 3, 1) := by decide +kernel
theorem dX11_seeps_78 : decode cX11_seeps 78 = .ok (.iadd, 1) := by decide +kernel
theorem dX11_seeps_79 : decode cX11_seeps 79 = .ok (.bipush 20, 2) := by decide +kernel
theorem dX11_seeps_81 : decode cX11_seeps 81 = .ok (.iastore, 1) := by decide +kernel
theorem dX11_seeps_82 : decode cX11_seeps 82 = .ok (.iload_n 2, 1) := by decide +kernel
theorem dX11_seeps_83 : decode cX11_seeps 83 = .ok (.ifCond .le 23, 3) := by decide +kernel
theorem dX11_seeps_86 : decode cX11_seeps 86 = .ok (.aload_n 0, 1) := by decide +kernel
theorem dX11_seeps_87 : decode cX11_seeps 87 = .ok (.aload_n 0, 1) := by decide +kernel
theorem dX11_seeps_88 : decode cX11_seeps 88 = .ok (.getfield 7, 3) := by decide +kernel
theorem dX11_seeps_91 : decode cX11_seeps 91 = .ok (.bipush 19, 2) := by decide +kernel
theorem dX11_seeps_93 : decode cX11_seeps 93 = .ok (.iload_n 2, 1) := by decide +kernel
theorem dX11_seeps_94 : decode cX11_seeps 94 = .ok (.iadd, 1) := by decide +kernel
theorem dX11_seeps_95 : decode cX11_seeps 95 = .ok (.iconst 1, 1) := by decide +kernel
theorem dX11_seeps_96 : decode cX11_seeps 96 = .ok (.isub, 1) := by decide +kernel
theorem dX11_seeps_97 : decode cX11_seeps 97 = .ok (.iaload, 1) := by decide +kernel
theorem dX11_seeps_98 : decode cX11_seeps 98 = .ok (.iload 4, 2) := by decide +kernel
theorem dX11_seeps_100 : decode cX11_seeps 100 = .ok (.invokevirtual 117, 3) := by decide +kernel
theorem dX11_seeps_103 : decode cX11_seeps 103 = .ok (.goto 14, 3) := by decide +kernel
theorem dX11_seeps_106 : decode cX11_seeps 106 = .ok (.aload_n 0, 1) := by decide +kernel
theorem dX11_seeps_107 : decode cX11_seeps 107 = .ok (.getfield 7, 3) := by decide +kernel
theorem dX11_seeps_110 : decode cX11_seeps 110 = .ok (.iconst 4, 1) := by decide +kernel
theorem dX11_seeps_111 : decode cX11_seeps 111 = .ok (.dup2, 1) := by decide +kernel
theorem dX11_seeps_112 : decode cX11_seeps 112 = .ok (.iaload, 1) := by decide +kernel
theorem dX11_seeps_113 : decode cX11_seeps 113 = .ok (.iload 4, 2) := by decide +kernel
theorem dX11_seeps_115 : decode cX11_seeps 115 = .ok (.iadd, 1) := by decide +kernel
theorem dX11_seeps_116 : decode cX11_seeps 116 = .ok (.iastore, 1) := by decide +kernel
theorem dX11_seeps_117 : decode cX11_seeps 117 = .ok (.iinc 2 (-1), 3) := by decide +kernel
theorem dX11_seeps_120 : decode cX11_seeps 120 = .ok (.goto (-83), 3) := by decide +kernel
theorem dX11_seeps_123 : decode cX11_seeps 123 = .ok (.aload_n 0, 1) := by decide +kernel
theorem dX11_seeps_124 : decode cX11_seeps 124 = .ok (.aload_n 0, 1) := by decide +kernel
theorem dX11_seeps_125 : decode cX11_seeps 125 = .ok (.getfield 7, 3) := by decide +kernel
theorem dX11_seeps_128 : decode cX11_seeps 128 = .ok (.iconst 4, 1) := by decide +kernel
theorem dX11_seeps_129 : decode cX11_seeps 129 = .ok (.iaload, 1) := by decide +kernel
theorem dX11_seeps_130 : decode cX11_seeps 130 = .ok (.iload_n 1, 1) := by decide +kernel
theorem dX11_seeps_131 : decode cX11_seeps 131 = .ok (.isub, 1) := by decide +kernel
theorem dX11_seeps_132 : decode cX11_seeps 132 = .ok (.invokevirtual 95, 3) := by decide +kernel
theorem dX11_seeps_135 : decode cX11_seeps 135 = .ok (.ireturn, 1) := by decide +kernel
def f_X11_seeps_37 (y1 : Int32) : Nat → Int32 → XW → Option (Int32 × XW)
  | 0, _, _ => none
  | n + 1, z2, w => (if z2 < 0 then (bI (f_X11_done ((w.1 142 (Int32.toNatClampNeg 4)) - y1) w) (fun r2 w2 => (some (r2, w2)))) else (if inB (19 + z2) 66 then (if inB (5 + (w.1 142 (Int32.toNatClampNeg (19 + z2)))) 66 then (if 0 < ((w.1 142 (Int32.toNatClampNeg (5 + (w.1 142 (Int32.toNatClampNeg (19 + z2)))))) - 20) then (if inB (5 + (w.1 142 (Int32.toNatClampNeg (19 + z2)))) 66 then (if z2 ≤ 0 then (f_X11_seeps_37 y1 n (z2 + (-1)) (wset (wset w 142 (Int32.toNatClampNeg (5 + (w.1 142 (Int32.toNatClampNeg (19 + z2))))) 20) 142 (Int32.toNatClampNeg 4) (((wset w 142 (Int32.toNatClampNeg (5 + (w.1 142 (Int32.toNatClampNeg (19 + z2))))) 20).1 142 (Int32.toNatClampNeg 4)) + ((w.1 142 (Int32.toNatClampNeg (5 + (w.1 142 (Int32.toNatClampNeg (19 + z2)))))) - 20)))) else (if inB ((19 + z2) - 1) 66 then (bV (f_X11_comes ((wset w 142 (Int32.toNatClampNeg (5 + (w.1 142 (Int32.toNatClampNeg (19 + z2))))) 20).1 142 (Int32.toNatClampNeg ((19 + z2) - 1))) ((w.1 142 (Int32.toNatClampNeg (5 + (w.1 142 (Int32.toNatClampNeg (19 + z2)))))) - 20) (wset w 142 (Int32.toNatClampNeg (5 + (w.1 142 (Int32.toNatClampNeg (19 + z2))))) 20)) (fun w7 => (f_X11_seeps_37 y1 n (z2 + (-1)) w7))) else none)) else none) else (f_X11_seeps_37 y1 n (z2 + (-1)) w)) else none) else none))
set_option maxRecDepth 100000 in
theorem S_X11_seeps_37 {g : GC} (hl : g.1.stackTraces = false) {y1 : Int32} : ∀ (n : Nat) (z2 : Int32) (w : XW), VE g cX11_seeps 5 RX11 (some .int) [] (rmL 4 0 0) 0 0 oI 0 0 37 [(0, .ref (g.2.1 + 141)), (1, .int y1), (2, .int z2)] [] w (f_X11_seeps_37 y1 n z2 w) := by
  intro n
  induction n with
  | zero => intro z2 w; exact v_none
  | succ n ih =>
    intro z2 w
    rw [f_X11_seeps_37]
    refine v_iload_n dX11_seeps_37 rfl 2 rfl ?_
    refine v_if_lt (tgt := 123) dX11_seeps_38 (by decide) ?_ ?_
    · refine v_aload_n dX11_seeps_123 rfl 0 rfl ?_
      refine v_aload_n dX11_seeps_124 rfl 0 rfl ?_
      refine v_getR fl_X11_7 tt_141 rfl dX11_seeps_125 ?_
      refine v_iconst (v := 4) dX11_seeps_128 (by decide) ?_
      refine v_iald tt_142 (by decide : inB 4 66) dX11_seeps_129 ?_
      refine v_iload_n dX11_seeps_130 rfl 1 rfl ?_
      refine v_isub dX11_seeps_131 ?_
      refine v_callVi (As := [.int ((w.1 142 (Int32.toNatClampNeg 4)) - y1)]) cv_X11_95 (S_X11_done hl) tt_141 rfl rfl rfl (Nat.le_of_ble_eq_true rfl) dX11_seeps_132 (CR_rm (by decide) (by decide) (by decide) (by decide)) (fun r2 w2 => ?_)
      exact v_iret dX11_seeps_135 rfl rfl (by decide) (by decide)
    · refine v_aload_n dX11_seeps_41 rfl 0 rfl ?_
      refine v_getR fl_X11_7 tt_141 rfl dX11_seeps_42 ?_
      refine v_bipush (v := 19) dX11_seeps_45 (by decide) ?_
      refine v_iload_n dX11_seeps_47 rfl 2 rfl ?_
      refine v_iadd dX11_seeps_48 ?_
      refine v_guard (fun h3 => ?_)
      refine v_iald tt_142 h3 dX11_seeps_49 ?_
      refine v_istore_n dX11_seeps_50 rfl (Nat.le_of_ble_eq_true rfl) rfl ?_
      refine v_aload_n dX11_seeps_51 rfl 1 rfl ?_
      refine v_getR fl_X11_7 tt_141 rfl dX11_seeps_52 ?_
      refine v_iconst (v := 5) dX11_seeps_55 (by decide) ?_
      refine v_iload_n dX11_seeps_56 rfl 0 rfl ?_
      refine v_iadd dX11_seeps_57 ?_
      refine v_guard (fun h4 => ?_)
      refine v_iald tt_142 h4 dX11_seeps_58 ?_
      refine v_bipush (v := 20) dX11_seeps_59 (by decide) ?_
      refine v_isub dX11_seeps_61 ?_
      refine v_istore dX11_seeps_62 (Nat.le_of_ble_eq_true rfl) rfl ?_
      refine v_iload dX11_seeps_64 0 rfl ?_
      refine v_if_gt (tgt := 72) dX11_seeps_66 (by decide) ?_ ?_
      · refine v_aload_n dX11_seeps_72 rfl 2 rfl ?_
        refine v_getR fl_X11_7 tt_141 rfl dX11_seeps_73 ?_
        refine v_iconst (v := 5) dX11_seeps_76 (by decide) ?_
        refine v_iload_n dX11_seeps_77 rfl 1 rfl ?_
        refine v_iadd dX11_seeps_78 ?_
        refine v_bipush (v := 20) dX11_seeps_79 (by decide) ?_
        refine v_guard (fun h5 => ?_)
        refine v_iast tt_142 h5 dX11_seeps_81 ?_
        refine v_iload_n dX11_seeps_82 rfl 4 rfl ?_
        refine v_if_le (tgt := 106) dX11_seeps_83 (by decide) ?_ ?_
        · refine v_aload_n dX11_seeps_106 rfl 2 rfl ?_
          refine v_getR fl_X11_7 tt_141 rfl dX11_seeps_107 ?_
          refine v_iconst (v := 4) dX11_seeps_110 (by decide) ?_
          refine v_dup2 dX11_seeps_111 rfl rfl ?_
          refine v_iald tt_142 (by decide : inB 4 66) dX11_seeps_112 ?_
          refine v_iload dX11_seeps_113 0 rfl ?_
          refine v_iadd dX11_seeps_115 ?_
          refine v_iast tt_142 (by decide : inB 4 66) dX11_seeps_116 ?_
          refine v_iinc (v := (z2 + (-1))) dX11_seeps_117 (q := 4) rfl rfl (Nat.le_of_ble_eq_true rfl) rfl ?_
          refine v_goto (tgt := 37) dX11_seeps_120 (by decide) ?_
          refine v_sub [3, 4, 0] rfl ?_
          exact ih _ _
        · refine v_aload_n dX11_seeps_86 rfl 2 rfl ?_
          refine v_aload_n dX11_seeps_87 rfl 2 rfl ?_
          refine v_getR fl_X11_7 tt_141 rfl dX11_seeps_88 ?_
          refine v_bipush (v := 19) dX11_seeps_91 (by decide) ?_
          refine v_iload_n dX11_seeps_93 rfl 4 rfl ?_
          refine v_iadd dX11_seeps_94 ?_
          refine v_iconst (v := 1) dX11_seeps_95 (by decide) ?_
          refine v_isub dX11_seeps_96 ?_
          refine v_guard (fun h6 => ?_)
          refine v_iald tt_142 h6 dX11_seeps_97 ?_
          refine v_iload dX11_seeps_98 0 rfl ?_
          refine v_callVv (As := [.int ((wset w 142 (Int32.toNatClampNeg (5 + (w.1 142 (Int32.toNatClampNeg (19 + z2))))) 20).1 142 (Int32.toNatClampNeg ((19 + z2) - 1))), .int ((w.1 142 (Int32.toNatClampNeg (5 + (w.1 142 (Int32.toNatClampNeg (19 + z2)))))) - 20)]) cv_X11_117 (S_X11_comes hl) tt_141 rfl rfl rfl (Nat.le_of_ble_eq_true rfl) dX11_seeps_100 (CR_rm (by decide) (by decide) (by decide) (by decide)) (fun w7 => ?_)
          refine v_goto (tgt := 117) dX11_seeps_103 (by decide) ?_
          refine v_iinc (v := (z2 + (-1))) dX11_seeps_117 (q := 4) rfl rfl (Nat.le_of_ble_eq_true rfl) rfl ?_
          refine v_goto (tgt := 37) dX11_seeps_120 (by decide) ?_
          refine v_sub [3, 4, 0] rfl ?_
          exact ih _ _
      · refine v_goto (tgt := 117) dX11_seeps_69 (by decide) ?_
        refine v_iinc (v := (z2 + (-1))) dX11_seeps_117 (q := 4) rfl rfl (Nat.le_of_ble_eq_true rfl) rfl ?_
        refine v_goto (tgt := 37) dX11_seeps_120 (by decide) ?_
        refine v_sub [3, 4, 0] rfl ?_
        exact ih _ _
def f_X11_seeps (w : XW) : Option (Int32 × XW) := (if (w.1 142 (Int32.toNatClampNeg 1)) = 0 then (bI (f_X11_denied 3 (w.1 142 (Int32.toNatClampNeg 0)) w) (fun r1 w1 => (some (r1, w1)))) else (f_X11_seeps_37 (w.1 142 (Int32.toNatClampNeg 4)) 1000 ((w.1 142 (Int32.toNatClampNeg 1)) - 1) w))
set_option maxRecDepth 100000 in
theorem W_X11_seeps {g : GC} (hl : g.1.stackTraces = false) {w : XW} : VE g cX11_seeps 5 RX11 (some .int) [] (rmL 4 0 0) 0 0 oI 0 0 0 [(0, .ref (g.2.1 + 141))] [] w (f_X11_seeps  w) := by
  unfold f_X11_seeps
  refine v_aload_n dX11_seeps_0 rfl 0 rfl ?_
  refine v_getR fl_X11_7 tt_141 rfl dX11_seeps_1 ?_
  refine v_iconst (v := 1) dX11_seeps_4 (by decide) ?_
  refine v_iald tt_142 (by decide : inB 1 66) dX11_seeps_5 ?_
  refine v_if_ne (tgt := 21) dX11_seeps_6 (by decide) ?_ ?_
  · refine v_aload_n dX11_seeps_21 rfl 0 rfl ?_
    refine v_getR fl_X11_7 tt_141 rfl dX11_seeps_22 ?_
    refine v_iconst (v := 4) dX11_seeps_25 (by decide) ?_
    refine v_iald tt_142 (by decide : inB 4 66) dX11_seeps_26 ?_
    refine v_istore_n dX11_seeps_27 rfl (Nat.le_of_ble_eq_true rfl) rfl ?_
    refine v_aload_n dX11_seeps_28 rfl 1 rfl ?_
    refine v_getR fl_X11_7 tt_141 rfl dX11_seeps_29 ?_
    refine v_iconst (v := 1) dX11_seeps_32 (by decide) ?_
    refine v_iald tt_142 (by decide : inB 1 66) dX11_seeps_33 ?_
    refine v_iconst (v := 1) dX11_seeps_34 (by decide) ?_
    refine v_isub dX11_seeps_35 ?_
    refine v_istore_n dX11_seeps_36 rfl (Nat.le_of_ble_eq_true rfl) rfl ?_
    refine v_sub [2, 1, 0] rfl ?_
    exact S_X11_seeps_37 hl  _ _ _
  · refine v_aload_n dX11_seeps_9 rfl 0 rfl ?_
    refine v_iconst (v := 3) dX11_seeps_10 (by decide) ?_
    refine v_aload_n dX11_seeps_11 rfl 0 rfl ?_
    refine v_getR fl_X11_7 tt_141 rfl dX11_seeps_12 ?_
    refine v_iconst (v := 0) dX11_seeps_15 (by decide) ?_
    refine v_iald tt_142 (by decide : inB 0 66) dX11_seeps_16 ?_
    refine v_callVi (As := [.int 3, .int (w.1 142 (Int32.toNatClampNeg 0))]) cv_X11_92 (S_X11_denied hl) tt_141 rfl rfl rfl (Nat.le_of_ble_eq_true rfl) dX11_seeps_17 (CR_rm (by decide) (by decide) (by decide) (by decide)) (fun r1 w1 => ?_)
    exact v_iret dX11_seeps_20 rfl rfl (by decide) (by decide)
theorem S_X11_seeps {g : GC} (hl : g.1.stackTraces = false) {w : XW} : ∀ q, f_X11_seeps  w = some q → MM g (.code yX11_seeps cX11_seeps 5 (some .int)) yX11_seeps (rmL 4 0 0) 0 0 [.ref (g.2.1 + 141)] w (oI q) := fun q hq => MM_of (own := RX11) hl (by decide) gw_1775 rfl (Nat.le_of_ble_eq_true rfl) (W_X11_seeps hl q hq) ⟨rfl, rfl⟩

theorem dX11_addSection_0 : decode cX11_addSection 0 = .ok (.aload_n 0, 1) := by decide +kernel
theorem dX11_addSection_1 : decode cX11_addSection 1 = .ok (.invokevirtual 121, 3) := by decide +kernel
theorem dX11_addSection_4 : decode cX11_addSection 4 = .ok (.aload_n 0, 1) := by decide +kernel
theorem dX11_addSection_5 : decode cX11_addSection 5 = .ok (.aload_n 0, 1) := by decide +kernel
theorem dX11_addSection_6 : decode cX11_addSection 6 = .ok (.invokevirtual 124, 3) := by decide +kernel
theorem dX11_addSection_9 : decode cX11_addSection 9 = .ok (.iconst 1, 1) := by decide +kernel
theorem dX11_addSection_10 : decode cX11_addSection 10 = .ok (.invokevirtual 127, 3) := by decide +kernel
theorem dX11_addSection_13 : decode cX11_addSection 13 = .ok (.ireturn, 1) := by decide +kernel
def f_X11_addSection (w : XW) : Option (Int32 × XW) := (bV (f_X11_remembers w) (fun w1 => (bI (f_X11_adds w1) (fun r2 w2 => (bI (f_X11_ends r2 1 w2) (fun r3 w3 => (some (r3, w3))))))))
set_option maxRecDepth 100000 in
theorem W_X11_addSection {g : GC} (hl : g.1.stackTraces = false) {w : XW} : VE g cX11_addSection 1 RX11 (some .int) [] (rmL 5 0 0) 0 0 oI 0 0 0 [(0, .ref (g.2.1 + 141))] [] w (f_X11_addSection  w) := by
  unfold f_X11_addSection
  refine v_aload_n dX11_addSection_0 rfl 0 rfl ?_
  refine v_callVv (As := []) cv_X11_121 (S_X11_remembers hl) tt_141 rfl rfl rfl (Nat.le_of_ble_eq_true rfl) dX11_addSection_1 (CR_rm (by decide) (by decide) (by decide) (by decide)) (fun w1 => ?_)
  refine v_aload_n dX11_addSection_4 rfl 0 rfl ?_
  refine v_aload_n dX11_addSection_5 rfl 0 rfl ?_
  refine v_callVi (As := []) cv_X11_124 (S_X11_adds hl) tt_141 rfl rfl rfl (Nat.le_of_ble_eq_true rfl) dX11_addSection_6 (CR_rm (by decide) (by decide) (by decide) (by decide)) (fun r2 w2 => ?_)
  refine v_iconst (v := 1) dX11_addSection_9 (by decide) ?_
  refine v_callVi (As := [.int r2, .int 1]) cv_X11_127 (S_X11_ends hl) tt_141 rfl rfl rfl (Nat.le_of_ble_eq_true rfl) dX11_addSection_10 (CR_rm (by decide) (by decide) (by decide) (by decide)) (fun r3 w3 => ?_)
  exact v_iret dX11_addSection_13 rfl rfl (by decide) (by decide)
theorem S_X11_addSection {g : GC} (hl : g.1.stackTraces = false) {w : XW} : ∀ q, f_X11_addSection  w = some q → MM g (.code yX11_addSection cX11_addSection 1 (some .int)) yX11_addSection (rmL 5 0 0) 0 0 [.ref (g.2.1 + 141)] w (oI q) := fun q hq => MM_of (own := RX11) hl (by decide) gw_1523 rfl (Nat.le_of_ble_eq_true rfl) (W_X11_addSection hl q hq) ⟨rfl, rfl⟩
