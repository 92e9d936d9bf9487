theorem dX11_pour_0 : decode cX11_pour 0 = .ok (.aload_n 0, 1) := by decide +kernel
theorem dX11_pour_1 : decode cX11_pour 1 = .ok (.invokevirtual 121, 3) := by decide +kernel
theorem dX11_pour_4 : decode cX11_pour 4 = .ok (.aload_n 0, 1) := by decide +kernel
theorem dX11_pour_5 : decode cX11_pour 5 = .ok (.aload_n 0, 1) := by decide +kernel
theorem dX11_pour_6 : decode cX11_pour 6 = .ok (.iload_n 1, 1) := by decide +kernel
theorem dX11_pour_7 : decode cX11_pour 7 = .ok (.iload_n 2, 1) := by decide +kernel
theorem dX11_pour_8 : decode cX11_pour 8 = .ok (.invokevirtual 130, 3) := by decide +kernel
theorem dX11_pour_11 : decode cX11_pour 11 = .ok (.iconst 3, 1) := by decide +kernel
theorem dX11_pour_12 : decode cX11_pour 12 = .ok (.invokevirtual 127, 3) := by decide +kernel
theorem dX11_pour_15 : decode cX11_pour 15 = .ok (.ireturn, 1) := by decide +kernel
def f_X11_pour (x1 : Int32) (x2 : Int32) (w : XW) : Option (Int32 × XW) := (bV (f_X11_remembers w) (fun w1 => (bI (f_X11_pours x1 x2 w1) (fun r2 w2 => (bI (f_X11_ends r2 3 w2) (fun r3 w3 => (some (r3, w3))))))))
set_option maxRecDepth 100000 in
theorem W_X11_pour {g : GC} (hl : g.1.stackTraces = false) {x1 : Int32} {x2 : Int32} {w : XW} : VE g cX11_pour 3 RX11 (some .int) [] (rmL 6 0 0) 0 0 oI 0 0 0 [(0, .ref (g.2.1 + 141)), (1, .int x1), (2, .int x2)] [] w (f_X11_pour x1 x2 w) := by
  unfold f_X11_pour
  refine v_aload_n dX11_pour_0 rfl 0 rfl ?_
  refine v_callVv (As := []) cv_X11_121 (S_X11_remembers hl) tt_141 rfl rfl rfl (Nat.le_of_ble_eq_true rfl) dX11_pour_1 (CR_rm (by decide) (by decide) (by decide) (by decide)) (fun w1 => ?_)
  refine v_aload_n dX11_pour_4 rfl 0 rfl ?_
  refine v_aload_n dX11_pour_5 rfl 0 rfl ?_
  refine v_iload_n dX11_pour_6 rfl 1 rfl ?_
  refine v_iload_n dX11_pour_7 rfl 2 rfl ?_
  refine v_callVi (As := [.int x1, .int x2]) cv_X11_130 (S_X11_pours hl) tt_141 rfl rfl rfl (Nat.le_of_ble_eq_true rfl) dX11_pour_8 (CR_rm (by decide) (by decide) (by decide) (by decide)) (fun r2 w2 => ?_)
  refine v_iconst (v := 3) dX11_pour_11 (by decide) ?_
  refine v_callVi (As := [.int r2, .int 3]) cv_X11_127 (S_X11_ends hl) tt_141 rfl rfl rfl (Nat.le_of_ble_eq_true rfl) dX11_pour_12 (CR_rm (by decide) (by decide) (by decide) (by decide)) (fun r3 w3 => ?_)
  exact v_iret dX11_pour_15 rfl rfl (by decide) (by decide)
theorem S_X11_pour {g : GC} (hl : g.1.stackTraces = false) {x1 : Int32} {x2 : Int32} {w : XW} : ∀ q, f_X11_pour x1 x2 w = some q → MM g (.code yX11_pour cX11_pour 3 (some .int)) yX11_pour (rmL 6 0 0) 0 0 [.ref (g.2.1 + 141), .int x1, .int x2] w (oI q) := fun q hq => MM_of (own := RX11) hl (by decide) gw_1555 rfl (Nat.le_of_ble_eq_true rfl) (W_X11_pour hl q hq) ⟨rfl, rfl⟩

theorem dX11_tag_0 : decode cX11_tag 0 = .ok (.aload_n 0, 1) := by decide +kernel
theorem dX11_tag_1 : decode cX11_tag 1 = .ok (.invokevirtual 121, 3) := by decide +kernel
theorem dX11_tag_4 : decode cX11_tag 4 = .ok (.aload_n 0, 1) := by decide +kernel
theorem dX11_tag_5 : decode cX11_tag 5 = .ok (.aload_n 0, 1) := by decide +kernel
theorem dX11_tag_6 : decode cX11_tag 6 = .ok (.iload_n 1, 1) := by decide +kernel
theorem dX11_tag_7 : decode cX11_tag 7 = .ok (.iload_n 2, 1) := by decide +kernel
theorem dX11_tag_8 : decode cX11_tag 8 = .ok (.iconst 1, 1) := by decide +kernel
theorem dX11_tag_9 : decode cX11_tag 9 = .ok (.invokevirtual 133, 3) := by decide +kernel
theorem dX11_tag_12 : decode cX11_tag 12 = .ok (.iconst 3, 1) := by decide +kernel
theorem dX11_tag_13 : decode cX11_tag 13 = .ok (.invokevirtual 127, 3) := by decide +kernel
theorem dX11_tag_16 : decode cX11_tag 16 = .ok (.ireturn, 1) := by decide +kernel
def f_X11_tag (x1 : Int32) (x2 : Int32) (w : XW) : Option (Int32 × XW) := (bV (f_X11_remembers w) (fun w1 => (bI (f_X11_tags x1 x2 1 w1) (fun r2 w2 => (bI (f_X11_ends r2 3 w2) (fun r3 w3 => (some (r3, w3))))))))
set_option maxRecDepth 100000 in
theorem W_X11_tag {g : GC} (hl : g.1.stackTraces = false) {x1 : Int32} {x2 : Int32} {w : XW} : VE g cX11_tag 3 RX11 (some .int) [] (rmL 6 0 0) 0 0 oI 0 0 0 [(0, .ref (g.2.1 + 141)), (1, .int x1), (2, .int x2)] [] w (f_X11_tag x1 x2 w) := by
  unfold f_X11_tag
  refine v_aload_n dX11_tag_0 rfl 0 rfl ?_
  refine v_callVv (As := []) cv_X11_121 (S_X11_remembers hl) tt_141 rfl rfl rfl (Nat.le_of_ble_eq_true rfl) dX11_tag_1 (CR_rm (by decide) (by decide) (by decide) (by decide)) (fun w1 => ?_)
  refine v_aload_n dX11_tag_4 rfl 0 rfl ?_
  refine v_aload_n dX11_tag_5 rfl 0 rfl ?_
  refine v_iload_n dX11_tag_6 rfl 1 rfl ?_
  refine v_iload_n dX11_tag_7 rfl 2 rfl ?_
  refine v_iconst (v := 1) dX11_tag_8 (by decide) ?_
  refine v_callVi (As := [.int x1, .int x2, .int 1]) cv_X11_133 (S_X11_tags hl) tt_141 rfl rfl rfl (Nat.le_of_ble_eq_true rfl) dX11_tag_9 (CR_rm (by decide) (by decide) (by decide) (by decide)) (fun r2 w2 => ?_)
  refine v_iconst (v := 3) dX11_tag_12 (by decide) ?_
  refine v_callVi (As := [.int r2, .int 3]) cv_X11_127 (S_X11_ends hl) tt_141 rfl rfl rfl (Nat.le_of_ble_eq_true rfl) dX11_tag_13 (CR_rm (by decide) (by decide) (by decide) (by decide)) (fun r3 w3 => ?_)
  exact v_iret dX11_tag_16 rfl rfl (by decide) (by decide)
theorem S_X11_tag {g : GC} (hl : g.1.stackTraces = false) {x1 : Int32} {x2 : Int32} {w : XW} : ∀ q, f_X11_tag x1 x2 w = some q → MM g (.code yX11_tag cX11_tag 3 (some .int)) yX11_tag (rmL 6 0 0) 0 0 [.ref (g.2.1 + 141), .int x1, .int x2] w (oI q) := fun q hq => MM_of (own := RX11) hl (by decide) gw_1570 rfl (Nat.le_of_ble_eq_true rfl) (W_X11_tag hl q hq) ⟨rfl, rfl⟩

theorem dX11_untag_0 : decode cX11_untag 0 = .ok (.aload_n 0, 1) := by decide +kernel
theorem dX11_untag_1 : decode cX11_untag 1 = .ok (.invokevirtual 121, 3) := by decide +kernel
theorem dX11_untag_4 : decode cX11_untag 4 = .ok (.aload_n 0, 1) := by decide +kernel
theorem dX11_untag_5 : decode cX11_untag 5 = .ok (.aload_n 0, 1) := by decide +kernel
theorem dX11_untag_6 : decode cX11_untag 6 = .ok (.iload_n 1, 1) := by decide +kernel
theorem dX11_untag_7 : decode cX11_untag 7 = .ok (.iload_n 2, 1) := by decide +kernel
theorem dX11_untag_8 : decode cX11_untag 8 = .ok (.iconst 0, 1) := by decide +kernel
theorem dX11_untag_9 : decode cX11_untag 9 = .ok (.invokevirtual 133, 3) := by decide +kernel
theorem dX11_untag_12 : decode cX11_untag 12 = .ok (.iconst 3, 1) := by decide +kernel
theorem dX11_untag_13 : decode cX11_untag 13 = .ok (.invokevirtual 127, 3) := by decide +kernel
theorem dX11_untag_16 : decode cX11_untag 16 = .ok (.ireturn, 1) := by decide +kernel
def f_X11_untag (x1 : Int32) (x2 : Int32) (w : XW) : Option (Int32 × XW) := (bV (f_X11_remembers w) (fun w1 => (bI (f_X11_tags x1 x2 0 w1) (fun r2 w2 => (bI (f_X11_ends r2 3 w2) (fun r3 w3 => (some (r3, w3))))))))
set_option maxRecDepth 100000 in
theorem W_X11_untag {g : GC} (hl : g.1.stackTraces = false) {x1 : Int32} {x2 : Int32} {w : XW} : VE g cX11_untag 3 RX11 (some .int) [] (rmL 6 0 0) 0 0 oI 0 0 0 [(0, .ref (g.2.1 + 141)), (1, .int x1), (2, .int x2)] [] w (f_X11_untag x1 x2 w) := by
  unfold f_X11_untag
  refine v_aload_n dX11_untag_0 rfl 0 rfl ?_
  refine v_callVv (As := []) cv_X11_121 (S_X11_remembers hl) tt_141 rfl rfl rfl (Nat.le_of_ble_eq_true rfl) dX11_untag_1 (CR_rm (by decide) (by decide) (by decide) (by decide)) (fun w1 => ?_)
  refine v_aload_n dX11_untag_4 rfl 0 rfl ?_
  refine v_aload_n dX11_untag_5 rfl 0 rfl ?_
  refine v_iload_n dX11_untag_6 rfl 1 rfl ?_
  refine v_iload_n dX11_untag_7 rfl 2 rfl ?_
  refine v_iconst (v := 0) dX11_untag_8 (by decide) ?_
  refine v_callVi (As := [.int x1, .int x2, .int 0]) cv_X11_133 (S_X11_tags hl) tt_141 rfl rfl rfl (Nat.le_of_ble_eq_true rfl) dX11_untag_9 (CR_rm (by decide) (by decide) (by decide) (by decide)) (fun r2 w2 => ?_)
  refine v_iconst (v := 3) dX11_untag_12 (by decide) ?_
  refine v_callVi (As := [.int r2, .int 3]) cv_X11_127 (S_X11_ends hl) tt_141 rfl rfl rfl (Nat.le_of_ble_eq_true rfl) dX11_untag_13 (CR_rm (by decide) (by decide) (by decide) (by decide)) (fun r3 w3 => ?_)
  exact v_iret dX11_untag_16 rfl rfl (by decide) (by decide)
theorem S_X11_untag {g : GC} (hl : g.1.stackTraces = false) {x1 : Int32} {x2 : Int32} {w : XW} : ∀ q, f_X11_untag x1 x2 w = some q → MM g (.code yX11_untag cX11_untag 3 (some .int)) yX11_untag (rmL 6 0 0) 0 0 [.ref (g.2.1 + 141), .int x1, .int x2] w (oI q) := fun q hq => MM_of (own := RX11) hl (by decide) gw_1589 rfl (Nat.le_of_ble_eq_true rfl) (W_X11_untag hl q hq) ⟨rfl, rfl⟩

theorem dX11_sectionCount_0 : decode cX11_sectionCount 0 = .ok (.aload_n 0, 1) := by decide +kernel
theorem dX11_sectionCount_1 : decode cX11_sectionCount 1 = .ok (.iconst 0, 1) := by decide +kernel
theorem dX11_sectionCount_2 : decode cX11_sectionCount 2 = .ok (.putfield 38, 3) := by decide +kernel
theorem dX11_sectionCount_5 : decode cX11_sectionCount 5 = .ok (.aload_n 0, 1) := by decide +kernel
theorem dX11_sectionCount_6 : decode cX11_sectionCount 6 = .ok (.getfield 7, 3) := by decide +kernel
theorem dX11_sectionCount_9 : decode cX11_sectionCount 9 = .ok (.iconst 0, 1) := by decide +kernel
theorem dX11_sectionCount_10 : decode cX11_sectionCount 10 = .ok (.iaload, 1) := by decide +kernel
theorem dX11_sectionCount_11 : decode cX11_sectionCount 11 = .ok (.ireturn, 1) := by decide +kernel
def f_X11_sectionCount (w : XW) : Option (Int32 × XW) := (some (((wset w 141 0 0).1 142 (Int32.toNatClampNeg 0)), (wset w 141 0 0)))
set_option maxRecDepth 100000 in
theorem W_X11_sectionCount {g : GC} (hl : g.1.stackTraces = false) {w : XW} : VE g cX11_sectionCount 1 RX11 (some .int) [] (rmL 3 0 0) 0 0 oI 0 0 0 [(0, .ref (g.2.1 + 141))] [] w (f_X11_sectionCount  w) := by
  unfold f_X11_sectionCount
  refine v_aload_n dX11_sectionCount_0 rfl 0 rfl ?_
  refine v_iconst (v := 0) dX11_sectionCount_1 (by decide) ?_
  refine v_putI fl_X11_38 tt_141 rfl (ty0 := .int) rfl rfl rfl dX11_sectionCount_2 ?_
  refine v_aload_n dX11_sectionCount_5 rfl 0 rfl ?_
  refine v_getR fl_X11_7 tt_141 rfl dX11_sectionCount_6 ?_
  refine v_iconst (v := 0) dX11_sectionCount_9 (by decide) ?_
  refine v_iald tt_142 (by decide : inB 0 66) dX11_sectionCount_10 ?_
  exact v_iret dX11_sectionCount_11 rfl rfl (by decide) (by decide)
theorem S_X11_sectionCount {g : GC} (hl : g.1.stackTraces = false) {w : XW} : ∀ q, f_X11_sectionCount  w = some q → MM g (.code yX11_sectionCount cX11_sectionCount 1 (some .int)) yX11_sectionCount (rmL 3 0 0) 0 0 [.ref (g.2.1 + 141)] w (oI q) := fun q hq => MM_of (own := RX11) hl (by decide) gw_1593 rfl (Nat.le_of_ble_eq_true rfl) (W_X11_sectionCount hl q hq) ⟨rfl, rfl⟩

theorem dX11_water_0 : decode cX11_water 0 = .ok (.aload_n 0, 1) := by decide +kernel
theorem dX11_water_1 : decode cX11_water 1 = .ok (.aload_n 0, 1) := by decide +kernel
theorem dX11_water_2 : decode cX11_water 2 = .ok (.iload_n 1, 1) := by decide +kernel
theorem dX11_water_3 : decode cX11_water 3 = .ok (.invokevirtual 98, 3) := by decide +kernel
theorem dX11_water_6 : decode cX11_water 6 = .ok (.ifCond .eq 7, 3) := by decide +kernel
theorem dX11_water_9 : decode cX11_water 9 = .ok (.iconst 0, 1) := by decide +kernel
theorem dX11_water_10 : decode cX11_water 10 = .ok (.goto 4, 3) := by decide +kernel
theorem dX11_water_13 : decode cX11_water 13 = .ok (.iconst 1, 1) := by decide +kernel
theorem dX11_water_14 : decode cX11_water 14 = .ok (.putfield 38, 3) := by decide +kernel
theorem dX11_water_17 : decode cX11_water 17 = .ok (.aload_n 0, 1) := by decide +kernel
theorem dX11_water_18 : decode cX11_water 18 = .ok (.getfield 38, 3) := by decide +kernel
theorem dX11_water_21 : decode cX11_water 21 = .ok (.ifCond .le 7, 3) := by decide +kernel
theorem dX11_water_24 : decode cX11_water 24 = .ok (.iconst 0, 1) := by decide +kernel
theorem dX11_water_25 : decode cX11_water 25 = .ok (.goto 11, 3) := by decide +kernel
theorem dX11_water_28 : decode cX11_water 28 = .ok (.aload_n 0, 1) := by decide +kernel
theorem dX11_water_29 : decode cX11_water 29 = .ok (.getfield 7, 3) := by decide +kernel
theorem dX11_water_32 : decode cX11_water 32 = .ok (.iconst 5, 1) := by decide +kernel
theorem dX11_water_33 : decode cX11_water 33 = .ok (.iload_n 1, 1) := by decide +kernel
theorem dX11_water_34 : decode cX11_water 34 = .ok (.iadd, 1) := by decide +kernel
theorem dX11_water_35 : decode cX11_water 35 = .ok (.iaload, 1) := by decide +kernel
theorem dX11_water_36 : decode cX11_water 36 = .ok (.ireturn, 1) := by decide +kernel
def f_X11_water (x1 : Int32) (w : XW) : Option (Int32 × XW) := (bI (f_X11_isSection x1 w) (fun r1 w1 => (if r1 = 0 then (if ((wset w1 141 0 1).1 141 0) ≤ 0 then (if inB (5 + x1) 66 then (some (((wset w1 141 0 1).1 142 (Int32.toNatClampNeg (5 + x1))), (wset w1 141 0 1))) else none) else (some (0, (wset w1 141 0 1)))) else (if ((wset w1 141 0 0).1 141 0) ≤ 0 then (if inB (5 + x1) 66 then (some (((wset w1 141 0 0).1 142 (Int32.toNatClampNeg (5 + x1))), (wset w1 141 0 0))) else none) else (some (0, (wset w1 141 0 0)))))))
set_option maxRecDepth 100000 in
theorem W_X11_water {g : GC} (hl : g.1.stackTraces = false) {x1 : Int32} {w : XW} : VE g cX11_water 2 RX11 (some .int) [] (rmL 5 0 0) 0 0 oI 0 0 0 [(0, .ref (g.2.1 + 141)), (1, .int x1)] [] w (f_X11_water x1 w) := by
  unfold f_X11_water
  refine v_aload_n dX11_water_0 rfl 0 rfl ?_
  refine v_aload_n dX11_water_1 rfl 0 rfl ?_
  refine v_iload_n dX11_water_2 rfl 1 rfl ?_
  refine v_callVi (As := [.int x1]) cv_X11_98 (S_X11_isSection hl) tt_141 rfl rfl rfl (Nat.le_of_ble_eq_true rfl) dX11_water_3 (CR_rm (by decide) (by decide) (by decide) (by decide)) (fun r1 w1 => ?_)
  refine v_if_eq (tgt := 13) dX11_water_6 (by decide) ?_ ?_
  · refine v_iconst (v := 1) dX11_water_13 (by decide) ?_
    refine v_putI fl_X11_38 tt_141 rfl (ty0 := .int) rfl rfl rfl dX11_water_14 ?_
    refine v_aload_n dX11_water_17 rfl 0 rfl ?_
    refine v_getI fl_X11_38 tt_141 rfl dX11_water_18 ?_
    refine v_if_le (tgt := 28) dX11_water_21 (by decide) ?_ ?_
    · refine v_aload_n dX11_water_28 rfl 0 rfl ?_
      refine v_getR fl_X11_7 tt_141 rfl dX11_water_29 ?_
      refine v_iconst (v := 5) dX11_water_32 (by decide) ?_
      refine v_iload_n dX11_water_33 rfl 1 rfl ?_
      refine v_iadd dX11_water_34 ?_
      refine v_guard (fun h2 => ?_)
      refine v_iald tt_142 h2 dX11_water_35 ?_
      exact v_iret dX11_water_36 rfl rfl (by decide) (by decide)
    · refine v_iconst (v := 0) dX11_water_24 (by decide) ?_
      refine v_goto (tgt := 36) dX11_water_25 (by decide) ?_
      exact v_iret dX11_water_36 rfl rfl (by decide) (by decide)
  · refine v_iconst (v := 0) dX11_water_9 (by decide) ?_
    refine v_goto (tgt := 14) dX11_water_10 (by decide) ?_
    refine v_putI fl_X11_38 tt_141 rfl (ty0 := .int) rfl rfl rfl dX11_water_14 ?_
    refine v_aload_n dX11_water_17 rfl 0 rfl ?_
    refine v_getI fl_X11_38 tt_141 rfl dX11_water_18 ?_
    refine v_if_le (tgt := 28) dX11_water_21 (by decide) ?_ ?_
    · refine v_aload_n dX11_water_28 rfl 0 rfl ?_
      refine v_getR fl_X11_7 tt_141 rfl dX11_water_29 ?_
      refine v_iconst (v := 5) dX11_water_32 (by decide) ?_
      refine v_iload_n dX11_water_33 rfl 1 rfl ?_
      refine v_iadd dX11_water_34 ?_
      refine v_guard (fun h3 => ?_)
      refine v_iald tt_142 h3 dX11_water_35 ?_
      exact v_iret dX11_water_36 rfl rfl (by decide) (by decide)
    · refine v_iconst (v := 0) dX11_water_24 (by decide) ?_
      refine v_goto (tgt := 36) dX11_water_25 (by decide) ?_
      exact v_iret dX11_water_36 rfl rfl (by decide) (by decide)
theorem S_X11_water {g : GC} (hl : g.1.stackTraces = false) {x1 : Int32} {w : XW} : ∀ q, f_X11_water x1 w = some q → MM g (.code yX11_water cX11_water 2 (some .int)) yX11_water (rmL 5 0 0) 0 0 [.ref (g.2.1 + 141), .int x1] w (oI q) := fun q hq => MM_of (own := RX11) hl (by decide) gw_1597 rfl (Nat.le_of_ble_eq_true rfl) (W_X11_water hl q hq) ⟨rfl, rfl⟩

theorem dX11_hasTerm_0 : decode cX11_hasTerm 0 = .ok (.aload_n 0, 1) := by decide +kernel
theorem dX11_hasTerm_1 : decode cX11_hasTerm 1 = .ok (.aload_n 0, 1) := by decide +kernel
theorem dX11_hasTerm_2 : decode cX11_hasTerm 2 = .ok (.iload_n 1, 1) := by decide +kernel
theorem dX11_hasTerm_3 : decode cX11_hasTerm 3 = .ok (.invokevirtual 98, 3) := by decide +kernel
theorem dX11_hasTerm_6 : decode cX11_hasTerm 6 = .ok (.ifCond .ne 7, 3) := by decide +kernel
theorem dX11_hasTerm_9 : decode cX11_hasTerm 9 = .ok (.iconst 1, 1) := by decide +kernel
theorem dX11_hasTerm_10 : decode cX11_hasTerm 10 = .ok (.goto 15, 3) := by decide +kernel
theorem dX11_hasTerm_13 : decode cX11_hasTerm 13 = .ok (.iload_n 2, 1) := by decide +kernel
theorem dX11_hasTerm_14 : decode cX11_hasTerm 14 = .ok (.invokestatic 102, 3) := by decide +kernel
theorem dX11_hasTerm_17 : decode cX11_hasTerm 17 = .ok (.ifCond .eq 7, 3) := by decide +kernel
theorem dX11_hasTerm_20 : decode cX11_hasTerm 20 = .ok (.iconst 0, 1) := by decide +kernel
theorem dX11_hasTerm_21 : decode cX11_hasTerm 21 = .ok (.goto 4, 3) := by decide +kernel
theorem dX11_hasTerm_24 : decode cX11_hasTerm 24 = .ok (.iconst 2, 1) := by decide +kernel
theorem dX11_hasTerm_25 : decode cX11_hasTerm 25 = .ok (.putfield 38, 3) := by decide +kernel
theorem dX11_hasTerm_28 : decode cX11_hasTerm 28 = .ok (.aload_n 0, 1) := by decide +kernel
theorem dX11_hasTerm_29 : decode cX11_hasTerm 29 = .ok (.getfield 38, 3) := by decide +kernel
theorem dX11_hasTerm_32 : decode cX11_hasTerm 32 = .ok (.ifCond .ne 16, 3) := by decide +kernel
theorem dX11_hasTerm_35 : decode cX11_hasTerm 35 = .ok (.aload_n 0, 1) := by decide +kernel
theorem dX11_hasTerm_36 : decode cX11_hasTerm 36 = .ok (.iload_n 1, 1) := by decide +kernel
theorem dX11_hasTerm_37 : decode cX11_hasTerm 37 = .ok (.iload_n 2, 1) := by decide +kernel
theorem dX11_hasTerm_38 : decode cX11_hasTerm 38 = .ok (.invokevirtual 67, 3) := by decide +kernel
theorem dX11_hasTerm_41 : decode cX11_hasTerm 41 = .ok (.ifCond .eq 7, 3) := by decide +kernel
theorem dX11_hasTerm_44 : decode cX11_hasTerm 44 = .ok (.iconst 1, 1) := by decide +kernel
theorem dX11_hasTerm_45 : decode cX11_hasTerm 45 = .ok (.goto 4, 3) := by decide +kernel
theorem dX11_hasTerm_48 : decode cX11_hasTerm 48 = .ok (.iconst 0, 1) := by decide +kernel
theorem dX11_hasTerm_49 : decode cX11_hasTerm 49 = .ok (.ireturn, 1) := by decide +kernel
def f_X11_hasTerm (x1 : Int32) (x2 : Int32) (w : XW) : Option (Int32 × XW) := (bI (f_X11_isSection x1 w) (fun r1 w1 => (if r1 = 0 then (if ((wset w1 141 0 1).1 141 0) = 0 then (bI (f_X11_has x1 x2 (wset w1 141 0 1)) (fun r5 w5 => (if r5 = 0 then (some (0, w5)) else (some (1, w5))))) else (some (0, (wset w1 141 0 1)))) else (bI (f_X11_isTerm x2 w1) (fun r2 w2 => (if r2 = 0 then (if ((wset w2 141 0 2).1 141 0) = 0 then (bI (f_X11_has x1 x2 (wset w2 141 0 2)) (fun r3 w3 => (if r3 = 0 then (some (0, w3)) else (some (1, w3))))) else (some (0, (wset w2 141 0 2)))) else (if ((wset w2 141 0 0).1 141 0) = 0 then (bI (f_X11_has x1 x2 (wset w2 141 0 0)) (fun r4 w4 => (if r4 = 0 then (some (0, w4)) else (some (1, w4))))) else (some (0, (wset w2 141 0 0))))))))))
set_option maxRecDepth 100000 in
theorem W_X11_hasTerm {g : GC} (hl : g.1.stackTraces = false) {x1 : Int32} {x2 : Int32} {w : XW} : VE g cX11_hasTerm 3 RX11 (some .boolean) [] (rmL 5 0 0) 0 0 oI 0 0 0 [(0, .ref (g.2.1 + 141)), (1, .int x1), (2, .int x2)] [] w (f_X11_hasTerm x1 x2 w) := by
  unfold f_X11_hasTerm
  refine v_aload_n dX11_hasTerm_0 rfl 0 rfl ?_
  refine v_aload_n dX11_hasTerm_1 rfl 0 rfl ?_
  refine v_iload_n dX11_hasTerm_2 rfl 1 rfl ?_
  refine v_callVi (As := [.int x1]) cv_X11_98 (S_X11_isSection hl) tt_141 rfl rfl rfl (Nat.le_of_ble_eq_true rfl) dX11_hasTerm_3 (CR_rm (by decide) (by decide) (by decide) (by decide)) (fun r1 w1 => ?_)
  refine v_if_ne (tgt := 13) dX11_hasTerm_6 (by decide) ?_ ?_
  · refine v_iload_n dX11_hasTerm_13 rfl 2 rfl ?_
    refine v_callSi (As := [.int x2]) cs_X11_102 (S_X11_isTerm hl) rfl rfl (Nat.le_of_ble_eq_true rfl) dX11_hasTerm_14 (CR_rm (by decide) (by decide) (by decide) (by decide)) (fun r2 w2 => ?_)
    refine v_if_eq (tgt := 24) dX11_hasTerm_17 (by decide) ?_ ?_
    · refine v_iconst (v := 2) dX11_hasTerm_24 (by decide) ?_
      refine v_putI fl_X11_38 tt_141 rfl (ty0 := .int) rfl rfl rfl dX11_hasTerm_25 ?_
      refine v_aload_n dX11_hasTerm_28 rfl 0 rfl ?_
      refine v_getI fl_X11_38 tt_141 rfl dX11_hasTerm_29 ?_
      refine v_if_ne (tgt := 48) dX11_hasTerm_32 (by decide) ?_ ?_
      · refine v_iconst (v := 0) dX11_hasTerm_48 (by decide) ?_
        exact v_zret dX11_hasTerm_49 rfl rfl rfl (by decide) (by decide)
      · refine v_aload_n dX11_hasTerm_35 rfl 0 rfl ?_
        refine v_iload_n dX11_hasTerm_36 rfl 1 rfl ?_
        refine v_iload_n dX11_hasTerm_37 rfl 2 rfl ?_
        refine v_callVi (As := [.int x1, .int x2]) cv_X11_67 (S_X11_has hl) tt_141 rfl rfl rfl (Nat.le_of_ble_eq_true rfl) dX11_hasTerm_38 (CR_rm (by decide) (by decide) (by decide) (by decide)) (fun r3 w3 => ?_)
        refine v_if_eq (tgt := 48) dX11_hasTerm_41 (by decide) ?_ ?_
        · refine v_iconst (v := 0) dX11_hasTerm_48 (by decide) ?_
          exact v_zret dX11_hasTerm_49 rfl rfl rfl (by decide) (by decide)
        · refine v_iconst (v := 1) dX11_hasTerm_44 (by decide) ?_
          refine v_goto (tgt := 49) dX11_hasTerm_45 (by decide) ?_
          exact v_zret dX11_hasTerm_49 rfl rfl rfl (by decide) (by decide)
    · refine v_iconst (v := 0) dX11_hasTerm_20 (by decide) ?_
      refine v_goto (tgt := 25) dX11_hasTerm_21 (by decide) ?_
      refine v_putI fl_X11_38 tt_141 rfl (ty0 := .int) rfl rfl rfl dX11_hasTerm_25 ?_
      refine v_aload_n dX11_hasTerm_28 rfl 0 rfl ?_
      refine v_getI fl_X11_38 tt_141 rfl dX11_hasTerm_29 ?_
      refine v_if_ne (tgt := 48) dX11_hasTerm_32 (by decide) ?_ ?_
      · refine v_iconst (v := 0) dX11_hasTerm_48 (by decide) ?_
        exact v_zret dX11_hasTerm_49 rfl rfl rfl (by decide) (by decide)
      · refine v_aload_n dX11_hasTerm_35 rfl 0 rfl ?_
        refine v_iload_n dX11_hasTerm_36 rfl 1 rfl ?_
        refine v_iload_n dX11_hasTerm_37 rfl 2 rfl ?_
        refine v_callVi (As := [.int x1, .int x2]) cv_X11_67 (S_X11_has hl) tt_141 rfl rfl rfl (Nat.le_of_ble_eq_true rfl) dX11_hasTerm_38 (CR_rm (by decide) (by decide) (by decide) (by decide)) (fun r4 w4 => ?_)
        refine v_if_eq (tgt := 48) dX11_hasTerm_41 (by decide) ?_ ?_
        · refine v_iconst (v := 0) dX11_hasTerm_48 (by decide) ?_
          exact v_zret dX11_hasTerm_49 rfl rfl rfl (by decide) (by decide)
        · refine v_iconst (v := 1) dX11_hasTerm_44 (by decide) ?_
          refine v_goto (tgt := 49) dX11_hasTerm_45 (by decide) ?_
          exact v_zret dX11_hasTerm_49 rfl rfl rfl (by decide) (by decide)
  · refine v_iconst (v := 1) dX11_hasTerm_9 (by decide) ?_
    refine v_goto (tgt := 25) dX11_hasTerm_10 (by decide) ?_
    refine v_putI fl_X11_38 tt_141 rfl (ty0 := .int) rfl rfl rfl dX11_hasTerm_25 ?_
    refine v_aload_n dX11_hasTerm_28 rfl 0 rfl ?_
    refine v_getI fl_X11_38 tt_141 rfl dX11_hasTerm_29 ?_
    refine v_if_ne (tgt := 48) dX11_hasTerm_32 (by decide) ?_ ?_
    · refine v_iconst (v := 0) dX11_hasTerm_48 (by decide) ?_
      exact v_zret dX11_hasTerm_49 rfl rfl rfl (by decide) (by decide)
    · refine v_aload_n dX11_hasTerm_35 rfl 0 rfl ?_
      refine v_iload_n dX11_hasTerm_36 rfl 1 rfl ?_
      refine v_iload_n dX11_hasTerm_37 rfl 2 rfl ?_
      refine v_callVi (As := [.int x1, .int x2]) cv_X11_67 (S_X11_has hl) tt_141 rfl rfl rfl (Nat.le_of_ble_eq_true rfl) dX11_hasTerm_38 (CR_rm (by decide) (by decide) (by decide) (by decide)) (fun r5 w5 => ?_)
      refine v_if_eq (tgt := 48) dX11_hasTerm_41 (by decide) ?_ ?_
      · refine v_iconst (v := 0) dX11_hasTerm_48 (by decide) ?_
        exact v_zret dX11_hasTerm_49 rfl rfl rfl (by decide) (by decide)
      · refine v_iconst (v := 1) dX11_hasTerm_44 (by decide) ?_
        refine v_goto (tgt := 49) dX11_hasTerm_45 (by decide) ?_
        exact v_zret dX11_hasTerm_49 rfl rfl rfl (by decide) (by decide)
theorem S_X11_hasTerm {g : GC} (hl : g.1.stackTraces = false) {x1 : Int32} {x2 : Int32} {w : XW} : ∀ q, f_X11_hasTerm x1 x2 w = some q → MM g (.code yX11_hasTerm cX11_hasTerm 3 (some .boolean)) yX11_hasTerm (rmL 5 0 0) 0 0 [.ref (g.2.1 + 141), .int x1, .int x2] w (oI q) := fun q hq => MM_of (own := RX11) hl (by decide) gw_1601 rfl (Nat.le_of_ble_eq_true rfl) (W_X11_hasTerm hl q hq) ⟨rfl, rfl⟩

theorem dX11_sectionsWith_0 : decode cX11_sectionsWith 0 = .ok (.aload_n 0, 1) := by decide +kernel
theorem dX11_sectionsWith_1 : decode cX11_sectionsWith 1 = .ok (.iload_n 1, 1) := by decide +kernel
theorem dX11_sectionsWith_2 : decode cX11_sectionsWith 2 = .ok (.invokestatic 102, 3) := by decide +kernel
theorem dX11_sectionsWith_5 : decode cX11_sectionsWith 5 = .ok (.ifCond .eq 7, 3) := by decide +kernel
theorem dX11_sectionsWith_8 : decode cX11_sectionsWith 8 = .ok (.iconst 0, 1) := by decide +kernel
theorem dX11_sectionsWith_9 : decode cX11_sectionsWith 9 = .ok (.goto 4, 3) := by decide +kernel
theorem dX11_sectionsWith_12 : decode cX11_sectionsWith 12 = .ok (.iconst 1, 1) := by decide +kernel
theorem dX11_sectionsWith_13 : decode cX11_sectionsWith 13 = .ok (.putfield 38, 3) := by decide +kernel
theorem dX11_sectionsWith_16 : decode cX11_sectionsWith 16 = .ok (.iconst 0, 1) := by decide +kernel
theorem dX11_sectionsWith_17 : decode cX11_sectionsWith 17 = .ok (.istore_n 2, 1) := by decide +kernel
theorem dX11_sectionsWith_18 : decode cX11_sectionsWith 18 = .ok (.iconst 0, 1) := by decide +kernel
theorem dX11_sectionsWith_19 : decode cX11_sectionsWith 19 = .ok (.istore_n 3, 1) := by decide +kernel
theorem dX11_sectionsWith_20 : decode cX11_sectionsWith 20 = .ok (.iload_n 3, 1) := by decide +kernel
theorem dX11_sectionsWith_21 : decode cX11_sectionsWith 21 = .ok (.aload_n 0, 1) := by decide +kernel
theorem dX11_sectionsWith_22 : decode cX11_sectionsWith 22 = .ok (.getfield 7, 3) := by decide +kernel
theorem dX11_sectionsWith_25 : decode cX11_sectionsWith 25 = .ok (.iconst 0, 1) := by decide +kernel
theorem dX11_sectionsWith_26 : decode cX11_sectionsWith 26 = .ok (.iaload, 1) := by decide +kernel
theorem dX11_sectionsWith_27 : decode cX11_sectionsWith 27 = .ok (.if_icmp .ge 33, 3) := by decide +kernel
theorem dX11_sectionsWith_30 : decode cX11_sectionsWith 30 = .ok (.aload_n 0, 1) := by decide +kernel
theorem dX11_sectionsWith_31 : decode cX11_sectionsWith 31 = .ok (.getfield 38, 3) := by decide +kernel
theorem dX11_sectionsWith_34 : decode cX11_sectionsWith 34 = .ok (.ifCond .ne 26, 3) := by decide +kernel
theorem dX11_sectionsWith_37 : decode cX11_sectionsWith 37 = .ok (.iload_n 2, 1) := by decide +kernel
theorem dX11_sectionsWith_38 : decode cX11_sectionsWith 38 = .ok (.aload_n 0, 1) := by decide +kernel
theorem dX11_sectionsWith_39 : decode cX11_sectionsWith 39 = .ok (.iload_n 3, 1) := by decide +kernel
theorem dX11_sectionsWith_40 : decode cX11_sectionsWith 40 = .ok (.iload_n 1, 1) := by decide +kernel
theorem dX11_sectionsWith_41 : decode cX11_sectionsWith 41 = .ok (.invokevirtual 67, 3) := by decide +kernel
theorem dX11_sectionsWith_44 : decode cX11_sectionsWith 44 = .ok (.ifCond .eq 7, 3) := by decide +kernel
theorem dX11_sectionsWith_47 : decode cX11_sectionsWith 47 = .ok (.iconst 1, 1) := by decide +kernel
theorem dX11_sectionsWith_48 : decode cX11_sectionsWith 48 = .ok (.goto 4, 3) := by decide +kernel
theorem dX11_sectionsWith_51 : decode cX11_sectionsWith 51 = .ok (.iconst 0, 1) := by decide +kernel
theorem dX11_sectionsWith_52 : decode cX11_sectionsWith 52 = .ok (.iadd, 1) := by decide +kernel
theorem dX11_sectionsWith_53 : decode cX11_sectionsWith 53 = .ok (.istore_n 2, 1) := by decide +kernel
theorem dX11_sectionsWith_54 : decode cX11_sectionsWith 54 = .ok (.iinc 3 1, 3) := by decide +kernel
theorem dX11_sectionsWith_57 : decode cX11_sectionsWith 57 = .ok (.goto (-37), 3) := by decide +kernel
theorem dX11_sectionsWith_60 : decode cX11_sectionsWith 60 = .ok (.iload_n 2, 1) := by decide +kernel
theorem dX11_sectionsWith_61 : decode cX11_sectionsWith 61 = .ok (.ireturn, 1) := by decide +kernel
def f_X11_sectionsWith_20 (y1 : Int32) : Nat → Int32 → Int32 → XW → Option (Int32 × XW)
  | 0, _, _, _ => none
  | n + 1, z2, z3, w => (if (w.1 142 (Int32.toNatClampNeg 0)) ≤ z3 then (some (z2, w)) else (if (w.1 141 0) = 0 then (bI (f_X11_has z3 y1 w) (fun r2 w2 => (if r2 = 0 then (f_X11_sectionsWith_20 y1 n (z2 + 0) (z3 + 1) w2) else (f_X11_sectionsWith_20 y1 n (z2 + 1) (z3 + 1) w2)))) else (some (z2, w))))
set_option maxRecDepth 100000 in
theorem S_X11_sectionsWith_20 {g : GC} (hl : g.1.stackTraces = false) {y1 : Int32} : ∀ (n : Nat) (z2 : Int32) (z3 : Int32) (w : XW), VE g cX11_sectionsWith 4 RX11 (some .int) [] (rmL 5 0 0) 0 0 oI 0 0 20 [(0, .ref (g.2.1 + 141)), (1, .int y1), (2, .int z2), (3, .int z3)] [] w (f_X11_sectionsWith_20 y1 n z2 z3 w) := by
  intro n
  induction n with
  | zero => intro z2 z3 w; exact v_none
  | succ n ih =>
    intro z2 z3 w
    rw [f_X11_sectionsWith_20]
    refine v_iload_n dX11_sectionsWith_20 rfl 3 rfl ?_
    refine v_aload_n dX11_sectionsWith_21 rfl 0 rfl ?_
    refine v_getR fl_X11_7 tt_141 rfl dX11_sectionsWith_22 ?_
    refine v_iconst (v := 0) dX11_sectionsWith_25 (by decide) ?_
    refine v_iald tt_142 (by decide : inB 0 66) dX11_sectionsWith_26 ?_
    refine v_icmp_ge (tgt := 60) dX11_sectionsWith_27 (by decide) ?_ ?_
    · refine v_iload_n dX11_sectionsWith_60 rfl 2 rfl ?_
      exact v_iret dX11_sectionsWith_61 rfl rfl (by decide) (by decide)
    · refine v_aload_n dX11_sectionsWith_30 rfl 0 rfl ?_
      refine v_getI fl_X11_38 tt_141 rfl dX11_sectionsWith_31 ?_
      refine v_if_ne (tgt := 60) dX11_sectionsWith_34 (by decide) ?_ ?_
      · refine v_iload_n dX11_sectionsWith_60 rfl 2 rfl ?_
        exact v_iret dX11_sectionsWith_61 rfl rfl (by decide) (by decide)
      · refine v_iload_n dX11_sectionsWith_37 rfl 2 rfl ?_
        refine v_aload_n dX11_sectionsWith_38 rfl 0 rfl ?_
        refine v_iload_n dX11_sectionsWith_39 rfl 3 rfl ?_
        refine v_iload_n dX11_sectionsWith_40 rfl 1 rfl ?_
        refine v_callVi (As := [.int z3, .int y1]) cv_X11_67 (S_X11_has hl) tt_141 rfl rfl rfl (Nat.le_of_ble_eq_true rfl) dX11_sectionsWith_41 (CR_rm (by decide) (by decide) (by decide) (by decide)) (fun r2 w2 => ?_)
        refine v_if_eq (tgt := 51) dX11_sectionsWith_44 (by decide) ?_ ?_
        · refine v_iconst (v := 0) dX11_sectionsWith_51 (by decide) ?_
          refine v_iadd dX11_sectionsWith_52 ?_
          refine v_istore_n dX11_sectionsWith_53 rfl (Nat.le_of_ble_eq_true rfl) rfl ?_
          refine v_iinc (v := (z3 + 1)) dX11_sectionsWith_54 (q := 3) rfl rfl (Nat.le_of_ble_eq_true rfl) rfl ?_
          refine v_goto (tgt := 20) dX11_sectionsWith_57 (by decide) ?_
          refine v_sub [2, 3, 1, 0] rfl ?_
          exact ih _ _ _
        · refine v_iconst (v := 1) dX11_sectionsWith_47 (by decide) ?_
          refine v_goto (tgt := 52) dX11_sectionsWith_48 (by decide) ?_
          refine v_iadd dX11_sectionsWith_52 ?_
          refine v_istore_n dX11_sectionsWith_53 rfl (Nat.le_of_ble_eq_true rfl) rfl ?_
          refine v_iinc (v := (z3 + 1)) dX11_sectionsWith_54 (q := 3) rfl rfl (Nat.le_of_ble_eq_true rfl) rfl ?_
          refine v_goto (tgt := 20) dX11_sectionsWith_57 (by decide) ?_
          refine v_sub [2, 3, 1, 0] rfl ?_
          exact ih _ _ _
def f_X11_sectionsWith (x1 : Int32) (w : XW) : Option (Int32 × XW) := (bI (f_X11_isTerm x1 w) (fun r1 w1 => (if r1 = 0 then (f_X11_sectionsWith_20 x1 1000 0 0 (wset w1 141 0 1)) else (f_X11_sectionsWith_20 x1 1000 0 0 (wset w1 141 0 0)))))
set_option maxRecDepth 100000 in
theorem W_X11_sectionsWith {g : GC} (hl : g.1.stackTraces = false) {x1 : Int32} {w : XW} : VE g cX11_sectionsWith 4 RX11 (some .int) [] (rmL 5 0 0) 0 0 oI 0 0 0 [(0, .ref (g.2.1 + 141)), (1, .int x1)] [] w (f_X11_sectionsWith x1 w) := by
  unfold f_X11_sectionsWith
  refine v_aload_n dX11_sectionsWith_0 rfl 0 rfl ?_
  refine v_iload_n dX11_sectionsWith_1 rfl 1 rfl ?_
  refine v_callSi (As := [.int x1]) cs_X11_102 (S_X11_isTerm hl) rfl rfl (Nat.le_of_ble_eq_true rfl) dX11_sectionsWith_2 (CR_rm (by decide) (by decide) (by decide) (by decide)) (fun r1 w1 => ?_)
  refine v_if_eq (tgt := 12) dX11_sectionsWith_5 (by decide) ?_ ?_
  · refine v_iconst (v := 1) dX11_sectionsWith_12 (by decide) ?_
    refine v_putI fl_X11_38 tt_141 rfl (ty0 := .int) rfl rfl rfl dX11_sectionsWith_13 ?_
    refine v_iconst (v := 0) dX11_sectionsWith_16 (by decide) ?_
    refine v_istore_n dX11_sectionsWith_17 rfl (Nat.le_of_ble_eq_true rfl) rfl ?_
    refine v_iconst (v := 0) dX11_sectionsWith_18 (by decide) ?_
    refine v_istore_n dX11_sectionsWith_19 rfl (Nat.le_of_ble_eq_true rfl) rfl ?_
    refine v_sub [2, 3, 1, 0] rfl ?_
    exact S_X11_sectionsWith_20 hl  _ _ _ _
  · refine v_iconst (v := 0) dX11_sectionsWith_8 (by decide) ?_
    refine v_goto (tgt := 13) dX11_sectionsWith_9 (by decide) ?_
    refine v_putI fl_X11_38 tt_141 rfl (ty0 := .int) rfl rfl rfl dX11_sectionsWith_13 ?_
    refine v_iconst (v := 0) dX11_sectionsWith_16 (by decide) ?_
    refine v_istore_n dX11_sectionsWith_17 rfl (Nat.le_of_ble_eq_true rfl) rfl ?_
    refine v_iconst (v := 0) dX11_sectionsWith_18 (by decide) ?_
    refine v_istore_n dX11_sectionsWith_19 rfl (Nat.le_of_ble_eq_true rfl) rfl ?_
    refine v_sub [2, 3, 1, 0] rfl ?_
    exact S_X11_sectionsWith_20 hl  _ _ _ _
theorem S_X11_sectionsWith {g : GC} (hl : g.1.stackTraces = false) {x1 : Int32} {w : XW} : ∀ q, f_X11_sectionsWith x1 w = some q → MM g (.code yX11_sectionsWith cX11_sectionsWith 4 (some .int)) yX11_sectionsWith (rmL 5 0 0) 0 0 [.ref (g.2.1 + 141), .int x1] w (oI q) := fun q hq => MM_of (own := RX11) hl (by decide) gw_1605 rfl (Nat.le_of_ble_eq_true rfl) (W_X11_sectionsWith hl q hq) ⟨rfl, rfl⟩

theorem dX11_isAhead_0 : decode cX11_isAhead 0 = .ok (.aload_n 0, 1) := by decide +kernel
theorem dX11_isAhead_1 : decode cX11_isAhead 1 = .ok (.getfield 7, 3) := by decide +kernel
theorem dX11_isAhead_4 : decode cX11_isAhead 4 = .ok (.iconst 5, 1) := by decide +kernel
theorem dX11_isAhead_5 : decode cX11_isAhead 5 = .ok (.iload_n 1, 1) := by decide +kernel
theorem dX11_isAhead_6 : decode cX11_isAhead 6 = .ok (.iadd, 1) := by decide +kernel
theorem dX11_isAhead_7 : decode cX11_isAhead 7 = .ok (.iaload, 1) := by decide +kernel
theorem dX11_isAhead_8 : decode cX11_isAhead 8 = .ok (.aload_n 0, 1) := by decide +kernel
theorem dX11_isAhead_9 : decode cX11_isAhead 9 = .ok (.getfield 7, 3) := by decide +kernel
theorem dX11_isAhead_12 : decode cX11_isAhead 12 = .ok (.iconst 5, 1) := by decide +kernel
theorem dX11_isAhead_13 : decode cX11_isAhead 13 = .ok (.iload_n 2, 1) := by decide +kernel
theorem dX11_isAhead_14 : decode cX11_isAhead 14 = .ok (.iadd, 1) := by decide +kernel
theorem dX11_isAhead_15 : decode cX11_isAhead 15 = .ok (.iaload, 1) := by decide +kernel
theorem dX11_isAhead_16 : decode cX11_isAhead 16 = .ok (.if_icmp .eq 28, 3) := by decide +kernel
theorem dX11_isAhead_19 : decode cX11_isAhead 19 = .ok (.aload_n 0, 1) := by decide +kernel
theorem dX11_isAhead_20 : decode cX11_isAhead 20 = .ok (.getfield 7, 3) := by decide +kernel
theorem dX11_isAhead_23 : decode cX11_isAhead 23 = .ok (.iconst 5, 1) := by decide +kernel
theorem dX11_isAhead_24 : decode cX11_isAhead 24 = .ok (.iload_n 1, 1) := by decide +kernel
theorem dX11_isAhead_25 : decode cX11_isAhead 25 = .ok (.iadd, 1) := by decide +kernel
theorem dX11_isAhead_26 : decode cX11_isAhead 26 = .ok (.iaload, 1) := by decide +kernel
theorem dX11_isAhead_27 : decode cX11_isAhead 27 = .ok (.aload_n 0, 1) := by decide +kernel
theorem dX11_isAhead_28 : decode cX11_isAhead 28 = .ok (.getfield 7, 3) := by decide +kernel
theorem dX11_isAhead_31 : decode cX11_isAhead 31 = .ok (.iconst 5, 1) := by decide +kernel
theorem dX11_isAhead_32 : decode cX11_isAhead 32 = .ok (.iload_n 2, 1) := by decide +kernel
theorem dX11_isAhead_33 : decode cX11_isAhead 33 = .ok (.iadd, 1) := by decide +kernel
theorem dX11_isAhead_34 : decode cX11_isAhead 34 = .ok (.iaload, 1) := by decide +kernel
theorem dX11_isAhead_35 : decode cX11_isAhead 35 = .ok (.if_icmp .le 7, 3) := by decide +kernel
theorem dX11_isAhead_38 : decode cX11_isAhead 38 = .ok (.iconst 1, 1) := by decide +kernel
theorem dX11_isAhead_39 : decode cX11_isAhead 39 = .ok (.goto 4, 3) := by decide +kernel
theorem dX11_isAhead_42 : decode cX11_isAhead 42 = .ok (.iconst 0, 1) := by decide +kernel
theorem dX11_isAhead_43 : decode cX11_isAhead 43 = .ok (.ireturn, 1) := by decide +kernel
theorem dX11_isAhead_44 : decode cX11_isAhead 44 = .ok (.aload_n 0, 1) := by decide +kernel
theorem dX11_isAhead_45 : decode cX11_isAhead 45 = .ok (.iload_n 1, 1) := by decide +kernel
theorem dX11_isAhead_46 : decode cX11_isAhead 46 = .ok (.invokevirtual 105, 3) := by decide +kernel
theorem dX11_isAhead_49 : decode cX11_isAhead 49 = .ok (.aload_n 0, 1) := by decide +kernel
theorem dX11_isAhead_50 : decode cX11_isAhead 50 = .ok (.iload_n 2, 1) := by decide +kernel
theorem dX11_isAhead_51 : decode cX11_isAhead 51 = .ok (.invokevirtual 105, 3) := by decide +kernel
theorem dX11_isAhead_54 : decode cX11_isAhead 54 = .ok (.if_icmp .ne 16, 3) := by decide +kernel
theorem dX11_isAhead_57 : decode cX11_isAhead 57 = .ok (.iload_n 1, 1) := by decide +kernel
theorem dX11_isAhead_58 : decode cX11_isAhead 58 = .ok (.iload_n 2, 1) := by decide +kernel
theorem dX11_isAhead_59 : decode cX11_isAhead 59 = .ok (.if_icmp .ge 7, 3) := by decide +kernel
theorem dX11_isAhead_62 : decode cX11_isAhead 62 = .ok (.iconst 1, 1) := by decide +kernel
theorem dX11_isAhead_63 : decode cX11_isAhead 63 = .ok (.goto 25, 3) := by decide +kernel
theorem dX11_isAhead_66 : decode cX11_isAhead 66 = .ok (.iconst 0, 1) := by decide +kernel
theorem dX11_isAhead_67 : decode cX11_isAhead 67 = .ok (.goto 21, 3) := by decide +kernel
theorem dX11_isAhead_70 : decode cX11_isAhead 70 = .ok (.aload_n 0, 1) := by decide +kernel
theorem dX11_isAhead_71 : decode cX11_isAhead 71 = .ok (.iload_n 1, 1) := by decide +kernel
theorem dX11_isAhead_72 : decode cX11_isAhead 72 = .ok (.invokevirtual 105, 3) := by decide +kernel
theorem dX11_isAhead_75 : decode cX11_isAhead 75 = .ok (.aload_n 0, 1) := by decide +kernel
theorem dX11_isAhead_76 : decode cX11_isAhead 76 = .ok (.iload_n 2, 1) := by decide +kernel
theorem dX11_isAhead_77 : decode cX11_isAhead 77 = .ok (.invokevirtual 105, 3) := by decide +kernel
theorem dX11_isAhead_80 : decode cX11_isAhead 80 = .ok (.if_icmp .le 7, 3) := by decide +kernel
theorem dX11_isAhead_83 : decode cX11_isAhead 83 = .ok (.iconst 1, 1) := by decide +kernel
theorem dX11_isAhead_84 : decode cX11_isAhead 84 = .ok (.goto 4, 3) := by decide +kernel
theorem dX11_isAhead_87 : decode cX11_isAhead 87 = .ok (.iconst 0, 1) := by decide +kernel
theorem dX11_isAhead_88 : decode cX11_isAhead 88 = .ok (.ireturn, 1) := by decide +kernel
def f_X11_isAhead (x1 : Int32) (x2 : Int32) (w : XW) : Option (Int32 × XW) := (if inB (5 + x1) 66 then (if inB (5 + x2) 66 then (if (w.1 142 (Int32.toNatClampNeg (5 + x1))) = (w.1 142 (Int32.toNatClampNeg (5 + x2))) then (bI (f_X11_terms x1 w) (fun r3 w3 => (bI (f_X11_terms x2 w3) (fun r4 w4 => (if r3 = r4 then (if x2 ≤ x1 then (some (0, w4)) else (some (1, w4))) else (bI (f_X11_terms x1 w4) (fun r5 w5 => (bI (f_X11_terms x2 w5) (fun r6 w6 => (if r5 ≤ r6 then (some (0, w6)) else (some (1, w6)))))))))))) else (if inB (5 + x1) 66 then (if inB (5 + x2) 66 then (if (w.1 142 (Int32.toNatClampNeg (5 + x1))) ≤ (w.1 142 (Int32.toNatClampNeg (5 + x2))) then (some (0, w)) else (some (1, w))) else none) else none)) else none) else none)
set_option maxRecDepth 100000 in
theorem W_X11_isAhead {g : GC} (hl : g.1.stackTraces = false) {x1 : Int32} {x2 : Int32} {w : XW} : VE g cX11_isAhead 3 RX11 (some .boolean) [] (rmL 5 0 0) 0 0 oI 0 0 0 [(0, .ref (g.2.1 + 141)), (1, .int x1), (2, .int x2)] [] w (f_X11_isAhead x1 x2 w) := by
  unfold f_X11_isAhead
  refine v_aload_n dX11_isAhead_0 rfl 0 rfl ?_
  refine v_getR fl_X11_7 tt_141 rfl dX11_isAhead_1 ?_
  refine v_iconst (v := 5) dX11_isAhead_4 (by decide) ?_
  refine v_iload_n dX11_isAhead_5 rfl 1 rfl ?_
  refine v_iadd dX11_isAhead_6 ?_
  refine v_guard (fun h1 => ?_)
  refine v_iald tt_142 h1 dX11_isAhead_7 ?_
  refine v_aload_n dX11_isAhead_8 rfl 0 rfl ?_
  refine v_getR fl_X11_7 tt_141 rfl dX11_isAhead_9 ?_
  refine v_iconst (v := 5) dX11_isAhead_12 (by decide) ?_
  refine v_iload_n dX11_isAhead_13 rfl 2 rfl ?_
  refine v_iadd dX11_isAhead_14 ?_
  refine v_guard (fun h2 => ?_)
  refine v_iald tt_142 h2 dX11_isAhead_15 ?_
  refine v_icmp_eq (tgt := 44) dX11_isAhead_16 (by decide) ?_ ?_
  · refine v_aload_n dX11_isAhead_44 rfl 0 rfl ?_
    refine v_iload_n dX11_isAhead_45 rfl 1 rfl ?_
    refine v_callVi (As := [.int x1]) cv_X11_105 (S_X11_terms hl) tt_141 rfl rfl rfl (Nat.le_of_ble_eq_true rfl) dX11_isAhead_46 (CR_rm (by decide) (by decide) (by decide) (by decide)) (fun r3 w3 => ?_)
    refine v_aload_n dX11_isAhead_49 rfl 0 rfl ?_
    refine v_iload_n dX11_isAhead_50 rfl 2 rfl ?_
    refine v_callVi (As := [.int x2]) cv_X11_105 (S_X11_terms hl) tt_141 rfl rfl rfl (Nat.le_of_ble_eq_true rfl) dX11_isAhead_51 (CR_rm (by decide) (by decide) (by decide) (by decide)) (fun r4 w4 => ?_)
    refine v_icmp_ne (tgt := 70) dX11_isAhead_54 (by decide) ?_ ?_
    · refine v_aload_n dX11_isAhead_70 rfl 0 rfl ?_
      refine v_iload_n dX11_isAhead_71 rfl 1 rfl ?_
      refine v_callVi (As := [.int x1]) cv_X11_105 (S_X11_terms hl) tt_141 rfl rfl rfl (Nat.le_of_ble_eq_true rfl) dX11_isAhead_72 (CR_rm (by decide) (by decide) (by decide) (by decide)) (fun r5 w5 => ?_)
      refine v_aload_n dX11_isAhead_75 rfl 0 rfl ?_
      refine v_iload_n dX11_isAhead_76 rfl 2 rfl ?_
      refine v_callVi (As := [.int x2]) cv_X11_105 (S_X11_terms hl) tt_141 rfl rfl rfl (Nat.le_of_ble_eq_true rfl) dX11_isAhead_77 (CR_rm (by decide) (by decide) (by decide) (by decide)) (fun r6 w6 => ?_)
      refine v_icmp_le (tgt := 87) dX11_isAhead_80 (by decide) ?_ ?_
      · refine v_iconst (v := 0) dX11_isAhead_87 (by decide) ?_
        exact v_zret dX11_isAhead_88 rfl rfl rfl (by decide) (by decide)
      · refine v_iconst (v := 1) dX11_isAhead_83 (by decide) ?_
        refine v_goto (tgt := 88) dX11_isAhead_84 (by decide) ?_
        exact v_zret dX11_isAhead_88 rfl rfl rfl (by decide) (by decide)
    · refine v_iload_n dX11_isAhead_57 rfl 1 rfl ?_
      refine v_iload_n dX11_isAhead_58 rfl 2 rfl ?_
      refine v_icmp_ge (tgt := 66) dX11_isAhead_59 (by decide) ?_ ?_
      · refine v_iconst (v := 0) dX11_isAhead_66 (by decide) ?_
        refine v_goto (tgt := 88) dX11_isAhead_67 (by decide) ?_
        exact v_zret dX11_isAhead_88 rfl rfl rfl (by decide) (by decide)
      · refine v_iconst (v := 1) dX11_isAhead_62 (by decide) ?_
        refine v_goto (tgt := 88) dX11_isAhead_63 (by decide) ?_
        exact v_zret dX11_isAhead_88 rfl rfl rfl (by decide) (by decide)
  · refine v_aload_n dX11_isAhead_19 rfl 0 rfl ?_
    refine v_getR fl_X11_7 tt_141 rfl dX11_isAhead_20 ?_
    refine v_iconst (v := 5) dX11_isAhead_23 (by decide) ?_
    refine v_iload_n dX11_isAhead_24 rfl 1 rfl ?_
    refine v_iadd dX11_isAhead_25 ?_
    refine v_guard (fun h7 => ?_)
    refine v_iald tt_142 h7 dX11_isAhead_26 ?_
    refine v_aload_n dX11_isAhead_27 rfl 0 rfl ?_
    refine v_getR fl_X11_7 tt_141 rfl dX11_isAhead_28 ?_
    refine v_iconst (v := 5) dX11_isAhead_31 (by decide) ?_
    refine v_iload_n dX11_isAhead_32 rfl 2 rfl ?_
    refine v_iadd dX11_isAhead_33 ?_
    refine v_guard (fun h8 => ?_)
    refine v_iald tt_142 h8 dX11_isAhead_34 ?_
    refine v_icmp_le (tgt := 42) dX11_isAhead_35 (by decide) ?_ ?_
    · refine v_iconst (v := 0) dX11_isAhead_42 (by decide) ?_
      exact v_zret dX11_isAhead_43 rfl rfl rfl (by decide) (by decide)
    · refine v_iconst (v := 1) dX11_isAhead_38 (by decide) ?_
      refine v_goto (tgt := 43) dX11_isAhead_39 (by decide) ?_
      exact v_zret dX11_isAhead_43 rfl rfl rfl (by decide) (by decide)
theorem S_X11_isAhead {g : GC} (hl : g.1.stackTraces = false) {x1 : Int32} {x2 : Int32} {w : XW} : ∀ q, f_X11_isAhead x1 x2 w = some q → MM g (.code yX11_isAhead cX11_isAhead 3 (some .boolean)) yX11_isAhead (rmL 5 0 0) 0 0 [.ref (g.2.1 + 141), .int x1, .int x2] w (oI q) := fun q hq => MM_of (own := RX11) hl (by decide) gw_1613 rfl (Nat.le_of_ble_eq_true rfl) (W_X11_isAhead hl q hq) ⟨rfl, rfl⟩

theorem dX11_sectionByWater_0 : decode cX11_sectionByWater 0 = .ok (.aload_n 0, 1) := by decide +kernel
theorem dX11_sectionByWater_1 : decode cX11_sectionByWater 1 = .ok (.iconst 0, 1) := by decide +kernel
theorem dX11_sectionByWater_2 : decode cX11_sectionByWater 2 = .ok (.putfield 38, 3) := by decide +kernel
theorem dX11_sectionByWater_5 : decode cX11_sectionByWater 5 = .ok (.iconst 0, 1) := by decide +kernel
theorem dX11_sectionByWater_6 : decode cX11_sectionByWater 6 = .ok (.istore_n 2, 1) := by decide +kernel
theorem dX11_sectionByWater_7 : decode cX11_sectionByWater 7 = .ok (.iload_n 2, 1) := by decide +kernel
theorem dX11_sectionByWater_8 : decode cX11_sectionByWater 8 = .ok (.aload_n 0, 1) := by decide +kernel
theorem dX11_sectionByWater_9 : decode cX11_sectionByWater 9 = .ok (.getfield 7, 3) := by decide +kernel
theorem dX11_sectionByWater_12 : decode cX11_sectionByWater 12 = .ok (.iconst 0, 1) := by decide +kernel
theorem dX11_sectionByWater_13 : decode cX11_sectionByWater 13 = .ok (.iaload, 1) := by decide +kernel
theorem dX11_sectionByWater_14 : decode cX11_sectionByWater 14 = .ok (.if_icmp .ge 62, 3) := by decide +kernel
theorem dX11_sectionByWater_17 : decode cX11_sectionByWater 17 = .ok (.iconst 0, 1) := by decide +kernel
theorem dX11_sectionByWater_18 : decode cX11_sectionByWater 18 = .ok (.istore_n 3, 1) := by decide +kernel
theorem dX11_sectionByWater_19 : decode cX11_sectionByWater 19 = .ok (.iconst 0, 1) := by decide +kernel
theorem dX11_sectionByWater_20 : decode cX11_sectionByWater 20 = .ok (.istore 4, 2) := by decide +kernel
theorem dX11_sectionByWater_22 : decode cX11_sectionByWater 22 = .ok (.iload 4, 2) := by decide +kernel
theorem dX11_sectionByWater_24 : decode cX11_sectionByWater 24 = .ok (.aload_n 0, 1) := by decide +kernel
theorem dX11_sectionByWater_25 : decode cX11_sectionByWater 25 = .ok (.getfield 7, 3) := by decide +kernel
theorem dX11_sectionByWater_28 : decode cX11_sectionByWater 28 = .ok (.iconst 0, 1) := by decide +kernel
theorem dX11_sectionByWater_29 : decode cX11_sectionByWater 29 = .ok (.iaload, 1) := by decide +kernel
theorem dX11_sectionByWater_30 : decode cX11_sectionByWater 30 = .ok (.if_icmp .ge 33, 3) := by decide +kernel
theorem dX11_sectionByWater_33 : decode cX11_sectionByWater 33 = .ok (.iload_n 3, 1) := by decide +kernel
theorem dX11_sectionByWater_34 : decode cX11_sectionByWater 34 = .ok (.iload 4, 2) := by decide +kernel
theorem dX11_sectionByWater_36 : decode cX11_sectionByWater 36 = .ok (.iload_n 2, 1) := by decide +kernel
theorem dX11_sectionByWater_37 : decode cX11_sectionByWater 37 = .ok (.if_icmp .eq 17, 3) := by decide +kernel
theorem dX11_sectionByWater_40 : decode cX11_sectionByWater 40 = .ok (.aload_n 0, 1) := by decide +kernel
theorem dX11_sectionByWater_41 : decode cX11_sectionByWater 41 = .ok (.iload 4, 2) := by decide +kernel
theorem dX11_sectionByWater_43 : decode cX11_sectionByWater 43 = .ok (.iload_n 2, 1) := by decide +kernel
theorem dX11_sectionByWater_44 : decode cX11_sectionByWater 44 = .ok (.invokevirtual 137, 3) := by decide +kernel
theorem dX11_sectionByWater_47 : decode cX11_sectionByWater 47 = .ok (.ifCond .eq 7, 3) := by decide +kernel
theorem dX11_sectionByWater_50 : decode cX11_sectionByWater 50 = .ok (.iconst 1, 1) := by decide +kernel
theorem dX11_sectionByWater_51 : decode cX11_sectionByWater 51 = .ok (.goto 4, 3) := by decide +kernel
theorem dX11_sectionByWater_54 : decode cX11_sectionByWater 54 = .ok (.iconst 0, 1) := by decide +kernel
theorem dX11_sectionByWater_55 : decode cX11_sectionByWater 55 = .ok (.iadd, 1) := by decide +kernel
theorem dX11_sectionByWater_56 : decode cX11_sectionByWater 56 = .ok (.istore_n 3, 1) := by decide +kernel
theorem dX11_sectionByWater_57 : decode cX11_sectionByWater 57 = .ok (.iinc 4 1, 3) := by decide +kernel
theorem dX11_sectionByWater_60 : decode cX11_sectionByWater 60 = .ok (.goto (-38), 3) := by decide +kernel
theorem dX11_sectionByWater_63 : decode cX11_sectionByWater 63 = .ok (.iload_n 3, 1) := by decide +kernel
theorem dX11_sectionByWater_64 : decode cX11_sectionByWater 64 = .ok (.iload_n 1, 1) := by decide +kernel
theorem dX11_sectionByWater_65 : decode cX11_sectionByWater 65 = .ok (.if_icmp .ne 5, 3) := by decide +kernel
theorem dX11_sectionByWater_68 : decode cX11_sectionByWater 68 = .ok (.iload_n 2, 1) := by decide +kernel
theorem dX11_sectionByWater_69 : decode cX11_sectionByWater 69 = .ok (.ireturn, 1) := by decide +kernel
theorem dX11_sectionByWater_70 : decode cX11_sectionByWater 70 = .ok (.iinc 2 1, 3) := by decide +kernel
theorem dX11_sectionByWater_73 : decode cX11_sectionByWater 73 = .ok (.goto (-66), 3) := by decide +kernel
theorem dX11_sectionByWater_76 : decode cX11_sectionByWater 76 = .ok (.aload_n 0, 1) := by decide +kernel
theorem dX11_sectionByWater_77 : decode cX11_sectionByWater 77 = .ok (.iconst 1, 1) := by decide +kernel
theorem dX11_sectionByWater_78 : decode cX11_sectionByWater 78 = .ok (.invokevirtual 60, 3) := by decide +kernel
theorem dX11_sectionByWater_81 : decode cX11_sectionByWater 81 = .ok (.ireturn, 1) := by decide +kernel
def f_X11_sectionByWater_22 (K7 : Int32 → XW → Option (Int32 × XW)) (y1 : Int32) (y2 : Int32) : Nat → Int32 → Int32 → XW → Option (Int32 × XW)
  | 0, _, _, _ => none
  | n + 1, z3, z4, w => (if (w.1 142 (Int32.toNatClampNeg 0)) ≤ z4 then (if z3 = y1 then (some (y2, w)) else (K7 (y2 + 1) w)) else (if z4 = y2 then (f_X11_sectionByWater_22 K7 y1 y2 n (z3 + 0) (z4 + 1) w) else (bI (f_X11_isAhead z4 y2 w) (fun r2 w2 => (if r2 = 0 then (f_X11_sectionByWater_22 K7 y1 y2 n (z3 + 0) (z4 + 1) w2) else (f_X11_sectionByWater_22 K7 y1 y2 n (z3 + 1) (z4 + 1) w2))))))
set_option maxRecDepth 100000 in
theorem S_X11_sectionByWater_22 {g : GC} (hl : g.1.stackTraces = false) {y1 : Int32} {y2 : Int32} {K7 : Int32 → XW → Option (Int32 × XW)} (hK7 : ∀ (z2 : Int32) (w : XW), VE g cX11_sectionByWater 5 RX11 (some .int) [] (rmL 6 0 0) 0 0 oI 0 0 7 [(0, .ref (g.2.1 + 141)), (1, .int y1), (2, .int z2)] [] w (K7 z2 w)) : ∀ (n : Nat) (z3 : Int32) (z4 : Int32) (w : XW), VE g cX11_sectionByWater 5 RX11 (some .int) [] (rmL 6 0 0) 0 0 oI 0 0 22 [(0, .ref (g.2.1 + 141)), (1, .int y1), (2, .int y2), (3, .int z3), (4, .int z4)] [] w (f_X11_sectionByWater_22 K7 y1 y2 n z3 z4 w) := by
  intro n
  induction n with
  | zero => intro z3 z4 w; exact v_none
  | succ n ih =>
    intro z3 z4 w
    rw [f_X11_sectionByWater_22]
    refine v_iload dX11_sectionByWater_22 4 rfl ?_
    refine v_aload_n dX11_sectionByWater_24 rfl 0 rfl ?_
    refine v_getR fl_X11_7 tt_141 rfl dX11_sectionByWater_25 ?_
    refine v_iconst (v := 0) dX11_sectionByWater_28 (by decide) ?_
    refine v_iald tt_142 (by decide : inB 0 66) dX11_sectionByWater_29 ?_
    refine v_icmp_ge (tgt := 63) dX11_sectionByWater_30 (by decide) ?_ ?_
    · refine v_iload_n dX11_sectionByWater_63 rfl 3 rfl ?_
      refine v_iload_n dX11_sectionByWater_64 rfl 1 rfl ?_
      refine v_icmp_ne (tgt := 70) dX11_sectionByWater_65 (by decide) ?_ ?_
      · refine v_iinc (v := (y2 + 1)) dX11_sectionByWater_70 (q := 2) rfl rfl (Nat.le_of_ble_eq_true rfl) rfl ?_
        refine v_goto (tgt := 7) dX11_sectionByWater_73 (by decide) ?_
        refine v_sub [1, 2, 0] rfl ?_
        exact hK7 _ _
      · refine v_iload_n dX11_sectionByWater_68 rfl 2 rfl ?_
        exact v_iret dX11_sectionByWater_69 rfl rfl (by decide) (by decide)
    · refine v_iload_n dX11_sectionByWater_33 rfl 3 rfl ?_
      refine v_iload dX11_sectionByWater_34 4 rfl ?_
      refine v_iload_n dX11_sectionByWater_36 rfl 2 rfl ?_
      refine v_icmp_eq (tgt := 54) dX11_sectionByWater_37 (by decide) ?_ ?_
      · refine v_iconst (v := 0) dX11_sectionByWater_54 (by decide) ?_
        refine v_iadd dX11_sectionByWater_55 ?_
        refine v_istore_n dX11_sectionByWater_56 rfl (Nat.le_of_ble_eq_true rfl) rfl ?_
        refine v_iinc (v := (z4 + 1)) dX11_sectionByWater_57 (q := 4) rfl rfl (Nat.le_of_ble_eq_true rfl) rfl ?_
        refine v_goto (tgt := 22) dX11_sectionByWater_60 (by decide) ?_
        refine v_sub [2, 3, 4, 1, 0] rfl ?_
        exact ih _ _ _
      · refine v_aload_n dX11_sectionByWater_40 rfl 0 rfl ?_
        refine v_iload dX11_sectionByWater_41 4 rfl ?_
        refine v_iload_n dX11_sectionByWater_43 rfl 2 rfl ?_
        refine v_callVi (As := [.int z4, .int y2]) cv_X11_137 (S_X11_isAhead hl) tt_141 rfl rfl rfl (Nat.le_of_ble_eq_true rfl) dX11_sectionByWater_44 (CR_rm (by decide) (by decide) (by decide) (by decide)) (fun r2 w2 => ?_)
        refine v_if_eq (tgt := 54) dX11_sectionByWater_47 (by decide) ?_ ?_
        · refine v_iconst (v := 0) dX11_sectionByWater_54 (by decide) ?_
          refine v_iadd dX11_sectionByWater_55 ?_
          refine v_istore_n dX11_sectionByWater_56 rfl (Nat.le_of_ble_eq_true rfl) rfl ?_
          refine v_iinc (v := (z4 + 1)) dX11_sectionByWater_57 (q := 4) rfl rfl (Nat.le_of_ble_eq_true rfl) rfl ?_
          refine v_goto (tgt := 22) dX11_sectionByWater_60 (by decide) ?_
          refine v_sub [2, 3, 4, 1, 0] rfl ?_
          exact ih _ _ _
        · refine v_iconst (v := 1) dX11_sectionByWater_50 (by decide) ?_
          refine v_goto (tgt := 55) dX11_sectionByWater_51 (by decide) ?_
          refine v_iadd dX11_sectionByWater_55 ?_
          refine v_istore_n dX11_sectionByWater_56 rfl (Nat.le_of_ble_eq_true rfl) rfl ?_
          refine v_iinc (v := (z4 + 1)) dX11_sectionByWater_57 (q := 4) rfl rfl (Nat.le_of_ble_eq_true rfl) rfl ?_
          refine v_goto (tgt := 22) dX11_sectionByWater_60 (by decide) ?_
          refine v_sub [2, 3, 4, 1, 0] rfl ?_
          exact ih _ _ _
def f_X11_sectionByWater_7 (y1 : Int32) : Nat → Int32 → XW → Option (Int32 × XW)
  | 0, _, _ => none
  | n + 1, z2, w => (if (w.1 142 (Int32.toNatClampNeg 0)) ≤ z2 then (bI (f_X11_fails 1 w) (fun r1 w1 => (some (r1, w1)))) else (f_X11_sectionByWater_22 (fun a0 w9 => f_X11_sectionByWater_7 y1 n a0 w9) y1 z2 1000 0 0 w))
set_option maxRecDepth 100000 in
theorem S_X11_sectionByWater_7 {g : GC} (hl : g.1.stackTraces = false) {y1 : Int32} : ∀ (n : Nat) (z2 : Int32) (w : XW), VE g cX11_sectionByWater 5 RX11 (some .int) [] (rmL 6 0 0) 0 0 oI 0 0 7 [(0, .ref (g.2.1 + 141)), (1, .int y1), (2, .int z2)] [] w (f_X11_sectionByWater_7 y1 n z2 w) := by
  intro n
  induction n with
  | zero => intro z2 w; exact v_none
  | succ n ih =>
    intro z2 w
    rw [f_X11_sectionByWater_7]
    refine v_iload_n dX11_sectionByWater_7 rfl 2 rfl ?_
    refine v_aload_n dX11_sectionByWater_8 rfl 0 rfl ?_
    refine v_getR fl_X11_7 tt_141 rfl dX11_sectionByWater_9 ?_
    refine v_iconst (v := 0) dX11_sectionByWater_12 (by decide) ?_
    refine v_iald tt_142 (by decide : inB 0 66) dX11_sectionByWater_13 ?_
    refine v_icmp_ge (tgt := 76) dX11_sectionByWater_14 (by decide) ?_ ?_
    · refine v_aload_n dX11_sectionByWater_76 rfl 0 rfl ?_
      refine v_iconst (v := 1) dX11_sectionByWater_77 (by decide) ?_
      refine v_callVi (As := [.int 1]) cv_X11_60 (S_X11_fails hl) tt_141 rfl rfl rfl (Nat.le_of_ble_eq_true rfl) dX11_sectionByWater_78 (CR_rm (by decide) (by decide) (by decide) (by decide)) (fun r1 w1 => ?_)
      exact v_iret dX11_sectionByWater_81 rfl rfl (by decide) (by decide)
    · refine v_iconst (v := 0) dX11_sectionByWater_17 (by decide) ?_
      refine v_istore_n dX11_sectionByWater_18 rfl (Nat.le_of_ble_eq_true rfl) rfl ?_
      refine v_iconst (v := 0) dX11_sectionByWater_19 (by decide) ?_
      refine v_istore dX11_sectionByWater_20 (Nat.le_of_ble_eq_true rfl) rfl ?_
      refine v_sub [2, 3, 4, 1, 0] rfl ?_
      exact S_X11_sectionByWater_22 hl (fun a0 a1 => ih a0 a1) _ _ _ _
def f_X11_sectionByWater (x1 : Int32) (w : XW) : Option (Int32 × XW) := (f_X11_sectionByWater_7 x1 1000 0 (wset w 141 0 0))
set_option maxRecDepth 100000 in
theorem W_X11_sectionByWater {g : GC} (hl : g.1.stackTraces = false) {x1 : Int32} {w : XW} : VE g cX11_sectionByWater 5 RX11 (some .int) [] (rmL 6 0 0) 0 0 oI 0 0 0 [(0, .ref (g.2.1 + 141)), (1, .int x1)] [] w (f_X11_sectionByWater x1 w) := by
  unfold f_X11_sectionByWater
  refine v_aload_n dX11_sectionByWater_0 rfl 0 rfl ?_
  refine v_iconst (v := 0) dX11_sectionByWater_1 (by decide) ?_
  refine v_putI fl_X11_38 tt_141 rfl (ty0 := .int) rfl rfl rfl dX11_sectionByWater_2 ?_
  refine v_iconst (v := 0) dX11_sectionByWater_5 (by decide) ?_
  refine v_istore_n dX11_sectionByWater_6 rfl (Nat.le_of_ble_eq_true rfl) rfl ?_
  refine v_sub [1, 2, 0] rfl ?_
  exact S_X11_sectionByWater_7 hl  _ _ _
theorem S_X11_sectionByWater {g : GC} (hl : g.1.stackTraces = false) {x1 : Int32} {w : XW} : ∀ q, f_X11_sectionByWater x1 w = some q → MM g (.code yX11_sectionByWater cX11_sectionByWater 5 (some .int)) yX11_sectionByWater (rmL 6 0 0) 0 0 [.ref (g.2.1 + 141), .int x1] w (oI q) := fun q hq => MM_of (own := RX11) hl (by decide) gw_1609 rfl (Nat.le_of_ble_eq_true rfl) (W_X11_sectionByWater hl q hq) ⟨rfl, rfl⟩

theorem dX11_fold_0 : decode cX11_fold 0 = .ok (.aload_n 0, 1) := by decide +kernel
theorem dX11_fold_1 : decode cX11_fold 1 = .ok (.invokevirtual 121, 3) := by decide +kernel
theorem dX11_fold_4 : decode cX11_fold 4 = .ok (.aload_n 0, 1) := by decide +kernel
theorem dX11_fold_5 : decode cX11_fold 5 = .ok (.aload_n 0, 1) := by decide +kernel
theorem dX11_fold_6 : decode cX11_fold 6 = .ok (.iload_n 1, 1) := by decide +kernel
theorem dX11_fold_7 : decode cX11_fold 7 = .ok (.invokevirtual 140, 3) := by decide +kernel
theorem dX11_fold_10 : decode cX11_fold 10 = .ok (.iconst 2, 1) := by decide +kernel
theorem dX11_fold_11 : decode cX11_fold 11 = .ok (.invokevirtual 127, 3) := by decide +kernel
theorem dX11_fold_14 : decode cX11_fold 14 = .ok (.ireturn, 1) := by decide +kernel
def f_X11_fold (x1 : Int32) (w : XW) : Option (Int32 × XW) := (bV (f_X11_remembers w) (fun w1 => (bI (f_X11_folds x1 w1) (fun r2 w2 => (bI (f_X11_ends r2 2 w2) (fun r3 w3 => (some (r3, w3))))))))
set_option maxRecDepth 100000 in
theorem W_X11_fold {g : GC} (hl : g.1.stackTraces = false) {x1 : Int32} {w : XW} : VE g cX11_fold 2 RX11 (some .int) [] (rmL 6 0 0) 0 0 oI 0 0 0 [(0, .ref (g.2.1 + 141)), (1, .int x1)] [] w (f_X11_fold x1 w) := by
  unfold f_X11_fold
  refine v_aload_n dX11_fold_0 rfl 0 rfl ?_
  refine v_callVv (As := []) cv_X11_121 (S_X11_remembers hl) tt_141 rfl rfl rfl (Nat.le_of_ble_eq_true rfl) dX11_fold_1 (CR_rm (by decide) (by decide) (by decide) (by decide)) (fun w1 => ?_)
  refine v_aload_n dX11_fold_4 rfl 0 rfl ?_
  refine v_aload_n dX11_fold_5 rfl 0 rfl ?_
  refine v_iload_n dX11_fold_6 rfl 1 rfl ?_
  refine v_callVi (As := [.int x1]) cv_X11_140 (S_X11_folds hl) tt_141 rfl rfl rfl (Nat.le_of_ble_eq_true rfl) dX11_fold_7 (CR_rm (by decide) (by decide) (by decide) (by decide)) (fun r2 w2 => ?_)
  refine v_iconst (v := 2) dX11_fold_10 (by decide) ?_
  refine v_callVi (As := [.int r2, .int 2]) cv_X11_127 (S_X11_ends hl) tt_141 rfl rfl rfl (Nat.le_of_ble_eq_true rfl) dX11_fold_11 (CR_rm (by decide) (by decide) (by decide) (by decide)) (fun r3 w3 => ?_)
  exact v_iret dX11_fold_14 rfl rfl (by decide) (by decide)
theorem S_X11_fold {g : GC} (hl : g.1.stackTraces = false) {x1 : Int32} {w : XW} : ∀ q, f_X11_fold x1 w = some q → MM g (.code yX11_fold cX11_fold 2 (some .int)) yX11_fold (rmL 6 0 0) 0 0 [.ref (g.2.1 + 141), .int x1] w (oI q) := fun q hq => MM_of (own := RX11) hl (by decide) gw_1617 rfl (Nat.le_of_ble_eq_true rfl) (W_X11_fold hl q hq) ⟨rfl, rfl⟩

theorem dX11_unfold_0 : decode cX11_unfold 0 = .ok (.aload_n 0, 1) := by decide +kernel
theorem dX11_unfold_1 : decode cX11_unfold 1 = .ok (.invokevirtual 121, 3) := by decide +kernel
theorem dX11_unfold_4 : decode cX11_unfold 4 = .ok (.aload_n 0, 1) := by decide +kernel
theorem dX11_unfold_5 : decode cX11_unfold 5 = .ok (.aload_n 0, 1) := by decide +kernel
theorem dX11_unfold_6 : decode cX11_unfold 6 = .ok (.invokevirtual 143, 3) := by decide +kernel
theorem dX11_unfold_9 : decode cX11_unfold 9 = .ok (.iconst 1, 1) := by decide +kernel
theorem dX11_unfold_10 : decode cX11_unfold 10 = .ok (.invokevirtual 127, 3) := by decide +kernel
theorem dX11_unfold_13 : decode cX11_unfold 13 = .ok (.ireturn, 1) := by decide +kernel
def f_X11_unfold (w : XW) : Option (Int32 × XW) := (bV (f_X11_remembers w) (fun w1 => (bI (f_X11_opens w1) (fun r2 w2 => (bI (f_X11_ends r2 1 w2) (fun r3 w3 => (some (r3, w3))))))))
set_option maxRecDepth 100000 in
theorem W_X11_unfold {g : GC} (hl : g.1.stackTraces = false) {w : XW} : VE g cX11_unfold 1 RX11 (some .int) [] (rmL 5 0 0) 0 0 oI 0 0 0 [(0, .ref (g.2.1 + 141))] [] w (f_X11_unfold  w) := by
  unfold f_X11_unfold
  refine v_aload_n dX11_unfold_0 rfl 0 rfl ?_
  refine v_callVv (As := []) cv_X11_121 (S_X11_remembers hl) tt_141 rfl rfl rfl (Nat.le_of_ble_eq_true rfl) dX11_unfold_1 (CR_rm (by decide) (by decide) (by decide) (by decide)) (fun w1 => ?_)
  refine v_aload_n dX11_unfold_4 rfl 0 rfl ?_
  refine v_aload_n dX11_unfold_5 rfl 0 rfl ?_
  refine v_callVi (As := []) cv_X11_143 (S_X11_opens hl) tt_141 rfl rfl rfl (Nat.le_of_ble_eq_true rfl) dX11_unfold_6 (CR_rm (by decide) (by decide) (by decide) (by decide)) (fun r2 w2 => ?_)
  refine v_iconst (v := 1) dX11_unfold_9 (by decide) ?_
  refine v_callVi (As := [.int r2, .int 1]) cv_X11_127 (S_X11_ends hl) tt_141 rfl rfl rfl (Nat.le_of_ble_eq_true rfl) dX11_unfold_10 (CR_rm (by decide) (by decide) (by decide) (by decide)) (fun r3 w3 => ?_)
  exact v_iret dX11_unfold_13 rfl rfl (by decide) (by decide)
theorem S_X11_unfold {g : GC} (hl : g.1.stackTraces = false) {w : XW} : ∀ q, f_X11_unfold  w = some q → MM g (.code yX11_unfold cX11_unfold 1 (some .int)) yX11_unfold (rmL 5 0 0) 0 0 [.ref (g.2.1 + 141)] w (oI q) := fun q hq => MM_of (own := RX11) hl (by decide) gw_1637 rfl (Nat.le_of_ble_eq_true rfl) (W_X11_unfold hl q hq) ⟨rfl, rfl⟩

theorem dX11_foldedCount_0 : decode cX11_foldedCount 0 = .ok (.aload_n 0, 1) := by decide +kernel
theorem dX11_foldedCount_1 : decode cX11_foldedCount 1 = .ok (.iconst 0, 1) := by decide +kernel
theorem dX11_foldedCount_2 : decode cX11_foldedCount 2 = .ok (.putfield 38, 3) := by decide +kernel
theorem dX11_foldedCount_5 : decode cX11_foldedCount 5 = .ok (.aload_n 0, 1) := by decide +kernel
theorem dX11_foldedCount_6 : decode cX11_foldedCount 6 = .ok (.getfield 7, 3) := by decide +kernel
theorem dX11_foldedCount_9 : decode cX11_foldedCount 9 = .ok (.iconst 1, 1) := by decide +kernel
theorem dX11_foldedCount_10 : decode cX11_foldedCount 10 = .ok (.iaload, 1) := by decide +kernel
theorem dX11_foldedCount_11 : decode cX11_foldedCount 11 = .ok (.ireturn, 1) := by decide +kernel
def f_X11_foldedCount (w : XW) : Option (Int32 × XW) := (some (((wset w 141 0 0).1 142 (Int32.toNatClampNeg 1)), (wset w 141 0 0)))
set_option maxRecDepth 100000 in
theorem W_X11_foldedCount {g : GC} (hl : g.1.stackTraces = false) {w : XW} : VE g cX11_foldedCount 1 RX11 (some .int) [] (rmL 3 0 0) 0 0 oI 0 0 0 [(0, .ref (g.2.1 + 141))] [] w (f_X11_foldedCount  w) := by
  unfold f_X11_foldedCount
  refine v_aload_n dX11_foldedCount_0 rfl 0 rfl ?_
  refine v_iconst (v := 0) dX11_foldedCount_1 (by decide) ?_
  refine v_putI fl_X11_38 tt_141 rfl (ty0 := .int) rfl rfl rfl dX11_foldedCount_2 ?_
  refine v_aload_n dX11_foldedCount_5 rfl 0 rfl ?_
  refine v_getR fl_X11_7 tt_141 rfl dX11_foldedCount_6 ?_
  refine v_iconst (v := 1) dX11_foldedCount_9 (by decide) ?_
  refine v_iald tt_142 (by decide : inB 1 66) dX11_foldedCount_10 ?_
  exact v_iret dX11_foldedCount_11 rfl rfl (by decide) (by decide)
theorem S_X11_foldedCount {g : GC} (hl : g.1.stackTraces = false) {w : XW} : ∀ q, f_X11_foldedCount  w = some q → MM g (.code yX11_foldedCount cX11_foldedCount 1 (some .int)) yX11_foldedCount (rmL 3 0 0) 0 0 [.ref (g.2.1 + 141)] w (oI q) := fun q hq => MM_of (own := RX11) hl (by decide) gw_1649 rfl (Nat.le_of_ble_eq_true rfl) (W_X11_foldedCount hl q hq) ⟨rfl, rfl⟩

theorem dX11_layerOf_0 : decode cX11_layerOf 0 = .ok (.aload_n 0, 1) := by decide +kernel
theorem dX11_layerOf_1 : decode cX11_layerOf 1 = .ok (.aload_n 0, 1) := by decide +kernel
theorem dX11_layerOf_2 : decode cX11_layerOf 2 = .ok (.iload_n 1, 1) := by decide +kernel
theorem dX11_layerOf_3 : decode cX11_layerOf 3 = .ok (.invokevirtual 98, 3) := by decide +kernel
theorem dX11_layerOf_6 : decode cX11_layerOf 6 = .ok (.ifCond .ne 7, 3) := by decide +kernel
theorem dX11_layerOf_9 : decode cX11_layerOf 9 = .ok (.iconst 1, 1) := by decide +kernel
theorem dX11_layerOf_10 : decode cX11_layerOf 10 = .ok (.goto 18, 3) := by decide +kernel
theorem dX11_layerOf_13 : decode cX11_layerOf 13 = .ok (.iload_n 1, 1) := by decide +kernel
theorem dX11_layerOf_14 : decode cX11_layerOf 14 = .ok (.aload_n 0, 1) := by decide +kernel
theorem dX11_layerOf_15 : decode cX11_layerOf 15 = .ok (.getfield 7, 3) := by decide +kernel
theorem dX11_layerOf_18 : decode cX11_layerOf 18 = .ok (.iconst 1, 1) := by decide +kernel
theorem dX11_layerOf_19 : decode cX11_layerOf 19 = .ok (.iaload, 1) := by decide +kernel
theorem dX11_layerOf_20 : decode cX11_layerOf 20 = .ok (.if_icmp .ge 7, 3) := by decide +kernel
theorem dX11_layerOf_23 : decode cX11_layerOf 23 = .ok (.iconst 0, 1) := by decide +kernel
theorem dX11_layerOf_24 : decode cX11_layerOf 24 = .ok (.goto 4, 3) := by decide +kernel
theorem dX11_layerOf_27 : decode cX11_layerOf 27 = .ok (.iconst 2, 1) := by decide +kernel
theorem dX11_layerOf_28 : decode cX11_layerOf 28 = .ok (.putfield 38, 3) := by decide +kernel
theorem dX11_layerOf_31 : decode cX11_layerOf 31 = .ok (.aload_n 0, 1) := by decide +kernel
theorem dX11_layerOf_32 : decode cX11_layerOf 32 = .ok (.getfield 38, 3) := by decide +kernel
theorem dX11_layerOf_35 : decode cX11_layerOf 35 = .ok (.ifCond .le 5, 3) := by decide +kernel
theorem dX11_layerOf_38 : decode cX11_layerOf 38 = .ok (.iconst 0, 1) := by decide +kernel
theorem dX11_layerOf_39 : decode cX11_layerOf 39 = .ok (.ireturn, 1) := by decide +kernel
theorem dX11_layerOf_40 : decode cX11_layerOf 40 = .ok (.iconst 0, 1) := by decide +kernel
theorem dX11_layerOf_41 : decode cX11_layerOf 41 = .ok (.istore_n 2, 1) := by decide +kernel
theorem dX11_layerOf_42 : decode cX11_layerOf 42 = .ok (.aload_n 0, 1) := by decide +kernel
theorem dX11_layerOf_43 : decode cX11_layerOf 43 = .ok (.getfield 7, 3) := by decide +kernel
theorem dX11_layerOf_46 : decode cX11_layerOf 46 = .ok (.bipush 19, 2) := by decide +kernel
theorem dX11_layerOf_48 : decode cX11_layerOf 48 = .ok (.iload_n 2, 1) := by decide +kernel
theorem dX11_layerOf_49 : decode cX11_layerOf 49 = .ok (.iadd, 1) := by decide +kernel
theorem dX11_layerOf_50 : decode cX11_layerOf 50 = .ok (.iaload, 1) := by decide +kernel
theorem dX11_layerOf_51 : decode cX11_layerOf 51 = .ok (.iload_n 1, 1) := by decide +kernel
theorem dX11_layerOf_52 : decode cX11_layerOf 52 = .ok (.if_icmp .eq 9, 3) := by decide +kernel
theorem dX11_layerOf_55 : decode cX11_layerOf 55 = .ok (.iinc 2 1, 3) := by decide +kernel
theorem dX11_layerOf_58 : decode cX11_layerOf 58 = .ok (.goto (-16), 3) := by decide +kernel
theorem dX11_layerOf_61 : decode cX11_layerOf 61 = .ok (.iload_n 2, 1) := by decide +kernel
theorem dX11_layerOf_62 : decode cX11_layerOf 62 = .ok (.ireturn, 1) := by decide +kernel
def f_X11_layerOf_42 (y1 : Int32) : Nat → Int32 → XW → Option (Int32 × XW)
  | 0, _, _ => none
  | n + 1, z2, w => (if inB (19 + z2) 66 then (if (w.1 142 (Int32.toNatClampNeg (19 + z2))) = y1 then (some (z2, w)) else (f_X11_layerOf_42 y1 n (z2 + 1) w)) else none)
set_option maxRecDepth 100000 in
theorem S_X11_layerOf_42 {g : GC} (hl : g.1.stackTraces = false) {y1 : Int32} : ∀ (n : Nat) (z2 : Int32) (w : XW), VE g cX11_layerOf 3 RX11 (some .int) [] (rmL 5 0 0) 0 0 oI 0 0 42 [(0, .ref (g.2.1 + 141)), (1, .int y1), (2, .int z2)] [] w (f_X11_layerOf_42 y1 n z2 w) := by
  intro n
  induction n with
  | zero => intro z2 w; exact v_none
  | succ n ih =>
    intro z2 w
    rw [f_X11_layerOf_42]
    refine v_aload_n dX11_layerOf_42 rfl 0 rfl ?_
    refine v_getR fl_X11_7 tt_141 rfl dX11_layerOf_43 ?_
    refine v_bipush (v := 19) dX11_layerOf_46 (by decide) ?_
    refine v_iload_n dX11_layerOf_48 rfl 2 rfl ?_
    refine v_iadd dX11_layerOf_49 ?_
    refine v_guard (fun h2 => ?_)
    refine v_iald tt_142 h2 dX11_layerOf_50 ?_
    refine v_iload_n dX11_layerOf_51 rfl 1 rfl ?_
    refine v_icmp_eq (tgt := 61) dX11_layerOf_52 (by decide) ?_ ?_
    · refine v_iload_n dX11_layerOf_61 rfl 2 rfl ?_
      exact v_iret dX11_layerOf_62 rfl rfl (by decide) (by decide)
    · refine v_iinc (v := (z2 + 1)) dX11_layerOf_55 (q := 2) rfl rfl (Nat.le_of_ble_eq_true rfl) rfl ?_
      refine v_goto (tgt := 42) dX11_layerOf_58 (by decide) ?_
      refine v_sub [1, 2, 0] rfl ?_
      exact ih _ _
def f_X11_layerOf (x1 : Int32) (w : XW) : Option (Int32 × XW) := (bI (f_X11_isSection x1 w) (fun r1 w1 => (if r1 = 0 then (if ((wset w1 141 0 1).1 141 0) ≤ 0 then (f_X11_layerOf_42 x1 1000 0 (wset w1 141 0 1)) else (some (0, (wset w1 141 0 1)))) else (if (w1.1 142 (Int32.toNatClampNeg 1)) ≤ x1 then (if ((wset w1 141 0 2).1 141 0) ≤ 0 then (f_X11_layerOf_42 x1 1000 0 (wset w1 141 0 2)) else (some (0, (wset w1 141 0 2)))) else (if ((wset w1 141 0 0).1 141 0) ≤ 0 then (f_X11_layerOf_42 x1 1000 0 (wset w1 141 0 0)) else (some (0, (wset w1 141 0 0))))))))
set_option maxRecDepth 100000 in
theorem W_X11_layerOf {g : GC} (hl : g.1.stackTraces = false) {x1 : Int32} {w : XW} : VE g cX11_layerOf 3 RX11 (some .int) [] (rmL 5 0 0) 0 0 oI 0 0 0 [(0, .ref (g.2.1 + 141)), (1, .int x1)] [] w (f_X11_layerOf x1 w) := by
  unfold f_X11_layerOf
  refine v_aload_n dX11_layerOf_0 rfl 0 rfl ?_
  refine v_aload_n dX11_layerOf_1 rfl 0 rfl ?_
  refine v_iload_n dX11_layerOf_2 rfl 1 rfl ?_
  refine v_callVi (As := [.int x1]) cv_X11_98 (S_X11_isSection hl) tt_141 rfl rfl rfl (Nat.le_of_ble_eq_true rfl) dX11_layerOf_3 (CR_rm (by decide) (by decide) (by decide) (by decide)) (fun r1 w1 => ?_)
  refine v_if_ne (tgt := 13) dX11_layerOf_6 (by decide) ?_ ?_
  · refine v_iload_n dX11_layerOf_13 rfl 1 rfl ?_
    refine v_aload_n dX11_layerOf_14 rfl 0 rfl ?_
    refine v_getR fl_X11_7 tt_141 rfl dX11_layerOf_15 ?_
    refine v_iconst (v := 1) dX11_layerOf_18 (by decide) ?_
    refine v_iald tt_142 (by decide : inB 1 66) dX11_layerOf_19 ?_
    refine v_icmp_ge (tgt := 27) dX11_layerOf_20 (by decide) ?_ ?_
    · refine v_iconst (v := 2) dX11_layerOf_27 (by decide) ?_
      refine v_putI fl_X11_38 tt_141 rfl (ty0 := .int) rfl rfl rfl dX11_layerOf_28 ?_
      refine v_aload_n dX11_layerOf_31 rfl 0 rfl ?_
      refine v_getI fl_X11_38 tt_141 rfl dX11_layerOf_32 ?_
      refine v_if_le (tgt := 40) dX11_layerOf_35 (by decide) ?_ ?_
      · refine v_iconst (v := 0) dX11_layerOf_40 (by decide) ?_
        refine v_istore_n dX11_layerOf_41 rfl (Nat.le_of_ble_eq_true rfl) rfl ?_
        refine v_sub [1, 2, 0] rfl ?_
        exact S_X11_layerOf_42 hl  _ _ _
      · refine v_iconst (v := 0) dX11_layerOf_38 (by decide) ?_
        exact v_iret dX11_layerOf_39 rfl rfl (by decide) (by decide)
    · refine v_iconst (v := 0) dX11_layerOf_23 (by decide) ?_
      refine v_goto (tgt := 28) dX11_layerOf_24 (by decide) ?_
      refine v_putI fl_X11_38 tt_141 rfl (ty0 := .int) rfl rfl rfl dX11_layerOf_28 ?_
      refine v_aload_n dX11_layerOf_31 rfl 0 rfl ?_
      refine v_getI fl_X11_38 tt_141 rfl dX11_layerOf_32 ?_
      refine v_if_le (tgt := 40) dX11_layerOf_35 (by decide) ?_ ?_
      · refine v_iconst (v := 0) dX11_layerOf_40 (by decide) ?_
        refine v_istore_n dX11_layerOf_41 rfl (Nat.le_of_ble_eq_true rfl) rfl ?_
        refine v_sub [1, 2, 0] rfl ?_
        exact S_X11_layerOf_42 hl  _ _ _
      · refine v_iconst (v := 0) dX11_layerOf_38 (by decide) ?_
        exact v_iret dX11_layerOf_39 rfl rfl (by decide) (by decide)
  · refine v_iconst (v := 1) dX11_layerOf_9 (by decide) ?_
    refine v_goto (tgt := 28) dX11_layerOf_10 (by decide) ?_
    refine v_putI fl_X11_38 tt_141 rfl (ty0 := .int) rfl rfl rfl dX11_layerOf_28 ?_
    refine v_aload_n dX11_layerOf_31 rfl 0 rfl ?_
    refine v_getI fl_X11_38 tt_141 rfl dX11_layerOf_32 ?_
    refine v_if_le (tgt := 40) dX11_layerOf_35 (by decide) ?_ ?_
    · refine v_iconst (v := 0) dX11_layerOf_40 (by decide) ?_
      refine v_istore_n dX11_layerOf_41 rfl (Nat.le_of_ble_eq_true rfl) rfl ?_
      refine v_sub [1, 2, 0] rfl ?_
      exact S_X11_layerOf_42 hl  _ _ _
    · refine v_iconst (v := 0) dX11_layerOf_38 (by decide) ?_
      exact v_iret dX11_layerOf_39 rfl rfl (by decide) (by decide)
theorem S_X11_layerOf {g : GC} (hl : g.1.stackTraces = false) {x1 : Int32} {w : XW} : ∀ q, f_X11_layerOf x1 w = some q → MM g (.code yX11_layerOf cX11_layerOf 3 (some .int)) yX11_layerOf (rmL 5 0 0) 0 0 [.ref (g.2.1 + 141), .int x1] w (oI q) := fun q hq => MM_of (own := RX11) hl (by decide) gw_1653 rfl (Nat.le_of_ble_eq_true rfl) (W_X11_layerOf hl q hq) ⟨rfl, rfl⟩

theorem dX11_sectionIn_0 : decode cX11_sectionIn 0 = .ok (.aload_n 0, 1) := by decide +kernel
theorem dX11_sectionIn_1 : decode cX11_sectionIn 1 = .ok (.iload_n 1, 1) := by decide +kernel
theorem dX11_sectionIn_2 : decode cX11_sectionIn 2 = .ok (.iconst 0, 1) := by decide +kernel
theorem dX11_sectionIn_3 : decode cX11_sectionIn 3 = .ok (.aload_n 0, 1) := by decide +kernel
theorem dX11_sectionIn_4 : decode cX11_sectionIn 4 = .ok (.getfield 7, 3) := by decide +kernel
theorem dX11_sectionIn_7 : decode cX11_sectionIn 7 = .ok (.iconst 1, 1) := by decide +kernel
theorem dX11_sectionIn_8 : decode cX11_sectionIn 8 = .ok (.iaload, 1) := by decide +kernel
theorem dX11_sectionIn_9 : decode cX11_sectionIn 9 = .ok (.iconst 1, 1) := by decide +kernel
theorem dX11_sectionIn_10 : decode cX11_sectionIn 10 = .ok (.isub, 1) := by decide +kernel
theorem dX11_sectionIn_11 : decode cX11_sectionIn 11 = .ok (.invokestatic 63, 3) := by decide +kernel
theorem dX11_sectionIn_14 : decode cX11_sectionIn 14 = .ok (.ifCond .eq 7, 3) := by decide +kernel
theorem dX11_sectionIn_17 : decode cX11_sectionIn 17 = .ok (.iconst 0, 1) := by decide +kernel
theorem dX11_sectionIn_18 : decode cX11_sectionIn 18 = .ok (.goto 4, 3) := by decide +kernel
theorem dX11_sectionIn_21 : decode cX11_sectionIn 21 = .ok (.iconst 1, 1) := by decide +kernel
theorem dX11_sectionIn_22 : decode cX11_sectionIn 22 = .ok (.putfield 38, 3) := by decide +kernel
theorem dX11_sectionIn_25 : decode cX11_sectionIn 25 = .ok (.aload_n 0, 1) := by decide +kernel
theorem dX11_sectionIn_26 : decode cX11_sectionIn 26 = .ok (.getfield 38, 3) := by decide +kernel
theorem dX11_sectionIn_29 : decode cX11_sectionIn 29 = .ok (.ifCond .le 7, 3) := by decide +kernel
theorem dX11_sectionIn_32 : decode cX11_sectionIn 32 = .ok (.iconst 0, 1) := by decide +kernel
theorem dX11_sectionIn_33 : decode cX11_sectionIn 33 = .ok (.goto 12, 3) := by decide +kernel
theorem dX11_sectionIn_36 : decode cX11_sectionIn 36 = .ok (.aload_n 0, 1) := by decide +kernel
theorem dX11_sectionIn_37 : decode cX11_sectionIn 37 = .ok (.getfield 7, 3) := by decide +kernel
theorem dX11_sectionIn_40 : decode cX11_sectionIn 40 = .ok (.bipush 19, 2) := by decide +kernel
theorem dX11_sectionIn_42 : decode cX11_sectionIn 42 = .ok (.iload_n 1, 1) := by decide +kernel
theorem dX11_sectionIn_43 : decode cX11_sectionIn 43 = .ok (.iadd, 1) := by decide +kernel
theorem dX11_sectionIn_44 : decode cX11_sectionIn 44 = .ok (.iaload, 1) := by decide +kernel
theorem dX11_sectionIn_45 : decode cX11_sectionIn 45 = .ok (.ireturn, 1) := by decide +kernel
def f_X11_sectionIn (x1 : Int32) (w : XW) : Option (Int32 × XW) := (bI (f_X11_in x1 0 ((w.1 142 (Int32.toNatClampNeg 1)) - 1) w) (fun r1 w1 => (if r1 = 0 then (if ((wset w1 141 0 1).1 141 0) ≤ 0 then (if inB (19 + x1) 66 then (some (((wset w1 141 0 1).1 142 (Int32.toNatClampNeg (19 + x1))), (wset w1 141 0 1))) else none) else (some (0, (wset w1 141 0 1)))) else (if ((wset w1 141 0 0).1 141 0) ≤ 0 then (if inB (19 + x1) 66 then (some (((wset w1 141 0 0).1 142 (Int32.toNatClampNeg (19 + x1))), (wset w1 141 0 0))) else none) else (some (0, (wset w1 141 0 0)))))))
set_option maxRecDepth 100000 in
theorem W_X11_sectionIn {g : GC} (hl : g.1.stackTraces = false) {x1 : Int32} {w : XW} : VE g cX11_sectionIn 2 RX11 (some .int) [] (rmL 4 0 0) 0 0 oI 0 0 0 [(0, .ref (g.2.1 + 141)), (1, .int x1)] [] w (f_X11_sectionIn x1 w) := by
  unfold f_X11_sectionIn
  refine v_aload_n dX11_sectionIn_0 rfl 0 rfl ?_
  refine v_iload_n dX11_sectionIn_1 rfl 1 rfl ?_
  refine v_iconst (v := 0) dX11_sectionIn_2 (by decide) ?_
  refine v_aload_n dX11_sectionIn_3 rfl 0 rfl ?_
  refine v_getR fl_X11_7 tt_141 rfl dX11_sectionIn_4 ?_
  refine v_iconst (v := 1) dX11_sectionIn_7 (by decide) ?_
  refine v_iald tt_142 (by decide : inB 1 66) dX11_sectionIn_8 ?_
  refine v_iconst (v := 1) dX11_sectionIn_9 (by decide) ?_
  refine v_isub dX11_sectionIn_10 ?_
  refine v_callSi (As := [.int x1, .int 0, .int ((w.1 142 (Int32.toNatClampNeg 1)) - 1)]) cs_X11_63 (S_X11_in hl) rfl rfl (Nat.le_of_ble_eq_true rfl) dX11_sectionIn_11 (CR_rm (by decide) (by decide) (by decide) (by decide)) (fun r1 w1 => ?_)
  refine v_if_eq (tgt := 21) dX11_sectionIn_14 (by decide) ?_ ?_
  · refine v_iconst (v := 1) dX11_sectionIn_21 (by decide) ?_
    refine v_putI fl_X11_38 tt_141 rfl (ty0 := .int) rfl rfl rfl dX11_sectionIn_22 ?_
    refine v_aload_n dX11_sectionIn_25 rfl 0 rfl ?_
    refine v_getI fl_X11_38 tt_141 rfl dX11_sectionIn_26 ?_
    refine v_if_le (tgt := 36) dX11_sectionIn_29 (by decide) ?_ ?_
    · refine v_aload_n dX11_sectionIn_36 rfl 0 rfl ?_
      refine v_getR fl_X11_7 tt_141 rfl dX11_sectionIn_37 ?_
      refine v_bipush (v := 19) dX11_sectionIn_40 (by decide) ?_
      refine v_iload_n dX11_sectionIn_42 rfl 1 rfl ?_
      refine v_iadd dX11_sectionIn_43 ?_
      refine v_guard (fun h2 => ?_)
      refine v_iald tt_142 h2 dX11_sectionIn_44 ?_
      exact v_iret dX11_sectionIn_45 rfl rfl (by decide) (by decide)
    · refine v_iconst (v := 0) dX11_sectionIn_32 (by decide) ?_
      refine v_goto (tgt := 45) dX11_sectionIn_33 (by decide) ?_
      exact v_iret dX11_sectionIn_45 rfl rfl (by decide) (by decide)
  · refine v_iconst (v := 0) dX11_sectionIn_17 (by decide) ?_
    refine v_goto (tgt := 22) dX11_sectionIn_18 (by decide) ?_
    refine v_putI fl_X11_38 tt_141 rfl (ty0 := .int) rfl rfl rfl dX11_sectionIn_22 ?_
    refine v_aload_n dX11_sectionIn_25 rfl 0 rfl ?_
    refine v_getI fl_X11_38 tt_141 rfl dX11_sectionIn_26 ?_
    refine v_if_le (tgt := 36) dX11_sectionIn_29 (by decide) ?_ ?_
    · refine v_aload_n dX11_sectionIn_36 rfl 0 rfl ?_
      refine v_getR fl_X11_7 tt_141 rfl dX11_sectionIn_37 ?_
      refine v_bipush (v := 19) dX11_sectionIn_40 (by decide) ?_
      refine v_iload_n dX11_sectionIn_42 rfl 1 rfl ?_
      refine v_iadd dX11_sectionIn_43 ?_
      refine v_guard (fun h3 => ?_)
      refine v_iald tt_142 h3 dX11_sectionIn_44 ?_
      exact v_iret dX11_sectionIn_45 rfl rfl (by decide) (by decide)
    · refine v_iconst (v := 0) dX11_sectionIn_32 (by decide) ?_
      refine v_goto (tgt := 45) dX11_sectionIn_33 (by decide) ?_
      exact v_iret dX11_sectionIn_45 rfl rfl (by decide) (by decide)
theorem S_X11_sectionIn {g : GC} (hl : g.1.stackTraces = false) {x1 : Int32} {w : XW} : ∀ q, f_X11_sectionIn x1 w = some q → MM g (.code yX11_sectionIn cX11_sectionIn 2 (some .int)) yX11_sectionIn (rmL 4 0 0) 0 0 [.ref (g.2.1 + 141), .int x1] w (oI q) := fun q hq => MM_of (own := RX11) hl (by decide) gw_1657 rfl (Nat.le_of_ble_eq_true rfl) (W_X11_sectionIn hl q hq) ⟨rfl, rfl⟩

theorem dX11_canFold_0 : decode cX11_canFold 0 = .ok (.aload_n 0, 1) := by decide +kernel
theorem dX11_canFold_1 : decode cX11_canFold 1 = .ok (.iload_n 1, 1) := by decide +kernel
theorem dX11_canFold_2 : decode cX11_canFold 2 = .ok (.iconst 0, 1) := by decide +kernel
theorem dX11_canFold_3 : decode cX11_canFold 3 = .ok (.aload_n 0, 1) := by decide +kernel
theorem dX11_canFold_4 : decode cX11_canFold 4 = .ok (.getfield 7, 3) := by decide +kernel
theorem dX11_canFold_7 : decode cX11_canFold 7 = .ok (.iconst 1, 1) := by decide +kernel
theorem dX11_canFold_8 : decode cX11_canFold 8 = .ok (.iaload, 1) := by decide +kernel
theorem dX11_canFold_9 : decode cX11_canFold 9 = .ok (.invokestatic 63, 3) := by decide +kernel
theorem dX11_canFold_12 : decode cX11_canFold 12 = .ok (.ifCond .eq 7, 3) := by decide +kernel
theorem dX11_canFold_15 : decode cX11_canFold 15 = .ok (.iconst 0, 1) := by decide +kernel
theorem dX11_canFold_16 : decode cX11_canFold 16 = .ok (.goto 4, 3) := by decide +kernel
theorem dX11_canFold_19 : decode cX11_canFold 19 = .ok (.iconst 1, 1) := by decide +kernel
theorem dX11_canFold_20 : decode cX11_canFold 20 = .ok (.putfield 38, 3) := by decide +kernel
theorem dX11_canFold_23 : decode cX11_canFold 23 = .ok (.aload_n 0, 1) := by decide +kernel
theorem dX11_canFold_24 : decode cX11_canFold 24 = .ok (.getfield 38, 3) := by decide +kernel
theorem dX11_canFold_27 : decode cX11_canFold 27 = .ok (.ifCond .ne 31, 3) := by decide +kernel
theorem dX11_canFold_30 : decode cX11_canFold 30 = .ok (.aload_n 0, 1) := by decide +kernel
theorem dX11_canFold_31 : decode cX11_canFold 31 = .ok (.getfield 7, 3) := by decide +kernel
theorem dX11_canFold_34 : decode cX11_canFold 34 = .ok (.iconst 1, 1) := by decide +kernel
theorem dX11_canFold_35 : decode cX11_canFold 35 = .ok (.iaload, 1) := by decide +kernel
theorem dX11_canFold_36 : decode cX11_canFold 36 = .ok (.aload_n 0, 1) := by decide +kernel
theorem dX11_canFold_37 : decode cX11_canFold 37 = .ok (.getfield 7, 3) := by decide +kernel
theorem dX11_canFold_40 : decode cX11_canFold 40 = .ok (.iconst 0, 1) := by decide +kernel
theorem dX11_canFold_41 : decode cX11_canFold 41 = .ok (.iaload, 1) := by decide +kernel
theorem dX11_canFold_42 : decode cX11_canFold 42 = .ok (.if_icmp .ge 16, 3) := by decide +kernel
theorem dX11_canFold_45 : decode cX11_canFold 45 = .ok (.aload_n 0, 1) := by decide +kernel
theorem dX11_canFold_46 : decode cX11_canFold 46 = .ok (.iload_n 1, 1) := by decide +kernel
theorem dX11_canFold_47 : decode cX11_canFold 47 = .ok (.invokevirtual 79, 3) := by decide +kernel
theorem dX11_canFold_50 : decode cX11_canFold 50 = .ok (.iconst (-1), 1) := by decide +kernel
theorem dX11_canFold_51 : decode cX11_canFold 51 = .ok (.if_icmp .ne 7, 3) := by decide +kernel
theorem dX11_canFold_54 : decode cX11_canFold 54 = .ok (.iconst 1, 1) := by decide +kernel
theorem dX11_canFold_55 : decode cX11_canFold 55 = .ok (.goto 4, 3) := by decide +kernel
theorem dX11_canFold_58 : decode cX11_canFold 58 = .ok (.iconst 0, 1) := by decide +kernel
theorem dX11_canFold_59 : decode cX11_canFold 59 = .ok (.ireturn, 1) := by decide +kernel
def f_X11_canFold (x1 : Int32) (w : XW) : Option (Int32 × XW) := (bI (f_X11_in x1 0 (w.1 142 (Int32.toNatClampNeg 1)) w) (fun r1 w1 => (if r1 = 0 then (if ((wset w1 141 0 1).1 141 0) = 0 then (if ((wset w1 141 0 1).1 142 (Int32.toNatClampNeg 0)) ≤ ((wset w1 141 0 1).1 142 (Int32.toNatClampNeg 1)) then (some (0, (wset w1 141 0 1))) else (bI (f_X11_crossed x1 (wset w1 141 0 1)) (fun r2 w2 => (if r2 = (-1) then (some (1, w2)) else (some (0, w2)))))) else (some (0, (wset w1 141 0 1)))) else (if ((wset w1 141 0 0).1 141 0) = 0 then (if ((wset w1 141 0 0).1 142 (Int32.toNatClampNeg 0)) ≤ ((wset w1 141 0 0).1 142 (Int32.toNatClampNeg 1)) then (some (0, (wset w1 141 0 0))) else (bI (f_X11_crossed x1 (wset w1 141 0 0)) (fun r3 w3 => (if r3 = (-1) then (some (1, w3)) else (some (0, w3)))))) else (some (0, (wset w1 141 0 0)))))))
set_option maxRecDepth 100000 in
theorem W_X11_canFold {g : GC} (hl : g.1.stackTraces = false) {x1 : Int32} {w : XW} : VE g cX11_canFold 2 RX11 (some .boolean) [] (rmL 5 0 0) 0 0 oI 0 0 0 [(0, .ref (g.2.1 + 141)), (1, .int x1)] [] w (f_X11_canFold x1 w) := by
  unfold f_X11_canFold
  refine v_aload_n dX11_canFold_0 rfl 0 rfl ?_
  refine v_iload_n dX11_canFold_1 rfl 1 rfl ?_
  refine v_iconst (v := 0) dX11_canFold_2 (by decide) ?_
  refine v_aload_n dX11_canFold_3 rfl 0 rfl ?_
  refine v_getR fl_X11_7 tt_141 rfl dX11_canFold_4 ?_
  refine v_iconst (v := 1) dX11_canFold_7 (by decide) ?_
  refine v_iald tt_142 (by decide : inB 1 66) dX11_canFold_8 ?_
  refine v_callSi (As := [.int x1, .int 0, .int (w.1 142 (Int32.toNatClampNeg 1))]) cs_X11_63 (S_X11_in hl) rfl rfl (Nat.le_of_ble_eq_true rfl) dX11_canFold_9 (CR_rm (by decide) (by decide) (by decide) (by decide)) (fun r1 w1 => ?_)
  refine v_if_eq (tgt := 19) dX11_canFold_12 (by decide) ?_ ?_
  · refine v_iconst (v := 1) dX11_canFold_19 (by decide) ?_
    refine v_putI fl_X11_38 tt_141 rfl (ty0 := .int) rfl rfl rfl dX11_canFold_20 ?_
    refine v_aload_n dX11_canFold_23 rfl 0 rfl ?_
    refine v_getI fl_X11_38 tt_141 rfl dX11_canFold_24 ?_
    refine v_if_ne (tgt := 58) dX11_canFold_27 (by decide) ?_ ?_
    · refine v_iconst (v := 0) dX11_canFold_58 (by decide) ?_
      exact v_zret dX11_canFold_59 rfl rfl rfl (by decide) (by decide)
    · refine v_aload_n dX11_canFold_30 rfl 0 rfl ?_
      refine v_getR fl_X11_7 tt_141 rfl dX11_canFold_31 ?_
      refine v_iconst (v := 1) dX11_canFold_34 (by decide) ?_
      refine v_iald tt_142 (by decide : inB 1 66) dX11_canFold_35 ?_
      refine v_aload_n dX11_canFold_36 rfl 0 rfl ?_
      refine v_getR fl_X11_7 tt_141 rfl dX11_canFold_37 ?_
      refine v_iconst (v := 0) dX11_canFold_40 (by decide) ?_
      refine v_iald tt_142 (by decide : inB 0 66) dX11_canFold_41 ?_
      refine v_icmp_ge (tgt := 58) dX11_canFold_42 (by decide) ?_ ?_
      · refine v_iconst (v := 0) dX11_canFold_58 (by decide) ?_
        exact v_zret dX11_canFold_59 rfl rfl rfl (by decide) (by decide)
      · refine v_aload_n dX11_canFold_45 rfl 0 rfl ?_
        refine v_iload_n dX11_canFold_46 rfl 1 rfl ?_
        refine v_callVi (As := [.int x1]) cv_X11_79 (S_X11_crossed hl) tt_141 rfl rfl rfl (Nat.le_of_ble_eq_true rfl) dX11_canFold_47 (CR_rm (by decide) (by decide) (by decide) (by decide)) (fun r2 w2 => ?_)
        refine v_iconst (v := (-1)) dX11_canFold_50 (by decide) ?_
        refine v_icmp_ne (tgt := 58) dX11_canFold_51 (by decide) ?_ ?_
        · refine v_iconst (v := 0) dX11_canFold_58 (by decide) ?_
          exact v_zret dX11_canFold_59 rfl rfl rfl (by decide) (by decide)
        · refine v_iconst (v := 1) dX11_canFold_54 (by decide) ?_
          refine v_goto (tgt := 59) dX11_canFold_55 (by decide) ?_
          exact v_zret dX11_canFold_59 rfl rfl rfl (by decide) (by decide)
  · refine v_iconst (v := 0) dX11_canFold_15 (by decide) ?_
    refine v_goto (tgt := 20) dX11_canFold_16 (by decide) ?_
    refine v_putI fl_X11_38 tt_141 rfl (ty0 := .int) rfl rfl rfl dX11_canFold_20 ?_
    refine v_aload_n dX11_canFold_23 rfl 0 rfl ?_
    refine v_getI fl_X11_38 tt_141 rfl dX11_canFold_24 ?_
    refine v_if_ne (tgt := 58) dX11_canFold_27 (by decide) ?_ ?_
    · refine v_iconst (v := 0) dX11_canFold_58 (by decide) ?_
      exact v_zret dX11_canFold_59 rfl rfl rfl (by decide) (by decide)
    · refine v_aload_n dX11_canFold_30 rfl 0 rfl ?_
      refine v_getR fl_X11_7 tt_141 rfl dX11_canFold_31 ?_
      refine v_iconst (v := 1) dX11_canFold_34 (by decide) ?_
      refine v_iald tt_142 (by decide : inB 1 66) dX11_canFold_35 ?_
      refine v_aload_n dX11_canFold_36 rfl 0 rfl ?_
      refine v_getR fl_X11_7 tt_141 rfl dX11_canFold_37 ?_
      refine v_iconst (v := 0) dX11_canFold_40 (by decide) ?_
      refine v_iald tt_142 (by decide : inB 0 66) dX11_canFold_41 ?_
      refine v_icmp_ge (tgt := 58) dX11_canFold_42 (by decide) ?_ ?_
      · refine v_iconst (v := 0) dX11_canFold_58 (by decide) ?_
        exact v_zret dX11_canFold_59 rfl rfl rfl (by decide) (by decide)
      · refine v_aload_n dX11_canFold_45 rfl 0 rfl ?_
        refine v_iload_n dX11_canFold_46 rfl 1 rfl ?_
        refine v_callVi (As := [.int x1]) cv_X11_79 (S_X11_crossed hl) tt_141 rfl rfl rfl (Nat.le_of_ble_eq_true rfl) dX11_canFold_47 (CR_rm (by decide) (by decide) (by decide) (by decide)) (fun r3 w3 => ?_)
        refine v_iconst (v := (-1)) dX11_canFold_50 (by decide) ?_
        refine v_icmp_ne (tgt := 58) dX11_canFold_51 (by decide) ?_ ?_
        · refine v_iconst (v := 0) dX11_canFold_58 (by decide) ?_
          exact v_zret dX11_canFold_59 rfl rfl rfl (by decide) (by decide)
        · refine v_iconst (v := 1) dX11_canFold_54 (by decide) ?_
          refine v_goto (tgt := 59) dX11_canFold_55 (by decide) ?_
          exact v_zret dX11_canFold_59 rfl rfl rfl (by decide) (by decide)
theorem S_X11_canFold {g : GC} (hl : g.1.stackTraces = false) {x1 : Int32} {w : XW} : ∀ q, f_X11_canFold x1 w = some q → MM g (.code yX11_canFold cX11_canFold 2 (some .boolean)) yX11_canFold (rmL 5 0 0) 0 0 [.ref (g.2.1 + 141), .int x1] w (oI q) := fun q hq => MM_of (own := RX11) hl (by decide) gw_1661 rfl (Nat.le_of_ble_eq_true rfl) (W_X11_canFold hl q hq) ⟨rfl, rfl⟩

theorem dX11_completions_0 : decode cX11_completions 0 = .ok (.aload_n 0, 1) := by decide +kernel
theorem dX11_completions_1 : decode cX11_completions 1 = .ok (.iconst 0, 1) := by decide +kernel
theorem dX11_completions_2 : decode cX11_completions 2 = .ok (.putfield 38, 3) := by decide +kernel
theorem dX11_completions_5 : decode cX11_completions 5 = .ok (.aload_n 0, 1) := by decide +kernel
theorem dX11_completions_6 : decode cX11_completions 6 = .ok (.invokevirtual 85, 3) := by decide +kernel
theorem dX11_completions_9 : decode cX11_completions 9 = .ok (.ireturn, 1) := by decide +kernel
def f_X11_completions (w : XW) : Option (Int32 × XW) := (bI (f_X11_ways 9 (wset w 141 0 0)) (fun r1 w1 => (some (r1, w1))))
set_option maxRecDepth 100000 in
theorem W_X11_completions {g : GC} (hl : g.1.stackTraces = false) {w : XW} : VE g cX11_completions 1 RX11 (some .int) [] (rmL 15 0 0) 0 0 oI 0 0 0 [(0, .ref (g.2.1 + 141))] [] w (f_X11_completions  w) := by
  unfold f_X11_completions
  refine v_aload_n dX11_completions_0 rfl 0 rfl ?_
  refine v_iconst (v := 0) dX11_completions_1 (by decide) ?_
  refine v_putI fl_X11_38 tt_141 rfl (ty0 := .int) rfl rfl rfl dX11_completions_2 ?_
  refine v_aload_n dX11_completions_5 rfl 0 rfl ?_
  refine v_callVi (As := []) cv_X11_85 (S_X11_ways hl 9 _) tt_141 rfl rfl rfl (Nat.le_of_ble_eq_true rfl) dX11_completions_6 (CR_rm (by decide) (by decide) (by decide) (by decide)) (fun r1 w1 => ?_)
  exact v_iret dX11_completions_9 rfl rfl (by decide) (by decide)
theorem S_X11_completions {g : GC} (hl : g.1.stackTraces = false) {w : XW} : ∀ q, f_X11_completions  w = some q → MM g (.code yX11_completions cX11_completions 1 (some .int)) yX11_completions (rmL 15 0 0) 0 0 [.ref (g.2.1 + 141)] w (oI q) := fun q hq => MM_of (own := RX11) hl (by decide) gw_1665 rfl (Nat.le_of_ble_eq_true rfl) (W_X11_completions hl q hq) ⟨rfl, rfl⟩

theorem dX11_completionsByOrders_0 : decode cX11_completionsByOrders 0 = .ok (.aload_n 0, 1) := by decide +kernel
theorem dX11_completionsByOrders_1 : decode cX11_completionsByOrders 1 = .ok (.invokevirtual 146, 3) := by decide +kernel
theorem dX11_completionsByOrders_4 : decode cX11_completionsByOrders 4 = .ok (.ireturn, 1) := by decide +kernel
def f_X11_completionsByOrders (w : XW) : Option (Int32 × XW) := (bI (f_X11_completions w) (fun r1 w1 => (some (r1, w1))))
set_option maxRecDepth 100000 in
theorem W_X11_completionsByOrders {g : GC} (hl : g.1.stackTraces = false) {w : XW} : VE g cX11_completionsByOrders 1 RX11 (some .int) [] (rmL 16 0 0) 0 0 oI 0 0 0 [(0, .ref (g.2.1 + 141))] [] w (f_X11_completionsByOrders  w) := by
  unfold f_X11_completionsByOrders
  refine v_aload_n dX11_completionsByOrders_0 rfl 0 rfl ?_
  refine v_callVi (As := []) cv_X11_146 (S_X11_completions hl) tt_141 rfl rfl rfl (Nat.le_of_ble_eq_true rfl) dX11_completionsByOrders_1 (CR_rm (by decide) (by decide) (by decide) (by decide)) (fun r1 w1 => ?_)
  exact v_iret dX11_completionsByOrders_4 rfl rfl (by decide) (by decide)
theorem S_X11_completionsByOrders {g : GC} (hl : g.1.stackTraces = false) {w : XW} : ∀ q, f_X11_completionsByOrders  w = some q → MM g (.code yX11_completionsByOrders cX11_completionsByOrders 1 (some .int)) yX11_completionsByOrders (rmL 16 0 0) 0 0 [.ref (g.2.1 + 141)] w (oI q) := fun q hq => MM_of (own := RX11) hl (by decide) gw_1673 rfl (Nat.le_of_ble_eq_true rfl) (W_X11_completionsByOrders hl q hq) ⟨rfl, rfl⟩

theorem dX11_layPipe_0 : decode cX11_layPipe 0 = .ok (.aload_n 0, 1) := by decide +kernel
theorem dX11_layPipe_1 : decode cX11_layPipe 1 = .ok (.invokevirtual 121, 3) := by decide +kernel
theorem dX11_layPipe_4 : decode cX11_layPipe 4 = .ok (.aload_n 0, 1) := by decide +kernel
theorem dX11_layPipe_5 : decode cX11_layPipe 5 = .ok (.aload_n 0, 1) := by decide +kernel
theorem dX11_layPipe_6 : decode cX11_layPipe 6 = .ok (.iload_n 1, 1) := by decide +kernel
theorem dX11_layPipe_7 : decode cX11_layPipe 7 = .ok (.iload_n 2, 1) := by decide +kernel
theorem dX11_layPipe_8 : decode cX11_layPipe 8 = .ok (.iload_n 3, 1) := by decide +kernel
theorem dX11_layPipe_9 : decode cX11_layPipe 9 = .ok (.invokevirtual 149, 3) := by decide +kernel
theorem dX11_layPipe_12 : decode cX11_layPipe 12 = .ok (.iconst 3, 1) := by decide +kernel
theorem dX11_layPipe_13 : decode cX11_layPipe 13 = .ok (.invokevirtual 127, 3) := by decide +kernel
theorem dX11_layPipe_16 : decode cX11_layPipe 16 = .ok (.ireturn, 1) := by decide +kernel
def f_X11_layPipe (x1 : Int32) (x2 : Int32) (x3 : Int32) (w : XW) : Option (Int32 × XW) := (bV (f_X11_remembers w) (fun w1 => (bI (f_X11_pipes x1 x2 x3 w1) (fun r2 w2 => (bI (f_X11_ends r2 3 w2) (fun r3 w3 => (some (r3, w3))))))))
set_option maxRecDepth 100000 in
theorem W_X11_layPipe {g : GC} (hl : g.1.stackTraces = false) {x1 : Int32} {x2 : Int32} {x3 : Int32} {w : XW} : VE g cX11_layPipe 4 RX11 (some .int) [] (rmL 6 0 0) 0 0 oI 0 0 0 [(0, .ref (g.2.1 + 141)), (1, .int x1), (2, .int x2), (3, .int x3)] [] w (f_X11_layPipe x1 x2 x3 w) := by
  unfold f_X11_layPipe
  refine v_aload_n dX11_layPipe_0 rfl 0 rfl ?_
  refine v_callVv (As := []) cv_X11_121 (S_X11_remembers hl) tt_141 rfl rfl rfl (Nat.le_of_ble_eq_true rfl) dX11_layPipe_1 (CR_rm (by decide) (by decide) (by decide) (by decide)) (fun w1 => ?_)
  refine v_aload_n dX11_layPipe_4 rfl 0 rfl ?_
  refine v_aload_n dX11_layPipe_5 rfl 0 rfl ?_
  refine v_iload_n dX11_layPipe_6 rfl 1 rfl ?_
  refine v_iload_n dX11_layPipe_7 rfl 2 rfl ?_
  refine v_iload_n dX11_layPipe_8 rfl 3 rfl ?_
  refine v_callVi (As := [.int x1, .int x2, .int x3]) cv_X11_149 (S_X11_pipes hl) tt_141 rfl rfl rfl (Nat.le_of_ble_eq_true rfl) dX11_layPipe_9 (CR_rm (by decide) (by decide) (by decide) (by decide)) (fun r2 w2 => ?_)
  refine v_iconst (v := 3) dX11_layPipe_12 (by decide) ?_
  refine v_callVi (As := [.int r2, .int 3]) cv_X11_127 (S_X11_ends hl) tt_141 rfl rfl rfl (Nat.le_of_ble_eq_true rfl) dX11_layPipe_13 (CR_rm (by decide) (by decide) (by decide) (by decide)) (fun r3 w3 => ?_)
  exact v_iret dX11_layPipe_16 rfl rfl (by decide) (by decide)
theorem S_X11_layPipe {g : GC} (hl : g.1.stackTraces = false) {x1 : Int32} {x2 : Int32} {x3 : Int32} {w : XW} : ∀ q, f_X11_layPipe x1 x2 x3 w = some q → MM g (.code yX11_layPipe cX11_layPipe 4 (some .int)) yX11_layPipe (rmL 6 0 0) 0 0 [.ref (g.2.1 + 141), .int x1, .int x2, .int x3] w (oI q) := fun q hq => MM_of (own := RX11) hl (by decide) gw_1678 rfl (Nat.le_of_ble_eq_true rfl) (W_X11_layPipe hl q hq) ⟨rfl, rfl⟩

theorem dX11_removePipe_0 : decode cX11_removePipe 0 = .ok (.aload_n 0, 1) := by decide +kernel
theorem dX11_removePipe_1 : decode cX11_removePipe 1 = .ok (.invokevirtual 121, 3) := by decide +kernel
theorem dX11_removePipe_4 : decode cX11_removePipe 4 = .ok (.aload_n 0, 1) := by decide +kernel
theorem dX11_removePipe_5 : decode cX11_removePipe 5 = .ok (.aload_n 0, 1) := by decide +kernel
theorem dX11_removePipe_6 : decode cX11_removePipe 6 = .ok (.iload_n 1, 1) := by decide +kernel
theorem dX11_removePipe_7 : decode cX11_removePipe 7 = .ok (.invokevirtual 153, 3) := by decide +kernel
theorem dX11_removePipe_10 : decode cX11_removePipe 10 = .ok (.iconst 1, 1) := by decide +kernel
theorem dX11_removePipe_11 : decode cX11_removePipe 11 = .ok (.invokevirtual 127, 3) := by decide +kernel
theorem dX11_removePipe_14 : decode cX11_removePipe 14 = .ok (.ireturn, 1) := by decide +kernel
def f_X11_removePipe (x1 : Int32) (w : XW) : Option (Int32 × XW) := (bV (f_X11_remembers w) (fun w1 => (bI (f_X11_cuts x1 w1) (fun r2 w2 => (bI (f_X11_ends r2 1 w2) (fun r3 w3 => (some (r3, w3))))))))
set_option maxRecDepth 100000 in
theorem W_X11_removePipe {g : GC} (hl : g.1.stackTraces = false) {x1 : Int32} {w : XW} : VE g cX11_removePipe 2 RX11 (some .int) [] (rmL 6 0 0) 0 0 oI 0 0 0 [(0, .ref (g.2.1 + 141)), (1, .int x1)] [] w (f_X11_removePipe x1 w) := by
  unfold f_X11_removePipe
  refine v_aload_n dX11_removePipe_0 rfl 0 rfl ?_
  refine v_callVv (As := []) cv_X11_121 (S_X11_remembers hl) tt_141 rfl rfl rfl (Nat.le_of_ble_eq_true rfl) dX11_removePipe_1 (CR_rm (by decide) (by decide) (by decide) (by decide)) (fun w1 => ?_)
  refine v_aload_n dX11_removePipe_4 rfl 0 rfl ?_
  refine v_aload_n dX11_removePipe_5 rfl 0 rfl ?_
  refine v_iload_n dX11_removePipe_6 rfl 1 rfl ?_
  refine v_callVi (As := [.int x1]) cv_X11_153 (S_X11_cuts hl) tt_141 rfl rfl rfl (Nat.le_of_ble_eq_true rfl) dX11_removePipe_7 (CR_rm (by decide) (by decide) (by decide) (by decide)) (fun r2 w2 => ?_)
  refine v_iconst (v := 1) dX11_removePipe_10 (by decide) ?_
  refine v_callVi (As := [.int r2, .int 1]) cv_X11_127 (S_X11_ends hl) tt_141 rfl rfl rfl (Nat.le_of_ble_eq_true rfl) dX11_removePipe_11 (CR_rm (by decide) (by decide) (by decide) (by decide)) (fun r3 w3 => ?_)
  exact v_iret dX11_removePipe_14 rfl rfl (by decide) (by decide)
theorem S_X11_removePipe {g : GC} (hl : g.1.stackTraces = false) {x1 : Int32} {w : XW} : ∀ q, f_X11_removePipe x1 w = some q → MM g (.code yX11_removePipe cX11_removePipe 2 (some .int)) yX11_removePipe (rmL 6 0 0) 0 0 [.ref (g.2.1 + 141), .int x1] w (oI q) := fun q hq => MM_of (own := RX11) hl (by decide) gw_1686 rfl (Nat.le_of_ble_eq_true rfl) (W_X11_removePipe hl q hq) ⟨rfl, rfl⟩

theorem dX11_breakPipe_0 : decode cX11_breakPipe 0 = .ok (.aload_n 0, 1) := by decide +kernel
theorem dX11_breakPipe_1 : decode cX11_breakPipe 1 = .ok (.invokevirtual 121, 3) := by decide +kernel
theorem dX11_breakPipe_4 : decode cX11_breakPipe 4 = .ok (.aload_n 0, 1) := by decide +kernel
theorem dX11_breakPipe_5 : decode cX11_breakPipe 5 = .ok (.aload_n 0, 1) := by decide +kernel
theorem dX11_breakPipe_6 : decode cX11_breakPipe 6 = .ok (.iload_n 1, 1) := by decide +kernel
theorem dX11_breakPipe_7 : decode cX11_breakPipe 7 = .ok (.iconst 1, 1) := by decide +kernel
theorem dX11_breakPipe_8 : decode cX11_breakPipe 8 = .ok (.invokevirtual 156, 3) := by decide +kernel
theorem dX11_breakPipe_11 : decode cX11_breakPipe 11 = .ok (.iconst 2, 1) := by decide +kernel
theorem dX11_breakPipe_12 : decode cX11_breakPipe 12 = .ok (.invokevirtual 127, 3) := by decide +kernel
theorem dX11_breakPipe_15 : decode cX11_breakPipe 15 = .ok (.ireturn, 1) := by decide +kernel
def f_X11_breakPipe (x1 : Int32) (w : XW) : Option (Int32 × XW) := (bV (f_X11_remembers w) (fun w1 => (bI (f_X11_turns x1 1 w1) (fun r2 w2 => (bI (f_X11_ends r2 2 w2) (fun r3 w3 => (some (r3, w3))))))))
set_option maxRecDepth 100000 in
theorem W_X11_breakPipe {g : GC} (hl : g.1.stackTraces = false) {x1 : Int32} {w : XW} : VE g cX11_breakPipe 2 RX11 (some .int) [] (rmL 6 0 0) 0 0 oI 0 0 0 [(0, .ref (g.2.1 + 141)), (1, .int x1)] [] w (f_X11_breakPipe x1 w) := by
  unfold f_X11_breakPipe
  refine v_aload_n dX11_breakPipe_0 rfl 0 rfl ?_
  refine v_callVv (As := []) cv_X11_121 (S_X11_remembers hl) tt_141 rfl rfl rfl (Nat.le_of_ble_eq_true rfl) dX11_breakPipe_1 (CR_rm (by decide) (by decide) (by decide) (by decide)) (fun w1 => ?_)
  refine v_aload_n dX11_breakPipe_4 rfl 0 rfl ?_
  refine v_aload_n dX11_breakPipe_5 rfl 0 rfl ?_
  refine v_iload_n dX11_breakPipe_6 rfl 1 rfl ?_
  refine v_iconst (v := 1) dX11_breakPipe_7 (by decide) ?_
  refine v_callVi (As := [.int x1, .int 1]) cv_X11_156 (S_X11_turns hl) tt_141 rfl rfl rfl (Nat.le_of_ble_eq_true rfl) dX11_breakPipe_8 (CR_rm (by decide) (by decide) (by decide) (by decide)) (fun r2 w2 => ?_)
  refine v_iconst (v := 2) dX11_breakPipe_11 (by decide) ?_
  refine v_callVi (As := [.int r2, .int 2]) cv_X11_127 (S_X11_ends hl) tt_141 rfl rfl rfl (Nat.le_of_ble_eq_true rfl) dX11_breakPipe_12 (CR_rm (by decide) (by decide) (by decide) (by decide)) (fun r3 w3 => ?_)
  exact v_iret dX11_breakPipe_15 rfl rfl (by decide) (by decide)
theorem S_X11_breakPipe {g : GC} (hl : g.1.stackTraces = false) {x1 : Int32} {w : XW} : ∀ q, f_X11_breakPipe x1 w = some q → MM g (.code yX11_breakPipe cX11_breakPipe 2 (some .int)) yX11_breakPipe (rmL 6 0 0) 0 0 [.ref (g.2.1 + 141), .int x1] w (oI q) := fun q hq => MM_of (own := RX11) hl (by decide) gw_1698 rfl (Nat.le_of_ble_eq_true rfl) (W_X11_breakPipe hl q hq) ⟨rfl, rfl⟩

theorem dX11_mendPipe_0 : decode cX11_mendPipe 0 = .ok (.aload_n 0, 1) := by decide +kernel
theorem dX11_mendPipe_1 : decode cX11_mendPipe 1 = .ok (.invokevirtual 121, 3) := by decide +kernel
theorem dX11_mendPipe_4 : decode cX11_mendPipe 4 = .ok (.aload_n 0, 1) := by decide +kernel
theorem dX11_mendPipe_5 : decode cX11_mendPipe 5 = .ok (.aload_n 0, 1) := by decide +kernel
theorem dX11_mendPipe_6 : decode cX11_mendPipe 6 = .ok (.iload_n 1, 1) := by decide +kernel
theorem dX11_mendPipe_7 : decode cX11_mendPipe 7 = .ok (.iconst 0, 1) := by decide +kernel
theorem dX11_mendPipe_8 : decode cX11_mendPipe 8 = .ok (.invokevirtual 156, 3) := by decide +kernel
theorem dX11_mendPipe_11 : decode cX11_mendPipe 11 = .ok (.iconst 2, 1) := by decide +kernel
theorem dX11_mendPipe_12 : decode cX11_mendPipe 12 = .ok (.invokevirtual 127, 3) := by decide +kernel
theorem dX11_mendPipe_15 : decode cX11_mendPipe 15 = .ok (.ireturn, 1) := by decide +kernel
def f_X11_mendPipe (x1 : Int32) (w : XW) : Option (Int32 × XW) := (bV (f_X11_remembers w) (fun w1 => (bI (f_X11_turns x1 0 w1) (fun r2 w2 => (bI (f_X11_ends r2 2 w2) (fun r3 w3 => (some (r3, w3))))))))
set_option maxRecDepth 100000 in
theorem W_X11_mendPipe {g : GC} (hl : g.1.stackTraces = false) {x1 : Int32} {w : XW} : VE g cX11_mendPipe 2 RX11 (some .int) [] (rmL 6 0 0) 0 0 oI 0 0 0 [(0, .ref (g.2.1 + 141)), (1, .int x1)] [] w (f_X11_mendPipe x1 w) := by
  unfold f_X11_mendPipe
  refine v_aload_n dX11_mendPipe_0 rfl 0 rfl ?_
  refine v_callVv (As := []) cv_X11_121 (S_X11_remembers hl) tt_141 rfl rfl rfl (Nat.le_of_ble_eq_true rfl) dX11_mendPipe_1 (CR_rm (by decide) (by decide) (by decide) (by decide)) (fun w1 => ?_)
  refine v_aload_n dX11_mendPipe_4 rfl 0 rfl ?_
  refine v_aload_n dX11_mendPipe_5 rfl 0 rfl ?_
  refine v_iload_n dX11_mendPipe_6 rfl 1 rfl ?_
  refine v_iconst (v := 0) dX11_mendPipe_7 (by decide) ?_
  refine v_callVi (As := [.int x1, .int 0]) cv_X11_156 (S_X11_turns hl) tt_141 rfl rfl rfl (Nat.le_of_ble_eq_true rfl) dX11_mendPipe_8 (CR_rm (by decide) (by decide) (by decide) (by decide)) (fun r2 w2 => ?_)
  refine v_iconst (v := 2) dX11_mendPipe_11 (by decide) ?_
  refine v_callVi (As := [.int r2, .int 2]) cv_X11_127 (S_X11_ends hl) tt_141 rfl rfl rfl (Nat.le_of_ble_eq_true rfl) dX11_mendPipe_12 (CR_rm (by decide) (by decide) (by decide) (by decide)) (fun r3 w3 => ?_)
  exact v_iret dX11_mendPipe_15 rfl rfl (by decide) (by decide)
theorem S_X11_mendPipe {g : GC} (hl : g.1.stackTraces = false) {x1 : Int32} {w : XW} : ∀ q, f_X11_mendPipe x1 w = some q → MM g (.code yX11_mendPipe cX11_mendPipe 2 (some .int)) yX11_mendPipe (rmL 6 0 0) 0 0 [.ref (g.2.1 + 141), .int x1] w (oI q) := fun q hq => MM_of (own := RX11) hl (by decide) gw_1714 rfl (Nat.le_of_ble_eq_true rfl) (W_X11_mendPipe hl q hq) ⟨rfl, rfl⟩

theorem dX11_pipeCount_0 : decode cX11_pipeCount 0 = .ok (.aload_n 0, 1) := by decide +kernel
theorem dX11_pipeCount_1 : decode cX11_pipeCount 1 = .ok (.iconst 0, 1) := by decide +kernel
theorem dX11_pipeCount_2 : decode cX11_pipeCount 2 = .ok (.putfield 38, 3) := by decide +kernel
theorem dX11_pipeCount_5 : decode cX11_pipeCount 5 = .ok (.aload_n 0, 1) := by decide +kernel
theorem dX11_pipeCount_6 : decode cX11_pipeCount 6 = .ok (.getfield 7, 3) := by decide +kernel
theorem dX11_pipeCount_9 : decode cX11_pipeCount 9 = .ok (.iconst 2, 1) := by decide +kernel
theorem dX11_pipeCount_10 : decode cX11_pipeCount 10 = .ok (.iaload, 1) := by decide +kernel
theorem dX11_pipeCount_11 : decode cX11_pipeCount 11 = .ok (.ireturn, 1) := by decide +kernel
def f_X11_pipeCount (w : XW) : Option (Int32 × XW) := (some (((wset w 141 0 0).1 142 (Int32.toNatClampNeg 2)), (wset w 141 0 0)))
set_option maxRecDepth 100000 in
theorem W_X11_pipeCount {g : GC} (hl : g.1.stackTraces = false) {w : XW} : VE g cX11_pipeCount 1 RX11 (some .int) [] (rmL 3 0 0) 0 0 oI 0 0 0 [(0, .ref (g.2.1 + 141))] [] w (f_X11_pipeCount  w) := by
  unfold f_X11_pipeCount
  refine v_aload_n dX11_pipeCount_0 rfl 0 rfl ?_
  refine v_iconst (v := 0) dX11_pipeCount_1 (by decide) ?_
  refine v_putI fl_X11_38 tt_141 rfl (ty0 := .int) rfl rfl rfl dX11_pipeCount_2 ?_
  refine v_aload_n dX11_pipeCount_5 rfl 0 rfl ?_
  refine v_getR fl_X11_7 tt_141 rfl dX11_pipeCount_6 ?_
  refine v_iconst (v := 2) dX11_pipeCount_9 (by decide) ?_
  refine v_iald tt_142 (by decide : inB 2 66) dX11_pipeCount_10 ?_
  exact v_iret dX11_pipeCount_11 rfl rfl (by decide) (by decide)
theorem S_X11_pipeCount {g : GC} (hl : g.1.stackTraces = false) {w : XW} : ∀ q, f_X11_pipeCount  w = some q → MM g (.code yX11_pipeCount cX11_pipeCount 1 (some .int)) yX11_pipeCount (rmL 3 0 0) 0 0 [.ref (g.2.1 + 141)] w (oI q) := fun q hq => MM_of (own := RX11) hl (by decide) gw_1718 rfl (Nat.le_of_ble_eq_true rfl) (W_X11_pipeCount hl q hq) ⟨rfl, rfl⟩

theorem dX11_asked_0 : decode cX11_asked 0 = .ok (.aload_n 0, 1) := by decide +kernel
theorem dX11_asked_1 : decode cX11_asked 1 = .ok (.aload_n 0, 1) := by decide +kernel
theorem dX11_asked_2 : decode cX11_asked 2 = .ok (.iload_n 1, 1) := by decide +kernel
theorem dX11_asked_3 : decode cX11_asked 3 = .ok (.invokevirtual 108, 3) := by decide +kernel
theorem dX11_asked_6 : decode cX11_asked 6 = .ok (.ifCond .eq 7, 3) := by decide +kernel
theorem dX11_asked_9 : decode cX11_asked 9 = .ok (.iconst 0, 1) := by decide +kernel
theorem dX11_asked_10 : decode cX11_asked 10 = .ok (.goto 4, 3) := by decide +kernel
theorem dX11_asked_13 : decode cX11_asked 13 = .ok (.iconst 1, 1) := by decide +kernel
theorem dX11_asked_14 : decode cX11_asked 14 = .ok (.putfield 38, 3) := by decide +kernel
theorem dX11_asked_17 : decode cX11_asked 17 = .ok (.aload_n 0, 1) := by decide +kernel
theorem dX11_asked_18 : decode cX11_asked 18 = .ok (.getfield 38, 3) := by decide +kernel
theorem dX11_asked_21 : decode cX11_asked 21 = .ok (.ifCond .le 7, 3) := by decide +kernel
theorem dX11_asked_24 : decode cX11_asked 24 = .ok (.iconst 0, 1) := by decide +kernel
theorem dX11_asked_25 : decode cX11_asked 25 = .ok (.goto 9, 3) := by decide +kernel
theorem dX11_asked_28 : decode cX11_asked 28 = .ok (.aload_n 0, 1) := by decide +kernel
theorem dX11_asked_29 : decode cX11_asked 29 = .ok (.iload_n 1, 1) := by decide +kernel
theorem dX11_asked_30 : decode cX11_asked 30 = .ok (.iload_n 2, 1) := by decide +kernel
theorem dX11_asked_31 : decode cX11_asked 31 = .ok (.invokevirtual 71, 3) := by decide +kernel
theorem dX11_asked_34 : decode cX11_asked 34 = .ok (.ireturn, 1) := by decide +kernel
def f_X11_asked (x1 : Int32) (x2 : Int32) (w : XW) : Option (Int32 × XW) := (bI (f_X11_isPipe x1 w) (fun r1 w1 => (if r1 = 0 then (if ((wset w1 141 0 1).1 141 0) ≤ 0 then (bI (f_X11_pipe x1 x2 (wset w1 141 0 1)) (fun r2 w2 => (some (r2, w2)))) else (some (0, (wset w1 141 0 1)))) else (if ((wset w1 141 0 0).1 141 0) ≤ 0 then (bI (f_X11_pipe x1 x2 (wset w1 141 0 0)) (fun r3 w3 => (some (r3, w3)))) else (some (0, (wset w1 141 0 0)))))))
set_option maxRecDepth 100000 in
theorem W_X11_asked {g : GC} (hl : g.1.stackTraces = false) {x1 : Int32} {x2 : Int32} {w : XW} : VE g cX11_asked 3 RX11 (some .int) [] (rmL 5 0 0) 0 0 oI 0 0 0 [(0, .ref (g.2.1 + 141)), (1, .int x1), (2, .int x2)] [] w (f_X11_asked x1 x2 w) := by
  unfold f_X11_asked
  refine v_aload_n dX11_asked_0 rfl 0 rfl ?_
  refine v_aload_n dX11_asked_1 rfl 0 rfl ?_
  refine v_iload_n dX11_asked_2 rfl 1 rfl ?_
  refine v_callVi (As := [.int x1]) cv_X11_108 (S_X11_isPipe hl) tt_141 rfl rfl rfl (Nat.le_of_ble_eq_true rfl) dX11_asked_3 (CR_rm (by decide) (by decide) (by decide) (by decide)) (fun r1 w1 => ?_)
  refine v_if_eq (tgt := 13) dX11_asked_6 (by decide) ?_ ?_
  · refine v_iconst (v := 1) dX11_asked_13 (by decide) ?_
    refine v_putI fl_X11_38 tt_141 rfl (ty0 := .int) rfl rfl rfl dX11_asked_14 ?_
    refine v_aload_n dX11_asked_17 rfl 0 rfl ?_
    refine v_getI fl_X11_38 tt_141 rfl dX11_asked_18 ?_
    refine v_if_le (tgt := 28) dX11_asked_21 (by decide) ?_ ?_
    · refine v_aload_n dX11_asked_28 rfl 0 rfl ?_
      refine v_iload_n dX11_asked_29 rfl 1 rfl ?_
      refine v_iload_n dX11_asked_30 rfl 2 rfl ?_
      refine v_callVi (As := [.int x1, .int x2]) cv_X11_71 (S_X11_pipe hl) tt_141 rfl rfl rfl (Nat.le_of_ble_eq_true rfl) dX11_asked_31 (CR_rm (by decide) (by decide) (by decide) (by decide)) (fun r2 w2 => ?_)
      exact v_iret dX11_asked_34 rfl rfl (by decide) (by decide)
    · refine v_iconst (v := 0) dX11_asked_24 (by decide) ?_
      refine v_goto (tgt := 34) dX11_asked_25 (by decide) ?_
      exact v_iret dX11_asked_34 rfl rfl (by decide) (by decide)
  · refine v_iconst (v := 0) dX11_asked_9 (by decide) ?_
    refine v_goto (tgt := 14) dX11_asked_10 (by decide) ?_
    refine v_putI fl_X11_38 tt_141 rfl (ty0 := .int) rfl rfl rfl dX11_asked_14 ?_
    refine v_aload_n dX11_asked_17 rfl 0 rfl ?_
    refine v_getI fl_X11_38 tt_141 rfl dX11_asked_18 ?_
    refine v_if_le (tgt := 28) dX11_asked_21 (by decide) ?_ ?_
    · refine v_aload_n dX11_asked_28 rfl 0 rfl ?_
      refine v_iload_n dX11_asked_29 rfl 1 rfl ?_
      refine v_iload_n dX11_asked_30 rfl 2 rfl ?_
      refine v_callVi (As := [.int x1, .int x2]) cv_X11_71 (S_X11_pipe hl) tt_141 rfl rfl rfl (Nat.le_of_ble_eq_true rfl) dX11_asked_31 (CR_rm (by decide) (by decide) (by decide) (by decide)) (fun r3 w3 => ?_)
      exact v_iret dX11_asked_34 rfl rfl (by decide) (by decide)
    · refine v_iconst (v := 0) dX11_asked_24 (by decide) ?_
      refine v_goto (tgt := 34) dX11_asked_25 (by decide) ?_
      exact v_iret dX11_asked_34 rfl rfl (by decide) (by decide)
theorem S_X11_asked {g : GC} (hl : g.1.stackTraces = false) {x1 : Int32} {x2 : Int32} {w : XW} : ∀ q, f_X11_asked x1 x2 w = some q → MM g (.code yX11_asked cX11_asked 3 (some .int)) yX11_asked (rmL 5 0 0) 0 0 [.ref (g.2.1 + 141), .int x1, .int x2] w (oI q) := fun q hq => MM_of (own := RX11) hl (by decide) gw_1726 rfl (Nat.le_of_ble_eq_true rfl) (W_X11_asked hl q hq) ⟨rfl, rfl⟩

theorem dX11_pipeFrom_0 : decode cX11_pipeFrom 0 = .ok (.aload_n 0, 1) := by decide +kernel
theorem dX11_pipeFrom_1 : decode cX11_pipeFrom 1 = .ok (.iload_n 1, 1) := by decide +kernel
theorem dX11_pipeFrom_2 : decode cX11_pipeFrom 2 = .ok (.iconst 0, 1) := by decide +kernel
theorem dX11_pipeFrom_3 : decode cX11_pipeFrom 3 = .ok (.invokevirtual 159, 3) := by decide +kernel
theorem dX11_pipeFrom_6 : decode cX11_pipeFrom 6 = .ok (.ireturn, 1) := by decide +kernel
def f_X11_pipeFrom (x1 : Int32) (w : XW) : Option (Int32 × XW) := (bI (f_X11_asked x1 0 w) (fun r1 w1 => (some (r1, w1))))
set_option maxRecDepth 100000 in
theorem W_X11_pipeFrom {g : GC} (hl : g.1.stackTraces = false) {x1 : Int32} {w : XW} : VE g cX11_pipeFrom 2 RX11 (some .int) [] (rmL 6 0 0) 0 0 oI 0 0 0 [(0, .ref (g.2.1 + 141)), (1, .int x1)] [] w (f_X11_pipeFrom x1 w) := by
  unfold f_X11_pipeFrom
  refine v_aload_n dX11_pipeFrom_0 rfl 0 rfl ?_
  refine v_iload_n dX11_pipeFrom_1 rfl 1 rfl ?_
  refine v_iconst (v := 0) dX11_pipeFrom_2 (by decide) ?_
  refine v_callVi (As := [.int x1, .int 0]) cv_X11_159 (S_X11_asked hl) tt_141 rfl rfl rfl (Nat.le_of_ble_eq_true rfl) dX11_pipeFrom_3 (CR_rm (by decide) (by decide) (by decide) (by decide)) (fun r1 w1 => ?_)
  exact v_iret dX11_pipeFrom_6 rfl rfl (by decide) (by decide)
theorem S_X11_pipeFrom {g : GC} (hl : g.1.stackTraces = false) {x1 : Int32} {w : XW} : ∀ q, f_X11_pipeFrom x1 w = some q → MM g (.code yX11_pipeFrom cX11_pipeFrom 2 (some .int)) yX11_pipeFrom (rmL 6 0 0) 0 0 [.ref (g.2.1 + 141), .int x1] w (oI q) := fun q hq => MM_of (own := RX11) hl (by decide) gw_1722 rfl (Nat.le_of_ble_eq_true rfl) (W_X11_pipeFrom hl q hq) ⟨rfl, rfl⟩

theorem dX11_pipeTo_0 : decode cX11_pipeTo 0 = .ok (.aload_n 0, 1) := by decide +kernel
theorem dX11_pipeTo_1 : decode cX11_pipeTo 1 = .ok (.iload_n 1, 1) := by decide +kernel
theorem dX11_pipeTo_2 : decode cX11_pipeTo 2 = .ok (.iconst 1, 1) := by decide +kernel
theorem dX11_pipeTo_3 : decode cX11_pipeTo 3 = .ok (.invokevirtual 159, 3) := by decide +kernel
theorem dX11_pipeTo_6 : decode cX11_pipeTo 6 = .ok (.ireturn, 1) := by decide +kernel
def f_X11_pipeTo (x1 : Int32) (w : XW) : Option (Int32 × XW) := (bI (f_X11_asked x1 1 w) (fun r1 w1 => (some (r1, w1))))
set_option maxRecDepth 100000 in
theorem W_X11_pipeTo {g : GC} (hl : g.1.stackTraces = false) {x1 : Int32} {w : XW} : VE g cX11_pipeTo 2 RX11 (some .int) [] (rmL 6 0 0) 0 0 oI 0 0 0 [(0, .ref (g.2.1 + 141)), (1, .int x1)] [] w (f_X11_pipeTo x1 w) := by
  unfold f_X11_pipeTo
  refine v_aload_n dX11_pipeTo_0 rfl 0 rfl ?_
  refine v_iload_n dX11_pipeTo_1 rfl 1 rfl ?_
  refine v_iconst (v := 1) dX11_pipeTo_2 (by decide) ?_
  refine v_callVi (As := [.int x1, .int 1]) cv_X11_159 (S_X11_asked hl) tt_141 rfl rfl rfl (Nat.le_of_ble_eq_true rfl) dX11_pipeTo_3 (CR_rm (by decide) (by decide) (by decide) (by decide)) (fun r1 w1 => ?_)
  exact v_iret dX11_pipeTo_6 rfl rfl (by decide) (by decide)
theorem S_X11_pipeTo {g : GC} (hl : g.1.stackTraces = false) {x1 : Int32} {w : XW} : ∀ q, f_X11_pipeTo x1 w = some q → MM g (.code yX11_pipeTo cX11_pipeTo 2 (some .int)) yX11_pipeTo (rmL 6 0 0) 0 0 [.ref (g.2.1 + 141), .int x1] w (oI q) := fun q hq => MM_of (own := RX11) hl (by decide) gw_1730 rfl (Nat.le_of_ble_eq_true rfl) (W_X11_pipeTo hl q hq) ⟨rfl, rfl⟩

theorem dX11_capacity_0 : decode cX11_capacity 0 = .ok (.aload_n 0, 1) := by decide +kernel
theorem dX11_capacity_1 : decode cX11_capacity 1 = .ok (.iload_n 1, 1) := by decide +kernel
theorem dX11_capacity_2 : decode cX11_capacity 2 = .ok (.iconst 2, 1) := by decide +kernel
theorem dX11_capacity_3 : decode cX11_capacity 3 = .ok (.invokevirtual 159, 3) := by decide +kernel
theorem dX11_capacity_6 : decode cX11_capacity 6 = .ok (.ireturn, 1) := by decide +kernel
def f_X11_capacity (x1 : Int32) (w : XW) : Option (Int32 × XW) := (bI (f_X11_asked x1 2 w) (fun r1 w1 => (some (r1, w1))))
set_option maxRecDepth 100000 in
theorem W_X11_capacity {g : GC} (hl : g.1.stackTraces = false) {x1 : Int32} {w : XW} : VE g cX11_capacity 2 RX11 (some .int) [] (rmL 6 0 0) 0 0 oI 0 0 0 [(0, .ref (g.2.1 + 141)), (1, .int x1)] [] w (f_X11_capacity x1 w) := by
  unfold f_X11_capacity
  refine v_aload_n dX11_capacity_0 rfl 0 rfl ?_
  refine v_iload_n dX11_capacity_1 rfl 1 rfl ?_
  refine v_iconst (v := 2) dX11_capacity_2 (by decide) ?_
  refine v_callVi (As := [.int x1, .int 2]) cv_X11_159 (S_X11_asked hl) tt_141 rfl rfl rfl (Nat.le_of_ble_eq_true rfl) dX11_capacity_3 (CR_rm (by decide) (by decide) (by decide) (by decide)) (fun r1 w1 => ?_)
  exact v_iret dX11_capacity_6 rfl rfl (by decide) (by decide)
theorem S_X11_capacity {g : GC} (hl : g.1.stackTraces = false) {x1 : Int32} {w : XW} : ∀ q, f_X11_capacity x1 w = some q → MM g (.code yX11_capacity cX11_capacity 2 (some .int)) yX11_capacity (rmL 6 0 0) 0 0 [.ref (g.2.1 + 141), .int x1] w (oI q) := fun q hq => MM_of (own := RX11) hl (by decide) gw_1734 rfl (Nat.le_of_ble_eq_true rfl) (W_X11_capacity hl q hq) ⟨rfl, rfl⟩

theorem dX11_isBroken_0 : decode cX11_isBroken 0 = .ok (.aload_n 0, 1) := by decide +kernel
theorem dX11_isBroken_1 : decode cX11_isBroken 1 = .ok (.iload_n 1, 1) := by decide +kernel
theorem dX11_isBroken_2 : decode cX11_isBroken 2 = .ok (.iconst 3, 1) := by decide +kernel
theorem dX11_isBroken_3 : decode cX11_isBroken 3 = .ok (.invokevirtual 159, 3) := by decide +kernel
theorem dX11_isBroken_6 : decode cX11_isBroken 6 = .ok (.iconst 1, 1) := by decide +kernel
theorem dX11_isBroken_7 : decode cX11_isBroken 7 = .ok (.if_icmp .ne 7, 3) := by decide +kernel
theorem dX11_isBroken_10 : decode cX11_isBroken 10 = .ok (.iconst 1, 1) := by decide +kernel
theorem dX11_isBroken_11 : decode cX11_isBroken 11 = .ok (.goto 4, 3) := by decide +kernel
theorem dX11_isBroken_14 : decode cX11_isBroken 14 = .ok (.iconst 0, 1) := by decide +kernel
theorem dX11_isBroken_15 : decode cX11_isBroken 15 = .ok (.ireturn, 1) := by decide +kernel
def f_X11_isBroken (x1 : Int32) (w : XW) : Option (Int32 × XW) := (bI (f_X11_asked x1 3 w) (fun r1 w1 => (if r1 = 1 then (some (1, w1)) else (some (0, w1)))))
set_option maxRecDepth 100000 in
theorem W_X11_isBroken {g : GC} (hl : g.1.stackTraces = false) {x1 : Int32} {w : XW} : VE g cX11_isBroken 2 RX11 (some .boolean) [] (rmL 6 0 0) 0 0 oI 0 0 0 [(0, .ref (g.2.1 + 141)), (1, .int x1)] [] w (f_X11_isBroken x1 w) := by
  unfold f_X11_isBroken
  refine v_aload_n dX11_isBroken_0 rfl 0 rfl ?_
  refine v_iload_n dX11_isBroken_1 rfl 1 rfl ?_
  refine v_iconst (v := 3) dX11_isBroken_2 (by decide) ?_
  refine v_callVi (As := [.int x1, .int 3]) cv_X11_159 (S_X11_asked hl) tt_141 rfl rfl rfl (Nat.le_of_ble_eq_true rfl) dX11_isBroken_3 (CR_rm (by decide) (by decide) (by decide) (by decide)) (fun r1 w1 => ?_)
  refine v_iconst (v := 1) dX11_isBroken_6 (by decide) ?_
  refine v_icmp_ne (tgt := 14) dX11_isBroken_7 (by decide) ?_ ?_
  · refine v_iconst (v := 0) dX11_isBroken_14 (by decide) ?_
    exact v_zret dX11_isBroken_15 rfl rfl rfl (by decide) (by decide)
  · refine v_iconst (v := 1) dX11_isBroken_10 (by decide) ?_
    refine v_goto (tgt := 15) dX11_isBroken_11 (by decide) ?_
    exact v_zret dX11_isBroken_15 rfl rfl rfl (by decide) (by decide)
theorem S_X11_isBroken {g : GC} (hl : g.1.stackTraces = false) {x1 : Int32} {w : XW} : ∀ q, f_X11_isBroken x1 w = some q → MM g (.code yX11_isBroken cX11_isBroken 2 (some .boolean)) yX11_isBroken (rmL 6 0 0) 0 0 [.ref (g.2.1 + 141), .int x1] w (oI q) := fun q hq => MM_of (own := RX11) hl (by decide) gw_1738 rfl (Nat.le_of_ble_eq_true rfl) (W_X11_isBroken hl q hq) ⟨rfl, rfl⟩

theorem dX11_greatestFlow_0 : decode cX11_greatestFlow 0 = .ok (.aload_n 0, 1) := by decide +kernel
theorem dX11_greatestFlow_1 : decode cX11_greatestFlow 1 = .ok (.iconst 0, 1) := by decide +kernel
theorem dX11_greatestFlow_2 : decode cX11_greatestFlow 2 = .ok (.putfield 38, 3) := by decide +kernel
theorem dX11_greatestFlow_5 : decode cX11_greatestFlow 5 = .ok (.aload_n 0, 1) := by decide +kernel
theorem dX11_greatestFlow_6 : decode cX11_greatestFlow 6 = .ok (.getfield 7, 3) := by decide +kernel
theorem dX11_greatestFlow_9 : decode cX11_greatestFlow 9 = .ok (.iconst 0, 1) := by decide +kernel
theorem dX11_greatestFlow_10 : decode cX11_greatestFlow 10 = .ok (.iaload, 1) := by decide +kernel
theorem dX11_greatestFlow_11 : decode cX11_greatestFlow 11 = .ok (.iconst 1, 1) := by decide +kernel
theorem dX11_greatestFlow_12 : decode cX11_greatestFlow 12 = .ok (.if_icmp .le 9, 3) := by decide +kernel
theorem dX11_greatestFlow_15 : decode cX11_greatestFlow 15 = .ok (.aload_n 0, 1) := by decide +kernel
theorem dX11_greatestFlow_16 : decode cX11_greatestFlow 16 = .ok (.iconst (-1), 1) := by decide +kernel
theorem dX11_greatestFlow_17 : decode cX11_greatestFlow 17 = .ok (.invokevirtual 114, 3) := by decide +kernel
theorem dX11_greatestFlow_20 : decode cX11_greatestFlow 20 = .ok (.ireturn, 1) := by decide +kernel
theorem dX11_greatestFlow_21 : decode cX11_greatestFlow 21 = .ok (.aload_n 0, 1) := by decide +kernel
theorem dX11_greatestFlow_22 : decode cX11_greatestFlow 22 = .ok (.bipush 7, 2) := by decide +kernel
theorem dX11_greatestFlow_24 : decode cX11_greatestFlow 24 = .ok (.aload_n 0, 1) := by decide +kernel
theorem dX11_greatestFlow_25 : decode cX11_greatestFlow 25 = .ok (.getfield 7, 3) := by decide +kernel
theorem dX11_greatestFlow_28 : decode cX11_greatestFlow 28 = .ok (.iconst 0, 1) := by decide +kernel
theorem dX11_greatestFlow_29 : decode cX11_greatestFlow 29 = .ok (.iaload, 1) := by decide +kernel
theorem dX11_greatestFlow_30 : decode cX11_greatestFlow 30 = .ok (.invokevirtual 92, 3) := by decide +kernel
theorem dX11_greatestFlow_33 : decode cX11_greatestFlow 33 = .ok (.istore_n 1, 1) := by decide +kernel
theorem dX11_greatestFlow_34 : decode cX11_greatestFlow 34 = .ok (.aload_n 0, 1) := by decide +kernel
theorem dX11_greatestFlow_35 : decode cX11_greatestFlow 35 = .ok (.iconst 1, 1) := by decide +kernel
theorem dX11_greatestFlow_36 : decode cX11_greatestFlow 36 = .ok (.invokevirtual 60, 3) := by decide +kernel
theorem dX11_greatestFlow_39 : decode cX11_greatestFlow 39 = .ok (.ireturn, 1) := by decide +kernel
def f_X11_greatestFlow (w : XW) : Option (Int32 × XW) := (if ((wset w 141 0 0).1 142 (Int32.toNatClampNeg 0)) ≤ 1 then (bI (f_X11_denied 7 ((wset w 141 0 0).1 142 (Int32.toNatClampNeg 0)) (wset w 141 0 0)) (fun r1 w1 => (bI (f_X11_fails 1 w1) (fun r2 w2 => (some (r2, w2)))))) else (bI (f_X11_cut (-1) (wset w 141 0 0)) (fun r3 w3 => (some (r3, w3)))))
set_option maxRecDepth 100000 in
theorem W_X11_greatestFlow {g : GC} (hl : g.1.stackTraces = false) {w : XW} : VE g cX11_greatestFlow 2 RX11 (some .int) [] (rmL 5 0 0) 0 0 oI 0 0 0 [(0, .ref (g.2.1 + 141))] [] w (f_X11_greatestFlow  w) := by
  unfold f_X11_greatestFlow
  refine v_aload_n dX11_greatestFlow_0 rfl 0 rfl ?_
  refine v_iconst (v := 0) dX11_greatestFlow_1 (by decide) ?_
  refine v_putI fl_X11_38 tt_141 rfl (ty0 := .int) rfl rfl rfl dX11_greatestFlow_2 ?_
  refine v_aload_n dX11_greatestFlow_5 rfl 0 rfl ?_
  refine v_getR fl_X11_7 tt_141 rfl dX11_greatestFlow_6 ?_
  refine v_iconst (v := 0) dX11_greatestFlow_9 (by decide) ?_
  refine v_iald tt_142 (by decide : inB 0 66) dX11_greatestFlow_10 ?_
  refine v_iconst (v := 1) dX11_greatestFlow_11 (by decide) ?_
  refine v_icmp_le (tgt := 21) dX11_greatestFlow_12 (by decide) ?_ ?_
  · refine v_aload_n dX11_greatestFlow_21 rfl 0 rfl ?_
    refine v_bipush (v := 7) dX11_greatestFlow_22 (by decide) ?_
    refine v_aload_n dX11_greatestFlow_24 rfl 0 rfl ?_
    refine v_getR fl_X11_7 tt_141 rfl dX11_greatestFlow_25 ?_
    refine v_iconst (v := 0) dX11_greatestFlow_28 (by decide) ?_
    refine v_iald tt_142 (by decide : inB 0 66) dX11_greatestFlow_29 ?_
    refine v_callVi (As := [.int 7, .int ((wset w 141 0 0).1 142 (Int32.toNatClampNeg 0))]) cv_X11_92 (S_X11_denied hl) tt_141 rfl rfl rfl (Nat.le_of_ble_eq_true rfl) dX11_greatestFlow_30 (CR_rm (by decide) (by decide) (by decide) (by decide)) (fun r1 w1 => ?_)
    refine v_istore_n dX11_greatestFlow_33 rfl (Nat.le_of_ble_eq_true rfl) rfl ?_
    refine v_aload_n dX11_greatestFlow_34 rfl 1 rfl ?_
    refine v_iconst (v := 1) dX11_greatestFlow_35 (by decide) ?_
    refine v_callVi (As := [.int 1]) cv_X11_60 (S_X11_fails hl) tt_141 rfl rfl rfl (Nat.le_of_ble_eq_true rfl) dX11_greatestFlow_36 (CR_rm (by decide) (by decide) (by decide) (by decide)) (fun r2 w2 => ?_)
    exact v_iret dX11_greatestFlow_39 rfl rfl (by decide) (by decide)
  · refine v_aload_n dX11_greatestFlow_15 rfl 0 rfl ?_
    refine v_iconst (v := (-1)) dX11_greatestFlow_16 (by decide) ?_
    refine v_callVi (As := [.int (-1)]) cv_X11_114 (S_X11_cut hl) tt_141 rfl rfl rfl (Nat.le_of_ble_eq_true rfl) dX11_greatestFlow_17 (CR_rm (by decide) (by decide) (by decide) (by decide)) (fun r3 w3 => ?_)
    exact v_iret dX11_greatestFlow_20 rfl rfl (by decide) (by decide)
theorem S_X11_greatestFlow {g : GC} (hl : g.1.stackTraces = false) {w : XW} : ∀ q, f_X11_greatestFlow  w = some q → MM g (.code yX11_greatestFlow cX11_greatestFlow 2 (some .int)) yX11_greatestFlow (rmL 5 0 0) 0 0 [.ref (g.2.1 + 141)] w (oI q) := fun q hq => MM_of (own := RX11) hl (by decide) gw_1742 rfl (Nat.le_of_ble_eq_true rfl) (W_X11_greatestFlow hl q hq) ⟨rfl, rfl⟩

theorem dX11_smallestCut_0 : decode cX11_smallestCut 0 = .ok (.aload_n 0, 1) := by decide +kernel
theorem dX11_smallestCut_1 : decode cX11_smallestCut 1 = .ok (.invokevirtual 162, 3) := by decide +kernel
theorem dX11_smallestCut_4 : decode cX11_smallestCut 4 = .ok (.ireturn, 1) := by decide +kernel
def f_X11_smallestCut (w : XW) : Option (Int32 × XW) := (bI (f_X11_greatestFlow w) (fun r1 w1 => (some (r1, w1))))
set_option maxRecDepth 100000 in
theorem W_X11_smallestCut {g : GC} (hl : g.1.stackTraces = false) {w : XW} : VE g cX11_smallestCut 1 RX11 (some .int) [] (rmL 6 0 0) 0 0 oI 0 0 0 [(0, .ref (g.2.1 + 141))] [] w (f_X11_smallestCut  w) := by
  unfold f_X11_smallestCut
  refine v_aload_n dX11_smallestCut_0 rfl 0 rfl ?_
  refine v_callVi (As := []) cv_X11_162 (S_X11_greatestFlow hl) tt_141 rfl rfl rfl (Nat.le_of_ble_eq_true rfl) dX11_smallestCut_1 (CR_rm (by decide) (by decide) (by decide) (by decide)) (fun r1 w1 => ?_)
  exact v_iret dX11_smallestCut_4 rfl rfl (by decide) (by decide)
theorem S_X11_smallestCut {g : GC} (hl : g.1.stackTraces = false) {w : XW} : ∀ q, f_X11_smallestCut  w = some q → MM g (.code yX11_smallestCut cX11_smallestCut 1 (some .int)) yX11_smallestCut (rmL 6 0 0) 0 0 [.ref (g.2.1 + 141)] w (oI q) := fun q hq => MM_of (own := RX11) hl (by decide) gw_1750 rfl (Nat.le_of_ble_eq_true rfl) (W_X11_smallestCut hl q hq) ⟨rfl, rfl⟩

theorem dX11_lossOf_0 : decode cX11_lossOf 0 = .ok (.aload_n 0, 1) := by decide +kernel
theorem dX11_lossOf_1 : decode cX11_lossOf 1 = .ok (.aload_n 0, 1) := by decide +kernel
theorem dX11_lossOf_2 : decode cX11_lossOf 2 = .ok (.iload_n 1, 1) := by decide +kernel
theorem dX11_lossOf_3 : decode cX11_lossOf 3 = .ok (.invokevirtual 108, 3) := by decide +kernel
theorem dX11_lossOf_6 : decode cX11_lossOf 6 = .ok (.ifCond .eq 7, 3) := by decide +kernel
theorem dX11_lossOf_9 : decode cX11_lossOf 9 = .ok (.iconst 0, 1) := by decide +kernel
theorem dX11_lossOf_10 : decode cX11_lossOf 10 = .ok (.goto 4, 3) := by decide +kernel
theorem dX11_lossOf_13 : decode cX11_lossOf 13 = .ok (.iconst 1, 1) := by decide +kernel
theorem dX11_lossOf_14 : decode cX11_lossOf 14 = .ok (.putfield 38, 3) := by decide +kernel
theorem dX11_lossOf_17 : decode cX11_lossOf 17 = .ok (.aload_n 0, 1) := by decide +kernel
theorem dX11_lossOf_18 : decode cX11_lossOf 18 = .ok (.getfield 38, 3) := by decide +kernel
theorem dX11_lossOf_21 : decode cX11_lossOf 21 = .ok (.ifCond .le 7, 3) := by decide +kernel
theorem dX11_lossOf_24 : decode cX11_lossOf 24 = .ok (.iconst 0, 1) := by decide +kernel
theorem dX11_lossOf_25 : decode cX11_lossOf 25 = .ok (.goto 14, 3) := by decide +kernel
theorem dX11_lossOf_28 : decode cX11_lossOf 28 = .ok (.aload_n 0, 1) := by decide +kernel
theorem dX11_lossOf_29 : decode cX11_lossOf 29 = .ok (.iconst (-1), 1) := by decide +kernel
theorem dX11_lossOf_30 : decode cX11_lossOf 30 = .ok (.invokevirtual 114, 3) := by decide +kernel
theorem dX11_lossOf_33 : decode cX11_lossOf 33 = .ok (.aload_n 0, 1) := by decide +kernel
theorem dX11_lossOf_34 : decode cX11_lossOf 34 = .ok (.iload_n 1, 1) := by decide +kernel
theorem dX11_lossOf_35 : decode cX11_lossOf 35 = .ok (.invokevirtual 114, 3) := by decide +kernel
theorem dX11_lossOf_38 : decode cX11_lossOf 38 = .ok (.isub, 1) := by decide +kernel
theorem dX11_lossOf_39 : decode cX11_lossOf 39 = .ok (.ireturn, 1) := by decide +kernel
def f_X11_lossOf (x1 : Int32) (w : XW) : Option (Int32 × XW) := (bI (f_X11_isPipe x1 w) (fun r1 w1 => (if r1 = 0 then (if ((wset w1 141 0 1).1 141 0) ≤ 0 then (bI (f_X11_cut (-1) (wset w1 141 0 1)) (fun r2 w2 => (bI (f_X11_cut x1 w2) (fun r3 w3 => (some ((r2 - r3), w3)))))) else (some (0, (wset w1 141 0 1)))) else (if ((wset w1 141 0 0).1 141 0) ≤ 0 then (bI (f_X11_cut (-1) (wset w1 141 0 0)) (fun r4 w4 => (bI (f_X11_cut x1 w4) (fun r5 w5 => (some ((r4 - r5), w5)))))) else (some (0, (wset w1 141 0 0)))))))
set_option maxRecDepth 100000 in
theorem W_X11_lossOf {g : GC} (hl : g.1.stackTraces = false) {x1 : Int32} {w : XW} : VE g cX11_lossOf 2 RX11 (some .int) [] (rmL 5 0 0) 0 0 oI 0 0 0 [(0, .ref (g.2.1 + 141)), (1, .int x1)] [] w (f_X11_lossOf x1 w) := by
  unfold f_X11_lossOf
  refine v_aload_n dX11_lossOf_0 rfl 0 rfl ?_
  refine v_aload_n dX11_lossOf_1 rfl 0 rfl ?_
  refine v_iload_n dX11_lossOf_2 rfl 1 rfl ?_
  refine v_callVi (As := [.int x1]) cv_X11_108 (S_X11_isPipe hl) tt_141 rfl rfl rfl (Nat.le_of_ble_eq_true rfl) dX11_lossOf_3 (CR_rm (by decide) (by decide) (by decide) (by decide)) (fun r1 w1 => ?_)
  refine v_if_eq (tgt := 13) dX11_lossOf_6 (by decide) ?_ ?_
  · refine v_iconst (v := 1) dX11_lossOf_13 (by decide) ?_
    refine v_putI fl_X11_38 tt_141 rfl (ty0 := .int) rfl rfl rfl dX11_lossOf_14 ?_
    refine v_aload_n dX11_lossOf_17 rfl 0 rfl ?_
    refine v_getI fl_X11_38 tt_141 rfl dX11_lossOf_18 ?_
    refine v_if_le (tgt := 28) dX11_lossOf_21 (by decide) ?_ ?_
    · refine v_aload_n dX11_lossOf_28 rfl 0 rfl ?_
      refine v_iconst (v := (-1)) dX11_lossOf_29 (by decide) ?_
      refine v_callVi (As := [.int (-1)]) cv_X11_114 (S_X11_cut hl) tt_141 rfl rfl rfl (Nat.le_of_ble_eq_true rfl) dX11_lossOf_30 (CR_rm (by decide) (by decide) (by decide) (by decide)) (fun r2 w2 => ?_)
      refine v_aload_n dX11_lossOf_33 rfl 0 rfl ?_
      refine v_iload_n dX11_lossOf_34 rfl 1 rfl ?_
      refine v_callVi (As := [.int x1]) cv_X11_114 (S_X11_cut hl) tt_141 rfl rfl rfl (Nat.le_of_ble_eq_true rfl) dX11_lossOf_35 (CR_rm (by decide) (by decide) (by decide) (by decide)) (fun r3 w3 => ?_)
      refine v_isub dX11_lossOf_38 ?_
      exact v_iret dX11_lossOf_39 rfl rfl (by decide) (by decide)
    · refine v_iconst (v := 0) dX11_lossOf_24 (by decide) ?_
      refine v_goto (tgt := 39) dX11_lossOf_25 (by decide) ?_
      exact v_iret dX11_lossOf_39 rfl rfl (by decide) (by decide)
  · refine v_iconst (v := 0) dX11_lossOf_9 (by decide) ?_
    refine v_goto (tgt := 14) dX11_lossOf_10 (by decide) ?_
    refine v_putI fl_X11_38 tt_141 rfl (ty0 := .int) rfl rfl rfl dX11_lossOf_14 ?_
    refine v_aload_n dX11_lossOf_17 rfl 0 rfl ?_
    refine v_getI fl_X11_38 tt_141 rfl dX11_lossOf_18 ?_
    refine v_if_le (tgt := 28) dX11_lossOf_21 (by decide) ?_ ?_
    · refine v_aload_n dX11_lossOf_28 rfl 0 rfl ?_
      refine v_iconst (v := (-1)) dX11_lossOf_29 (by decide) ?_
      refine v_callVi (As := [.int (-1)]) cv_X11_114 (S_X11_cut hl) tt_141 rfl rfl rfl (Nat.le_of_ble_eq_true rfl) dX11_lossOf_30 (CR_rm (by decide) (by decide) (by decide) (by decide)) (fun r4 w4 => ?_)
      refine v_aload_n dX11_lossOf_33 rfl 0 rfl ?_
      refine v_iload_n dX11_lossOf_34 rfl 1 rfl ?_
      refine v_callVi (As := [.int x1]) cv_X11_114 (S_X11_cut hl) tt_141 rfl rfl rfl (Nat.le_of_ble_eq_true rfl) dX11_lossOf_35 (CR_rm (by decide) (by decide) (by decide) (by decide)) (fun r5 w5 => ?_)
      refine v_isub dX11_lossOf_38 ?_
      exact v_iret dX11_lossOf_39 rfl rfl (by decide) (by decide)
    · refine v_iconst (v := 0) dX11_lossOf_24 (by decide) ?_
      refine v_goto (tgt := 39) dX11_lossOf_25 (by decide) ?_
      exact v_iret dX11_lossOf_39 rfl rfl (by decide) (by decide)
theorem S_X11_lossOf {g : GC} (hl : g.1.stackTraces = false) {x1 : Int32} {w : XW} : ∀ q, f_X11_lossOf x1 w = some q → MM g (.code yX11_lossOf cX11_lossOf 2 (some .int)) yX11_lossOf (rmL 5 0 0) 0 0 [.ref (g.2.1 + 141), .int x1] w (oI q) := fun q hq => MM_of (own := RX11) hl (by decide) gw_1755 rfl (Nat.le_of_ble_eq_true rfl) (W_X11_lossOf hl q hq) ⟨rfl, rfl⟩

theorem dX11_drain_0 : decode cX11_drain 0 = .ok (.aload_n 0, 1) := by decide +kernel
theorem dX11_drain_1 : decode cX11_drain 1 = .ok (.invokevirtual 121, 3) := by decide +kernel
theorem dX11_drain_4 : decode cX11_drain 4 = .ok (.aload_n 0, 1) := by decide +kernel
theorem dX11_drain_5 : decode cX11_drain 5 = .ok (.aload_n 0, 1) := by decide +kernel
theorem dX11_drain_6 : decode cX11_drain 6 = .ok (.invokevirtual 165, 3) := by decide +kernel
theorem dX11_drain_9 : decode cX11_drain 9 = .ok (.iconst 1, 1) := by decide +kernel
theorem dX11_drain_10 : decode cX11_drain 10 = .ok (.invokevirtual 127, 3) := by decide +kernel
theorem dX11_drain_13 : decode cX11_drain 13 = .ok (.ireturn, 1) := by decide +kernel
def f_X11_drain (w : XW) : Option (Int32 × XW) := (bV (f_X11_remembers w) (fun w1 => (bI (f_X11_drains w1) (fun r2 w2 => (bI (f_X11_ends r2 1 w2) (fun r3 w3 => (some (r3, w3))))))))
set_option maxRecDepth 100000 in
theorem W_X11_drain {g : GC} (hl : g.1.stackTraces = false) {w : XW} : VE g cX11_drain 1 RX11 (some .int) [] (rmL 6 0 0) 0 0 oI 0 0 0 [(0, .ref (g.2.1 + 141))] [] w (f_X11_drain  w) := by
  unfold f_X11_drain
  refine v_aload_n dX11_drain_0 rfl 0 rfl ?_
  refine v_callVv (As := []) cv_X11_121 (S_X11_remembers hl) tt_141 rfl rfl rfl (Nat.le_of_ble_eq_true rfl) dX11_drain_1 (CR_rm (by decide) (by decide) (by decide) (by decide)) (fun w1 => ?_)
  refine v_aload_n dX11_drain_4 rfl 0 rfl ?_
  refine v_aload_n dX11_drain_5 rfl 0 rfl ?_
  refine v_callVi (As := []) cv_X11_165 (S_X11_drains hl) tt_141 rfl rfl rfl (Nat.le_of_ble_eq_true rfl) dX11_drain_6 (CR_rm (by decide) (by decide) (by decide) (by decide)) (fun r2 w2 => ?_)
  refine v_iconst (v := 1) dX11_drain_9 (by decide) ?_
  refine v_callVi (As := [.int r2, .int 1]) cv_X11_127 (S_X11_ends hl) tt_141 rfl rfl rfl (Nat.le_of_ble_eq_true rfl) dX11_drain_10 (CR_rm (by decide) (by decide) (by decide) (by decide)) (fun r3 w3 => ?_)
  exact v_iret dX11_drain_13 rfl rfl (by decide) (by decide)
theorem S_X11_drain {g : GC} (hl : g.1.stackTraces = false) {w : XW} : ∀ q, f_X11_drain  w = some q → MM g (.code yX11_drain cX11_drain 1 (some .int)) yX11_drain (rmL 6 0 0) 0 0 [.ref (g.2.1 + 141)] w (oI q) := fun q hq => MM_of (own := RX11) hl (by decide) gw_1759 rfl (Nat.le_of_ble_eq_true rfl) (W_X11_drain hl q hq) ⟨rfl, rfl⟩

theorem dX11_seep_0 : decode cX11_seep 0 = .ok (.aload_n 0, 1) := by decide +kernel
theorem dX11_seep_1 : decode cX11_seep 1 = .ok (.invokevirtual 121, 3) := by decide +kernel
theorem dX11_seep_4 : decode cX11_seep 4 = .ok (.aload_n 0, 1) := by decide +kernel
theorem dX11_seep_5 : decode cX11_seep 5 = .ok (.aload_n 0, 1) := by decide +kernel
theorem dX11_seep_6 : decode cX11_seep 6 = .ok (.invokevirtual 168, 3) := by decide +kernel
theorem dX11_seep_9 : decode cX11_seep 9 = .ok (.iconst 1, 1) := by decide +kernel
theorem dX11_seep_10 : decode cX11_seep 10 = .ok (.invokevirtual 127, 3) := by decide +kernel
theorem dX11_seep_13 : decode cX11_seep 13 = .ok (.ireturn, 1) := by decide +kernel
def f_X11_seep (w : XW) : Option (Int32 × XW) := (bV (f_X11_remembers w) (fun w1 => (bI (f_X11_seeps w1) (fun r2 w2 => (bI (f_X11_ends r2 1 w2) (fun r3 w3 => (some (r3, w3))))))))
set_option maxRecDepth 100000 in
theorem W_X11_seep {g : GC} (hl : g.1.stackTraces = false) {w : XW} : VE g cX11_seep 1 RX11 (some .int) [] (rmL 5 0 0) 0 0 oI 0 0 0 [(0, .ref (g.2.1 + 141))] [] w (f_X11_seep  w) := by
  unfold f_X11_seep
  refine v_aload_n dX11_seep_0 rfl 0 rfl ?_
  refine v_callVv (As := []) cv_X11_121 (S_X11_remembers hl) tt_141 rfl rfl rfl (Nat.le_of_ble_eq_true rfl) dX11_seep_1 (CR_rm (by decide) (by decide) (by decide) (by decide)) (fun w1 => ?_)
  refine v_aload_n dX11_seep_4 rfl 0 rfl ?_
  refine v_aload_n dX11_seep_5 rfl 0 rfl ?_
  refine v_callVi (As := []) cv_X11_168 (S_X11_seeps hl) tt_141 rfl rfl rfl (Nat.le_of_ble_eq_true rfl) dX11_seep_6 (CR_rm (by decide) (by decide) (by decide) (by decide)) (fun r2 w2 => ?_)
  refine v_iconst (v := 1) dX11_seep_9 (by decide) ?_
  refine v_callVi (As := [.int r2, .int 1]) cv_X11_127 (S_X11_ends hl) tt_141 rfl rfl rfl (Nat.le_of_ble_eq_true rfl) dX11_seep_10 (CR_rm (by decide) (by decide) (by decide) (by decide)) (fun r3 w3 => ?_)
  exact v_iret dX11_seep_13 rfl rfl (by decide) (by decide)
theorem S_X11_seep {g : GC} (hl : g.1.stackTraces = false) {w : XW} : ∀ q, f_X11_seep  w = some q → MM g (.code yX11_seep cX11_seep 1 (some .int)) yX11_seep (rmL 5 0 0) 0 0 [.ref (g.2.1 + 141)] w (oI q) := fun q hq => MM_of (own := RX11) hl (by decide) gw_1771 rfl (Nat.le_of_ble_eq_true rfl) (W_X11_seep hl q hq) ⟨rfl, rfl⟩

theorem dX11_all_0 : decode cX11_all 0 = .ok (.iconst 0, 1) := by decide +kernel
theorem dX11_all_1 : decode cX11_all 1 = .ok (.istore_n 1, 1) := by decide +kernel
theorem dX11_all_2 : decode cX11_all 2 = .ok (.iconst 0, 1) := by decide +kernel
theorem dX11_all_3 : decode cX11_all 3 = .ok (.istore_n 2, 1) := by decide +kernel
theorem dX11_all_4 : decode cX11_all 4 = .ok (.iload_n 2, 1) := by decide +kernel
theorem dX11_all_5 : decode cX11_all 5 = .ok (.aload_n 0, 1) := by decide +kernel
theorem dX11_all_6 : decode cX11_all 6 = .ok (.getfield 7, 3) := by decide +kernel
theorem dX11_all_9 : decode cX11_all 9 = .ok (.iconst 0, 1) := by decide +kernel
theorem dX11_all_10 : decode cX11_all 10 = .ok (.iaload, 1) := by decide +kernel
theorem dX11_all_11 : decode cX11_all 11 = .ok (.if_icmp .ge 20, 3) := by decide +kernel
theorem dX11_all_14 : decode cX11_all 14 = .ok (.iload_n 1, 1) := by decide +kernel
theorem dX11_all_15 : decode cX11_all 15 = .ok (.aload_n 0, 1) := by decide +kernel
theorem dX11_all_16 : decode cX11_all 16 = .ok (.getfield 7, 3) := by decide +kernel
theorem dX11_all_19 : decode cX11_all 19 = .ok (.iconst 5, 1) := by decide +kernel
theorem dX11_all_20 : decode cX11_all 20 = .ok (.iload_n 2, 1) := by decide +kernel
theorem dX11_all_21 : decode cX11_all 21 = .ok (.iadd, 1) := by decide +kernel
theorem dX11_all_22 : decode cX11_all 22 = .ok (.iaload, 1) := by decide +kernel
theorem dX11_all_23 : decode cX11_all 23 = .ok (.iadd, 1) := by decide +kernel
theorem dX11_all_24 : decode cX11_all 24 = .ok (.istore_n 1, 1) := by decide +kernel
theorem dX11_all_25 : decode cX11_all 25 = .ok (.iinc 2 1, 3) := by decide +kernel
theorem dX11_all_28 : decode cX11_all 28 = .ok (.goto (-24), 3) := by decide +kernel
theorem dX11_all_31 : decode cX11_all 31 = .ok (.iload_n 1, 1) := by decide +kernel
theorem dX11_all_32 : decode cX11_all 32 = .ok (.ireturn, 1) := by decide +kernel
def f_X11_all_4 : Nat → Int32 → Int32 → XW → Option (Int32 × XW)
  | 0, _, _, _ => none
  | n + 1, z1, z2, w => (if (w.1 142 (Int32.toNatClampNeg 0)) ≤ z2 then (some (z1, w)) else (if inB (5 + z2) 66 then (f_X11_all_4 n (z1 + (w.1 142 (Int32.toNatClampNeg (5 + z2)))) (z2 + 1) w) else none))
set_option maxRecDepth 100000 in
theorem S_X11_all_4 {g : GC} (hl : g.1.stackTraces = false) : ∀ (n : Nat) (z1 : Int32) (z2 : Int32) (w : XW), VE g cX11_all 3 RX11 (some .int) [] (rmL 3 0 0) 0 0 oI 0 0 4 [(0, .ref (g.2.1 + 141)), (1, .int z1), (2, .int z2)] [] w (f_X11_all_4  n z1 z2 w) := by
  intro n
  induction n with
  | zero => intro z1 z2 w; exact v_none
  | succ n ih =>
    intro z1 z2 w
    rw [f_X11_all_4]
    refine v_iload_n dX11_all_4 rfl 2 rfl ?_
    refine v_aload_n dX11_all_5 rfl 0 rfl ?_
    refine v_getR fl_X11_7 tt_141 rfl dX11_all_6 ?_
    refine v_iconst (v := 0) dX11_all_9 (by decide) ?_
    refine v_iald tt_142 (by decide : inB 0 66) dX11_all_10 ?_
    refine v_icmp_ge (tgt := 31) dX11_all_11 (by decide) ?_ ?_
    · refine v_iload_n dX11_all_31 rfl 1 rfl ?_
      exact v_iret dX11_all_32 rfl rfl (by decide) (by decide)
    · refine v_iload_n dX11_all_14 rfl 1 rfl ?_
      refine v_aload_n dX11_all_15 rfl 0 rfl ?_
      refine v_getR fl_X11_7 tt_141 rfl dX11_all_16 ?_
      refine v_iconst (v := 5) dX11_all_19 (by decide) ?_
      refine v_iload_n dX11_all_20 rfl 2 rfl ?_
      refine v_iadd dX11_all_21 ?_
      refine v_guard (fun h1 => ?_)
      refine v_iald tt_142 h1 dX11_all_22 ?_
      refine v_iadd dX11_all_23 ?_
      refine v_istore_n dX11_all_24 rfl (Nat.le_of_ble_eq_true rfl) rfl ?_
      refine v_iinc (v := (z2 + 1)) dX11_all_25 (q := 2) rfl rfl (Nat.le_of_ble_eq_true rfl) rfl ?_
      refine v_goto (tgt := 4) dX11_all_28 (by decide) ?_
      refine v_sub [2, 1, 0] rfl ?_
      exact ih _ _ _
def f_X11_all (w : XW) : Option (Int32 × XW) := (f_X11_all_4 1000 0 0 w)
set_option maxRecDepth 100000 in
theorem W_X11_all {g : GC} (hl : g.1.stackTraces = false) {w : XW} : VE g cX11_all 3 RX11 (some .int) [] (rmL 3 0 0) 0 0 oI 0 0 0 [(0, .ref (g.2.1 + 141))] [] w (f_X11_all  w) := by
  unfold f_X11_all
  refine v_iconst (v := 0) dX11_all_0 (by decide) ?_
  refine v_istore_n dX11_all_1 rfl (Nat.le_of_ble_eq_true rfl) rfl ?_
  refine v_iconst (v := 0) dX11_all_2 (by decide) ?_
  refine v_istore_n dX11_all_3 rfl (Nat.le_of_ble_eq_true rfl) rfl ?_
  refine v_sub [2, 1, 0] rfl ?_
  exact S_X11_all_4 hl  _ _ _ _
theorem S_X11_all {g : GC} (hl : g.1.stackTraces = false) {w : XW} : ∀ q, f_X11_all  w = some q → MM g (.code yX11_all cX11_all 3 (some .int)) yX11_all (rmL 3 0 0) 0 0 [.ref (g.2.1 + 141)] w (oI q) := fun q hq => MM_of (own := RX11) hl (by decide) gw_1783 rfl (Nat.le_of_ble_eq_true rfl) (W_X11_all hl q hq) ⟨rfl, rfl⟩

theorem dX11_totalWater_0 : decode cX11_totalWater 0 = .ok (.aload_n 0, 1) := by decide +kernel
theorem dX11_totalWater_1 : decode cX11_totalWater 1 = .ok (.iconst 0, 1) := by decide +kernel
theorem dX11_totalWater_2 : decode cX11_totalWater 2 = .ok (.putfield 38, 3) := by decide +kernel
theorem dX11_totalWater_5 : decode cX11_totalWater 5 = .ok (.aload_n 0, 1) := by decide +kernel
theorem dX11_totalWater_6 : decode cX11_totalWater 6 = .ok (.invokevirtual 171, 3) := by decide +kernel
theorem dX11_totalWater_9 : decode cX11_totalWater 9 = .ok (.ireturn, 1) := by decide +kernel
def f_X11_totalWater (w : XW) : Option (Int32 × XW) := (bI (f_X11_all (wset w 141 0 0)) (fun r1 w1 => (some (r1, w1))))
set_option maxRecDepth 100000 in
theorem W_X11_totalWater {g : GC} (hl : g.1.stackTraces = false) {w : XW} : VE g cX11_totalWater 1 RX11 (some .int) [] (rmL 4 0 0) 0 0 oI 0 0 0 [(0, .ref (g.2.1 + 141))] [] w (f_X11_totalWater  w) := by
  unfold f_X11_totalWater
  refine v_aload_n dX11_totalWater_0 rfl 0 rfl ?_
  refine v_iconst (v := 0) dX11_totalWater_1 (by decide) ?_
  refine v_putI fl_X11_38 tt_141 rfl (ty0 := .int) rfl rfl rfl dX11_totalWater_2 ?_
  refine v_aload_n dX11_totalWater_5 rfl 0 rfl ?_
  refine v_callVi (As := []) cv_X11_171 (S_X11_all hl) tt_141 rfl rfl rfl (Nat.le_of_ble_eq_true rfl) dX11_totalWater_6 (CR_rm (by decide) (by decide) (by decide) (by decide)) (fun r1 w1 => ?_)
  exact v_iret dX11_totalWater_9 rfl rfl (by decide) (by decide)
theorem S_X11_totalWater {g : GC} (hl : g.1.stackTraces = false) {w : XW} : ∀ q, f_X11_totalWater  w = some q → MM g (.code yX11_totalWater cX11_totalWater 1 (some .int)) yX11_totalWater (rmL 4 0 0) 0 0 [.ref (g.2.1 + 141)] w (oI q) := fun q hq => MM_of (own := RX11) hl (by decide) gw_1779 rfl (Nat.le_of_ble_eq_true rfl) (W_X11_totalWater hl q hq) ⟨rfl, rfl⟩

theorem dX11_totalWaterByAccounts_0 : decode cX11_totalWaterByAccounts 0 = .ok (.aload_n 0, 1) := by decide +kernel
theorem dX11_totalWaterByAccounts_1 : decode cX11_totalWaterByAccounts 1 = .ok (.invokevirtual 174, 3) := by decide +kernel
theorem dX11_totalWaterByAccounts_4 : decode cX11_totalWaterByAccounts 4 = .ok (.ireturn, 1) := by decide +kernel
def f_X11_totalWaterByAccounts (w : XW) : Option (Int32 × XW) := (bI (f_X11_totalWater w) (fun r1 w1 => (some (r1, w1))))
set_option maxRecDepth 100000 in
theorem W_X11_totalWaterByAccounts {g : GC} (hl : g.1.stackTraces = false) {w : XW} : VE g cX11_totalWaterByAccounts 1 RX11 (some .int) [] (rmL 5 0 0) 0 0 oI 0 0 0 [(0, .ref (g.2.1 + 141))] [] w (f_X11_totalWaterByAccounts  w) := by
  unfold f_X11_totalWaterByAccounts
  refine v_aload_n dX11_totalWaterByAccounts_0 rfl 0 rfl ?_
  refine v_callVi (As := []) cv_X11_174 (S_X11_totalWater hl) tt_141 rfl rfl rfl (Nat.le_of_ble_eq_true rfl) dX11_totalWaterByAccounts_1 (CR_rm (by decide) (by decide) (by decide) (by decide)) (fun r1 w1 => ?_)
  exact v_iret dX11_totalWaterByAccounts_4 rfl rfl (by decide) (by decide)
theorem S_X11_totalWaterByAccounts {g : GC} (hl : g.1.stackTraces = false) {w : XW} : ∀ q, f_X11_totalWaterByAccounts  w = some q → MM g (.code yX11_totalWaterByAccounts cX11_totalWaterByAccounts 1 (some .int)) yX11_totalWaterByAccounts (rmL 5 0 0) 0 0 [.ref (g.2.1 + 141)] w (oI q) := fun q hq => MM_of (own := RX11) hl (by decide) gw_1787 rfl (Nat.le_of_ble_eq_true rfl) (W_X11_totalWaterByAccounts hl q hq) ⟨rfl, rfl⟩

theorem dX11_poured_0 : decode cX11_poured 0 = .ok (.aload_n 0, 1) := by decide +kernel
theorem dX11_poured_1 : decode cX11_poured 1 = .ok (.iconst 0, 1) := by decide +kernel
theorem dX11_poured_2 : decode cX11_poured 2 = .ok (.putfield 38, 3) := by decide +kernel
theorem dX11_poured_5 : decode cX11_poured 5 = .ok (.aload_n 0, 1) := by decide +kernel
theorem dX11_poured_6 : decode cX11_poured 6 = .ok (.getfield 7, 3) := by decide +kernel
theorem dX11_poured_9 : decode cX11_poured 9 = .ok (.iconst 3, 1) := by decide +kernel
theorem dX11_poured_10 : decode cX11_poured 10 = .ok (.iaload, 1) := by decide +kernel
theorem dX11_poured_11 : decode cX11_poured 11 = .ok (.ireturn, 1) := by decide +kernel
def f_X11_poured (w : XW) : Option (Int32 × XW) := (some (((wset w 141 0 0).1 142 (Int32.toNatClampNeg 3)), (wset w 141 0 0)))
set_option maxRecDepth 100000 in
theorem W_X11_poured {g : GC} (hl : g.1.stackTraces = false) {w : XW} : VE g cX11_poured 1 RX11 (some .int) [] (rmL 3 0 0) 0 0 oI 0 0 0 [(0, .ref (g.2.1 + 141))] [] w (f_X11_poured  w) := by
  unfold f_X11_poured
  refine v_aload_n dX11_poured_0 rfl 0 rfl ?_
  refine v_iconst (v := 0) dX11_poured_1 (by decide) ?_
  refine v_putI fl_X11_38 tt_141 rfl (ty0 := .int) rfl rfl rfl dX11_poured_2 ?_
  refine v_aload_n dX11_poured_5 rfl 0 rfl ?_
  refine v_getR fl_X11_7 tt_141 rfl dX11_poured_6 ?_
  refine v_iconst (v := 3) dX11_poured_9 (by decide) ?_
  refine v_iald tt_142 (by decide : inB 3 66) dX11_poured_10 ?_
  exact v_iret dX11_poured_11 rfl rfl (by decide) (by decide)
theorem S_X11_poured {g : GC} (hl : g.1.stackTraces = false) {w : XW} : ∀ q, f_X11_poured  w = some q → MM g (.code yX11_poured cX11_poured 1 (some .int)) yX11_poured (rmL 3 0 0) 0 0 [.ref (g.2.1 + 141)] w (oI q) := fun q hq => MM_of (own := RX11) hl (by decide) gw_1792 rfl (Nat.le_of_ble_eq_true rfl) (W_X11_poured hl q hq) ⟨rfl, rfl⟩

theorem dX11_leaked_0 : decode cX11_leaked 0 = .ok (.aload_n 0, 1) := by decide +kernel
theorem dX11_leaked_1 : decode cX11_leaked 1 = .ok (.iconst 0, 1) := by decide +kernel
theorem dX11_leaked_2 : decode cX11_leaked 2 = .ok (.putfield 38, 3) := by decide +kernel
theorem dX11_leaked_5 : decode cX11_leaked 5 = .ok (.aload_n 0, 1) := by decide +kernel
theorem dX11_leaked_6 : decode cX11_leaked 6 = .ok (.getfield 7, 3) := by decide +kernel
theorem dX11_leaked_9 : decode cX11_leaked 9 = .ok (.iconst 4, 1) := by decide +kernel
theorem dX11_leaked_10 : decode cX11_leaked 10 = .ok (.iaload, 1) := by decide +kernel
theorem dX11_leaked_11 : decode cX11_leaked 11 = .ok (.ireturn, 1) := by decide +kernel
def f_X11_leaked (w : XW) : Option (Int32 × XW) := (some (((wset w 141 0 0).1 142 (Int32.toNatClampNeg 4)), (wset w 141 0 0)))
set_option maxRecDepth 100000 in
theorem W_X11_leaked {g : GC} (hl : g.1.stackTraces = false) {w : XW} : VE g cX11_leaked 1 RX11 (some .int) [] (rmL 3 0 0) 0 0 oI 0 0 0 [(0, .ref (g.2.1 + 141))] [] w (f_X11_leaked  w) := by
  unfold f_X11_leaked
  refine v_aload_n dX11_leaked_0 rfl 0 rfl ?_
  refine v_iconst (v := 0) dX11_leaked_1 (by decide) ?_
  refine v_putI fl_X11_38 tt_141 rfl (ty0 := .int) rfl rfl rfl dX11_leaked_2 ?_
  refine v_aload_n dX11_leaked_5 rfl 0 rfl ?_
  refine v_getR fl_X11_7 tt_141 rfl dX11_leaked_6 ?_
  refine v_iconst (v := 4) dX11_leaked_9 (by decide) ?_
  refine v_iald tt_142 (by decide : inB 4 66) dX11_leaked_10 ?_
  exact v_iret dX11_leaked_11 rfl rfl (by decide) (by decide)
theorem S_X11_leaked {g : GC} (hl : g.1.stackTraces = false) {w : XW} : ∀ q, f_X11_leaked  w = some q → MM g (.code yX11_leaked cX11_leaked 1 (some .int)) yX11_leaked (rmL 3 0 0) 0 0 [.ref (g.2.1 + 141)] w (oI q) := fun q hq => MM_of (own := RX11) hl (by decide) gw_1796 rfl (Nat.le_of_ble_eq_true rfl) (W_X11_leaked hl q hq) ⟨rfl, rfl⟩

theorem dX11_meanWater_0 : decode cX11_meanWater 0 = .ok (.aload_n 0, 1) := by decide +kernel
theorem dX11_meanWater_1 : decode cX11_meanWater 1 = .ok (.aload_n 0, 1) := by decide +kernel
theorem dX11_meanWater_2 : decode cX11_meanWater 2 = .ok (.getfield 7, 3) := by decide +kernel
theorem dX11_meanWater_5 : decode cX11_meanWater 5 = .ok (.iconst 0, 1) := by decide +kernel
theorem dX11_meanWater_6 : decode cX11_meanWater 6 = .ok (.iaload, 1) := by decide +kernel
theorem dX11_meanWater_7 : decode cX11_meanWater 7 = .ok (.ifCond .ne 7, 3) := by decide +kernel
theorem dX11_meanWater_10 : decode cX11_meanWater 10 = .ok (.iconst 1, 1) := by decide +kernel
theorem dX11_meanWater_11 : decode cX11_meanWater 11 = .ok (.goto 4, 3) := by decide +kernel
theorem dX11_meanWater_14 : decode cX11_meanWater 14 = .ok (.iconst 0, 1) := by decide +kernel
theorem dX11_meanWater_15 : decode cX11_meanWater 15 = .ok (.putfield 38, 3) := by decide +kernel
theorem dX11_meanWater_18 : decode cX11_meanWater 18 = .ok (.aload_n 0, 1) := by decide +kernel
theorem dX11_meanWater_19 : decode cX11_meanWater 19 = .ok (.getfield 38, 3) := by decide +kernel
theorem dX11_meanWater_22 : decode cX11_meanWater 22 = .ok (.ifCond .le 7, 3) := by decide +kernel
theorem dX11_meanWater_25 : decode cX11_meanWater 25 = .ok (.dconst 0, 1) := by decide +kernel
theorem dX11_meanWater_26 : decode cX11_meanWater 26 = .ok (.goto 16, 3) := by decide +kernel
theorem dX11_meanWater_29 : decode cX11_meanWater 29 = .ok (.aload_n 0, 1) := by decide +kernel
theorem dX11_meanWater_30 : decode cX11_meanWater 30 = .ok (.invokevirtual 171, 3) := by decide +kernel
theorem dX11_meanWater_33 : decode cX11_meanWater 33 = .ok (.i2d, 1) := by decide +kernel
theorem dX11_meanWater_34 : decode cX11_meanWater 34 = .ok (.aload_n 0, 1) := by decide +kernel
theorem dX11_meanWater_35 : decode cX11_meanWater 35 = .ok (.getfield 7, 3) := by decide +kernel
theorem dX11_meanWater_38 : decode cX11_meanWater 38 = .ok (.iconst 0, 1) := by decide +kernel
theorem dX11_meanWater_39 : decode cX11_meanWater 39 = .ok (.iaload, 1) := by decide +kernel
theorem dX11_meanWater_40 : decode cX11_meanWater 40 = .ok (.i2d, 1) := by decide +kernel
theorem dX11_meanWater_41 : decode cX11_meanWater 41 = .ok (.ddiv, 1) := by decide +kernel
theorem dX11_meanWater_42 : decode cX11_meanWater 42 = .ok (.dreturn, 1) := by decide +kernel
def f_X11_meanWater (w : XW) : Option (UInt64 × XW) := (if (w.1 142 (Int32.toNatClampNeg 0)) = 0 then (if ((wset w 141 0 1).1 141 0) ≤ 0 then (bI (f_X11_all (wset w 141 0 1)) (fun r3 w3 => (if okF64 (FP.ddiv (FP.i2d r3) (FP.i2d (w3.1 142 (Int32.toNatClampNeg 0)))) then (some ((FP.ddiv (FP.i2d r3) (FP.i2d (w3.1 142 (Int32.toNatClampNeg 0)))), w3)) else none))) else (some (FP.dconst0, (wset w 141 0 1)))) else (if ((wset w 141 0 0).1 141 0) ≤ 0 then (bI (f_X11_all (wset w 141 0 0)) (fun r1 w1 => (if okF64 (FP.ddiv (FP.i2d r1) (FP.i2d (w1.1 142 (Int32.toNatClampNeg 0)))) then (some ((FP.ddiv (FP.i2d r1) (FP.i2d (w1.1 142 (Int32.toNatClampNeg 0)))), w1)) else none))) else (some (FP.dconst0, (wset w 141 0 0)))))
set_option maxRecDepth 100000 in
theorem W_X11_meanWater {g : GC} (hl : g.1.stackTraces = false) {w : XW} : VE g cX11_meanWater 1 RX11 (some .double) [] (rmL 4 0 0) 0 0 oD 0 0 0 [(0, .ref (g.2.1 + 141))] [] w (f_X11_meanWater  w) := by
  unfold f_X11_meanWater
  refine v_aload_n dX11_meanWater_0 rfl 0 rfl ?_
  refine v_aload_n dX11_meanWater_1 rfl 0 rfl ?_
  refine v_getR fl_X11_7 tt_141 rfl dX11_meanWater_2 ?_
  refine v_iconst (v := 0) dX11_meanWater_5 (by decide) ?_
  refine v_iald tt_142 (by decide : inB 0 66) dX11_meanWater_6 ?_
  refine v_if_ne (tgt := 14) dX11_meanWater_7 (by decide) ?_ ?_
  · refine v_iconst (v := 0) dX11_meanWater_14 (by decide) ?_
    refine v_putI fl_X11_38 tt_141 rfl (ty0 := .int) rfl rfl rfl dX11_meanWater_15 ?_
    refine v_aload_n dX11_meanWater_18 rfl 0 rfl ?_
    refine v_getI fl_X11_38 tt_141 rfl dX11_meanWater_19 ?_
    refine v_if_le (tgt := 29) dX11_meanWater_22 (by decide) ?_ ?_
    · refine v_aload_n dX11_meanWater_29 rfl 0 rfl ?_
      refine v_callVi (As := []) cv_X11_171 (S_X11_all hl) tt_141 rfl rfl rfl (Nat.le_of_ble_eq_true rfl) dX11_meanWater_30 (CR_rm (by decide) (by decide) (by decide) (by decide)) (fun r1 w1 => ?_)
      refine v_i2d dX11_meanWater_33 ?_
      refine v_aload_n dX11_meanWater_34 rfl 0 rfl ?_
      refine v_getR fl_X11_7 tt_141 rfl dX11_meanWater_35 ?_
      refine v_iconst (v := 0) dX11_meanWater_38 (by decide) ?_
      refine v_iald tt_142 (by decide : inB 0 66) dX11_meanWater_39 ?_
      refine v_i2d dX11_meanWater_40 ?_
      refine v_guard (fun h2 => ?_)
      refine v_ddiv dX11_meanWater_41 (okF64_ok h2) ?_
      exact v_dret dX11_meanWater_42 rfl rfl (by decide) (by decide)
    · refine v_dconst0 dX11_meanWater_25 ?_
      refine v_goto (tgt := 42) dX11_meanWater_26 (by decide) ?_
      exact v_dret dX11_meanWater_42 rfl rfl (by decide) (by decide)
  · refine v_iconst (v := 1) dX11_meanWater_10 (by decide) ?_
    refine v_goto (tgt := 15) dX11_meanWater_11 (by decide) ?_
    refine v_putI fl_X11_38 tt_141 rfl (ty0 := .int) rfl rfl rfl dX11_meanWater_15 ?_
    refine v_aload_n dX11_meanWater_18 rfl 0 rfl ?_
    refine v_getI fl_X11_38 tt_141 rfl dX11_meanWater_19 ?_
    refine v_if_le (tgt := 29) dX11_meanWater_22 (by decide) ?_ ?_
    · refine v_aload_n dX11_meanWater_29 rfl 0 rfl ?_
      refine v_callVi (As := []) cv_X11_171 (S_X11_all hl) tt_141 rfl rfl rfl (Nat.le_of_ble_eq_true rfl) dX11_meanWater_30 (CR_rm (by decide) (by decide) (by decide) (by decide)) (fun r3 w3 => ?_)
      refine v_i2d dX11_meanWater_33 ?_
      refine v_aload_n dX11_meanWater_34 rfl 0 rfl ?_
      refine v_getR fl_X11_7 tt_141 rfl dX11_meanWater_35 ?_
      refine v_iconst (v := 0) dX11_meanWater_38 (by decide) ?_
      refine v_iald tt_142 (by decide : inB 0 66) dX11_meanWater_39 ?_
      refine v_i2d dX11_meanWater_40 ?_
      refine v_guard (fun h4 => ?_)
      refine v_ddiv dX11_meanWater_41 (okF64_ok h4) ?_
      exact v_dret dX11_meanWater_42 rfl rfl (by decide) (by decide)
    · refine v_dconst0 dX11_meanWater_25 ?_
      refine v_goto (tgt := 42) dX11_meanWater_26 (by decide) ?_
      exact v_dret dX11_meanWater_42 rfl rfl (by decide) (by decide)
theorem S_X11_meanWater {g : GC} (hl : g.1.stackTraces = false) {w : XW} : ∀ q, f_X11_meanWater  w = some q → MM g (.code yX11_meanWater cX11_meanWater 1 (some .double)) yX11_meanWater (rmL 4 0 0) 0 0 [.ref (g.2.1 + 141)] w (oD q) := fun q hq => MM_of (own := RX11) hl (by decide) gw_1800 rfl (Nat.le_of_ble_eq_true rfl) (W_X11_meanWater hl q hq) ⟨rfl, rfl⟩

theorem dX11_leakedShare_0 : decode cX11_leakedShare 0 = .ok (.aload_n 0, 1) := by decide +kernel
theorem dX11_leakedShare_1 : decode cX11_leakedShare 1 = .ok (.aload_n 0, 1) := by decide +kernel
theorem dX11_leakedShare_2 : decode cX11_leakedShare 2 = .ok (.getfield 7, 3) := by decide +kernel
theorem dX11_leakedShare_5 : decode cX11_leakedShare 5 = .ok (.iconst 3, 1) := by decide +kernel
theorem dX11_leakedShare_6 : decode cX11_leakedShare 6 = .ok (.iaload, 1) := by decide +kernel
theorem dX11_leakedShare_7 : decode cX11_leakedShare 7 = .ok (.ifCond .ne 7, 3) := by decide +kernel
theorem dX11_leakedShare_10 : decode cX11_leakedShare 10 = .ok (.iconst 1, 1) := by decide +kernel
theorem dX11_leakedShare_11 : decode cX11_leakedShare 11 = .ok (.goto 4, 3) := by decide +kernel
theorem dX11_leakedShare_14 : decode cX11_leakedShare 14 = .ok (.iconst 0, 1) := by decide +kernel
theorem dX11_leakedShare_15 : decode cX11_leakedShare 15 = .ok (.putfield 38, 3) := by decide +kernel
theorem dX11_leakedShare_18 : decode cX11_leakedShare 18 = .ok (.aload_n 0, 1) := by decide +kernel
theorem dX11_leakedShare_19 : decode cX11_leakedShare 19 = .ok (.getfield 38, 3) := by decide +kernel
theorem dX11_leakedShare_22 : decode cX11_leakedShare 22 = .ok (.ifCond .le 7, 3) := by decide +kernel
theorem dX11_leakedShare_25 : decode cX11_leakedShare 25 = .ok (.fconst 0, 1) := by decide +kernel
theorem dX11_leakedShare_26 : decode cX11_leakedShare 26 = .ok (.goto 18, 3) := by decide +kernel
theorem dX11_leakedShare_29 : decode cX11_leakedShare 29 = .ok (.aload_n 0, 1) := by decide +kernel
theorem dX11_leakedShare_30 : decode cX11_leakedShare 30 = .ok (.getfield 7, 3) := by decide +kernel
theorem dX11_leakedShare_33 : decode cX11_leakedShare 33 = .ok (.iconst 4, 1) := by decide +kernel
theorem dX11_leakedShare_34 : decode cX11_leakedShare 34 = .ok (.iaload, 1) := by decide +kernel
theorem dX11_leakedShare_35 : decode cX11_leakedShare 35 = .ok (.i2f, 1) := by decide +kernel
theorem dX11_leakedShare_36 : decode cX11_leakedShare 36 = .ok (.aload_n 0, 1) := by decide +kernel
theorem dX11_leakedShare_37 : decode cX11_leakedShare 37 = .ok (.getfield 7, 3) := by decide +kernel
theorem dX11_leakedShare_40 : decode cX11_leakedShare 40 = .ok (.iconst 3, 1) := by decide +kernel
theorem dX11_leakedShare_41 : decode cX11_leakedShare 41 = .ok (.iaload, 1) := by decide +kernel
theorem dX11_leakedShare_42 : decode cX11_leakedShare 42 = .ok (.i2f, 1) := by decide +kernel
theorem dX11_leakedShare_43 : decode cX11_leakedShare 43 = .ok (.fdiv, 1) := by decide +kernel
theorem dX11_leakedShare_44 : decode cX11_leakedShare 44 = .ok (.freturn, 1) := by decide +kernel
def f_X11_leakedShare (w : XW) : Option (UInt32 × XW) := (if (w.1 142 (Int32.toNatClampNeg 3)) = 0 then (if ((wset w 141 0 1).1 141 0) ≤ 0 then (if okF32 (FP.fdiv (FP.i2f ((wset w 141 0 1).1 142 (Int32.toNatClampNeg 4))) (FP.i2f ((wset w 141 0 1).1 142 (Int32.toNatClampNeg 3)))) then (some ((FP.fdiv (FP.i2f ((wset w 141 0 1).1 142 (Int32.toNatClampNeg 4))) (FP.i2f ((wset w 141 0 1).1 142 (Int32.toNatClampNeg 3)))), (wset w 141 0 1))) else none) else (some (FP.fconst0, (wset w 141 0 1)))) else (if ((wset w 141 0 0).1 141 0) ≤ 0 then (if okF32 (FP.fdiv (FP.i2f ((wset w 141 0 0).1 142 (Int32.toNatClampNeg 4))) (FP.i2f ((wset w 141 0 0).1 142 (Int32.toNatClampNeg 3)))) then (some ((FP.fdiv (FP.i2f ((wset w 141 0 0).1 142 (Int32.toNatClampNeg 4))) (FP.i2f ((wset w 141 0 0).1 142 (Int32.toNatClampNeg 3)))), (wset w 141 0 0))) else none) else (some (FP.fconst0, (wset w 141 0 0)))))
set_option maxRecDepth 100000 in
theorem W_X11_leakedShare {g : GC} (hl : g.1.stackTraces = false) {w : XW} : VE g cX11_leakedShare 1 RX11 (some .float) [] (rmL 3 0 0) 0 0 oF 0 0 0 [(0, .ref (g.2.1 + 141))] [] w (f_X11_leakedShare  w) := by
  unfold f_X11_leakedShare
  refine v_aload_n dX11_leakedShare_0 rfl 0 rfl ?_
  refine v_aload_n dX11_leakedShare_1 rfl 0 rfl ?_
  refine v_getR fl_X11_7 tt_141 rfl dX11_leakedShare_2 ?_
  refine v_iconst (v := 3) dX11_leakedShare_5 (by decide) ?_
  refine v_iald tt_142 (by decide : inB 3 66) dX11_leakedShare_6 ?_
  refine v_if_ne (tgt := 14) dX11_leakedShare_7 (by decide) ?_ ?_
  · refine v_iconst (v := 0) dX11_leakedShare_14 (by decide) ?_
    refine v_putI fl_X11_38 tt_141 rfl (ty0 := .int) rfl rfl rfl dX11_leakedShare_15 ?_
    refine v_aload_n dX11_leakedShare_18 rfl 0 rfl ?_
    refine v_getI fl_X11_38 tt_141 rfl dX11_leakedShare_19 ?_
    refine v_if_le (tgt := 29) dX11_leakedShare_22 (by decide) ?_ ?_
    · refine v_aload_n dX11_leakedShare_29 rfl 0 rfl ?_
      refine v_getR fl_X11_7 tt_141 rfl dX11_leakedShare_30 ?_
      refine v_iconst (v := 4) dX11_leakedShare_33 (by decide) ?_
      refine v_iald tt_142 (by decide : inB 4 66) dX11_leakedShare_34 ?_
      refine v_i2f dX11_leakedShare_35 ?_
      refine v_aload_n dX11_leakedShare_36 rfl 0 rfl ?_
      refine v_getR fl_X11_7 tt_141 rfl dX11_leakedShare_37 ?_
      refine v_iconst (v := 3) dX11_leakedShare_40 (by decide) ?_
      refine v_iald tt_142 (by decide : inB 3 66) dX11_leakedShare_41 ?_
      refine v_i2f dX11_leakedShare_42 ?_
      refine v_guard (fun h1 => ?_)
      refine v_fdiv dX11_leakedShare_43 (okF32_ok h1) ?_
      exact v_fret dX11_leakedShare_44 rfl rfl (by decide) (by decide)
    · refine v_fconst0 dX11_leakedShare_25 ?_
      refine v_goto (tgt := 44) dX11_leakedShare_26 (by decide) ?_
      exact v_fret dX11_leakedShare_44 rfl rfl (by decide) (by decide)
  · refine v_iconst (v := 1) dX11_leakedShare_10 (by decide) ?_
    refine v_goto (tgt := 15) dX11_leakedShare_11 (by decide) ?_
    refine v_putI fl_X11_38 tt_141 rfl (ty0 := .int) rfl rfl rfl dX11_leakedShare_15 ?_
    refine v_aload_n dX11_leakedShare_18 rfl 0 rfl ?_
    refine v_getI fl_X11_38 tt_141 rfl dX11_leakedShare_19 ?_
    refine v_if_le (tgt := 29) dX11_leakedShare_22 (by decide) ?_ ?_
    · refine v_aload_n dX11_leakedShare_29 rfl 0 rfl ?_
      refine v_getR fl_X11_7 tt_141 rfl dX11_leakedShare_30 ?_
      refine v_iconst (v := 4) dX11_leakedShare_33 (by decide) ?_
      refine v_iald tt_142 (by decide : inB 4 66) dX11_leakedShare_34 ?_
      refine v_i2f dX11_leakedShare_35 ?_
      refine v_aload_n dX11_leakedShare_36 rfl 0 rfl ?_
      refine v_getR fl_X11_7 tt_141 rfl dX11_leakedShare_37 ?_
      refine v_iconst (v := 3) dX11_leakedShare_40 (by decide) ?_
      refine v_iald tt_142 (by decide : inB 3 66) dX11_leakedShare_41 ?_
      refine v_i2f dX11_leakedShare_42 ?_
      refine v_guard (fun h2 => ?_)
      refine v_fdiv dX11_leakedShare_43 (okF32_ok h2) ?_
      exact v_fret dX11_leakedShare_44 rfl rfl (by decide) (by decide)
    · refine v_fconst0 dX11_leakedShare_25 ?_
      refine v_goto (tgt := 44) dX11_leakedShare_26 (by decide) ?_
      exact v_fret dX11_leakedShare_44 rfl rfl (by decide) (by decide)
theorem S_X11_leakedShare {g : GC} (hl : g.1.stackTraces = false) {w : XW} : ∀ q, f_X11_leakedShare  w = some q → MM g (.code yX11_leakedShare cX11_leakedShare 1 (some .float)) yX11_leakedShare (rmL 3 0 0) 0 0 [.ref (g.2.1 + 141)] w (oF q) := fun q hq => MM_of (own := RX11) hl (by decide) gw_1804 rfl (Nat.le_of_ble_eq_true rfl) (W_X11_leakedShare hl q hq) ⟨rfl, rfl⟩

theorem dX11_feed_0 : decode cX11_feed 0 = .ok (.aload_n 0, 1) := by decide +kernel
theorem dX11_feed_1 : decode cX11_feed 1 = .ok (.aload_n 0, 1) := by decide +kernel
theorem dX11_feed_2 : decode cX11_feed 2 = .ok (.getfield 177, 3) := by decide +kernel
theorem dX11_feed_5 : decode cX11_feed 5 = .ok (.bipush 60, 2) := by decide +kernel
theorem dX11_feed_7 : decode cX11_feed 7 = .ok (.if_icmp .ne 7, 3) := by decide +kernel
theorem dX11_feed_10 : decode cX11_feed 10 = .ok (.iconst 1, 1) := by decide +kernel
theorem dX11_feed_11 : decode cX11_feed 11 = .ok (.goto 4, 3) := by decide +kernel
theorem dX11_feed_14 : decode cX11_feed 14 = .ok (.iconst 0, 1) := by decide +kernel
theorem dX11_feed_15 : decode cX11_feed 15 = .ok (.putfield 38, 3) := by decide +kernel
theorem dX11_feed_18 : decode cX11_feed 18 = .ok (.aload_n 0, 1) := by decide +kernel
theorem dX11_feed_19 : decode cX11_feed 19 = .ok (.getfield 38, 3) := by decide +kernel
theorem dX11_feed_22 : decode cX11_feed 22 = .ok (.ifCond .le 5, 3) := by decide +kernel
theorem dX11_feed_25 : decode cX11_feed 25 = .ok (.iconst 0, 1) := by decide +kernel
theorem dX11_feed_26 : decode cX11_feed 26 = .ok (.ireturn, 1) := by decide +kernel
theorem dX11_feed_27 : decode cX11_feed 27 = .ok (.aload_n 0, 1) := by decide +kernel
theorem dX11_feed_28 : decode cX11_feed 28 = .ok (.getfield 22, 3) := by decide +kernel
theorem dX11_feed_31 : decode cX11_feed 31 = .ok (.aload_n 0, 1) := by decide +kernel
theorem dX11_feed_32 : decode cX11_feed 32 = .ok (.getfield 177, 3) := by decide +kernel
theorem dX11_feed_35 : decode cX11_feed 35 = .ok (.iload_n 1, 1) := by decide +kernel
theorem dX11_feed_36 : decode cX11_feed 36 = .ok (.iastore, 1) := by decide +kernel
theorem dX11_feed_37 : decode cX11_feed 37 = .ok (.aload_n 0, 1) := by decide +kernel
theorem dX11_feed_38 : decode cX11_feed 38 = .ok (.dup, 1) := by decide +kernel
theorem dX11_feed_39 : decode cX11_feed 39 = .ok (.getfield 177, 3) := by decide +kernel
theorem dX11_feed_42 : decode cX11_feed 42 = .ok (.iconst 1, 1) := by decide +kernel
theorem dX11_feed_43 : decode cX11_feed 43 = .ok (.iadd, 1) := by decide +kernel
theorem dX11_feed_44 : decode cX11_feed 44 = .ok (.putfield 177, 3) := by decide +kernel
theorem dX11_feed_47 : decode cX11_feed 47 = .ok (.aload_n 0, 1) := by decide +kernel
theorem dX11_feed_48 : decode cX11_feed 48 = .ok (.getfield 177, 3) := by decide +kernel
theorem dX11_feed_51 : decode cX11_feed 51 = .ok (.ireturn, 1) := by decide +kernel
def f_X11_feed (x1 : Int32) (w : XW) : Option (Int32 × XW) := (if (w.1 141 11) = 60 then (if ((wset w 141 0 1).1 141 0) ≤ 0 then (if inB ((wset w 141 0 1).1 141 11) 60 then (some (((wset (wset (wset w 141 0 1) 146 (Int32.toNatClampNeg ((wset w 141 0 1).1 141 11)) x1) 141 11 (((wset (wset w 141 0 1) 146 (Int32.toNatClampNeg ((wset w 141 0 1).1 141 11)) x1).1 141 11) + 1)).1 141 11), (wset (wset (wset w 141 0 1) 146 (Int32.toNatClampNeg ((wset w 141 0 1).1 141 11)) x1) 141 11 (((wset (wset w 141 0 1) 146 (Int32.toNatClampNeg ((wset w 141 0 1).1 141 11)) x1).1 141 11) + 1)))) else none) else (some (0, (wset w 141 0 1)))) else (if ((wset w 141 0 0).1 141 0) ≤ 0 then (if inB ((wset w 141 0 0).1 141 11) 60 then (some (((wset (wset (wset w 141 0 0) 146 (Int32.toNatClampNeg ((wset w 141 0 0).1 141 11)) x1) 141 11 (((wset (wset w 141 0 0) 146 (Int32.toNatClampNeg ((wset w 141 0 0).1 141 11)) x1).1 141 11) + 1)).1 141 11), (wset (wset (wset w 141 0 0) 146 (Int32.toNatClampNeg ((wset w 141 0 0).1 141 11)) x1) 141 11 (((wset (wset w 141 0 0) 146 (Int32.toNatClampNeg ((wset w 141 0 0).1 141 11)) x1).1 141 11) + 1)))) else none) else (some (0, (wset w 141 0 0)))))
set_option maxRecDepth 100000 in
theorem W_X11_feed {g : GC} (hl : g.1.stackTraces = false) {x1 : Int32} {w : XW} : VE g cX11_feed 2 RX11 (some .int) [] (rmL 3 0 0) 0 0 oI 0 0 0 [(0, .ref (g.2.1 + 141)), (1, .int x1)] [] w (f_X11_feed x1 w) := by
  unfold f_X11_feed
  refine v_aload_n dX11_feed_0 rfl 0 rfl ?_
  refine v_aload_n dX11_feed_1 rfl 0 rfl ?_
  refine v_getI fl_X11_177 tt_141 rfl dX11_feed_2 ?_
  refine v_bipush (v := 60) dX11_feed_5 (by decide) ?_
  refine v_icmp_ne (tgt := 14) dX11_feed_7 (by decide) ?_ ?_
  · refine v_iconst (v := 0) dX11_feed_14 (by decide) ?_
    refine v_putI fl_X11_38 tt_141 rfl (ty0 := .int) rfl rfl rfl dX11_feed_15 ?_
    refine v_aload_n dX11_feed_18 rfl 0 rfl ?_
    refine v_getI fl_X11_38 tt_141 rfl dX11_feed_19 ?_
    refine v_if_le (tgt := 27) dX11_feed_22 (by decide) ?_ ?_
    · refine v_aload_n dX11_feed_27 rfl 0 rfl ?_
      refine v_getR fl_X11_22 tt_141 rfl dX11_feed_28 ?_
      refine v_aload_n dX11_feed_31 rfl 0 rfl ?_
      refine v_getI fl_X11_177 tt_141 rfl dX11_feed_32 ?_
      refine v_iload_n dX11_feed_35 rfl 1 rfl ?_
      refine v_guard (fun h1 => ?_)
      refine v_iast tt_146 h1 dX11_feed_36 ?_
      refine v_aload_n dX11_feed_37 rfl 0 rfl ?_
      refine v_dup dX11_feed_38 rfl ?_
      refine v_getI fl_X11_177 tt_141 rfl dX11_feed_39 ?_
      refine v_iconst (v := 1) dX11_feed_42 (by decide) ?_
      refine v_iadd dX11_feed_43 ?_
      refine v_putI fl_X11_177 tt_141 rfl (ty0 := .int) rfl rfl rfl dX11_feed_44 ?_
      refine v_aload_n dX11_feed_47 rfl 0 rfl ?_
      refine v_getI fl_X11_177 tt_141 rfl dX11_feed_48 ?_
      exact v_iret dX11_feed_51 rfl rfl (by decide) (by decide)
    · refine v_iconst (v := 0) dX11_feed_25 (by decide) ?_
      exact v_iret dX11_feed_26 rfl rfl (by decide) (by decide)
  · refine v_iconst (v := 1) dX11_feed_10 (by decide) ?_
    refine v_goto (tgt := 15) dX11_feed_11 (by decide) ?_
    refine v_putI fl_X11_38 tt_141 rfl (ty0 := .int) rfl rfl rfl dX11_feed_15 ?_
    refine v_aload_n dX11_feed_18 rfl 0 rfl ?_
    refine v_getI fl_X11_38 tt_141 rfl dX11_feed_19 ?_
    refine v_if_le (tgt := 27) dX11_feed_22 (by decide) ?_ ?_
    · refine v_aload_n dX11_feed_27 rfl 0 rfl ?_
      refine v_getR fl_X11_22 tt_141 rfl dX11_feed_28 ?_
      refine v_aload_n dX11_feed_31 rfl 0 rfl ?_
      refine v_getI fl_X11_177 tt_141 rfl dX11_feed_32 ?_
      refine v_iload_n dX11_feed_35 rfl 1 rfl ?_
      refine v_guard (fun h2 => ?_)
      refine v_iast tt_146 h2 dX11_feed_36 ?_
      refine v_aload_n dX11_feed_37 rfl 0 rfl ?_
      refine v_dup dX11_feed_38 rfl ?_
      refine v_getI fl_X11_177 tt_141 rfl dX11_feed_39 ?_
      refine v_iconst (v := 1) dX11_feed_42 (by decide) ?_
      refine v_iadd dX11_feed_43 ?_
      refine v_putI fl_X11_177 tt_141 rfl (ty0 := .int) rfl rfl rfl dX11_feed_44 ?_
      refine v_aload_n dX11_feed_47 rfl 0 rfl ?_
      refine v_getI fl_X11_177 tt_141 rfl dX11_feed_48 ?_
      exact v_iret dX11_feed_51 rfl rfl (by decide) (by decide)
    · refine v_iconst (v := 0) dX11_feed_25 (by decide) ?_
      exact v_iret dX11_feed_26 rfl rfl (by decide) (by decide)
theorem S_X11_feed {g : GC} (hl : g.1.stackTraces = false) {x1 : Int32} {w : XW} : ∀ q, f_X11_feed x1 w = some q → MM g (.code yX11_feed cX11_feed 2 (some .int)) yX11_feed (rmL 3 0 0) 0 0 [.ref (g.2.1 + 141), .int x1] w (oI q) := fun q hq => MM_of (own := RX11) hl (by decide) gw_1808 rfl (Nat.le_of_ble_eq_true rfl) (W_X11_feed hl q hq) ⟨rfl, rfl⟩

theorem dX11_clearText_0 : decode cX11_clearText 0 = .ok (.aload_n 0, 1) := by decide +kernel
theorem dX11_clearText_1 : decode cX11_clearText 1 = .ok (.iconst 0, 1) := by decide +kernel
theorem dX11_clearText_2 : decode cX11_clearText 2 = .ok (.putfield 38, 3) := by decide +kernel
theorem dX11_clearText_5 : decode cX11_clearText 5 = .ok (.aload_n 0, 1) := by decide +kernel
theorem dX11_clearText_6 : decode cX11_clearText 6 = .ok (.getfield 177, 3) := by decide +kernel
theorem dX11_clearText_9 : decode cX11_clearText 9 = .ok (.istore_n 1, 1) := by decide +kernel
theorem dX11_clearText_10 : decode cX11_clearText 10 = .ok (.aload_n 0, 1) := by decide +kernel
theorem dX11_clearText_11 : decode cX11_clearText 11 = .ok (.iconst 0, 1) := by decide +kernel
theorem dX11_clearText_12 : decode cX11_clearText 12 = .ok (.putfield 177, 3) := by decide +kernel
theorem dX11_clearText_15 : decode cX11_clearText 15 = .ok (.iload_n 1, 1) := by decide +kernel
theorem dX11_clearText_16 : decode cX11_clearText 16 = .ok (.ireturn, 1) := by decide +kernel
def f_X11_clearText (w : XW) : Option (Int32 × XW) := (some (((wset w 141 0 0).1 141 11), (wset (wset w 141 0 0) 141 11 0)))
set_option maxRecDepth 100000 in
theorem W_X11_clearText {g : GC} (hl : g.1.stackTraces = false) {w : XW} : VE g cX11_clearText 2 RX11 (some .int) [] (rmL 3 0 0) 0 0 oI 0 0 0 [(0, .ref (g.2.1 + 141))] [] w (f_X11_clearText  w) := by
  unfold f_X11_clearText
  refine v_aload_n dX11_clearText_0 rfl 0 rfl ?_
  refine v_iconst (v := 0) dX11_clearText_1 (by decide) ?_
  refine v_putI fl_X11_38 tt_141 rfl (ty0 := .int) rfl rfl rfl dX11_clearText_2 ?_
  refine v_aload_n dX11_clearText_5 rfl 0 rfl ?_
  refine v_getI fl_X11_177 tt_141 rfl dX11_clearText_6 ?_
  refine v_istore_n dX11_clearText_9 rfl (Nat.le_of_ble_eq_true rfl) rfl ?_
  refine v_aload_n dX11_clearText_10 rfl 1 rfl ?_
  refine v_iconst (v := 0) dX11_clearText_11 (by decide) ?_
  refine v_putI fl_X11_177 tt_141 rfl (ty0 := .int) rfl rfl rfl dX11_clearText_12 ?_
  refine v_iload_n dX11_clearText_15 rfl 0 rfl ?_
  exact v_iret dX11_clearText_16 rfl rfl (by decide) (by decide)
theorem S_X11_clearText {g : GC} (hl : g.1.stackTraces = false) {w : XW} : ∀ q, f_X11_clearText  w = some q → MM g (.code yX11_clearText cX11_clearText 2 (some .int)) yX11_clearText (rmL 3 0 0) 0 0 [.ref (g.2.1 + 141)] w (oI q) := fun q hq => MM_of (own := RX11) hl (by decide) gw_1812 rfl (Nat.le_of_ble_eq_true rfl) (W_X11_clearText hl q hq) ⟨rfl, rfl⟩

theorem dX11_here_0 : decode cX11_here 0 = .ok (.aload_n 0, 1) := by decide +kernel
theorem dX11_here_1 : decode cX11_here 1 = .ok (.getfield 180, 3) := by decide +kernel
theorem dX11_here_4 : decode cX11_here 4 = .ok (.iload_n 1, 1) := by decide +kernel
theorem dX11_here_5 : decode cX11_here 5 = .ok (.iadd, 1) := by decide +kernel
theorem dX11_here_6 : decode cX11_here 6 = .ok (.aload_n 0, 1) := by decide +kernel
theorem dX11_here_7 : decode cX11_here 7 = .ok (.getfield 183, 3) := by decide +kernel
theorem dX11_here_10 : decode cX11_here 10 = .ok (.if_icmp .ge 17, 3) := by decide +kernel
theorem dX11_here_13 : decode cX11_here 13 = .ok (.aload_n 0, 1) := by decide +kernel
theorem dX11_here_14 : decode cX11_here 14 = .ok (.getfield 22, 3) := by decide +kernel
theorem dX11_here_17 : decode cX11_here 17 = .ok (.aload_n 0, 1) := by decide +kernel
theorem dX11_here_18 : decode cX11_here 18 = .ok (.getfield 180, 3) := by decide +kernel
theorem dX11_here_21 : decode cX11_here 21 = .ok (.iload_n 1, 1) := by decide +kernel
theorem dX11_here_22 : decode cX11_here 22 = .ok (.iadd, 1) := by decide +kernel
theorem dX11_here_23 : decode cX11_here 23 = .ok (.iaload, 1) := by decide +kernel
theorem dX11_here_24 : decode cX11_here 24 = .ok (.goto 4, 3) := by decide +kernel
theorem dX11_here_27 : decode cX11_here 27 = .ok (.iconst (-1), 1) := by decide +kernel
theorem dX11_here_28 : decode cX11_here 28 = .ok (.ireturn, 1) := by decide +kernel
def f_X11_here (x1 : Int32) (w : XW) : Option (Int32 × XW) := (if (w.1 141 19) ≤ ((w.1 141 18) + x1) then (some ((-1), w)) else (if inB ((w.1 141 18) + x1) 60 then (some ((w.1 146 (Int32.toNatClampNeg ((w.1 141 18) + x1))), w)) else none))
set_option maxRecDepth 100000 in
theorem W_X11_here {g : GC} (hl : g.1.stackTraces = false) {x1 : Int32} {w : XW} : VE g cX11_here 2 RX11 (some .int) [] (rmL 3 0 0) 0 0 oI 0 0 0 [(0, .ref (g.2.1 + 141)), (1, .int x1)] [] w (f_X11_here x1 w) := by
  unfold f_X11_here
  refine v_aload_n dX11_here_0 rfl 0 rfl ?_
  refine v_getI fl_X11_180 tt_141 rfl dX11_here_1 ?_
  refine v_iload_n dX11_here_4 rfl 1 rfl ?_
  refine v_iadd dX11_here_5 ?_
  refine v_aload_n dX11_here_6 rfl 0 rfl ?_
  refine v_getI fl_X11_183 tt_141 rfl dX11_here_7 ?_
  refine v_icmp_ge (tgt := 27) dX11_here_10 (by decide) ?_ ?_
  · refine v_iconst (v := (-1)) dX11_here_27 (by decide) ?_
    exact v_iret dX11_here_28 rfl rfl (by decide) (by decide)
  · refine v_aload_n dX11_here_13 rfl 0 rfl ?_
    refine v_getR fl_X11_22 tt_141 rfl dX11_here_14 ?_
    refine v_aload_n dX11_here_17 rfl 0 rfl ?_
    refine v_getI fl_X11_180 tt_141 rfl dX11_here_18 ?_
    refine v_iload_n dX11_here_21 rfl 1 rfl ?_
    refine v_iadd dX11_here_22 ?_
    refine v_guard (fun h1 => ?_)
    refine v_iald tt_146 h1 dX11_here_23 ?_
    refine v_goto (tgt := 28) dX11_here_24 (by decide) ?_
    exact v_iret dX11_here_28 rfl rfl (by decide) (by decide)
theorem S_X11_here {g : GC} (hl : g.1.stackTraces = false) {x1 : Int32} {w : XW} : ∀ q, f_X11_here x1 w = some q → MM g (.code yX11_here cX11_here 2 (some .int)) yX11_here (rmL 3 0 0) 0 0 [.ref (g.2.1 + 141), .int x1] w (oI q) := fun q hq => MM_of (own := RX11) hl (by decide) gw_1836 rfl (Nat.le_of_ble_eq_true rfl) (W_X11_here hl q hq) ⟨rfl, rfl⟩

theorem dX11_every_0 : decode cX11_every 0 = .ok (.iconst 1, 1) := by decide +kernel
theorem dX11_every_1 : decode cX11_every 1 = .ok (.aload_n 0, 1) := by decide +kernel
theorem dX11_every_2 : decode cX11_every 2 = .ok (.getfield 7, 3) := by decide +kernel
theorem dX11_every_5 : decode cX11_every 5 = .ok (.iconst 0, 1) := by decide +kernel
theorem dX11_every_6 : decode cX11_every 6 = .ok (.iaload, 1) := by decide +kernel
theorem dX11_every_7 : decode cX11_every 7 = .ok (.ishl, 1) := by decide +kernel
theorem dX11_every_8 : decode cX11_every 8 = .ok (.iconst 1, 1) := by decide +kernel
theorem dX11_every_9 : decode cX11_every 9 = .ok (.isub, 1) := by decide +kernel
theorem dX11_every_10 : decode cX11_every 10 = .ok (.ireturn, 1) := by decide +kernel
def f_X11_every (w : XW) : Option (Int32 × XW) := (some (((1 <<< ((w.1 142 (Int32.toNatClampNeg 0)) &&& 31)) - 1), w))
set_option maxRecDepth 100000 in
theorem W_X11_every {g : GC} (hl : g.1.stackTraces = false) {w : XW} : VE g cX11_every 1 RX11 (some .int) [] (rmL 3 0 0) 0 0 oI 0 0 0 [(0, .ref (g.2.1 + 141))] [] w (f_X11_every  w) := by
  unfold f_X11_every
  refine v_iconst (v := 1) dX11_every_0 (by decide) ?_
  refine v_aload_n dX11_every_1 rfl 0 rfl ?_
  refine v_getR fl_X11_7 tt_141 rfl dX11_every_2 ?_
  refine v_iconst (v := 0) dX11_every_5 (by decide) ?_
  refine v_iald tt_142 (by decide : inB 0 66) dX11_every_6 ?_
  refine v_ishl dX11_every_7 ?_
  refine v_iconst (v := 1) dX11_every_8 (by decide) ?_
  refine v_isub dX11_every_9 ?_
  exact v_iret dX11_every_10 rfl rfl (by decide) (by decide)
theorem S_X11_every {g : GC} (hl : g.1.stackTraces = false) {w : XW} : ∀ q, f_X11_every  w = some q → MM g (.code yX11_every cX11_every 1 (some .int)) yX11_every (rmL 3 0 0) 0 0 [.ref (g.2.1 + 141)] w (oI q) := fun q hq => MM_of (own := RX11) hl (by decide) gw_1840 rfl (Nat.le_of_ble_eq_true rfl) (W_X11_every hl q hq) ⟨rfl, rfl⟩

theorem dX11_isFactor_0 : decode cX11_isFactor 0 = .ok (.aload_n 0, 1) := by decide +kernel
theorem dX11_isFactor_1 : decode cX11_isFactor 1 = .ok (.iconst 0, 1) := by decide +kernel
theorem dX11_isFactor_2 : decode cX11_isFactor 2 = .ok (.invokevirtual 186, 3) := by decide +kernel
theorem dX11_isFactor_5 : decode cX11_isFactor 5 = .ok (.invokestatic 102, 3) := by decide +kernel
theorem dX11_isFactor_8 : decode cX11_isFactor 8 = .ok (.ifCond .ne 23, 3) := by decide +kernel
theorem dX11_isFactor_11 : decode cX11_isFactor 11 = .ok (.aload_n 0, 1) := by decide +kernel
theorem dX11_isFactor_12 : decode cX11_isFactor 12 = .ok (.iconst 0, 1) := by decide +kernel
theorem dX11_isFactor_13 : decode cX11_isFactor 13 = .ok (.invokevirtual 186, 3) := by decide +kernel
theorem dX11_isFactor_16 : decode cX11_isFactor 16 = .ok (.bipush 45, 2) := by decide +kernel
theorem dX11_isFactor_18 : decode cX11_isFactor 18 = .ok (.if_icmp .eq 13, 3) := by decide +kernel
theorem dX11_isFactor_21 : decode cX11_isFactor 21 = .ok (.aload_n 0, 1) := by decide +kernel
theorem dX11_isFactor_22 : decode cX11_isFactor 22 = .ok (.iconst 0, 1) := by decide +kernel
theorem dX11_isFactor_23 : decode cX11_isFactor 23 = .ok (.invokevirtual 186, 3) := by decide +kernel
theorem dX11_isFactor_26 : decode cX11_isFactor 26 = .ok (.bipush 40, 2) := by decide +kernel
theorem dX11_isFactor_28 : decode cX11_isFactor 28 = .ok (.if_icmp .ne 7, 3) := by decide +kernel
theorem dX11_isFactor_31 : decode cX11_isFactor 31 = .ok (.iconst 1, 1) := by decide +kernel
theorem dX11_isFactor_32 : decode cX11_isFactor 32 = .ok (.goto 4, 3) := by decide +kernel
theorem dX11_isFactor_35 : decode cX11_isFactor 35 = .ok (.iconst 0, 1) := by decide +kernel
theorem dX11_isFactor_36 : decode cX11_isFactor 36 = .ok (.ireturn, 1) := by decide +kernel
def f_X11_isFactor (w : XW) : Option (Int32 × XW) := (bI (f_X11_here 0 w) (fun r1 w1 => (bI (f_X11_isTerm r1 w1) (fun r2 w2 => (if r2 = 0 then (bI (f_X11_here 0 w2) (fun r3 w3 => (if r3 = 45 then (some (1, w3)) else (bI (f_X11_here 0 w3) (fun r4 w4 => (if r4 = 40 then (some (1, w4)) else (some (0, w4)))))))) else (some (1, w2)))))))
set_option maxRecDepth 100000 in
theorem W_X11_isFactor {g : GC} (hl : g.1.stackTraces = false) {w : XW} : VE g cX11_isFactor 1 RX11 (some .boolean) [] (rmL 5 0 0) 0 0 oI 0 0 0 [(0, .ref (g.2.1 + 141))] [] w (f_X11_isFactor  w) := by
  unfold f_X11_isFactor
  refine v_aload_n dX11_isFactor_0 rfl 0 rfl ?_
  refine v_iconst (v := 0) dX11_isFactor_1 (by decide) ?_
  refine v_callVi (As := [.int 0]) cv_X11_186 (S_X11_here hl) tt_141 rfl rfl rfl (Nat.le_of_ble_eq_true rfl) dX11_isFactor_2 (CR_rm (by decide) (by decide) (by decide) (by decide)) (fun r1 w1 => ?_)
  refine v_callSi (As := [.int r1]) cs_X11_102 (S_X11_isTerm hl) rfl rfl (Nat.le_of_ble_eq_true rfl) dX11_isFactor_5 (CR_rm (by decide) (by decide) (by decide) (by decide)) (fun r2 w2 => ?_)
  refine v_if_ne (tgt := 31) dX11_isFactor_8 (by decide) ?_ ?_
  · refine v_iconst (v := 1) dX11_isFactor_31 (by decide) ?_
    refine v_goto (tgt := 36) dX11_isFactor_32 (by decide) ?_
    exact v_zret dX11_isFactor_36 rfl rfl rfl (by decide) (by decide)
  · refine v_aload_n dX11_isFactor_11 rfl 0 rfl ?_
    refine v_iconst (v := 0) dX11_isFactor_12 (by decide) ?_
    refine v_callVi (As := [.int 0]) cv_X11_186 (S_X11_here hl) tt_141 rfl rfl rfl (Nat.le_of_ble_eq_true rfl) dX11_isFactor_13 (CR_rm (by decide) (by decide) (by decide) (by decide)) (fun r3 w3 => ?_)
    refine v_bipush (v := 45) dX11_isFactor_16 (by decide) ?_
    refine v_icmp_eq (tgt := 31) dX11_isFactor_18 (by decide) ?_ ?_
    · refine v_iconst (v := 1) dX11_isFactor_31 (by decide) ?_
      refine v_goto (tgt := 36) dX11_isFactor_32 (by decide) ?_
      exact v_zret dX11_isFactor_36 rfl rfl rfl (by decide) (by decide)
    · refine v_aload_n dX11_isFactor_21 rfl 0 rfl ?_
      refine v_iconst (v := 0) dX11_isFactor_22 (by decide) ?_
      refine v_callVi (As := [.int 0]) cv_X11_186 (S_X11_here hl) tt_141 rfl rfl rfl (Nat.le_of_ble_eq_true rfl) dX11_isFactor_23 (CR_rm (by decide) (by decide) (by decide) (by decide)) (fun r4 w4 => ?_)
      refine v_bipush (v := 40) dX11_isFactor_26 (by decide) ?_
      refine v_icmp_ne (tgt := 35) dX11_isFactor_28 (by decide) ?_ ?_
      · refine v_iconst (v := 0) dX11_isFactor_35 (by decide) ?_
        exact v_zret dX11_isFactor_36 rfl rfl rfl (by decide) (by decide)
      · refine v_iconst (v := 1) dX11_isFactor_31 (by decide) ?_
        refine v_goto (tgt := 36) dX11_isFactor_32 (by decide) ?_
        exact v_zret dX11_isFactor_36 rfl rfl rfl (by decide) (by decide)
theorem S_X11_isFactor {g : GC} (hl : g.1.stackTraces = false) {w : XW} : ∀ q, f_X11_isFactor  w = some q → MM g (.code yX11_isFactor cX11_isFactor 1 (some .boolean)) yX11_isFactor (rmL 5 0 0) 0 0 [.ref (g.2.1 + 141)] w (oI q) := fun q hq => MM_of (own := RX11) hl (by decide) gw_1848 rfl (Nat.le_of_ble_eq_true rfl) (W_X11_isFactor hl q hq) ⟨rfl, rfl⟩

theorem dX11_wrongSet_0 : decode cX11_wrongSet 0 = .ok (.aload_n 0, 1) := by decide +kernel
theorem dX11_wrongSet_1 : decode cX11_wrongSet 1 = .ok (.iconst 1, 1) := by decide +kernel
theorem dX11_wrongSet_2 : decode cX11_wrongSet 2 = .ok (.putfield 189, 3) := by decide +kernel
theorem dX11_wrongSet_5 : decode cX11_wrongSet 5 = .ok (.iconst 0, 1) := by decide +kernel
theorem dX11_wrongSet_6 : decode cX11_wrongSet 6 = .ok (.ireturn, 1) := by decide +kernel
def f_X11_wrongSet (w : XW) : Option (Int32 × XW) := (some (0, (wset w 141 22 1)))
set_option maxRecDepth 100000 in
theorem W_X11_wrongSet {g : GC} (hl : g.1.stackTraces = false) {w : XW} : VE g cX11_wrongSet 1 RX11 (some .int) [] (rmL 3 0 0) 0 0 oI 0 0 0 [(0, .ref (g.2.1 + 141))] [] w (f_X11_wrongSet  w) := by
  unfold f_X11_wrongSet
  refine v_aload_n dX11_wrongSet_0 rfl 0 rfl ?_
  refine v_iconst (v := 1) dX11_wrongSet_1 (by decide) ?_
  refine v_putI fl_X11_189 tt_141 rfl (ty0 := .boolean) rfl rfl rfl dX11_wrongSet_2 ?_
  refine v_iconst (v := 0) dX11_wrongSet_5 (by decide) ?_
  exact v_iret dX11_wrongSet_6 rfl rfl (by decide) (by decide)
theorem S_X11_wrongSet {g : GC} (hl : g.1.stackTraces = false) {w : XW} : ∀ q, f_X11_wrongSet  w = some q → MM g (.code yX11_wrongSet cX11_wrongSet 1 (some .int)) yX11_wrongSet (rmL 3 0 0) 0 0 [.ref (g.2.1 + 141)] w (oI q) := fun q hq => MM_of (own := RX11) hl (by decide) gw_1844 rfl (Nat.le_of_ble_eq_true rfl) (W_X11_wrongSet hl q hq) ⟨rfl, rfl⟩

theorem dX11_product_0 : decode cX11_product 0 = .ok (.aload_n 0, 1) := by decide +kernel
theorem dX11_product_1 : decode cX11_product 1 = .ok (.invokevirtual 196, 3) := by decide +kernel
theorem dX11_product_4 : decode cX11_product 4 = .ok (.istore_n 1, 1) := by decide +kernel
theorem dX11_product_5 : decode cX11_product 5 = .ok (.aload_n 0, 1) := by decide +kernel
theorem dX11_product_6 : decode cX11_product 6 = .ok (.getfield 189, 3) := by decide +kernel
theorem dX11_product_9 : decode cX11_product 9 = .ok (.ifCond .ne 20, 3) := by decide +kernel
theorem dX11_product_12 : decode cX11_product 12 = .ok (.aload_n 0, 1) := by decide +kernel
theorem dX11_product_13 : decode cX11_product 13 = .ok (.invokevirtual 208, 3) := by decide +kernel
theorem dX11_product_16 : decode cX11_product 16 = .ok (.ifCond .eq 13, 3) := by decide +kernel
theorem dX11_product_19 : decode cX11_product 19 = .ok (.iload_n 1, 1) := by decide +kernel
theorem dX11_product_20 : decode cX11_product 20 = .ok (.aload_n 0, 1) := by decide +kernel
theorem dX11_product_21 : decode cX11_product 21 = .ok (.invokevirtual 196, 3) := by decide +kernel
theorem dX11_product_24 : decode cX11_product 24 = .ok (.iand, 1) := by decide +kernel
theorem dX11_product_25 : decode cX11_product 25 = .ok (.istore_n 1, 1) := by decide +kernel
theorem dX11_product_26 : decode cX11_product 26 = .ok (.goto (-21), 3) := by decide +kernel
theorem dX11_product_29 : decode cX11_product 29 = .ok (.iload_n 1, 1) := by decide +kernel
theorem dX11_product_30 : decode cX11_product 30 = .ok (.ireturn, 1) := by decide +kernel
def f_X11_product_5 (RC : XW → Option (Int32 × XW)) : Nat → Int32 → XW → Option (Int32 × XW)
  | 0, _, _ => none
  | n + 1, z1, w => (if (w.1 141 22) = 0 then (bI (f_X11_isFactor w) (fun r2 w2 => (if r2 = 0 then (some (z1, w2)) else (bI (RC w2) (fun r3 w3 => (f_X11_product_5 RC n (z1 &&& r3) w3)))))) else (some (z1, w)))
set_option maxRecDepth 100000 in
theorem S_X11_product_5 {g : GC} (hl : g.1.stackTraces = false) {n0 : Nat} (hn0 : 6 ≤ n0) {RC : XW → Option (Int32 × XW)} (hRC : ∀  (w : XW) q, RC  w = some q → MM g (.code yX11_factor cX11_factor 4 (some .int)) yX11_factor (rmL n0 0 0) 0 0 [.ref (g.2.1 + 141)] w (oI q)) : ∀ (n : Nat) (z1 : Int32) (w : XW), VE g cX11_product 2 RX11 (some .int) [] (rmL (n0 + 1) 0 0) 0 0 oI 0 0 5 [(0, .ref (g.2.1 + 141)), (1, .int z1)] [] w (f_X11_product_5 RC  n z1 w) := by
  intro n
  induction n with
  | zero => intro z1 w; exact v_none
  | succ n ih =>
    intro z1 w
    rw [f_X11_product_5]
    refine v_aload_n dX11_product_5 rfl 0 rfl ?_
    refine v_getI fl_X11_189 tt_141 rfl dX11_product_6 ?_
    refine v_if_ne (tgt := 29) dX11_product_9 (by decide) ?_ ?_
    · refine v_iload_n dX11_product_29 rfl 1 rfl ?_
      exact v_iret dX11_product_30 rfl rfl (by decide) (by decide)
    · refine v_aload_n dX11_product_12 rfl 0 rfl ?_
      refine v_callVi (As := []) cv_X11_208 (S_X11_isFactor hl) tt_141 rfl rfl rfl (Nat.le_of_ble_eq_true rfl) dX11_product_13 (CR_rm (by omega) (by decide) (by decide) (by decide)) (fun r2 w2 => ?_)
      refine v_if_eq (tgt := 29) dX11_product_16 (by decide) ?_ ?_
      · refine v_iload_n dX11_product_29 rfl 1 rfl ?_
        exact v_iret dX11_product_30 rfl rfl (by decide) (by decide)
      · refine v_iload_n dX11_product_19 rfl 1 rfl ?_
        refine v_aload_n dX11_product_20 rfl 0 rfl ?_
        refine v_callVi (As := []) cv_X11_196 (hRC _) tt_141 rfl rfl rfl (Nat.le_of_ble_eq_true rfl) dX11_product_21 (CR_rm (by omega) (by decide) (by decide) (by decide)) (fun r3 w3 => ?_)
        refine v_iand dX11_product_24 ?_
        refine v_istore_n dX11_product_25 rfl (Nat.le_of_ble_eq_true rfl) rfl ?_
        refine v_goto (tgt := 5) dX11_product_26 (by decide) ?_
        refine v_sub [1, 0] rfl ?_
        exact ih _ _
def f_X11_product (RC : XW → Option (Int32 × XW)) (w : XW) : Option (Int32 × XW) := (bI (RC w) (fun r1 w1 => (f_X11_product_5 RC 1000 r1 w1)))
set_option maxRecDepth 100000 in
theorem W_X11_product {g : GC} (hl : g.1.stackTraces = false) {n0 : Nat} (hn0 : 6 ≤ n0) {RC : XW → Option (Int32 × XW)} (hRC : ∀  (w : XW) q, RC  w = some q → MM g (.code yX11_factor cX11_factor 4 (some .int)) yX11_factor (rmL n0 0 0) 0 0 [.ref (g.2.1 + 141)] w (oI q)) {w : XW} : VE g cX11_product 2 RX11 (some .int) [] (rmL (n0 + 1) 0 0) 0 0 oI 0 0 0 [(0, .ref (g.2.1 + 141))] [] w (f_X11_product RC  w) := by
  unfold f_X11_product
  refine v_aload_n dX11_product_0 rfl 0 rfl ?_
  refine v_callVi (As := []) cv_X11_196 (hRC _) tt_141 rfl rfl rfl (Nat.le_of_ble_eq_true rfl) dX11_product_1 (CR_rm (by omega) (by decide) (by decide) (by decide)) (fun r1 w1 => ?_)
  refine v_istore_n dX11_product_4 rfl (Nat.le_of_ble_eq_true rfl) rfl ?_
  refine v_sub [1, 0] rfl ?_
  exact S_X11_product_5 hl hn0 hRC  _ _ _
theorem S_X11_product {g : GC} (hl : g.1.stackTraces = false) {n0 : Nat} (hn0 : 6 ≤ n0) {RC : XW → Option (Int32 × XW)} (hRC : ∀  (w : XW) q, RC  w = some q → MM g (.code yX11_factor cX11_factor 4 (some .int)) yX11_factor (rmL n0 0 0) 0 0 [.ref (g.2.1 + 141)] w (oI q)) {w : XW} : ∀ q, f_X11_product RC  w = some q → MM g (.code yX11_product cX11_product 2 (some .int)) yX11_product (rmL (n0 + 1) 0 0) 0 0 [.ref (g.2.1 + 141)] w (oI q) := fun q hq => MM_of (own := RX11) hl (by decide) gw_1828 rfl (Nat.le_of_ble_eq_true rfl) (W_X11_product hl hn0 hRC q hq) ⟨rfl, rfl⟩

theorem dX11_sums_0 : decode cX11_sums 0 = .ok (.aload_n 0, 1) := by decide +kernel
theorem dX11_sums_1 : decode cX11_sums 1 = .ok (.invokevirtual 212, 3) := by decide +kernel
theorem dX11_sums_4 : decode cX11_sums 4 = .ok (.istore_n 1, 1) := by decide +kernel
theorem dX11_sums_5 : decode cX11_sums 5 = .ok (.aload_n 0, 1) := by decide +kernel
theorem dX11_sums_6 : decode cX11_sums 6 = .ok (.getfield 189, 3) := by decide +kernel
theorem dX11_sums_9 : decode cX11_sums 9 = .ok (.ifCond .ne 33, 3) := by decide +kernel
theorem dX11_sums_12 : decode cX11_sums 12 = .ok (.aload_n 0, 1) := by decide +kernel
theorem dX11_sums_13 : decode cX11_sums 13 = .ok (.iconst 0, 1) := by decide +kernel
theorem dX11_sums_14 : decode cX11_sums 14 = .ok (.invokevirtual 186, 3) := by decide +kernel
theorem dX11_sums_17 : decode cX11_sums 17 = .ok (.bipush 43, 2) := by decide +kernel
theorem dX11_sums_19 : decode cX11_sums 19 = .ok (.if_icmp .ne 23, 3) := by decide +kernel
theorem dX11_sums_22 : decode cX11_sums 22 = .ok (.aload_n 0, 1) := by decide +kernel
theorem dX11_sums_23 : decode cX11_sums 23 = .ok (.dup, 1) := by decide +kernel
theorem dX11_sums_24 : decode cX11_sums 24 = .ok (.getfield 180, 3) := by decide +kernel
theorem dX11_sums_27 : decode cX11_sums 27 = .ok (.iconst 1, 1) := by decide +kernel
theorem dX11_sums_28 : decode cX11_sums 28 = .ok (.iadd, 1) := by decide +kernel
theorem dX11_sums_29 : decode cX11_sums 29 = .ok (.putfield 180, 3) := by decide +kernel
theorem dX11_sums_32 : decode cX11_sums 32 = .ok (.iload_n 1, 1) := by decide +kernel
theorem dX11_sums_33 : decode cX11_sums 33 = .ok (.aload_n 0, 1) := by decide +kernel
theorem dX11_sums_34 : decode cX11_sums 34 = .ok (.invokevirtual 212, 3) := by decide +kernel
theorem dX11_sums_37 : decode cX11_sums 37 = .ok (.ior, 1) := by decide +kernel
theorem dX11_sums_38 : decode cX11_sums 38 = .ok (.istore_n 1, 1) := by decide +kernel
theorem dX11_sums_39 : decode cX11_sums 39 = .ok (.goto (-34), 3) := by decide +kernel
theorem dX11_sums_42 : decode cX11_sums 42 = .ok (.iload_n 1, 1) := by decide +kernel
theorem dX11_sums_43 : decode cX11_sums 43 = .ok (.ireturn, 1) := by decide +kernel
def f_X11_sums_5 (RC : XW → Option (Int32 × XW)) : Nat → Int32 → XW → Option (Int32 × XW)
  | 0, _, _ => none
  | n + 1, z1, w => (if (w.1 141 22) = 0 then (bI (f_X11_here 0 w) (fun r2 w2 => (if r2 = 43 then (bI (f_X11_product RC (wset w2 141 18 ((w2.1 141 18) + 1))) (fun r3 w3 => (f_X11_sums_5 RC n (z1 ||| r3) w3))) else (some (z1, w2))))) else (some (z1, w)))
set_option maxRecDepth 100000 in
theorem S_X11_sums_5 {g : GC} (hl : g.1.stackTraces = false) {n0 : Nat} (hn0 : 6 ≤ n0) {RC : XW → Option (Int32 × XW)} (hRC : ∀  (w : XW) q, RC  w = some q → MM g (.code yX11_factor cX11_factor 4 (some .int)) yX11_factor (rmL n0 0 0) 0 0 [.ref (g.2.1 + 141)] w (oI q)) : ∀ (n : Nat) (z1 : Int32) (w : XW), VE g cX11_sums 2 RX11 (some .int) [] (rmL (n0 + 2) 0 0) 0 0 oI 0 0 5 [(0, .ref (g.2.1 + 141)), (1, .int z1)] [] w (f_X11_sums_5 RC  n z1 w) := by
  intro n
  induction n with
  | zero => intro z1 w; exact v_none
  | succ n ih =>
    intro z1 w
    rw [f_X11_sums_5]
    refine v_aload_n dX11_sums_5 rfl 0 rfl ?_
    refine v_getI fl_X11_189 tt_141 rfl dX11_sums_6 ?_
    refine v_if_ne (tgt := 42) dX11_sums_9 (by decide) ?_ ?_
    · refine v_iload_n dX11_sums_42 rfl 1 rfl ?_
      exact v_iret dX11_sums_43 rfl rfl (by decide) (by decide)
    · refine v_aload_n dX11_sums_12 rfl 0 rfl ?_
      refine v_iconst (v := 0) dX11_sums_13 (by decide) ?_
      refine v_callVi (As := [.int 0]) cv_X11_186 (S_X11_here hl) tt_141 rfl rfl rfl (Nat.le_of_ble_eq_true rfl) dX11_sums_14 (CR_rm (by omega) (by decide) (by decide) (by decide)) (fun r2 w2 => ?_)
      refine v_bipush (v := 43) dX11_sums_17 (by decide) ?_
      refine v_icmp_ne (tgt := 42) dX11_sums_19 (by decide) ?_ ?_
      · refine v_iload_n dX11_sums_42 rfl 1 rfl ?_
        exact v_iret dX11_sums_43 rfl rfl (by decide) (by decide)
      · refine v_aload_n dX11_sums_22 rfl 0 rfl ?_
        refine v_dup dX11_sums_23 rfl ?_
        refine v_getI fl_X11_180 tt_141 rfl dX11_sums_24 ?_
        refine v_iconst (v := 1) dX11_sums_27 (by decide) ?_
        refine v_iadd dX11_sums_28 ?_
        refine v_putI fl_X11_180 tt_141 rfl (ty0 := .int) rfl rfl rfl dX11_sums_29 ?_
        refine v_iload_n dX11_sums_32 rfl 1 rfl ?_
        refine v_aload_n dX11_sums_33 rfl 0 rfl ?_
        refine v_callVi (As := []) cv_X11_212 (S_X11_product hl hn0 hRC) tt_141 rfl rfl rfl (Nat.le_of_ble_eq_true rfl) dX11_sums_34 (CR_rm (by omega) (by decide) (by decide) (by decide)) (fun r3 w3 => ?_)
        refine v_ior dX11_sums_37 ?_
        refine v_istore_n dX11_sums_38 rfl (Nat.le_of_ble_eq_true rfl) rfl ?_
        refine v_goto (tgt := 5) dX11_sums_39 (by decide) ?_
        refine v_sub [1, 0] rfl ?_
        exact ih _ _
def f_X11_sums (RC : XW → Option (Int32 × XW)) (w : XW) : Option (Int32 × XW) := (bI (f_X11_product RC w) (fun r1 w1 => (f_X11_sums_5 RC 1000 r1 w1)))
set_option maxRecDepth 100000 in
theorem W_X11_sums {g : GC} (hl : g.1.stackTraces = false) {n0 : Nat} (hn0 : 6 ≤ n0) {RC : XW → Option (Int32 × XW)} (hRC : ∀  (w : XW) q, RC  w = some q → MM g (.code yX11_factor cX11_factor 4 (some .int)) yX11_factor (rmL n0 0 0) 0 0 [.ref (g.2.1 + 141)] w (oI q)) {w : XW} : VE g cX11_sums 2 RX11 (some .int) [] (rmL (n0 + 2) 0 0) 0 0 oI 0 0 0 [(0, .ref (g.2.1 + 141))] [] w (f_X11_sums RC  w) := by
  unfold f_X11_sums
  refine v_aload_n dX11_sums_0 rfl 0 rfl ?_
  refine v_callVi (As := []) cv_X11_212 (S_X11_product hl hn0 hRC) tt_141 rfl rfl rfl (Nat.le_of_ble_eq_true rfl) dX11_sums_1 (CR_rm (by omega) (by decide) (by decide) (by decide)) (fun r1 w1 => ?_)
  refine v_istore_n dX11_sums_4 rfl (Nat.le_of_ble_eq_true rfl) rfl ?_
  refine v_sub [1, 0] rfl ?_
  exact S_X11_sums_5 hl hn0 hRC  _ _ _
theorem S_X11_sums {g : GC} (hl : g.1.stackTraces = false) {n0 : Nat} (hn0 : 6 ≤ n0) {RC : XW → Option (Int32 × XW)} (hRC : ∀  (w : XW) q, RC  w = some q → MM g (.code yX11_factor cX11_factor 4 (some .int)) yX11_factor (rmL n0 0 0) 0 0 [.ref (g.2.1 + 141)] w (oI q)) {w : XW} : ∀ q, f_X11_sums RC  w = some q → MM g (.code yX11_sums cX11_sums 2 (some .int)) yX11_sums (rmL (n0 + 2) 0 0) 0 0 [.ref (g.2.1 + 141)] w (oI q) := fun q hq => MM_of (own := RX11) hl (by decide) gw_1824 rfl (Nat.le_of_ble_eq_true rfl) (W_X11_sums hl hn0 hRC q hq) ⟨rfl, rfl⟩

theorem dX11_factor_0 : decode cX11_factor 0 = .ok (.aload_n 0, 1) := by decide +kernel
theorem dX11_factor_1 : decode cX11_factor 1 = .ok (.iconst 0, 1) := by decide +kernel
theorem dX11_factor_2 : decode cX11_factor 2 = .ok (.invokevirtual 186, 3) := by decide +kernel
theorem dX11_factor_5 : decode cX11_factor 5 = .ok (.istore_n 1, 1) := by decide +kernel
theorem dX11_factor_6 : decode cX11_factor 6 = .ok (.iload_n 1, 1) := by decide +kernel
theorem dX11_factor_7 : decode cX11_factor 7 = .ok (.invokestatic 102, 3) := by decide +kernel
theorem dX11_factor_10 : decode cX11_factor 10 = .ok (.ifCond .eq 54, 3) := by decide +kernel
theorem dX11_factor_13 : decode cX11_factor 13 = .ok (.aload_n 0, 1) := by decide +kernel
theorem dX11_factor_14 : decode cX11_factor 14 = .ok (.dup, 1) := by decide +kernel
theorem dX11_factor_15 : decode cX11_factor 15 = .ok (.getfield 180, 3) := by decide +kernel
theorem dX11_factor_18 : decode cX11_factor 18 = .ok (.iconst 1, 1) := by decide +kernel
theorem dX11_factor_19 : decode cX11_factor 19 = .ok (.iadd, 1) := by decide +kernel
theorem dX11_factor_20 : decode cX11_factor 20 = .ok (.putfield 180, 3) := by decide +kernel
theorem dX11_factor_23 : decode cX11_factor 23 = .ok (.iconst 0, 1) := by decide +kernel
theorem dX11_factor_24 : decode cX11_factor 24 = .ok (.istore_n 2, 1) := by decide +kernel
theorem dX11_factor_25 : decode cX11_factor 25 = .ok (.iconst 0, 1) := by decide +kernel
theorem dX11_factor_26 : decode cX11_factor 26 = .ok (.istore_n 3, 1) := by decide +kernel
theorem dX11_factor_27 : decode cX11_factor 27 = .ok (.iload_n 3, 1) := by decide +kernel
theorem dX11_factor_28 : decode cX11_factor 28 = .ok (.aload_n 0, 1) := by decide +kernel
theorem dX11_factor_29 : decode cX11_factor 29 = .ok (.getfield 7, 3) := by decide +kernel
theorem dX11_factor_32 : decode cX11_factor 32 = .ok (.iconst 0, 1) := by decide +kernel
theorem dX11_factor_33 : decode cX11_factor 33 = .ok (.iaload, 1) := by decide +kernel
theorem dX11_factor_34 : decode cX11_factor 34 = .ok (.if_icmp .ge 28, 3) := by decide +kernel
theorem dX11_factor_37 : decode cX11_factor 37 = .ok (.iload_n 2, 1) := by decide +kernel
theorem dX11_factor_38 : decode cX11_factor 38 = .ok (.aload_n 0, 1) := by decide +kernel
theorem dX11_factor_39 : decode cX11_factor 39 = .ok (.iload_n 3, 1) := by decide +kernel
theorem dX11_factor_40 : decode cX11_factor 40 = .ok (.iload_n 1, 1) := by decide +kernel
theorem dX11_factor_41 : decode cX11_factor 41 = .ok (.invokevirtual 67, 3) := by decide +kernel
theorem dX11_factor_44 : decode cX11_factor 44 = .ok (.ifCond .eq 9, 3) := by decide +kernel
theorem dX11_factor_47 : decode cX11_factor 47 = .ok (.iconst 1, 1) := by decide +kernel
theorem dX11_factor_48 : decode cX11_factor 48 = .ok (.iload_n 3, 1) := by decide +kernel
theorem dX11_factor_49 : decode cX11_factor 49 = .ok (.ishl, 1) := by decide +kernel
theorem dX11_factor_50 : decode cX11_factor 50 = .ok (.goto 4, 3) := by decide +kernel
theorem dX11_factor_53 : decode cX11_factor 53 = .ok (.iconst 0, 1) := by decide +kernel
theorem dX11_factor_54 : decode cX11_factor 54 = .ok (.ior, 1) := by decide +kernel
theorem dX11_factor_55 : decode cX11_factor 55 = .ok (.istore_n 2, 1) := by decide +kernel
theorem dX11_factor_56 : decode cX11_factor 56 = .ok (.iinc 3 1, 3) := by decide +kernel
theorem dX11_factor_59 : decode cX11_factor 59 = .ok (.goto (-32), 3) := by decide +kernel
theorem dX11_factor_62 : decode cX11_factor 62 = .ok (.iload_n 2, 1) := by decide +kernel
theorem dX11_factor_63 : decode cX11_factor 63 = .ok (.ireturn, 1) := by decide +kernel
theorem dX11_factor_64 : decode cX11_factor 64 = .ok (.iload_n 1, 1) := by decide +kernel
theorem dX11_factor_65 : decode cX11_factor 65 = .ok (.bipush 45, 2) := by decide +kernel
theorem dX11_factor_67 : decode cX11_factor 67 = .ok (.if_icmp .ne 25, 3) := by decide +kernel
theorem dX11_factor_70 : decode cX11_factor 70 = .ok (.aload_n 0, 1) := by decide +kernel
theorem dX11_factor_71 : decode cX11_factor 71 = .ok (.dup, 1) := by decide +kernel
theorem dX11_factor_72 : decode cX11_factor 72 = .ok (.getfield 180, 3) := by decide +kernel
theorem dX11_factor_75 : decode cX11_factor 75 = .ok (.iconst 1, 1) := by decide +kernel
theorem dX11_factor_76 : decode cX11_factor 76 = .ok (.iadd, 1) := by decide +kernel
theorem dX11_factor_77 : decode cX11_factor 77 = .ok (.putfield 180, 3) := by decide +kernel
theorem dX11_factor_80 : decode cX11_factor 80 = .ok (.aload_n 0, 1) := by decide +kernel
theorem dX11_factor_81 : decode cX11_factor 81 = .ok (.invokevirtual 193, 3) := by decide +kernel
theorem dX11_factor_84 : decode cX11_factor 84 = .ok (.aload_n 0, 1) := by decide +kernel
theorem dX11_factor_85 : decode cX11_factor 85 = .ok (.invokevirtual 196, 3) := by decide +kernel
theorem dX11_factor_88 : decode cX11_factor 88 = .ok (.iconst (-1), 1) := by decide +kernel
theorem dX11_factor_89 : decode cX11_factor 89 = .ok (.ixor, 1) := by decide +kernel
theorem dX11_factor_90 : decode cX11_factor 90 = .ok (.iand, 1) := by decide +kernel
theorem dX11_factor_91 : decode cX11_factor 91 = .ok (.ireturn, 1) := by decide +kernel
theorem dX11_factor_92 : decode cX11_factor 92 = .ok (.iload_n 1, 1) := by decide +kernel
theorem dX11_factor_93 : decode cX11_factor 93 = .ok (.bipush 40, 2) := by decide +kernel
theorem dX11_factor_95 : decode cX11_factor 95 = .ok (.if_icmp .ne 11, 3) := by decide +kernel
theorem dX11_factor_98 : decode cX11_factor 98 = .ok (.aload_n 0, 1) := by decide +kernel
theorem dX11_factor_99 : decode cX11_factor 99 = .ok (.getfield 199, 3) := by decide +kernel
theorem dX11_factor_102 : decode cX11_factor 102 = .ok (.iconst 4, 1) := by decide +kernel
theorem dX11_factor_103 : decode cX11_factor 103 = .ok (.if_icmp .ne 8, 3) := by decide +kernel
theorem dX11_factor_106 : decode cX11_factor 106 = .ok (.aload_n 0, 1) := by decide +kernel
theorem dX11_factor_107 : decode cX11_factor 107 = .ok (.invokevirtual 202, 3) := by decide +kernel
theorem dX11_factor_110 : decode cX11_factor 110 = .ok (.ireturn, 1) := by decide +kernel
theorem dX11_factor_111 : decode cX11_factor 111 = .ok (.aload_n 0, 1) := by decide +kernel
theorem dX11_factor_112 : decode cX11_factor 112 = .ok (.dup, 1) := by decide +kernel
theorem dX11_factor_113 : decode cX11_factor 113 = .ok (.getfield 180, 3) := by decide +kernel
theorem dX11_factor_116 : decode cX11_factor 116 = .ok (.iconst 1, 1) := by decide +kernel
theorem dX11_factor_117 : decode cX11_factor 117 = .ok (.iadd, 1) := by decide +kernel
theorem dX11_factor_118 : decode cX11_factor 118 = .ok (.putfield 180, 3) := by decide +kernel
theorem dX11_factor_121 : decode cX11_factor 121 = .ok (.aload_n 0, 1) := by decide +kernel
theorem dX11_factor_122 : decode cX11_factor 122 = .ok (.dup, 1) := by decide +kernel
theorem dX11_factor_123 : decode cX11_factor 123 = .ok (.getfield 199, 3) := by decide +kernel
theorem dX11_factor_126 : decode cX11_factor 126 = .ok (.iconst 1, 1) := by decide +kernel
theorem dX11_factor_127 : decode cX11_factor 127 = .ok (.iadd, 1) := by decide +kernel
theorem dX11_factor_128 : decode cX11_factor 128 = .ok (.putfield 199, 3) := by decide +kernel
theorem dX11_factor_131 : decode cX11_factor 131 = .ok (.aload_n 0, 1) := by decide +kernel
theorem dX11_factor_132 : decode cX11_factor 132 = .ok (.invokevirtual 205, 3) := by decide +kernel
theorem dX11_factor_135 : decode cX11_factor 135 = .ok (.istore_n 2, 1) := by decide +kernel
theorem dX11_factor_136 : decode cX11_factor 136 = .ok (.aload_n 0, 1) := by decide +kernel
theorem dX11_factor_137 : decode cX11_factor 137 = .ok (.getfield 189, 3) := by decide +kernel
theorem dX11_factor_140 : decode cX11_factor 140 = .ok (.ifCond .ne 13, 3) := by decide +kernel
theorem dX11_factor_143 : decode cX11_factor 143 = .ok (.aload_n 0, 1) := by decide +kernel
theorem dX11_factor_144 : decode cX11_factor 144 = .ok (.iconst 0, 1) := by decide +kernel
theorem dX11_factor_145 : decode cX11_factor 145 = .ok (.invokevirtual 186, 3) := by decide +kernel
theorem dX11_factor_148 : decode cX11_factor 148 = .ok (.bipush 41, 2) := by decide +kernel
theorem dX11_factor_150 : decode cX11_factor 150 = .ok (.if_icmp .eq 8, 3) := by decide +kernel
theorem dX11_factor_153 : decode cX11_factor 153 = .ok (.aload_n 0, 1) := by decide +kernel
theorem dX11_factor_154 : decode cX11_factor 154 = .ok (.invokevirtual 202, 3) := by decide +kernel
theorem dX11_factor_157 : decode cX11_factor 157 = .ok (.ireturn, 1) := by decide +kernel
theorem dX11_factor_158 : decode cX11_factor 158 = .ok (.aload_n 0, 1) := by decide +kernel
theorem dX11_factor_159 : decode cX11_factor 159 = .ok (.dup, 1) := by decide +kernel
theorem dX11_factor_160 : decode cX11_factor 160 = .ok (.getfield 180, 3) := by decide +kernel
theorem dX11_factor_163 : decode cX11_factor 163 = .ok (.iconst 1, 1) := by decide +kernel
theorem dX11_factor_164 : decode cX11_factor 164 = .ok (.iadd, 1) := by decide +kernel
theorem dX11_factor_165 : decode cX11_factor 165 = .ok (.putfield 180, 3) := by decide +kernel
theorem dX11_factor_168 : decode cX11_factor 168 = .ok (.aload_n 0, 1) := by decide +kernel
theorem dX11_factor_169 : decode cX11_factor 169 = .ok (.dup, 1) := by decide +kernel
theorem dX11_factor_170 : decode cX11_factor 170 = .ok (.getfield 199, 3) := by decide +kernel
theorem dX11_factor_173 : decode cX11_factor 173 = .ok (.iconst 1, 1) := by decide +kernel
theorem dX11_factor_174 : decode cX11_factor 174 = .ok (.isub, 1) := by decide +kernel
theorem dX11_factor_175 : decode cX11_factor 175 = .ok (.putfield 199, 3) := by decide +kernel
theorem dX11_factor_178 : decode cX11_factor 178 = .ok (.iload_n 2, 1) := by decide +kernel
theorem dX11_factor_179 : decode cX11_factor 179 = .ok (.ireturn, 1) := by decide +kernel
def f_X11_factor_27 (RC : XW → Option (Int32 × XW)) (y1 : Int32) : Nat → Int32 → Int32 → XW → Option (Int32 × XW)
  | 0, _, _, _ => none
  | n + 1, z2, z3, w => (if (w.1 142 (Int32.toNatClampNeg 0)) ≤ z3 then (some (z2, w)) else (bI (f_X11_has z3 y1 w) (fun r11 w11 => (if r11 = 0 then (f_X11_factor_27 RC y1 n (z2 ||| 0) (z3 + 1) w11) else (f_X11_factor_27 RC y1 n (z2 ||| (1 <<< (z3 &&& 31))) (z3 + 1) w11)))))
set_option maxRecDepth 100000 in
theorem S_X11_factor_27 {g : GC} (hl : g.1.stackTraces = false) {n0 : Nat} (hn0 : 6 ≤ n0) {RC : XW → Option (Int32 × XW)} (hRC : ∀  (w : XW) q, RC  w = some q → MM g (.code yX11_factor cX11_factor 4 (some .int)) yX11_factor (rmL n0 0 0) 0 0 [.ref (g.2.1 + 141)] w (oI q)) {y1 : Int32} : ∀ (n : Nat) (z2 : Int32) (z3 : Int32) (w : XW), VE g cX11_factor 4 RX11 (some .int) [] (rmL (n0 + 3) 0 0) 0 0 oI 0 0 27 [(0, .ref (g.2.1 + 141)), (1, .int y1), (2, .int z2), (3, .int z3)] [] w (f_X11_factor_27 RC y1 n z2 z3 w) := by
  intro n
  induction n with
  | zero => intro z2 z3 w; exact v_none
  | succ n ih =>
    intro z2 z3 w
    rw [f_X11_factor_27]
    refine v_iload_n dX11_factor_27 rfl 3 rfl ?_
    refine v_aload_n dX11_factor_28 rfl 0 rfl ?_
    refine v_getR fl_X11_7 tt_141 rfl dX11_factor_29 ?_
    refine v_iconst (v := 0) dX11_factor_32 (by decide) ?_
    refine v_iald tt_142 (by decide : inB 0 66) dX11_factor_33 ?_
    refine v_icmp_ge (tgt := 62) dX11_factor_34 (by decide) ?_ ?_
    · refine v_iload_n dX11_factor_62 rfl 2 rfl ?_
      exact v_iret dX11_factor_63 rfl rfl (by decide) (by decide)
    · refine v_iload_n dX11_factor_37 rfl 2 rfl ?_
      refine v_aload_n dX11_factor_38 rfl 0 rfl ?_
      refine v_iload_n dX11_factor_39 rfl 3 rfl ?_
      refine v_iload_n dX11_factor_40 rfl 1 rfl ?_
      refine v_callVi (As := [.int z3, .int y1]) cv_X11_67 (S_X11_has hl) tt_141 rfl rfl rfl (Nat.le_of_ble_eq_true rfl) dX11_factor_41 (CR_rm (by omega) (by decide) (by decide) (by decide)) (fun r11 w11 => ?_)
      refine v_if_eq (tgt := 53) dX11_factor_44 (by decide) ?_ ?_
      · refine v_iconst (v := 0) dX11_factor_53 (by decide) ?_
        refine v_ior dX11_factor_54 ?_
        refine v_istore_n dX11_factor_55 rfl (Nat.le_of_ble_eq_true rfl) rfl ?_
        refine v_iinc (v := (z3 + 1)) dX11_factor_56 (q := 3) rfl rfl (Nat.le_of_ble_eq_true rfl) rfl ?_
        refine v_goto (tgt := 27) dX11_factor_59 (by decide) ?_
        refine v_sub [2, 3, 1, 0] rfl ?_
        exact ih _ _ _
      · refine v_iconst (v := 1) dX11_factor_47 (by decide) ?_
        refine v_iload_n dX11_factor_48 rfl 3 rfl ?_
        refine v_ishl dX11_factor_49 ?_
        refine v_goto (tgt := 54) dX11_factor_50 (by decide) ?_
        refine v_ior dX11_factor_54 ?_
        refine v_istore_n dX11_factor_55 rfl (Nat.le_of_ble_eq_true rfl) rfl ?_
        refine v_iinc (v := (z3 + 1)) dX11_factor_56 (q := 3) rfl rfl (Nat.le_of_ble_eq_true rfl) rfl ?_
        refine v_goto (tgt := 27) dX11_factor_59 (by decide) ?_
        refine v_sub [2, 3, 1, 0] rfl ?_
        exact ih _ _ _
def f_X11_factorO (RC : XW → Option (Int32 × XW)) (w : XW) : Option (Int32 × XW) := (bI (f_X11_here 0 w) (fun r1 w1 => (bI (f_X11_isTerm r1 w1) (fun r2 w2 => (if r2 = 0 then (if r1 = 45 then (bI (f_X11_every (wset w2 141 18 ((w2.1 141 18) + 1))) (fun r9 w9 => (bI (RC w9) (fun r10 w10 => (some ((r9 &&& (r10 ^^^ (-1))), w10)))))) else (if r1 = 40 then (if (w2.1 141 21) = 4 then (bI (f_X11_wrongSet w2) (fun r8 w8 => (some (r8, w8)))) else (bI (f_X11_sums RC (wset (wset w2 141 18 ((w2.1 141 18) + 1)) 141 21 (((wset w2 141 18 ((w2.1 141 18) + 1)).1 141 21) + 1))) (fun r4 w4 => (if (w4.1 141 22) = 0 then (bI (f_X11_here 0 w4) (fun r6 w6 => (if r6 = 41 then (some (r4, (wset (wset w6 141 18 ((w6.1 141 18) + 1)) 141 21 (((wset w6 141 18 ((w6.1 141 18) + 1)).1 141 21) - 1)))) else (bI (f_X11_wrongSet w6) (fun r7 w7 => (some (r7, w7))))))) else (bI (f_X11_wrongSet w4) (fun r5 w5 => (some (r5, w5)))))))) else (bI (f_X11_wrongSet w2) (fun r3 w3 => (some (r3, w3)))))) else (f_X11_factor_27 RC r1 1000 0 0 (wset w2 141 18 ((w2.1 141 18) + 1))))))))
set_option maxRecDepth 100000 in
theorem W_X11_factorO {g : GC} (hl : g.1.stackTraces = false) {n0 : Nat} (hn0 : 6 ≤ n0) {RC : XW → Option (Int32 × XW)} (hRC : ∀  (w : XW) q, RC  w = some q → MM g (.code yX11_factor cX11_factor 4 (some .int)) yX11_factor (rmL n0 0 0) 0 0 [.ref (g.2.1 + 141)] w (oI q)) {w : XW} : VE g cX11_factor 4 RX11 (some .int) [] (rmL (n0 + 3) 0 0) 0 0 oI 0 0 0 [(0, .ref (g.2.1 + 141))] [] w (f_X11_factorO RC  w) := by
  unfold f_X11_factorO
  refine v_aload_n dX11_factor_0 rfl 0 rfl ?_
  refine v_iconst (v := 0) dX11_factor_1 (by decide) ?_
  refine v_callVi (As := [.int 0]) cv_X11_186 (S_X11_here hl) tt_141 rfl rfl rfl (Nat.le_of_ble_eq_true rfl) dX11_factor_2 (CR_rm (by omega) (by decide) (by decide) (by decide)) (fun r1 w1 => ?_)
  refine v_istore_n dX11_factor_5 rfl (Nat.le_of_ble_eq_true rfl) rfl ?_
  refine v_iload_n dX11_factor_6 rfl 0 rfl ?_
  refine v_callSi (As := [.int r1]) cs_X11_102 (S_X11_isTerm hl) rfl rfl (Nat.le_of_ble_eq_true rfl) dX11_factor_7 (CR_rm (by omega) (by decide) (by decide) (by decide)) (fun r2 w2 => ?_)
  refine v_if_eq (tgt := 64) dX11_factor_10 (by decide) ?_ ?_
  · refine v_iload_n dX11_factor_64 rfl 0 rfl ?_
    refine v_bipush (v := 45) dX11_factor_65 (by decide) ?_
    refine v_icmp_ne (tgt := 92) dX11_factor_67 (by decide) ?_ ?_
    · refine v_iload_n dX11_factor_92 rfl 0 rfl ?_
      refine v_bipush (v := 40) dX11_factor_93 (by decide) ?_
      refine v_icmp_ne (tgt := 106) dX11_factor_95 (by decide) ?_ ?_
      · refine v_aload_n dX11_factor_106 rfl 1 rfl ?_
        refine v_callVi (As := []) cv_X11_202 (S_X11_wrongSet hl) tt_141 rfl rfl rfl (Nat.le_of_ble_eq_true rfl) dX11_factor_107 (CR_rm (by omega) (by decide) (by decide) (by decide)) (fun r3 w3 => ?_)
        exact v_iret dX11_factor_110 rfl rfl (by decide) (by decide)
      · refine v_aload_n dX11_factor_98 rfl 1 rfl ?_
        refine v_getI fl_X11_199 tt_141 rfl dX11_factor_99 ?_
        refine v_iconst (v := 4) dX11_factor_102 (by decide) ?_
        refine v_icmp_ne (tgt := 111) dX11_factor_103 (by decide) ?_ ?_
        · refine v_aload_n dX11_factor_111 rfl 1 rfl ?_
          refine v_dup dX11_factor_112 rfl ?_
          refine v_getI fl_X11_180 tt_141 rfl dX11_factor_113 ?_
          refine v_iconst (v := 1) dX11_factor_116 (by decide) ?_
          refine v_iadd dX11_factor_117 ?_
          refine v_putI fl_X11_180 tt_141 rfl (ty0 := .int) rfl rfl rfl dX11_factor_118 ?_
          refine v_aload_n dX11_factor_121 rfl 1 rfl ?_
          refine v_dup dX11_factor_122 rfl ?_
          refine v_getI fl_X11_199 tt_141 rfl dX11_factor_123 ?_
          refine v_iconst (v := 1) dX11_factor_126 (by decide) ?_
          refine v_iadd dX11_factor_127 ?_
          refine v_putI fl_X11_199 tt_141 rfl (ty0 := .int) rfl rfl rfl dX11_factor_128 ?_
          refine v_aload_n dX11_factor_131 rfl 1 rfl ?_
          refine v_callVi (As := []) cv_X11_205 (S_X11_sums hl hn0 hRC) tt_141 rfl rfl rfl (Nat.le_of_ble_eq_true rfl) dX11_factor_132 (CR_rm (by omega) (by decide) (by decide) (by decide)) (fun r4 w4 => ?_)
          refine v_istore_n dX11_factor_135 rfl (Nat.le_of_ble_eq_true rfl) rfl ?_
          refine v_aload_n dX11_factor_136 rfl 2 rfl ?_
          refine v_getI fl_X11_189 tt_141 rfl dX11_factor_137 ?_
          refine v_if_ne (tgt := 153) dX11_factor_140 (by decide) ?_ ?_
          · refine v_aload_n dX11_factor_153 rfl 2 rfl ?_
            refine v_callVi (As := []) cv_X11_202 (S_X11_wrongSet hl) tt_141 rfl rfl rfl (Nat.le_of_ble_eq_true rfl) dX11_factor_154 (CR_rm (by omega) (by decide) (by decide) (by decide)) (fun r5 w5 => ?_)
            exact v_iret dX11_factor_157 rfl rfl (by decide) (by decide)
          · refine v_aload_n dX11_factor_143 rfl 2 rfl ?_
            refine v_iconst (v := 0) dX11_factor_144 (by decide) ?_
            refine v_callVi (As := [.int 0]) cv_X11_186 (S_X11_here hl) tt_141 rfl rfl rfl (Nat.le_of_ble_eq_true rfl) dX11_factor_145 (CR_rm (by omega) (by decide) (by decide) (by decide)) (fun r6 w6 => ?_)
            refine v_bipush (v := 41) dX11_factor_148 (by decide) ?_
            refine v_icmp_eq (tgt := 158) dX11_factor_150 (by decide) ?_ ?_
            · refine v_aload_n dX11_factor_158 rfl 2 rfl ?_
              refine v_dup dX11_factor_159 rfl ?_
              refine v_getI fl_X11_180 tt_141 rfl dX11_factor_160 ?_
              refine v_iconst (v := 1) dX11_factor_163 (by decide) ?_
              refine v_iadd dX11_factor_164 ?_
              refine v_putI fl_X11_180 tt_141 rfl (ty0 := .int) rfl rfl rfl dX11_factor_165 ?_
              refine v_aload_n dX11_factor_168 rfl 2 rfl ?_
              refine v_dup dX11_factor_169 rfl ?_
              refine v_getI fl_X11_199 tt_141 rfl dX11_factor_170 ?_
              refine v_iconst (v := 1) dX11_factor_173 (by decide) ?_
              refine v_isub dX11_factor_174 ?_
              refine v_putI fl_X11_199 tt_141 rfl (ty0 := .int) rfl rfl rfl dX11_factor_175 ?_
              refine v_iload_n dX11_factor_178 rfl 0 rfl ?_
              exact v_iret dX11_factor_179 rfl rfl (by decide) (by decide)
            · refine v_aload_n dX11_factor_153 rfl 2 rfl ?_
              refine v_callVi (As := []) cv_X11_202 (S_X11_wrongSet hl) tt_141 rfl rfl rfl (Nat.le_of_ble_eq_true rfl) dX11_factor_154 (CR_rm (by omega) (by decide) (by decide) (by decide)) (fun r7 w7 => ?_)
              exact v_iret dX11_factor_157 rfl rfl (by decide) (by decide)
        · refine v_aload_n dX11_factor_106 rfl 1 rfl ?_
          refine v_callVi (As := []) cv_X11_202 (S_X11_wrongSet hl) tt_141 rfl rfl rfl (Nat.le_of_ble_eq_true rfl) dX11_factor_107 (CR_rm (by omega) (by decide) (by decide) (by decide)) (fun r8 w8 => ?_)
          exact v_iret dX11_factor_110 rfl rfl (by decide) (by decide)
    · refine v_aload_n dX11_factor_70 rfl 1 rfl ?_
      refine v_dup dX11_factor_71 rfl ?_
      refine v_getI fl_X11_180 tt_141 rfl dX11_factor_72 ?_
      refine v_iconst (v := 1) dX11_factor_75 (by decide) ?_
      refine v_iadd dX11_factor_76 ?_
      refine v_putI fl_X11_180 tt_141 rfl (ty0 := .int) rfl rfl rfl dX11_factor_77 ?_
      refine v_aload_n dX11_factor_80 rfl 1 rfl ?_
      refine v_callVi (As := []) cv_X11_193 (S_X11_every hl) tt_141 rfl rfl rfl (Nat.le_of_ble_eq_true rfl) dX11_factor_81 (CR_rm (by omega) (by decide) (by decide) (by decide)) (fun r9 w9 => ?_)
      refine v_aload_n dX11_factor_84 rfl 1 rfl ?_
      refine v_callVi (As := []) cv_X11_196 (hRC _) tt_141 rfl rfl rfl (Nat.le_of_ble_eq_true rfl) dX11_factor_85 (CR_rm (by omega) (by decide) (by decide) (by decide)) (fun r10 w10 => ?_)
      refine v_iconst (v := (-1)) dX11_factor_88 (by decide) ?_
      refine v_ixor dX11_factor_89 ?_
      refine v_iand dX11_factor_90 ?_
      exact v_iret dX11_factor_91 rfl rfl (by decide) (by decide)
  · refine v_aload_n dX11_factor_13 rfl 1 rfl ?_
    refine v_dup dX11_factor_14 rfl ?_
    refine v_getI fl_X11_180 tt_141 rfl dX11_factor_15 ?_
    refine v_iconst (v := 1) dX11_factor_18 (by decide) ?_
    refine v_iadd dX11_factor_19 ?_
    refine v_putI fl_X11_180 tt_141 rfl (ty0 := .int) rfl rfl rfl dX11_factor_20 ?_
    refine v_iconst (v := 0) dX11_factor_23 (by decide) ?_
    refine v_istore_n dX11_factor_24 rfl (Nat.le_of_ble_eq_true rfl) rfl ?_
    refine v_iconst (v := 0) dX11_factor_25 (by decide) ?_
    refine v_istore_n dX11_factor_26 rfl (Nat.le_of_ble_eq_true rfl) rfl ?_
    refine v_sub [3, 2, 1, 0] rfl ?_
    exact S_X11_factor_27 hl hn0 hRC  _ _ _ _
theorem S_X11_factorO {g : GC} (hl : g.1.stackTraces = false) {n0 : Nat} (hn0 : 6 ≤ n0) {RC : XW → Option (Int32 × XW)} (hRC : ∀  (w : XW) q, RC  w = some q → MM g (.code yX11_factor cX11_factor 4 (some .int)) yX11_factor (rmL n0 0 0) 0 0 [.ref (g.2.1 + 141)] w (oI q)) {w : XW} : ∀ q, f_X11_factorO RC  w = some q → MM g (.code yX11_factor cX11_factor 4 (some .int)) yX11_factor (rmL (n0 + 3) 0 0) 0 0 [.ref (g.2.1 + 141)] w (oI q) := fun q hq => MM_of (own := RX11) hl (by decide) gw_1832 rfl (Nat.le_of_ble_eq_true rfl) (W_X11_factorO hl hn0 hRC q hq) ⟨rfl, rfl⟩
def f_X11_factor : Nat → XW → Option (Int32 × XW)
  | 0, _ => none
  | n + 1, w => f_X11_factorO (f_X11_factor n)  w
theorem S_X11_factor {g : GC} (hl : g.1.stackTraces = false) : ∀ (n : Nat)  (w : XW) q, f_X11_factor n  w = some q → MM g (.code yX11_factor cX11_factor 4 (some .int)) yX11_factor (rmL (6 + 3 * n) 0 0) 0 0 [.ref (g.2.1 + 141)] w (oI q) := by
  intro n
  induction n with
  | zero => intro  w q h; cases h
  | succ n ih =>
    intro  w q h
    exact S_X11_factorO hl (n0 := 6 + 3 * n) (by omega) ih q h

theorem dX11_found_0 : decode cX11_found 0 = .ok (.aload_n 0, 1) := by decide +kernel
theorem dX11_found_1 : decode cX11_found 1 = .ok (.iconst 0, 1) := by decide +kernel
theorem dX11_found_2 : decode cX11_found 2 = .ok (.putfield 180, 3) := by decide +kernel
theorem dX11_found_5 : decode cX11_found 5 = .ok (.aload_n 0, 1) := by decide +kernel
theorem dX11_found_6 : decode cX11_found 6 = .ok (.aload_n 0, 1) := by decide +kernel
theorem dX11_found_7 : decode cX11_found 7 = .ok (.getfield 177, 3) := by decide +kernel
theorem dX11_found_10 : decode cX11_found 10 = .ok (.putfield 183, 3) := by decide +kernel
theorem dX11_found_13 : decode cX11_found 13 = .ok (.aload_n 0, 1) := by decide +kernel
theorem dX11_found_14 : decode cX11_found 14 = .ok (.iconst 0, 1) := by decide +kernel
theorem dX11_found_15 : decode cX11_found 15 = .ok (.putfield 199, 3) := by decide +kernel
theorem dX11_found_18 : decode cX11_found 18 = .ok (.aload_n 0, 1) := by decide +kernel
theorem dX11_found_19 : decode cX11_found 19 = .ok (.iconst 0, 1) := by decide +kernel
theorem dX11_found_20 : decode cX11_found 20 = .ok (.putfield 189, 3) := by decide +kernel
theorem dX11_found_23 : decode cX11_found 23 = .ok (.aload_n 0, 1) := by decide +kernel
theorem dX11_found_24 : decode cX11_found 24 = .ok (.invokevirtual 205, 3) := by decide +kernel
theorem dX11_found_27 : decode cX11_found 27 = .ok (.istore_n 1, 1) := by decide +kernel
theorem dX11_found_28 : decode cX11_found 28 = .ok (.aload_n 0, 1) := by decide +kernel
theorem dX11_found_29 : decode cX11_found 29 = .ok (.getfield 189, 3) := by decide +kernel
theorem dX11_found_32 : decode cX11_found 32 = .ok (.ifCond .ne 16, 3) := by decide +kernel
theorem dX11_found_35 : decode cX11_found 35 = .ok (.aload_n 0, 1) := by decide +kernel
theorem dX11_found_36 : decode cX11_found 36 = .ok (.getfield 180, 3) := by decide +kernel
theorem dX11_found_39 : decode cX11_found 39 = .ok (.aload_n 0, 1) := by decide +kernel
theorem dX11_found_40 : decode cX11_found 40 = .ok (.getfield 183, 3) := by decide +kernel
theorem dX11_found_43 : decode cX11_found 43 = .ok (.if_icmp .ne 5, 3) := by decide +kernel
theorem dX11_found_46 : decode cX11_found 46 = .ok (.iload_n 1, 1) := by decide +kernel
theorem dX11_found_47 : decode cX11_found 47 = .ok (.ireturn, 1) := by decide +kernel
theorem dX11_found_48 : decode cX11_found 48 = .ok (.aload_n 0, 1) := by decide +kernel
theorem dX11_found_49 : decode cX11_found 49 = .ok (.aload_n 0, 1) := by decide +kernel
theorem dX11_found_50 : decode cX11_found 50 = .ok (.getfield 180, 3) := by decide +kernel
theorem dX11_found_53 : decode cX11_found 53 = .ok (.putfield 34, 3) := by decide +kernel
theorem dX11_found_56 : decode cX11_found 56 = .ok (.iconst (-1), 1) := by decide +kernel
theorem dX11_found_57 : decode cX11_found 57 = .ok (.ireturn, 1) := by decide +kernel
def f_X11_found (w : XW) : Option (Int32 × XW) := (bI (f_X11_sums (f_X11_factor 70) (wset (wset (wset (wset w 141 18 0) 141 19 ((wset w 141 18 0).1 141 11)) 141 21 0) 141 22 0)) (fun r1 w1 => (if (w1.1 141 22) = 0 then (if (w1.1 141 18) = (w1.1 141 19) then (some (r1, w1)) else (some ((-1), (wset w1 141 13 (w1.1 141 18))))) else (some ((-1), (wset w1 141 13 (w1.1 141 18)))))))
set_option maxRecDepth 100000 in
theorem W_X11_found {g : GC} (hl : g.1.stackTraces = false) {w : XW} : VE g cX11_found 2 RX11 (some .int) [] (rmL 219 0 0) 0 0 oI 0 0 0 [(0, .ref (g.2.1 + 141))] [] w (f_X11_found  w) := by
  unfold f_X11_found
  refine v_aload_n dX11_found_0 rfl 0 rfl ?_
  refine v_iconst (v := 0) dX11_found_1 (by decide) ?_
  refine v_putI fl_X11_180 tt_141 rfl (ty0 := .int) rfl rfl rfl dX11_found_2 ?_
  refine v_aload_n dX11_found_5 rfl 0 rfl ?_
  refine v_aload_n dX11_found_6 rfl 0 rfl ?_
  refine v_getI fl_X11_177 tt_141 rfl dX11_found_7 ?_
  refine v_putI fl_X11_183 tt_141 rfl (ty0 := .int) rfl rfl rfl dX11_found_10 ?_
  refine v_aload_n dX11_found_13 rfl 0 rfl ?_
  refine v_iconst (v := 0) dX11_found_14 (by decide) ?_
  refine v_putI fl_X11_199 tt_141 rfl (ty0 := .int) rfl rfl rfl dX11_found_15 ?_
  refine v_aload_n dX11_found_18 rfl 0 rfl ?_
  refine v_iconst (v := 0) dX11_found_19 (by decide) ?_
  refine v_putI fl_X11_189 tt_141 rfl (ty0 := .boolean) rfl rfl rfl dX11_found_20 ?_
  refine v_aload_n dX11_found_23 rfl 0 rfl ?_
  refine v_callVi (As := []) cv_X11_205 (S_X11_sums hl (by decide) (S_X11_factor hl 70)) tt_141 rfl rfl rfl (Nat.le_of_ble_eq_true rfl) dX11_found_24 (CR_rm (by decide) (by decide) (by decide) (by decide)) (fun r1 w1 => ?_)
  refine v_istore_n dX11_found_27 rfl (Nat.le_of_ble_eq_true rfl) rfl ?_
  refine v_aload_n dX11_found_28 rfl 1 rfl ?_
  refine v_getI fl_X11_189 tt_141 rfl dX11_found_29 ?_
  refine v_if_ne (tgt := 48) dX11_found_32 (by decide) ?_ ?_
  · refine v_aload_n dX11_found_48 rfl 1 rfl ?_
    refine v_aload_n dX11_found_49 rfl 1 rfl ?_
    refine v_getI fl_X11_180 tt_141 rfl dX11_found_50 ?_
    refine v_putI fl_X11_34 tt_141 rfl (ty0 := .int) rfl rfl rfl dX11_found_53 ?_
    refine v_iconst (v := (-1)) dX11_found_56 (by decide) ?_
    exact v_iret dX11_found_57 rfl rfl (by decide) (by decide)
  · refine v_aload_n dX11_found_35 rfl 1 rfl ?_
    refine v_getI fl_X11_180 tt_141 rfl dX11_found_36 ?_
    refine v_aload_n dX11_found_39 rfl 1 rfl ?_
    refine v_getI fl_X11_183 tt_141 rfl dX11_found_40 ?_
    refine v_icmp_ne (tgt := 48) dX11_found_43 (by decide) ?_ ?_
    · refine v_aload_n dX11_found_48 rfl 1 rfl ?_
      refine v_aload_n dX11_found_49 rfl 1 rfl ?_
      refine v_getI fl_X11_180 tt_141 rfl dX11_found_50 ?_
      refine v_putI fl_X11_34 tt_141 rfl (ty0 := .int) rfl rfl rfl dX11_found_53 ?_
      refine v_iconst (v := (-1)) dX11_found_56 (by decide) ?_
      exact v_iret dX11_found_57 rfl rfl (by decide) (by decide)
    · refine v_iload_n dX11_found_46 rfl 0 rfl ?_
      exact v_iret dX11_found_47 rfl rfl (by decide) (by decide)
theorem S_X11_found {g : GC} (hl : g.1.stackTraces = false) {w : XW} : ∀ q, f_X11_found  w = some q → MM g (.code yX11_found cX11_found 2 (some .int)) yX11_found (rmL 219 0 0) 0 0 [.ref (g.2.1 + 141)] w (oI q) := fun q hq => MM_of (own := RX11) hl (by decide) gw_1820 rfl (Nat.le_of_ble_eq_true rfl) (W_X11_found hl q hq) ⟨rfl, rfl⟩

theorem dX11_search_0 : decode cX11_search 0 = .ok (.aload_n 0, 1) := by decide +kernel
theorem dX11_search_1 : decode cX11_search 1 = .ok (.iconst 0, 1) := by decide +kernel
theorem dX11_search_2 : decode cX11_search 2 = .ok (.putfield 38, 3) := by decide +kernel
theorem dX11_search_5 : decode cX11_search 5 = .ok (.aload_n 0, 1) := by decide +kernel
theorem dX11_search_6 : decode cX11_search 6 = .ok (.invokevirtual 215, 3) := by decide +kernel
theorem dX11_search_9 : decode cX11_search 9 = .ok (.istore_n 1, 1) := by decide +kernel
theorem dX11_search_10 : decode cX11_search 10 = .ok (.iload_n 1, 1) := by decide +kernel
theorem dX11_search_11 : decode cX11_search 11 = .ok (.iconst (-1), 1) := by decide +kernel
theorem dX11_search_12 : decode cX11_search 12 = .ok (.if_icmp .ne 9, 3) := by decide +kernel
theorem dX11_search_15 : decode cX11_search 15 = .ok (.aload_n 0, 1) := by decide +kernel
theorem dX11_search_16 : decode cX11_search 16 = .ok (.iconst 1, 1) := by decide +kernel
theorem dX11_search_17 : decode cX11_search 17 = .ok (.invokevirtual 60, 3) := by decide +kernel
theorem dX11_search_20 : decode cX11_search 20 = .ok (.ireturn, 1) := by decide +kernel
theorem dX11_search_21 : decode cX11_search 21 = .ok (.iconst 0, 1) := by decide +kernel
theorem dX11_search_22 : decode cX11_search 22 = .ok (.istore_n 2, 1) := by decide +kernel
theorem dX11_search_23 : decode cX11_search 23 = .ok (.iconst 0, 1) := by decide +kernel
theorem dX11_search_24 : decode cX11_search 24 = .ok (.istore_n 3, 1) := by decide +kernel
theorem dX11_search_25 : decode cX11_search 25 = .ok (.iload_n 3, 1) := by decide +kernel
theorem dX11_search_26 : decode cX11_search 26 = .ok (.aload_n 0, 1) := by decide +kernel
theorem dX11_search_27 : decode cX11_search 27 = .ok (.getfield 7, 3) := by decide +kernel
theorem dX11_search_30 : decode cX11_search 30 = .ok (.iconst 0, 1) := by decide +kernel
theorem dX11_search_31 : decode cX11_search 31 = .ok (.iaload, 1) := by decide +kernel
theorem dX11_search_32 : decode cX11_search 32 = .ok (.if_icmp .ge 17, 3) := by decide +kernel
theorem dX11_search_35 : decode cX11_search 35 = .ok (.iload_n 2, 1) := by decide +kernel
theorem dX11_search_36 : decode cX11_search 36 = .ok (.iload_n 1, 1) := by decide +kernel
theorem dX11_search_37 : decode cX11_search 37 = .ok (.iload_n 3, 1) := by decide +kernel
theorem dX11_search_38 : decode cX11_search 38 = .ok (.ishr, 1) := by decide +kernel
theorem dX11_search_39 : decode cX11_search 39 = .ok (.iconst 1, 1) := by decide +kernel
theorem dX11_search_40 : decode cX11_search 40 = .ok (.iand, 1) := by decide +kernel
theorem dX11_search_41 : decode cX11_search 41 = .ok (.iadd, 1) := by decide +kernel
theorem dX11_search_42 : decode cX11_search 42 = .ok (.istore_n 2, 1) := by decide +kernel
theorem dX11_search_43 : decode cX11_search 43 = .ok (.iinc 3 1, 3) := by decide +kernel
theorem dX11_search_46 : decode cX11_search 46 = .ok (.goto (-21), 3) := by decide +kernel
theorem dX11_search_49 : decode cX11_search 49 = .ok (.iload_n 2, 1) := by decide +kernel
theorem dX11_search_50 : decode cX11_search 50 = .ok (.ireturn, 1) := by decide +kernel
def f_X11_search_25 (y1 : Int32) : Nat → Int32 → Int32 → XW → Option (Int32 × XW)
  | 0, _, _, _ => none
  | n + 1, z2, z3, w => (if (w.1 142 (Int32.toNatClampNeg 0)) ≤ z3 then (some (z2, w)) else (f_X11_search_25 y1 n (z2 + ((y1 >>> (z3 &&& 31)) &&& 1)) (z3 + 1) w))
set_option maxRecDepth 100000 in
theorem S_X11_search_25 {g : GC} (hl : g.1.stackTraces = false) {y1 : Int32} : ∀ (n : Nat) (z2 : Int32) (z3 : Int32) (w : XW), VE g cX11_search 4 RX11 (some .int) [] (rmL 220 0 0) 0 0 oI 0 0 25 [(0, .ref (g.2.1 + 141)), (1, .int y1), (2, .int z2), (3, .int z3)] [] w (f_X11_search_25 y1 n z2 z3 w) := by
  intro n
  induction n with
  | zero => intro z2 z3 w; exact v_none
  | succ n ih =>
    intro z2 z3 w
    rw [f_X11_search_25]
    refine v_iload_n dX11_search_25 rfl 3 rfl ?_
    refine v_aload_n dX11_search_26 rfl 0 rfl ?_
    refine v_getR fl_X11_7 tt_141 rfl dX11_search_27 ?_
    refine v_iconst (v := 0) dX11_search_30 (by decide) ?_
    refine v_iald tt_142 (by decide : inB 0 66) dX11_search_31 ?_
    refine v_icmp_ge (tgt := 49) dX11_search_32 (by decide) ?_ ?_
    · refine v_iload_n dX11_search_49 rfl 2 rfl ?_
      exact v_iret dX11_search_50 rfl rfl (by decide) (by decide)
    · refine v_iload_n dX11_search_35 rfl 2 rfl ?_
      refine v_iload_n dX11_search_36 rfl 1 rfl ?_
      refine v_iload_n dX11_search_37 rfl 3 rfl ?_
      refine v_ishr dX11_search_38 ?_
      refine v_iconst (v := 1) dX11_search_39 (by decide) ?_
      refine v_iand dX11_search_40 ?_
      refine v_iadd dX11_search_41 ?_
      refine v_istore_n dX11_search_42 rfl (Nat.le_of_ble_eq_true rfl) rfl ?_
      refine v_iinc (v := (z3 + 1)) dX11_search_43 (q := 3) rfl rfl (Nat.le_of_ble_eq_true rfl) rfl ?_
      refine v_goto (tgt := 25) dX11_search_46 (by decide) ?_
      refine v_sub [2, 3, 1, 0] rfl ?_
      exact ih _ _ _
def f_X11_search (w : XW) : Option (Int32 × XW) := (bI (f_X11_found (wset w 141 0 0)) (fun r1 w1 => (if r1 = (-1) then (bI (f_X11_fails 1 w1) (fun r2 w2 => (some (r2, w2)))) else (f_X11_search_25 r1 1000 0 0 w1))))
set_option maxRecDepth 100000 in
theorem W_X11_search {g : GC} (hl : g.1.stackTraces = false) {w : XW} : VE g cX11_search 4 RX11 (some .int) [] (rmL 220 0 0) 0 0 oI 0 0 0 [(0, .ref (g.2.1 + 141))] [] w (f_X11_search  w) := by
  unfold f_X11_search
  refine v_aload_n dX11_search_0 rfl 0 rfl ?_
  refine v_iconst (v := 0) dX11_search_1 (by decide) ?_
  refine v_putI fl_X11_38 tt_141 rfl (ty0 := .int) rfl rfl rfl dX11_search_2 ?_
  refine v_aload_n dX11_search_5 rfl 0 rfl ?_
  refine v_callVi (As := []) cv_X11_215 (S_X11_found hl) tt_141 rfl rfl rfl (Nat.le_of_ble_eq_true rfl) dX11_search_6 (CR_rm (by decide) (by decide) (by decide) (by decide)) (fun r1 w1 => ?_)
  refine v_istore_n dX11_search_9 rfl (Nat.le_of_ble_eq_true rfl) rfl ?_
  refine v_iload_n dX11_search_10 rfl 0 rfl ?_
  refine v_iconst (v := (-1)) dX11_search_11 (by decide) ?_
  refine v_icmp_ne (tgt := 21) dX11_search_12 (by decide) ?_ ?_
  · refine v_iconst (v := 0) dX11_search_21 (by decide) ?_
    refine v_istore_n dX11_search_22 rfl (Nat.le_of_ble_eq_true rfl) rfl ?_
    refine v_iconst (v := 0) dX11_search_23 (by decide) ?_
    refine v_istore_n dX11_search_24 rfl (Nat.le_of_ble_eq_true rfl) rfl ?_
    refine v_sub [3, 2, 1, 0] rfl ?_
    exact S_X11_search_25 hl  _ _ _ _
  · refine v_aload_n dX11_search_15 rfl 1 rfl ?_
    refine v_iconst (v := 1) dX11_search_16 (by decide) ?_
    refine v_callVi (As := [.int 1]) cv_X11_60 (S_X11_fails hl) tt_141 rfl rfl rfl (Nat.le_of_ble_eq_true rfl) dX11_search_17 (CR_rm (by decide) (by decide) (by decide) (by decide)) (fun r2 w2 => ?_)
    exact v_iret dX11_search_20 rfl rfl (by decide) (by decide)
theorem S_X11_search {g : GC} (hl : g.1.stackTraces = false) {w : XW} : ∀ q, f_X11_search  w = some q → MM g (.code yX11_search cX11_search 4 (some .int)) yX11_search (rmL 220 0 0) 0 0 [.ref (g.2.1 + 141)] w (oI q) := fun q hq => MM_of (own := RX11) hl (by decide) gw_1816 rfl (Nat.le_of_ble_eq_true rfl) (W_X11_search hl q hq) ⟨rfl, rfl⟩

theorem dX11_matches_0 : decode cX11_matches 0 = .ok (.aload_n 0, 1) := by decide +kernel
theorem dX11_matches_1 : decode cX11_matches 1 = .ok (.aload_n 0, 1) := by decide +kernel
theorem dX11_matches_2 : decode cX11_matches 2 = .ok (.iload_n 1, 1) := by decide +kernel
theorem dX11_matches_3 : decode cX11_matches 3 = .ok (.invokevirtual 98, 3) := by decide +kernel
theorem dX11_matches_6 : decode cX11_matches 6 = .ok (.ifCond .eq 7, 3) := by decide +kernel
theorem dX11_matches_9 : decode cX11_matches 9 = .ok (.iconst 0, 1) := by decide +kernel
theorem dX11_matches_10 : decode cX11_matches 10 = .ok (.goto 4, 3) := by decide +kernel
theorem dX11_matches_13 : decode cX11_matches 13 = .ok (.iconst 1, 1) := by decide +kernel
theorem dX11_matches_14 : decode cX11_matches 14 = .ok (.putfield 38, 3) := by decide +kernel
theorem dX11_matches_17 : decode cX11_matches 17 = .ok (.aload_n 0, 1) := by decide +kernel
theorem dX11_matches_18 : decode cX11_matches 18 = .ok (.getfield 38, 3) := by decide +kernel
theorem dX11_matches_21 : decode cX11_matches 21 = .ok (.ifCond .le 5, 3) := by decide +kernel
theorem dX11_matches_24 : decode cX11_matches 24 = .ok (.iconst 0, 1) := by decide +kernel
theorem dX11_matches_25 : decode cX11_matches 25 = .ok (.ireturn, 1) := by decide +kernel
theorem dX11_matches_26 : decode cX11_matches 26 = .ok (.aload_n 0, 1) := by decide +kernel
theorem dX11_matches_27 : decode cX11_matches 27 = .ok (.invokevirtual 215, 3) := by decide +kernel
theorem dX11_matches_30 : decode cX11_matches 30 = .ok (.istore_n 2, 1) := by decide +kernel
theorem dX11_matches_31 : decode cX11_matches 31 = .ok (.aload_n 0, 1) := by decide +kernel
theorem dX11_matches_32 : decode cX11_matches 32 = .ok (.iload_n 2, 1) := by decide +kernel
theorem dX11_matches_33 : decode cX11_matches 33 = .ok (.iconst (-1), 1) := by decide +kernel
theorem dX11_matches_34 : decode cX11_matches 34 = .ok (.if_icmp .ne 7, 3) := by decide +kernel
theorem dX11_matches_37 : decode cX11_matches 37 = .ok (.iconst 2, 1) := by decide +kernel
theorem dX11_matches_38 : decode cX11_matches 38 = .ok (.goto 4, 3) := by decide +kernel
theorem dX11_matches_41 : decode cX11_matches 41 = .ok (.iconst 0, 1) := by decide +kernel
theorem dX11_matches_42 : decode cX11_matches 42 = .ok (.putfield 38, 3) := by decide +kernel
theorem dX11_matches_45 : decode cX11_matches 45 = .ok (.aload_n 0, 1) := by decide +kernel
theorem dX11_matches_46 : decode cX11_matches 46 = .ok (.getfield 38, 3) := by decide +kernel
theorem dX11_matches_49 : decode cX11_matches 49 = .ok (.ifCond .ne 16, 3) := by decide +kernel
theorem dX11_matches_52 : decode cX11_matches 52 = .ok (.iload_n 2, 1) := by decide +kernel
theorem dX11_matches_53 : decode cX11_matches 53 = .ok (.iload_n 1, 1) := by decide +kernel
theorem dX11_matches_54 : decode cX11_matches 54 = .ok (.ishr, 1) := by decide +kernel
theorem dX11_matches_55 : decode cX11_matches 55 = .ok (.iconst 1, 1) := by decide +kernel
theorem dX11_matches_56 : decode cX11_matches 56 = .ok (.iand, 1) := by decide +kernel
theorem dX11_matches_57 : decode cX11_matches 57 = .ok (.iconst 1, 1) := by decide +kernel
theorem dX11_matches_58 : decode cX11_matches 58 = .ok (.if_icmp .ne 7, 3) := by decide +kernel
theorem dX11_matches_61 : decode cX11_matches 61 = .ok (.iconst 1, 1) := by decide +kernel
theorem dX11_matches_62 : decode cX11_matches 62 = .ok (.goto 4, 3) := by decide +kernel
theorem dX11_matches_65 : decode cX11_matches 65 = .ok (.iconst 0, 1) := by decide +kernel
theorem dX11_matches_66 : decode cX11_matches 66 = .ok (.ireturn, 1) := by decide +kernel
def f_X11_matches (x1 : Int32) (w : XW) : Option (Int32 × XW) := (bI (f_X11_isSection x1 w) (fun r1 w1 => (if r1 = 0 then (if ((wset w1 141 0 1).1 141 0) ≤ 0 then (bI (f_X11_found (wset w1 141 0 1)) (fun r2 w2 => (if r2 = (-1) then (if ((wset w2 141 0 2).1 141 0) = 0 then (if ((r2 >>> (x1 &&& 31)) &&& 1) = 1 then (some (1, (wset w2 141 0 2))) else (some (0, (wset w2 141 0 2)))) else (some (0, (wset w2 141 0 2)))) else (if ((wset w2 141 0 0).1 141 0) = 0 then (if ((r2 >>> (x1 &&& 31)) &&& 1) = 1 then (some (1, (wset w2 141 0 0))) else (some (0, (wset w2 141 0 0)))) else (some (0, (wset w2 141 0 0))))))) else (some (0, (wset w1 141 0 1)))) else (if ((wset w1 141 0 0).1 141 0) ≤ 0 then (bI (f_X11_found (wset w1 141 0 0)) (fun r3 w3 => (if r3 = (-1) then (if ((wset w3 141 0 2).1 141 0) = 0 then (if ((r3 >>> (x1 &&& 31)) &&& 1) = 1 then (some (1, (wset w3 141 0 2))) else (some (0, (wset w3 141 0 2)))) else (some (0, (wset w3 141 0 2)))) else (if ((wset w3 141 0 0).1 141 0) = 0 then (if ((r3 >>> (x1 &&& 31)) &&& 1) = 1 then (some (1, (wset w3 141 0 0))) else (some (0, (wset w3 141 0 0)))) else (some (0, (wset w3 141 0 0))))))) else (some (0, (wset w1 141 0 0)))))))
set_option maxRecDepth 100000 in
theorem W_X11_matches {g : GC} (hl : g.1.stackTraces = false) {x1 : Int32} {w : XW} : VE g cX11_matches 3 RX11 (some .boolean) [] (rmL 220 0 0) 0 0 oI 0 0 0 [(0, .ref (g.2.1 + 141)), (1, .int x1)] [] w (f_X11_matches x1 w) := by
  unfold f_X11_matches
  refine v_aload_n dX11_matches_0 rfl 0 rfl ?_
  refine v_aload_n dX11_matches_1 rfl 0 rfl ?_
  refine v_iload_n dX11_matches_2 rfl 1 rfl ?_
  refine v_callVi (As := [.int x1]) cv_X11_98 (S_X11_isSection hl) tt_141 rfl rfl rfl (Nat.le_of_ble_eq_true rfl) dX11_matches_3 (CR_rm (by decide) (by decide) (by decide) (by decide)) (fun r1 w1 => ?_)
  refine v_if_eq (tgt := 13) dX11_matches_6 (by decide) ?_ ?_
  · refine v_iconst (v := 1) dX11_matches_13 (by decide) ?_
    refine v_putI fl_X11_38 tt_141 rfl (ty0 := .int) rfl rfl rfl dX11_matches_14 ?_
    refine v_aload_n dX11_matches_17 rfl 0 rfl ?_
    refine v_getI fl_X11_38 tt_141 rfl dX11_matches_18 ?_
    refine v_if_le (tgt := 26) dX11_matches_21 (by decide) ?_ ?_
    · refine v_aload_n dX11_matches_26 rfl 0 rfl ?_
      refine v_callVi (As := []) cv_X11_215 (S_X11_found hl) tt_141 rfl rfl rfl (Nat.le_of_ble_eq_true rfl) dX11_matches_27 (CR_rm (by decide) (by decide) (by decide) (by decide)) (fun r2 w2 => ?_)
      refine v_istore_n dX11_matches_30 rfl (Nat.le_of_ble_eq_true rfl) rfl ?_
      refine v_aload_n dX11_matches_31 rfl 1 rfl ?_
      refine v_iload_n dX11_matches_32 rfl 0 rfl ?_
      refine v_iconst (v := (-1)) dX11_matches_33 (by decide) ?_
      refine v_icmp_ne (tgt := 41) dX11_matches_34 (by decide) ?_ ?_
      · refine v_iconst (v := 0) dX11_matches_41 (by decide) ?_
        refine v_putI fl_X11_38 tt_141 rfl (ty0 := .int) rfl rfl rfl dX11_matches_42 ?_
        refine v_aload_n dX11_matches_45 rfl 1 rfl ?_
        refine v_getI fl_X11_38 tt_141 rfl dX11_matches_46 ?_
        refine v_if_ne (tgt := 65) dX11_matches_49 (by decide) ?_ ?_
        · refine v_iconst (v := 0) dX11_matches_65 (by decide) ?_
          exact v_zret dX11_matches_66 rfl rfl rfl (by decide) (by decide)
        · refine v_iload_n dX11_matches_52 rfl 0 rfl ?_
          refine v_iload_n dX11_matches_53 rfl 2 rfl ?_
          refine v_ishr dX11_matches_54 ?_
          refine v_iconst (v := 1) dX11_matches_55 (by decide) ?_
          refine v_iand dX11_matches_56 ?_
          refine v_iconst (v := 1) dX11_matches_57 (by decide) ?_
          refine v_icmp_ne (tgt := 65) dX11_matches_58 (by decide) ?_ ?_
          · refine v_iconst (v := 0) dX11_matches_65 (by decide) ?_
            exact v_zret dX11_matches_66 rfl rfl rfl (by decide) (by decide)
          · refine v_iconst (v := 1) dX11_matches_61 (by decide) ?_
            refine v_goto (tgt := 66) dX11_matches_62 (by decide) ?_
            exact v_zret dX11_matches_66 rfl rfl rfl (by decide) (by decide)
      · refine v_iconst (v := 2) dX11_matches_37 (by decide) ?_
        refine v_goto (tgt := 42) dX11_matches_38 (by decide) ?_
        refine v_putI fl_X11_38 tt_141 rfl (ty0 := .int) rfl rfl rfl dX11_matches_42 ?_
        refine v_aload_n dX11_matches_45 rfl 1 rfl ?_
        refine v_getI fl_X11_38 tt_141 rfl dX11_matches_46 ?_
        refine v_if_ne (tgt := 65) dX11_matches_49 (by decide) ?_ ?_
        · refine v_iconst (v := 0) dX11_matches_65 (by decide) ?_
          exact v_zret dX11_matches_66 rfl rfl rfl (by decide) (by decide)
        · refine v_iload_n dX11_matches_52 rfl 0 rfl ?_
          refine v_iload_n dX11_matches_53 rfl 2 rfl ?_
          refine v_ishr dX11_matches_54 ?_
          refine v_iconst (v := 1) dX11_matches_55 (by decide) ?_
          refine v_iand dX11_matches_56 ?_
          refine v_iconst (v := 1) dX11_matches_57 (by decide) ?_
          refine v_icmp_ne (tgt := 65) dX11_matches_58 (by decide) ?_ ?_
          · refine v_iconst (v := 0) dX11_matches_65 (by decide) ?_
            exact v_zret dX11_matches_66 rfl rfl rfl (by decide) (by decide)
          · refine v_iconst (v := 1) dX11_matches_61 (by decide) ?_
            refine v_goto (tgt := 66) dX11_matches_62 (by decide) ?_
            exact v_zret dX11_matches_66 rfl rfl rfl (by decide) (by decide)
    · refine v_iconst (v := 0) dX11_matches_24 (by decide) ?_
      exact v_zret dX11_matches_25 rfl rfl rfl (by decide) (by decide)
  · refine v_iconst (v := 0) dX11_matches_9 (by decide) ?_
    refine v_goto (tgt := 14) dX11_matches_10 (by decide) ?_
    refine v_putI fl_X11_38 tt_141 rfl (ty0 := .int) rfl rfl rfl dX11_matches_14 ?_
    refine v_aload_n dX11_matches_17 rfl 0 rfl ?_
    refine v_getI fl_X11_38 tt_141 rfl dX11_matches_18 ?_
    refine v_if_le (tgt := 26) dX11_matches_21 (by decide) ?_ ?_
    · refine v_aload_n dX11_matches_26 rfl 0 rfl ?_
      refine v_callVi (As := []) cv_X11_215 (S_X11_found hl) tt_141 rfl rfl rfl (Nat.le_of_ble_eq_true rfl) dX11_matches_27 (CR_rm (by decide) (by decide) (by decide) (by decide)) (fun r3 w3 => ?_)
      refine v_istore_n dX11_matches_30 rfl (Nat.le_of_ble_eq_true rfl) rfl ?_
      refine v_aload_n dX11_matches_31 rfl 1 rfl ?_
      refine v_iload_n dX11_matches_32 rfl 0 rfl ?_
      refine v_iconst (v := (-1)) dX11_matches_33 (by decide) ?_
      refine v_icmp_ne (tgt := 41) dX11_matches_34 (by decide) ?_ ?_
      · refine v_iconst (v := 0) dX11_matches_41 (by decide) ?_
        refine v_putI fl_X11_38 tt_141 rfl (ty0 := .int) rfl rfl rfl dX11_matches_42 ?_
        refine v_aload_n dX11_matches_45 rfl 1 rfl ?_
        refine v_getI fl_X11_38 tt_141 rfl dX11_matches_46 ?_
        refine v_if_ne (tgt := 65) dX11_matches_49 (by decide) ?_ ?_
        · refine v_iconst (v := 0) dX11_matches_65 (by decide) ?_
          exact v_zret dX11_matches_66 rfl rfl rfl (by decide) (by decide)
        · refine v_iload_n dX11_matches_52 rfl 0 rfl ?_
          refine v_iload_n dX11_matches_53 rfl 2 rfl ?_
          refine v_ishr dX11_matches_54 ?_
          refine v_iconst (v := 1) dX11_matches_55 (by decide) ?_
          refine v_iand dX11_matches_56 ?_
          refine v_iconst (v := 1) dX11_matches_57 (by decide) ?_
          refine v_icmp_ne (tgt := 65) dX11_matches_58 (by decide) ?_ ?_
          · refine v_iconst (v := 0) dX11_matches_65 (by decide) ?_
            exact v_zret dX11_matches_66 rfl rfl rfl (by decide) (by decide)
          · refine v_iconst (v := 1) dX11_matches_61 (by decide) ?_
            refine v_goto (tgt := 66) dX11_matches_62 (by decide) ?_
            exact v_zret dX11_matches_66 rfl rfl rfl (by decide) (by decide)
      · refine v_iconst (v := 2) dX11_matches_37 (by decide) ?_
        refine v_goto (tgt := 42) dX11_matches_38 (by decide) ?_
        refine v_putI fl_X11_38 tt_141 rfl (ty0 := .int) rfl rfl rfl dX11_matches_42 ?_
        refine v_aload_n dX11_matches_45 rfl 1 rfl ?_
        refine v_getI fl_X11_38 tt_141 rfl dX11_matches_46 ?_
        refine v_if_ne (tgt := 65) dX11_matches_49 (by decide) ?_ ?_
        · refine v_iconst (v := 0) dX11_matches_65 (by decide) ?_
          exact v_zret dX11_matches_66 rfl rfl rfl (by decide) (by decide)
        · refine v_iload_n dX11_matches_52 rfl 0 rfl ?_
          refine v_iload_n dX11_matches_53 rfl 2 rfl ?_
          refine v_ishr dX11_matches_54 ?_
          refine v_iconst (v := 1) dX11_matches_55 (by decide) ?_
          refine v_iand dX11_matches_56 ?_
          refine v_iconst (v := 1) dX11_matches_57 (by decide) ?_
          refine v_icmp_ne (tgt := 65) dX11_matches_58 (by decide) ?_ ?_
          · refine v_iconst (v := 0) dX11_matches_65 (by decide) ?_
            exact v_zret dX11_matches_66 rfl rfl rfl (by decide) (by decide)
          · refine v_iconst (v := 1) dX11_matches_61 (by decide) ?_
            refine v_goto (tgt := 66) dX11_matches_62 (by decide) ?_
            exact v_zret dX11_matches_66 rfl rfl rfl (by decide) (by decide)
    · refine v_iconst (v := 0) dX11_matches_24 (by decide) ?_
      exact v_zret dX11_matches_25 rfl rfl rfl (by decide) (by decide)
theorem S_X11_matches {g : GC} (hl : g.1.stackTraces = false) {x1 : Int32} {w : XW} : ∀ q, f_X11_matches x1 w = some q → MM g (.code yX11_matches cX11_matches 3 (some .boolean)) yX11_matches (rmL 220 0 0) 0 0 [.ref (g.2.1 + 141), .int x1] w (oI q) := fun q hq => MM_of (own := RX11) hl (by decide) gw_1852 rfl (Nat.le_of_ble_eq_true rfl) (W_X11_matches hl q hq) ⟨rfl, rfl⟩

theorem dX11_says_0 : decode cX11_says 0 = .ok (.iconst 0, 1) := by decide +kernel
theorem dX11_says_1 : decode cX11_says 1 = .ok (.istore_n 2, 1) := by decide +kernel
theorem dX11_says_2 : decode cX11_says 2 = .ok (.iload_n 2, 1) := by decide +kernel
theorem dX11_says_3 : decode cX11_says 3 = .ok (.aload_n 1, 1) := by decide +kernel
theorem dX11_says_4 : decode cX11_says 4 = .ok (.invokevirtual 218, 3) := by decide +kernel
theorem dX11_says_7 : decode cX11_says 7 = .ok (.if_icmp .ge 59, 3) := by decide +kernel
theorem dX11_says_10 : decode cX11_says 10 = .ok (.aload_n 0, 1) := by decide +kernel
theorem dX11_says_11 : decode cX11_says 11 = .ok (.getfield 189, 3) := by decide +kernel
theorem dX11_says_14 : decode cX11_says 14 = .ok (.ifCond .ne 52, 3) := by decide +kernel
theorem dX11_says_17 : decode cX11_says 17 = .ok (.aload_n 0, 1) := by decide +kernel
theorem dX11_says_18 : decode cX11_says 18 = .ok (.aload_n 0, 1) := by decide +kernel
theorem dX11_says_19 : decode cX11_says 19 = .ok (.iconst 0, 1) := by decide +kernel
theorem dX11_says_20 : decode cX11_says 20 = .ok (.invokevirtual 186, 3) := by decide +kernel
theorem dX11_says_23 : decode cX11_says 23 = .ok (.aload_n 1, 1) := by decide +kernel
theorem dX11_says_24 : decode cX11_says 24 = .ok (.iload_n 2, 1) := by decide +kernel
theorem dX11_says_25 : decode cX11_says 25 = .ok (.invokevirtual 223, 3) := by decide +kernel
theorem dX11_says_28 : decode cX11_says 28 = .ok (.if_icmp .eq 7, 3) := by decide +kernel
theorem dX11_says_31 : decode cX11_says 31 = .ok (.iconst 1, 1) := by decide +kernel
theorem dX11_says_32 : decode cX11_says 32 = .ok (.goto 4, 3) := by decide +kernel
theorem dX11_says_35 : decode cX11_says 35 = .ok (.iconst 0, 1) := by decide +kernel
theorem dX11_says_36 : decode cX11_says 36 = .ok (.putfield 189, 3) := by decide +kernel
theorem dX11_says_39 : decode cX11_says 39 = .ok (.aload_n 0, 1) := by decide +kernel
theorem dX11_says_40 : decode cX11_says 40 = .ok (.dup, 1) := by decide +kernel
theorem dX11_says_41 : decode cX11_says 41 = .ok (.getfield 180, 3) := by decide +kernel
theorem dX11_says_44 : decode cX11_says 44 = .ok (.aload_n 0, 1) := by decide +kernel
theorem dX11_says_45 : decode cX11_says 45 = .ok (.getfield 189, 3) := by decide +kernel
theorem dX11_says_48 : decode cX11_says 48 = .ok (.ifCond .eq 7, 3) := by decide +kernel
theorem dX11_says_51 : decode cX11_says 51 = .ok (.iconst 0, 1) := by decide +kernel
theorem dX11_says_52 : decode cX11_says 52 = .ok (.goto 4, 3) := by decide +kernel
theorem dX11_says_55 : decode cX11_says 55 = .ok (.iconst 1, 1) := by decide +kernel
theorem dX11_says_56 : decode cX11_says 56 = .ok (.iadd, 1) := by decide +kernel
theorem dX11_says_57 : decode cX11_says 57 = .ok (.putfield 180, 3) := by decide +kernel
theorem dX11_says_60 : decode cX11_says 60 = .ok (.iinc 2 1, 3) := by decide +kernel
theorem dX11_says_63 : decode cX11_says 63 = .ok (.goto (-61), 3) := by decide +kernel
theorem dX11_says_66 : decode cX11_says 66 = .ok (.return_, 1) := by decide +kernel
def f_X11_says_2 (s1 : Nat) : Nat → Int32 → XW → Option (XW)
  | 0, _, _ => none
  | n + 1, z2, w => (bI (f_strlen s1 w) (fun r1 w1 => (if r1 ≤ z2 then (some w1) else (if (w1.1 141 22) = 0 then (bI (f_X11_here 0 w1) (fun r2 w2 => (bI (f_charAt s1 z2 w2) (fun r3 w3 => (if r2 = r3 then (if ((wset w3 141 22 0).1 141 22) = 0 then (f_X11_says_2 s1 n (z2 + 1) (wset (wset w3 141 22 0) 141 18 (((wset w3 141 22 0).1 141 18) + 1))) else (f_X11_says_2 s1 n (z2 + 1) (wset (wset w3 141 22 0) 141 18 (((wset w3 141 22 0).1 141 18) + 0)))) else (if ((wset w3 141 22 1).1 141 22) = 0 then (f_X11_says_2 s1 n (z2 + 1) (wset (wset w3 141 22 1) 141 18 (((wset w3 141 22 1).1 141 18) + 1))) else (f_X11_says_2 s1 n (z2 + 1) (wset (wset w3 141 22 1) 141 18 (((wset w3 141 22 1).1 141 18) + 0))))))))) else (some w1)))))
set_option maxRecDepth 100000 in
theorem S_X11_says_2 {g : GC} (hl : g.1.stackTraces = false) {s1 : Nat} : ∀ (n : Nat) (z2 : Int32) (w : XW), VE g cX11_says 3 RX11 none [] (rmL 5 0 0) 0 0 oV 0 0 2 [(0, .ref (g.2.1 + 141)), (1, .ref (g.2.2.2.2.1 s1)), (2, .int z2)] [] w (f_X11_says_2 s1 n z2 w) := by
  intro n
  induction n with
  | zero => intro z2 w; exact v_none
  | succ n ih =>
    intro z2 w
    rw [f_X11_says_2]
    refine v_iload_n dX11_says_2 rfl 2 rfl ?_
    refine v_aload_n dX11_says_3 rfl 1 rfl ?_
    refine v_call_length hl cv_X11_218 rfl (Nat.le_of_ble_eq_true rfl) dX11_says_4 (CR_rm (by decide) (by decide) (by decide) (by decide)) (fun r1 w1 => ?_)
    refine v_icmp_ge (tgt := 66) dX11_says_7 (by decide) ?_ ?_
    · exact v_vret dX11_says_66 rfl rfl (by decide) (by decide)
    · refine v_aload_n dX11_says_10 rfl 0 rfl ?_
      refine v_getI fl_X11_189 tt_141 rfl dX11_says_11 ?_
      refine v_if_ne (tgt := 66) dX11_says_14 (by decide) ?_ ?_
      · exact v_vret dX11_says_66 rfl rfl (by decide) (by decide)
      · refine v_aload_n dX11_says_17 rfl 0 rfl ?_
        refine v_aload_n dX11_says_18 rfl 0 rfl ?_
        refine v_iconst (v := 0) dX11_says_19 (by decide) ?_
        refine v_callVi (As := [.int 0]) cv_X11_186 (S_X11_here hl) tt_141 rfl rfl rfl (Nat.le_of_ble_eq_true rfl) dX11_says_20 (CR_rm (by decide) (by decide) (by decide) (by decide)) (fun r2 w2 => ?_)
        refine v_aload_n dX11_says_23 rfl 1 rfl ?_
        refine v_iload_n dX11_says_24 rfl 2 rfl ?_
        refine v_call_charAt hl cv_X11_223 rfl (Nat.le_of_ble_eq_true rfl) dX11_says_25 (CR_rm (by decide) (by decide) (by decide) (by decide)) (fun r3 w3 => ?_)
        refine v_icmp_eq (tgt := 35) dX11_says_28 (by decide) ?_ ?_
        · refine v_iconst (v := 0) dX11_says_35 (by decide) ?_
          refine v_putI fl_X11_189 tt_141 rfl (ty0 := .boolean) rfl rfl rfl dX11_says_36 ?_
          refine v_aload_n dX11_says_39 rfl 0 rfl ?_
          refine v_dup dX11_says_40 rfl ?_
          refine v_getI fl_X11_180 tt_141 rfl dX11_says_41 ?_
          refine v_aload_n dX11_says_44 rfl 0 rfl ?_
          refine v_getI fl_X11_189 tt_141 rfl dX11_says_45 ?_
          refine v_if_eq (tgt := 55) dX11_says_48 (by decide) ?_ ?_
          · refine v_iconst (v := 1) dX11_says_55 (by decide) ?_
            refine v_iadd dX11_says_56 ?_
            refine v_putI fl_X11_180 tt_141 rfl (ty0 := .int) rfl rfl rfl dX11_says_57 ?_
            refine v_iinc (v := (z2 + 1)) dX11_says_60 (q := 2) rfl rfl (Nat.le_of_ble_eq_true rfl) rfl ?_
            refine v_goto (tgt := 2) dX11_says_63 (by decide) ?_
            refine v_sub [1, 2, 0] rfl ?_
            exact ih _ _
          · refine v_iconst (v := 0) dX11_says_51 (by decide) ?_
            refine v_goto (tgt := 56) dX11_says_52 (by decide) ?_
            refine v_iadd dX11_says_56 ?_
            refine v_putI fl_X11_180 tt_141 rfl (ty0 := .int) rfl rfl rfl dX11_says_57 ?_
            refine v_iinc (v := (z2 + 1)) dX11_says_60 (q := 2) rfl rfl (Nat.le_of_ble_eq_true rfl) rfl ?_
            refine v_goto (tgt := 2) dX11_says_63 (by decide) ?_
            refine v_sub [1, 2, 0] rfl ?_
            exact ih _ _
        · refine v_iconst (v := 1) dX11_says_31 (by decide) ?_
          refine v_goto (tgt := 36) dX11_says_32 (by decide) ?_
          refine v_putI fl_X11_189 tt_141 rfl (ty0 := .boolean) rfl rfl rfl dX11_says_36 ?_
          refine v_aload_n dX11_says_39 rfl 0 rfl ?_
          refine v_dup dX11_says_40 rfl ?_
          refine v_getI fl_X11_180 tt_141 rfl dX11_says_41 ?_
          refine v_aload_n dX11_says_44 rfl 0 rfl ?_
          refine v_getI fl_X11_189 tt_141 rfl dX11_says_45 ?_
          refine v_if_eq (tgt := 55) dX11_says_48 (by decide) ?_ ?_
          · refine v_iconst (v := 1) dX11_says_55 (by decide) ?_
            refine v_iadd dX11_says_56 ?_
            refine v_putI fl_X11_180 tt_141 rfl (ty0 := .int) rfl rfl rfl dX11_says_57 ?_
            refine v_iinc (v := (z2 + 1)) dX11_says_60 (q := 2) rfl rfl (Nat.le_of_ble_eq_true rfl) rfl ?_
            refine v_goto (tgt := 2) dX11_says_63 (by decide) ?_
            refine v_sub [1, 2, 0] rfl ?_
            exact ih _ _
          · refine v_iconst (v := 0) dX11_says_51 (by decide) ?_
            refine v_goto (tgt := 56) dX11_says_52 (by decide) ?_
            refine v_iadd dX11_says_56 ?_
            refine v_putI fl_X11_180 tt_141 rfl (ty0 := .int) rfl rfl rfl dX11_says_57 ?_
            refine v_iinc (v := (z2 + 1)) dX11_says_60 (q := 2) rfl rfl (Nat.le_of_ble_eq_true rfl) rfl ?_
            refine v_goto (tgt := 2) dX11_says_63 (by decide) ?_
            refine v_sub [1, 2, 0] rfl ?_
            exact ih _ _
def f_X11_says (s1 : Nat) (w : XW) : Option (XW) := (f_X11_says_2 s1 1000 0 w)
set_option maxRecDepth 100000 in
theorem W_X11_says {g : GC} (hl : g.1.stackTraces = false) {s1 : Nat} {w : XW} : VE g cX11_says 3 RX11 none [] (rmL 5 0 0) 0 0 oV 0 0 0 [(0, .ref (g.2.1 + 141)), (1, .ref (g.2.2.2.2.1 s1))] [] w (f_X11_says s1 w) := by
  unfold f_X11_says
  refine v_iconst (v := 0) dX11_says_0 (by decide) ?_
  refine v_istore_n dX11_says_1 rfl (Nat.le_of_ble_eq_true rfl) rfl ?_
  refine v_sub [1, 2, 0] rfl ?_
  exact S_X11_says_2 hl  _ _ _
theorem S_X11_says {g : GC} (hl : g.1.stackTraces = false) {s1 : Nat} {w : XW} : ∀ q, f_X11_says s1 w = some q → MM g (.code yX11_says cX11_says 3 none) yX11_says (rmL 5 0 0) 0 0 [.ref (g.2.1 + 141), .ref (g.2.2.2.2.1 s1)] w (oV q) := fun q hq => MM_of (own := RX11) hl (by decide) gw_1865 rfl (Nat.le_of_ble_eq_true rfl) (W_X11_says hl q hq) ⟨rfl, rfl⟩

theorem dX11_number_0 : decode cX11_number 0 = .ok (.aload_n 0, 1) := by decide +kernel
theorem dX11_number_1 : decode cX11_number 1 = .ok (.aload_n 1, 1) := by decide +kernel
theorem dX11_number_2 : decode cX11_number 2 = .ok (.invokevirtual 227, 3) := by decide +kernel
theorem dX11_number_5 : decode cX11_number 5 = .ok (.iconst 0, 1) := by decide +kernel
theorem dX11_number_6 : decode cX11_number 6 = .ok (.istore 4, 2) := by decide +kernel
theorem dX11_number_8 : decode cX11_number 8 = .ok (.iconst 0, 1) := by decide +kernel
theorem dX11_number_9 : decode cX11_number 9 = .ok (.istore 5, 2) := by decide +kernel
theorem dX11_number_11 : decode cX11_number 11 = .ok (.aload_n 0, 1) := by decide +kernel
theorem dX11_number_12 : decode cX11_number 12 = .ok (.getfield 189, 3) := by decide +kernel
theorem dX11_number_15 : decode cX11_number 15 = .ok (.ifCond .ne 56, 3) := by decide +kernel
theorem dX11_number_18 : decode cX11_number 18 = .ok (.iload 5, 2) := by decide +kernel
theorem dX11_number_20 : decode cX11_number 20 = .ok (.iload_n 3, 1) := by decide +kernel
theorem dX11_number_21 : decode cX11_number 21 = .ok (.if_icmp .ge 50, 3) := by decide +kernel
theorem dX11_number_24 : decode cX11_number 24 = .ok (.aload_n 0, 1) := by decide +kernel
theorem dX11_number_25 : decode cX11_number 25 = .ok (.iconst 0, 1) := by decide +kernel
theorem dX11_number_26 : decode cX11_number 26 = .ok (.invokevirtual 186, 3) := by decide +kernel
theorem dX11_number_29 : decode cX11_number 29 = .ok (.bipush 48, 2) := by decide +kernel
theorem dX11_number_31 : decode cX11_number 31 = .ok (.bipush 57, 2) := by decide +kernel
theorem dX11_number_33 : decode cX11_number 33 = .ok (.invokestatic 63, 3) := by decide +kernel
theorem dX11_number_36 : decode cX11_number 36 = .ok (.ifCond .eq 35, 3) := by decide +kernel
theorem dX11_number_39 : decode cX11_number 39 = .ok (.bipush 10, 2) := by decide +kernel
theorem dX11_number_41 : decode cX11_number 41 = .ok (.iload 4, 2) := by decide +kernel
theorem dX11_number_43 : decode cX11_number 43 = .ok (.imul, 1) := by decide +kernel
theorem dX11_number_44 : decode cX11_number 44 = .ok (.aload_n 0, 1) := by decide +kernel
theorem dX11_number_45 : decode cX11_number 45 = .ok (.iconst 0, 1) := by decide +kernel
theorem dX11_number_46 : decode cX11_number 46 = .ok (.invokevirtual 186, 3) := by decide +kernel
theorem dX11_number_49 : decode cX11_number 49 = .ok (.iadd, 1) := by decide +kernel
theorem dX11_number_50 : decode cX11_number 50 = .ok (.bipush 48, 2) := by decide +kernel
theorem dX11_number_52 : decode cX11_number 52 = .ok (.isub, 1) := by decide +kernel
theorem dX11_number_53 : decode cX11_number 53 = .ok (.istore 4, 2) := by decide +kernel
theorem dX11_number_55 : decode cX11_number 55 = .ok (.aload_n 0, 1) := by decide +kernel
theorem dX11_number_56 : decode cX11_number 56 = .ok (.dup, 1) := by decide +kernel
theorem dX11_number_57 : decode cX11_number 57 = .ok (.getfield 180, 3) := by decide +kernel
theorem dX11_number_60 : decode cX11_number 60 = .ok (.iconst 1, 1) := by decide +kernel
theorem dX11_number_61 : decode cX11_number 61 = .ok (.iadd, 1) := by decide +kernel
theorem dX11_number_62 : decode cX11_number 62 = .ok (.putfield 180, 3) := by decide +kernel
theorem dX11_number_65 : decode cX11_number 65 = .ok (.iinc 5 1, 3) := by decide +kernel
theorem dX11_number_68 : decode cX11_number 68 = .ok (.goto (-57), 3) := by decide +kernel
theorem dX11_number_71 : decode cX11_number 71 = .ok (.aload_n 0, 1) := by decide +kernel
theorem dX11_number_72 : decode cX11_number 72 = .ok (.aload_n 0, 1) := by decide +kernel
theorem dX11_number_73 : decode cX11_number 73 = .ok (.getfield 189, 3) := by decide +kernel
theorem dX11_number_76 : decode cX11_number 76 = .ok (.ifCond .ne 8, 3) := by decide +kernel
theorem dX11_number_79 : decode cX11_number 79 = .ok (.iload 5, 2) := by decide +kernel
theorem dX11_number_81 : decode cX11_number 81 = .ok (.ifCond .ne 7, 3) := by decide +kernel
theorem dX11_number_84 : decode cX11_number 84 = .ok (.iconst 1, 1) := by decide +kernel
theorem dX11_number_85 : decode cX11_number 85 = .ok (.goto 4, 3) := by decide +kernel
theorem dX11_number_88 : decode cX11_number 88 = .ok (.iconst 0, 1) := by decide +kernel
theorem dX11_number_89 : decode cX11_number 89 = .ok (.putfield 189, 3) := by decide +kernel
theorem dX11_number_92 : decode cX11_number 92 = .ok (.aload_n 0, 1) := by decide +kernel
theorem dX11_number_93 : decode cX11_number 93 = .ok (.getfield 25, 3) := by decide +kernel
theorem dX11_number_96 : decode cX11_number 96 = .ok (.iconst 4, 1) := by decide +kernel
theorem dX11_number_97 : decode cX11_number 97 = .ok (.aload_n 0, 1) := by decide +kernel
theorem dX11_number_98 : decode cX11_number 98 = .ok (.getfield 231, 3) := by decide +kernel
theorem dX11_number_101 : decode cX11_number 101 = .ok (.imul, 1) := by decide +kernel
theorem dX11_number_102 : decode cX11_number 102 = .ok (.iload_n 2, 1) := by decide +kernel
theorem dX11_number_103 : decode cX11_number 103 = .ok (.iadd, 1) := by decide +kernel
theorem dX11_number_104 : decode cX11_number 104 = .ok (.iload 4, 2) := by decide +kernel
theorem dX11_number_106 : decode cX11_number 106 = .ok (.iastore, 1) := by decide +kernel
theorem dX11_number_107 : decode cX11_number 107 = .ok (.return_, 1) := by decide +kernel
def f_X11_number_11 (s1 : Nat) (y2 : Int32) (y3 : Int32) : Nat → Int32 → Int32 → XW → Option (XW)
  | 0, _, _, _ => none
  | n + 1, z4, z5, w => (if (w.1 141 22) = 0 then (if y3 ≤ z5 then (if (w.1 141 22) = 0 then (if z5 = 0 then (if inB ((4 * ((wset w 141 22 1).1 141 20)) + y2) 240 then (some (wset (wset w 141 22 1) 147 (Int32.toNatClampNeg ((4 * ((wset w 141 22 1).1 141 20)) + y2)) z4)) else none) else (if inB ((4 * ((wset w 141 22 0).1 141 20)) + y2) 240 then (some (wset (wset w 141 22 0) 147 (Int32.toNatClampNeg ((4 * ((wset w 141 22 0).1 141 20)) + y2)) z4)) else none)) else (if inB ((4 * ((wset w 141 22 1).1 141 20)) + y2) 240 then (some (wset (wset w 141 22 1) 147 (Int32.toNatClampNeg ((4 * ((wset w 141 22 1).1 141 20)) + y2)) z4)) else none)) else (bI (f_X11_here 0 w) (fun r8 w8 => (bI (f_X11_in r8 48 57 w8) (fun r9 w9 => (if r9 = 0 then (if (w9.1 141 22) = 0 then (if z5 = 0 then (if inB ((4 * ((wset w9 141 22 1).1 141 20)) + y2) 240 then (some (wset (wset w9 141 22 1) 147 (Int32.toNatClampNeg ((4 * ((wset w9 141 22 1).1 141 20)) + y2)) z4)) else none) else (if inB ((4 * ((wset w9 141 22 0).1 141 20)) + y2) 240 then (some (wset (wset w9 141 22 0) 147 (Int32.toNatClampNeg ((4 * ((wset w9 141 22 0).1 141 20)) + y2)) z4)) else none)) else (if inB ((4 * ((wset w9 141 22 1).1 141 20)) + y2) 240 then (some (wset (wset w9 141 22 1) 147 (Int32.toNatClampNeg ((4 * ((wset w9 141 22 1).1 141 20)) + y2)) z4)) else none)) else (bI (f_X11_here 0 w9) (fun r13 w13 => (f_X11_number_11 s1 y2 y3 n (((10 * z4) + r13) - 48) (z5 + 1) (wset w13 141 18 ((w13.1 141 18) + 1))))))))))) else (if (w.1 141 22) = 0 then (if z5 = 0 then (if inB ((4 * ((wset w 141 22 1).1 141 20)) + y2) 240 then (some (wset (wset w 141 22 1) 147 (Int32.toNatClampNeg ((4 * ((wset w 141 22 1).1 141 20)) + y2)) z4)) else none) else (if inB ((4 * ((wset w 141 22 0).1 141 20)) + y2) 240 then (some (wset (wset w 141 22 0) 147 (Int32.toNatClampNeg ((4 * ((wset w 141 22 0).1 141 20)) + y2)) z4)) else none)) else (if inB ((4 * ((wset w 141 22 1).1 141 20)) + y2) 240 then (some (wset (wset w 141 22 1) 147 (Int32.toNatClampNeg ((4 * ((wset w 141 22 1).1 141 20)) + y2)) z4)) else none)))
set_option maxRecDepth 100000 in
theorem S_X11_number_11 {g : GC} (hl : g.1.stackTraces = false) {s1 : Nat} {y2 : Int32} {y3 : Int32} : ∀ (n : Nat) (z4 : Int32) (z5 : Int32) (w : XW), VE g cX11_number 6 RX11 none [] (rmL 6 0 0) 0 0 oV 0 0 11 [(0, .ref (g.2.1 + 141)), (2, .int y2), (3, .int y3), (4, .int z4), (5, .int z5)] [] w (f_X11_number_11 s1 y2 y3 n z4 z5 w) := by
  intro n
  induction n with
  | zero => intro z4 z5 w; exact v_none
  | succ n ih =>
    intro z4 z5 w
    rw [f_X11_number_11]
    refine v_aload_n dX11_number_11 rfl 0 rfl ?_
    refine v_getI fl_X11_189 tt_141 rfl dX11_number_12 ?_
    refine v_if_ne (tgt := 71) dX11_number_15 (by decide) ?_ ?_
    · refine v_aload_n dX11_number_71 rfl 0 rfl ?_
      refine v_aload_n dX11_number_72 rfl 0 rfl ?_
      refine v_getI fl_X11_189 tt_141 rfl dX11_number_73 ?_
      refine v_if_ne (tgt := 84) dX11_number_76 (by decide) ?_ ?_
      · refine v_iconst (v := 1) dX11_number_84 (by decide) ?_
        refine v_goto (tgt := 89) dX11_number_85 (by decide) ?_
        refine v_putI fl_X11_189 tt_141 rfl (ty0 := .boolean) rfl rfl rfl dX11_number_89 ?_
        refine v_aload_n dX11_number_92 rfl 0 rfl ?_
        refine v_getR fl_X11_25 tt_141 rfl dX11_number_93 ?_
        refine v_iconst (v := 4) dX11_number_96 (by decide) ?_
        refine v_aload_n dX11_number_97 rfl 0 rfl ?_
        refine v_getI fl_X11_231 tt_141 rfl dX11_number_98 ?_
        refine v_imul dX11_number_101 ?_
        refine v_iload_n dX11_number_102 rfl 1 rfl ?_
        refine v_iadd dX11_number_103 ?_
        refine v_iload dX11_number_104 3 rfl ?_
        refine v_guard (fun h2 => ?_)
        refine v_iast tt_147 h2 dX11_number_106 ?_
        exact v_vret dX11_number_107 rfl rfl (by decide) (by decide)
      · refine v_iload dX11_number_79 4 rfl ?_
        refine v_if_ne (tgt := 88) dX11_number_81 (by decide) ?_ ?_
        · refine v_iconst (v := 0) dX11_number_88 (by decide) ?_
          refine v_putI fl_X11_189 tt_141 rfl (ty0 := .boolean) rfl rfl rfl dX11_number_89 ?_
          refine v_aload_n dX11_number_92 rfl 0 rfl ?_
          refine v_getR fl_X11_25 tt_141 rfl dX11_number_93 ?_
          refine v_iconst (v := 4) dX11_number_96 (by decide) ?_
          refine v_aload_n dX11_number_97 rfl 0 rfl ?_
          refine v_getI fl_X11_231 tt_141 rfl dX11_number_98 ?_
          refine v_imul dX11_number_101 ?_
          refine v_iload_n dX11_number_102 rfl 1 rfl ?_
          refine v_iadd dX11_number_103 ?_
          refine v_iload dX11_number_104 3 rfl ?_
          refine v_guard (fun h3 => ?_)
          refine v_iast tt_147 h3 dX11_number_106 ?_
          exact v_vret dX11_number_107 rfl rfl (by decide) (by decide)
        · refine v_iconst (v := 1) dX11_number_84 (by decide) ?_
          refine v_goto (tgt := 89) dX11_number_85 (by decide) ?_
          refine v_putI fl_X11_189 tt_141 rfl (ty0 := .boolean) rfl rfl rfl dX11_number_89 ?_
          refine v_aload_n dX11_number_92 rfl 0 rfl ?_
          refine v_getR fl_X11_25 tt_141 rfl dX11_number_93 ?_
          refine v_iconst (v := 4) dX11_number_96 (by decide) ?_
          refine v_aload_n dX11_number_97 rfl 0 rfl ?_
          refine v_getI fl_X11_231 tt_141 rfl dX11_number_98 ?_
          refine v_imul dX11_number_101 ?_
          refine v_iload_n dX11_number_102 rfl 1 rfl ?_
          refine v_iadd dX11_number_103 ?_
          refine v_iload dX11_number_104 3 rfl ?_
          refine v_guard (fun h4 => ?_)
          refine v_iast tt_147 h4 dX11_number_106 ?_
          exact v_vret dX11_number_107 rfl rfl (by decide) (by decide)
    · refine v_iload dX11_number_18 4 rfl ?_
      refine v_iload_n dX11_number_20 rfl 2 rfl ?_
      refine v_icmp_ge (tgt := 71) dX11_number_21 (by decide) ?_ ?_
      · refine v_aload_n dX11_number_71 rfl 0 rfl ?_
        refine v_aload_n dX11_number_72 rfl 0 rfl ?_
        refine v_getI fl_X11_189 tt_141 rfl dX11_number_73 ?_
        refine v_if_ne (tgt := 84) dX11_number_76 (by decide) ?_ ?_
        · refine v_iconst (v := 1) dX11_number_84 (by decide) ?_
          refine v_goto (tgt := 89) dX11_number_85 (by decide) ?_
          refine v_putI fl_X11_189 tt_141 rfl (ty0 := .boolean) rfl rfl rfl dX11_number_89 ?_
          refine v_aload_n dX11_number_92 rfl 0 rfl ?_
          refine v_getR fl_X11_25 tt_141 rfl dX11_number_93 ?_
          refine v_iconst (v := 4) dX11_number_96 (by decide) ?_
          refine v_aload_n dX11_number_97 rfl 0 rfl ?_
          refine v_getI fl_X11_231 tt_141 rfl dX11_number_98 ?_
          refine v_imul dX11_number_101 ?_
          refine v_iload_n dX11_number_102 rfl 1 rfl ?_
          refine v_iadd dX11_number_103 ?_
          refine v_iload dX11_number_104 3 rfl ?_
          refine v_guard (fun h5 => ?_)
          refine v_iast tt_147 h5 dX11_number_106 ?_
          exact v_vret dX11_number_107 rfl rfl (by decide) (by decide)
        · refine v_iload dX11_number_79 4 rfl ?_
          refine v_if_ne (tgt := 88) dX11_number_81 (by decide) ?_ ?_
          · refine v_iconst (v := 0) dX11_number_88 (by decide) ?_
            refine v_putI fl_X11_189 tt_141 rfl (ty0 := .boolean) rfl rfl rfl dX11_number_89 ?_
            refine v_aload_n dX11_number_92 rfl 0 rfl ?_
            refine v_getR fl_X11_25 tt_141 rfl dX11_number_93 ?_
            refine v_iconst (v := 4) dX11_number_96 (by decide) ?_
            refine v_aload_n dX11_number_97 rfl 0 rfl ?_
            refine v_getI fl_X11_231 tt_141 rfl dX11_number_98 ?_
            refine v_imul dX11_number_101 ?_
            refine v_iload_n dX11_number_102 rfl 1 rfl ?_
            refine v_iadd dX11_number_103 ?_
            refine v_iload dX11_number_104 3 rfl ?_
            refine v_guard (fun h6 => ?_)
            refine v_iast tt_147 h6 dX11_number_106 ?_
            exact v_vret dX11_number_107 rfl rfl (by decide) (by decide)
          · refine v_iconst (v := 1) dX11_number_84 (by decide) ?_
            refine v_goto (tgt := 89) dX11_number_85 (by decide) ?_
            refine v_putI fl_X11_189 tt_141 rfl (ty0 := .boolean) rfl rfl rfl dX11_number_89 ?_
            refine v_aload_n dX11_number_92 rfl 0 rfl ?_
            refine v_getR fl_X11_25 tt_141 rfl dX11_number_93 ?_
            refine v_iconst (v := 4) dX11_number_96 (by decide) ?_
            refine v_aload_n dX11_number_97 rfl 0 rfl ?_
            refine v_getI fl_X11_231 tt_141 rfl dX11_number_98 ?_
            refine v_imul dX11_number_101 ?_
            refine v_iload_n dX11_number_102 rfl 1 rfl ?_
            refine v_iadd dX11_number_103 ?_
            refine v_iload dX11_number_104 3 rfl ?_
            refine v_guard (fun h7 => ?_)
            refine v_iast tt_147 h7 dX11_number_106 ?_
            exact v_vret dX11_number_107 rfl rfl (by decide) (by decide)
      · refine v_aload_n dX11_number_24 rfl 0 rfl ?_
        refine v_iconst (v := 0) dX11_number_25 (by decide) ?_
        refine v_callVi (As := [.int 0]) cv_X11_186 (S_X11_here hl) tt_141 rfl rfl rfl (Nat.le_of_ble_eq_true rfl) dX11_number_26 (CR_rm (by decide) (by decide) (by decide) (by decide)) (fun r8 w8 => ?_)
        refine v_bipush (v := 48) dX11_number_29 (by decide) ?_
        refine v_bipush (v := 57) dX11_number_31 (by decide) ?_
        refine v_callSi (As := [.int r8, .int 48, .int 57]) cs_X11_63 (S_X11_in hl) rfl rfl (Nat.le_of_ble_eq_true rfl) dX11_number_33 (CR_rm (by decide) (by decide) (by decide) (by decide)) (fun r9 w9 => ?_)
        refine v_if_eq (tgt := 71) dX11_number_36 (by decide) ?_ ?_
        · refine v_aload_n dX11_number_71 rfl 0 rfl ?_
          refine v_aload_n dX11_number_72 rfl 0 rfl ?_
          refine v_getI fl_X11_189 tt_141 rfl dX11_number_73 ?_
          refine v_if_ne (tgt := 84) dX11_number_76 (by decide) ?_ ?_
          · refine v_iconst (v := 1) dX11_number_84 (by decide) ?_
            refine v_goto (tgt := 89) dX11_number_85 (by decide) ?_
            refine v_putI fl_X11_189 tt_141 rfl (ty0 := .boolean) rfl rfl rfl dX11_number_89 ?_
            refine v_aload_n dX11_number_92 rfl 0 rfl ?_
            refine v_getR fl_X11_25 tt_141 rfl dX11_number_93 ?_
            refine v_iconst (v := 4) dX11_number_96 (by decide) ?_
            refine v_aload_n dX11_number_97 rfl 0 rfl ?_
            refine v_getI fl_X11_231 tt_141 rfl dX11_number_98 ?_
            refine v_imul dX11_number_101 ?_
            refine v_iload_n dX11_number_102 rfl 1 rfl ?_
            refine v_iadd dX11_number_103 ?_
            refine v_iload dX11_number_104 3 rfl ?_
            refine v_guard (fun h10 => ?_)
            refine v_iast tt_147 h10 dX11_number_106 ?_
            exact v_vret dX11_number_107 rfl rfl (by decide) (by decide)
          · refine v_iload dX11_number_79 4 rfl ?_
            refine v_if_ne (tgt := 88) dX11_number_81 (by decide) ?_ ?_
            · refine v_iconst (v := 0) dX11_number_88 (by decide) ?_
              refine v_putI fl_X11_189 tt_141 rfl (ty0 := .boolean) rfl rfl rfl dX11_number_89 ?_
              refine v_aload_n dX11_number_92 rfl 0 rfl ?_
              refine v_getR fl_X11_25 tt_141 rfl dX11_number_93 ?_
              refine v_iconst (v := 4) dX11_number_96 (by decide) ?_
              refine v_aload_n dX11_number_97 rfl 0 rfl ?_
              refine v_getI fl_X11_231 tt_141 rfl dX11_number_98 ?_
              refine v_imul dX11_number_101 ?_
              refine v_iload_n dX11_number_102 rfl 1 rfl ?_
              refine v_iadd dX11_number_103 ?_
              refine v_iload dX11_number_104 3 rfl ?_
              refine v_guard (fun h11 => ?_)
              refine v_iast tt_147 h11 dX11_number_106 ?_
              exact v_vret dX11_number_107 rfl rfl (by decide) (by decide)
            · refine v_iconst (v := 1) dX11_number_84 (by decide) ?_
              refine v_goto (tgt := 89) dX11_number_85 (by decide) ?_
              refine v_putI fl_X11_189 tt_141 rfl (ty0 := .boolean) rfl rfl rfl dX11_number_89 ?_
              refine v_aload_n dX11_number_92 rfl 0 rfl ?_
              refine v_getR fl_X11_25 tt_141 rfl dX11_number_93 ?_
              refine v_iconst (v := 4) dX11_number_96 (by decide) ?_
              refine v_aload_n dX11_number_97 rfl 0 rfl ?_
              refine v_getI fl_X11_231 tt_141 rfl dX11_number_98 ?_
              refine v_imul dX11_number_101 ?_
              refine v_iload_n dX11_number_102 rfl 1 rfl ?_
              refine v_iadd dX11_number_103 ?_
              refine v_iload dX11_number_104 3 rfl ?_
              refine v_guard (fun h12 => ?_)
              refine v_iast tt_147 h12 dX11_number_106 ?_
              exact v_vret dX11_number_107 rfl rfl (by decide) (by decide)
        · refine v_bipush (v := 10) dX11_number_39 (by decide) ?_
          refine v_iload dX11_number_41 3 rfl ?_
          refine v_imul dX11_number_43 ?_
          refine v_aload_n dX11_number_44 rfl 0 rfl ?_
          refine v_iconst (v := 0) dX11_number_45 (by decide) ?_
          refine v_callVi (As := [.int 0]) cv_X11_186 (S_X11_here hl) tt_141 rfl rfl rfl (Nat.le_of_ble_eq_true rfl) dX11_number_46 (CR_rm (by decide) (by decide) (by decide) (by decide)) (fun r13 w13 => ?_)
          refine v_iadd dX11_number_49 ?_
          refine v_bipush (v := 48) dX11_number_50 (by decide) ?_
          refine v_isub dX11_number_52 ?_
          refine v_istore dX11_number_53 (Nat.le_of_ble_eq_true rfl) rfl ?_
          refine v_aload_n dX11_number_55 rfl 1 rfl ?_
          refine v_dup dX11_number_56 rfl ?_
          refine v_getI fl_X11_180 tt_141 rfl dX11_number_57 ?_
          refine v_iconst (v := 1) dX11_number_60 (by decide) ?_
          refine v_iadd dX11_number_61 ?_
          refine v_putI fl_X11_180 tt_141 rfl (ty0 := .int) rfl rfl rfl dX11_number_62 ?_
          refine v_iinc (v := (z5 + 1)) dX11_number_65 (q := 4) rfl rfl (Nat.le_of_ble_eq_true rfl) rfl ?_
          refine v_goto (tgt := 11) dX11_number_68 (by decide) ?_
          refine v_sub [2, 3, 4, 1, 0] rfl ?_
          exact ih _ _ _
def f_X11_number (s1 : Nat) (x2 : Int32) (x3 : Int32) (w : XW) : Option (XW) := (bV (f_X11_says s1 w) (fun w1 => (f_X11_number_11 s1 x2 x3 1000 0 0 w1)))
set_option maxRecDepth 100000 in
theorem W_X11_number {g : GC} (hl : g.1.stackTraces = false) {s1 : Nat} {x2 : Int32} {x3 : Int32} {w : XW} : VE g cX11_number 6 RX11 none [] (rmL 6 0 0) 0 0 oV 0 0 0 [(0, .ref (g.2.1 + 141)), (1, .ref (g.2.2.2.2.1 s1)), (2, .int x2), (3, .int x3)] [] w (f_X11_number s1 x2 x3 w) := by
  unfold f_X11_number
  refine v_aload_n dX11_number_0 rfl 0 rfl ?_
  refine v_aload_n dX11_number_1 rfl 1 rfl ?_
  refine v_callVv (As := [.ref (g.2.2.2.2.1 s1)]) cv_X11_227 (S_X11_says hl) tt_141 rfl rfl rfl (Nat.le_of_ble_eq_true rfl) dX11_number_2 (CR_rm (by decide) (by decide) (by decide) (by decide)) (fun w1 => ?_)
  refine v_iconst (v := 0) dX11_number_5 (by decide) ?_
  refine v_istore dX11_number_6 (Nat.le_of_ble_eq_true rfl) rfl ?_
  refine v_iconst (v := 0) dX11_number_8 (by decide) ?_
  refine v_istore dX11_number_9 (Nat.le_of_ble_eq_true rfl) rfl ?_
  refine v_sub [2, 4, 5, 1, 0] rfl ?_
  exact S_X11_number_11 hl  _ _ _ _
theorem S_X11_number {g : GC} (hl : g.1.stackTraces = false) {s1 : Nat} {x2 : Int32} {x3 : Int32} {w : XW} : ∀ q, f_X11_number s1 x2 x3 w = some q → MM g (.code yX11_number cX11_number 6 none) yX11_number (rmL 6 0 0) 0 0 [.ref (g.2.1 + 141), .ref (g.2.2.2.2.1 s1), .int x2, .int x3] w (oV q) := fun q hq => MM_of (own := RX11) hl (by decide) gw_1873 rfl (Nat.le_of_ble_eq_true rfl) (W_X11_number hl q hq) ⟨rfl, rfl⟩
