theorem dX10_recordDenial_0 : decode cX10_recordDenial 0 = .ok (.aload_n 0, 1) := by decide +kernel
theorem dX10_recordDenial_1 : decode cX10_recordDenial 1 = .ok (.iload_n 1, 1) := by decide +kernel
theorem dX10_recordDenial_2 : decode cX10_recordDenial 2 = .ok (.putfield 77, 3) := by decide +kernel
theorem dX10_recordDenial_5 : decode cX10_recordDenial 5 = .ok (.aload_n 0, 1) := by decide +kernel
theorem dX10_recordDenial_6 : decode cX10_recordDenial 6 = .ok (.iload_n 2, 1) := by decide +kernel
theorem dX10_recordDenial_7 : decode cX10_recordDenial 7 = .ok (.putfield 80, 3) := by decide +kernel
theorem dX10_recordDenial_10 : decode cX10_recordDenial 10 = .ok (.aload_n 0, 1) := by decide +kernel
theorem dX10_recordDenial_11 : decode cX10_recordDenial 11 = .ok (.iload_n 3, 1) := by decide +kernel
theorem dX10_recordDenial_12 : decode cX10_recordDenial 12 = .ok (.putfield 83, 3) := by decide +kernel
theorem dX10_recordDenial_15 : decode cX10_recordDenial 15 = .ok (.return_, 1) := by decide +kernel
def f_X10_recordDenial (x1 : Int32) (x2 : Int32) (x3 : Int32) (w : XW) : Option (XW) := (some (wset (wset (wset w 0 12 x1) 0 13 x2) 0 14 x3))
set_option maxRecDepth 100000 in
theorem W_X10_recordDenial {g : GC} (hl : g.1.stackTraces = false) {x1 : Int32} {x2 : Int32} {x3 : Int32} {w : XW} : VE g cX10_recordDenial 4 RX10 none [] (rmL 3 0 0) 0 0 oV 0 0 0 [(0, .ref (g.2.1 + 0)), (1, .int x1), (2, .int x2), (3, .int x3)] [] w (f_X10_recordDenial x1 x2 x3 w) := by
  unfold f_X10_recordDenial
  refine v_aload_n dX10_recordDenial_0 rfl 0 rfl ?_
  refine v_iload_n dX10_recordDenial_1 rfl 1 rfl ?_
  refine v_putI fl_X10_77 tt_0 rfl (ty0 := .int) rfl rfl rfl dX10_recordDenial_2 ?_
  refine v_aload_n dX10_recordDenial_5 rfl 0 rfl ?_
  refine v_iload_n dX10_recordDenial_6 rfl 2 rfl ?_
  refine v_putI fl_X10_80 tt_0 rfl (ty0 := .int) rfl rfl rfl dX10_recordDenial_7 ?_
  refine v_aload_n dX10_recordDenial_10 rfl 0 rfl ?_
  refine v_iload_n dX10_recordDenial_11 rfl 3 rfl ?_
  refine v_putI fl_X10_83 tt_0 rfl (ty0 := .int) rfl rfl rfl dX10_recordDenial_12 ?_
  exact v_vret dX10_recordDenial_15 rfl rfl (by decide) (by decide)
theorem S_X10_recordDenial {g : GC} (hl : g.1.stackTraces = false) {x1 : Int32} {x2 : Int32} {x3 : Int32} {w : XW} : ∀ q, f_X10_recordDenial x1 x2 x3 w = some q → MM g (.code yX10_recordDenial cX10_recordDenial 4 none) yX10_recordDenial (rmL 3 0 0) 0 0 [.ref (g.2.1 + 0), .int x1, .int x2, .int x3] w (oV q) := fun q hq => MM_of (own := RX10) hl (by decide) gw_620 rfl (Nat.le_of_ble_eq_true rfl) (W_X10_recordDenial hl q hq) ⟨rfl, rfl⟩

theorem dX10_obey_0 : decode cX10_obey 0 = .ok (.iload_n 1, 1) := by decide +kernel
theorem dX10_obey_1 : decode cX10_obey 1 = .ok (.iconst (-1), 1) := by decide +kernel
theorem dX10_obey_2 : decode cX10_obey 2 = .ok (.if_icmp .ne 11, 3) := by decide +kernel
theorem dX10_obey_5 : decode cX10_obey 5 = .ok (.new 142, 3) := by decide +kernel
theorem dX10_obey_8 : decode cX10_obey 8 = .ok (.dup, 1) := by decide +kernel
theorem dX10_obey_9 : decode cX10_obey 9 = .ok (.invokespecial 144, 3) := by decide +kernel
theorem dX10_obey_12 : decode cX10_obey 12 = .ok (.athrow, 1) := by decide +kernel
theorem dX10_obey_13 : decode cX10_obey 13 = .ok (.iload_n 1, 1) := by decide +kernel
theorem dX10_obey_14 : decode cX10_obey 14 = .ok (.bipush (-2), 2) := by decide +kernel
theorem dX10_obey_16 : decode cX10_obey 16 = .ok (.if_icmp .ne 11, 3) := by decide +kernel
theorem dX10_obey_19 : decode cX10_obey 19 = .ok (.new 293, 3) := by decide +kernel
theorem dX10_obey_22 : decode cX10_obey 22 = .ok (.dup, 1) := by decide +kernel
theorem dX10_obey_23 : decode cX10_obey 23 = .ok (.invokespecial 295, 3) := by decide +kernel
theorem dX10_obey_26 : decode cX10_obey 26 = .ok (.athrow, 1) := by decide +kernel
theorem dX10_obey_27 : decode cX10_obey 27 = .ok (.iload_n 1, 1) := by decide +kernel
theorem dX10_obey_28 : decode cX10_obey 28 = .ok (.ifCond .eq 24, 3) := by decide +kernel
theorem dX10_obey_31 : decode cX10_obey 31 = .ok (.aload_n 0, 1) := by decide +kernel
theorem dX10_obey_32 : decode cX10_obey 32 = .ok (.iload_n 1, 1) := by decide +kernel
theorem dX10_obey_33 : decode cX10_obey 33 = .ok (.bipush 100, 2) := by decide +kernel
theorem dX10_obey_35 : decode cX10_obey 35 = .ok (.idiv, 1) := by decide +kernel
theorem dX10_obey_36 : decode cX10_obey 36 = .ok (.iload_n 1, 1) := by decide +kernel
theorem dX10_obey_37 : decode cX10_obey 37 = .ok (.bipush 100, 2) := by decide +kernel
theorem dX10_obey_39 : decode cX10_obey 39 = .ok (.irem, 1) := by decide +kernel
theorem dX10_obey_40 : decode cX10_obey 40 = .ok (.iconst (-1), 1) := by decide +kernel
theorem dX10_obey_41 : decode cX10_obey 41 = .ok (.invokevirtual 255, 3) := by decide +kernel
theorem dX10_obey_44 : decode cX10_obey 44 = .ok (.new 259, 3) := by decide +kernel
theorem dX10_obey_47 : decode cX10_obey 47 = .ok (.dup, 1) := by decide +kernel
theorem dX10_obey_48 : decode cX10_obey 48 = .ok (.invokespecial 261, 3) := by decide +kernel
theorem dX10_obey_51 : decode cX10_obey 51 = .ok (.athrow, 1) := by decide +kernel
theorem dX10_obey_52 : decode cX10_obey 52 = .ok (.return_, 1) := by decide +kernel
def f_X10_obey (x1 : Int32) (w : XW) : Option ((XW) ⊕ (String × XW)) := (if x1 = (-1) then (some (.inr ("java/lang/IndexOutOfBoundsException", w))) else (if x1 = (-2) then (some (.inr ("java/lang/IllegalArgumentException", w))) else (if x1 = 0 then (some (.inl w)) else (bV (f_X10_recordDenial (x1 / 100) (x1 - x1 / 100 * 100) (-1) w) (fun w1 => (some (.inr ("java/lang/UnsupportedOperationException", w1))))))))
set_option maxRecDepth 100000 in
theorem W_X10_obey {g : GC} (hl : g.1.stackTraces = false) {x1 : Int32} {w : XW} : VE g cX10_obey 2 RX10 none [] (rmL 4 1 6) 1 6 oVX 0 0 0 [(0, .ref (g.2.1 + 0)), (1, .int x1)] [] w (f_X10_obey x1 w) := by
  unfold f_X10_obey
  refine v_iload_n dX10_obey_0 rfl 1 rfl ?_
  refine v_iconst (v := (-1)) dX10_obey_1 (by decide) ?_
  refine v_icmp_ne (tgt := 13) dX10_obey_2 (by decide) ?_ ?_
  · refine v_iload_n dX10_obey_13 rfl 1 rfl ?_
    refine v_bipush (v := (-2)) dX10_obey_14 (by decide) ?_
    refine v_icmp_ne (tgt := 27) dX10_obey_16 (by decide) ?_ ?_
    · refine v_iload_n dX10_obey_27 rfl 1 rfl ?_
      refine v_if_eq (tgt := 52) dX10_obey_28 (by decide) ?_ ?_
      · exact v_vret dX10_obey_52 rfl rfl (by decide) (by decide)
      · refine v_aload_n dX10_obey_31 rfl 0 rfl ?_
        refine v_iload_n dX10_obey_32 rfl 1 rfl ?_
        refine v_bipush (v := 100) dX10_obey_33 (by decide) ?_
        refine v_idiv dX10_obey_35 (by decide) ?_
        refine v_iload_n dX10_obey_36 rfl 1 rfl ?_
        refine v_bipush (v := 100) dX10_obey_37 (by decide) ?_
        refine v_irem dX10_obey_39 (by decide) ?_
        refine v_iconst (v := (-1)) dX10_obey_40 (by decide) ?_
        refine v_callVv (As := [.int (x1 / 100), .int (x1 - x1 / 100 * 100), .int (-1)]) cv_X10_255 (S_X10_recordDenial hl) tt_0 rfl rfl rfl (Nat.le_of_ble_eq_true rfl) dX10_obey_41 (CR_rm (by decide) (by decide) (by decide) (by decide)) (fun w1 => ?_)
        exact v_throw (names := exN) rfl (by decide) exN_ok gw_621 gw_65 xg_X10_259 xo_X10_259 dX10_obey_44 dX10_obey_47 dX10_obey_48 dX10_obey_51 (CR_t1 _ _ _) (CR_t2 (Nat.le_of_ble_eq_true rfl) _ _ _) (by decide) (by decide) rfl (by decide) (by decide)
    · exact v_throw (names := exN) rfl (by decide) exN_ok gw_602 gw_64 xg_X10_293 xo_X10_293 dX10_obey_19 dX10_obey_22 dX10_obey_23 dX10_obey_26 (CR_t1 _ _ _) (CR_t2 (Nat.le_of_ble_eq_true rfl) _ _ _) (by decide) (by decide) rfl (by decide) (by decide)
  · exact v_throw (names := exN) rfl (by decide) exN_ok gw_461 gw_60 xg_X10_142 xo_X10_142 dX10_obey_5 dX10_obey_8 dX10_obey_9 dX10_obey_12 (CR_t1 _ _ _) (CR_t2 (Nat.le_of_ble_eq_true rfl) _ _ _) (by decide) (by decide) rfl (by decide) (by decide)
theorem S_X10_obey {g : GC} (hl : g.1.stackTraces = false) {x1 : Int32} {w : XW} : ∀ q, f_X10_obey x1 w = some q → MM g (.code yX10_obey cX10_obey 2 none) yX10_obey (rmL 4 1 6) 1 6 [.ref (g.2.1 + 0), .int x1] w (oVX q) := fun q hq => MM_of (own := RX10) hl (by decide) gw_601 rfl (Nat.le_of_ble_eq_true rfl) (W_X10_obey hl q hq) ⟨rfl, rfl⟩

theorem dX10_change_0 : decode cX10_change 0 = .ok (.aload_n 0, 1) := by decide +kernel
theorem dX10_change_1 : decode cX10_change 1 = .ok (.aload_n 0, 1) := by decide +kernel
theorem dX10_change_2 : decode cX10_change 2 = .ok (.getfield 10, 3) := by decide +kernel
theorem dX10_change_5 : decode cX10_change 5 = .ok (.iload_n 1, 1) := by decide +kernel
theorem dX10_change_6 : decode cX10_change 6 = .ok (.iload_n 2, 1) := by decide +kernel
theorem dX10_change_7 : decode cX10_change 7 = .ok (.iload_n 3, 1) := by decide +kernel
theorem dX10_change_8 : decode cX10_change 8 = .ok (.iload 4, 2) := by decide +kernel
theorem dX10_change_10 : decode cX10_change 10 = .ok (.invokevirtual 279, 3) := by decide +kernel
theorem dX10_change_13 : decode cX10_change 13 = .ok (.invokevirtual 182, 3) := by decide +kernel
theorem dX10_change_16 : decode cX10_change 16 = .ok (.aload_n 0, 1) := by decide +kernel
theorem dX10_change_17 : decode cX10_change 17 = .ok (.getfield 25, 3) := by decide +kernel
theorem dX10_change_20 : decode cX10_change 20 = .ok (.aload_n 0, 1) := by decide +kernel
theorem dX10_change_21 : decode cX10_change 21 = .ok (.getfield 10, 3) := by decide +kernel
theorem dX10_change_24 : decode cX10_change 24 = .ok (.invokevirtual 262, 3) := by decide +kernel
theorem dX10_change_27 : decode cX10_change 27 = .ok (.aload_n 0, 1) := by decide +kernel
theorem dX10_change_28 : decode cX10_change 28 = .ok (.getfield 10, 3) := by decide +kernel
theorem dX10_change_31 : decode cX10_change 31 = .ok (.iload_n 1, 1) := by decide +kernel
theorem dX10_change_32 : decode cX10_change 32 = .ok (.iload_n 2, 1) := by decide +kernel
theorem dX10_change_33 : decode cX10_change 33 = .ok (.iload_n 3, 1) := by decide +kernel
theorem dX10_change_34 : decode cX10_change 34 = .ok (.iload 4, 2) := by decide +kernel
theorem dX10_change_36 : decode cX10_change 36 = .ok (.aload_n 0, 1) := by decide +kernel
theorem dX10_change_37 : decode cX10_change 37 = .ok (.getfield 32, 3) := by decide +kernel
theorem dX10_change_40 : decode cX10_change 40 = .ok (.invokevirtual 282, 3) := by decide +kernel
theorem dX10_change_43 : decode cX10_change 43 = .ok (.ireturn, 1) := by decide +kernel
def f_X10_change (x1 : Int32) (x2 : Int32) (x3 : Int32) (x4 : Int32) (w : XW) : Option ((Int32 × XW) ⊕ (String × XW)) := (bI (f_X8_judge 1 x1 x2 x3 x4 w) (fun r1 w1 => (bVX (f_X10_obey r1 w1) (fun w2 => (bV (f_X3_keep 1 w2) (fun w3 => (bI (f_X8_apply 1 x1 x2 x3 x4 w3) (fun r4 w4 => (some (.inl (r4, w4)))))))))))
set_option maxRecDepth 100000 in
theorem W_X10_change {g : GC} (hl : g.1.stackTraces = false) {x1 : Int32} {x2 : Int32} {x3 : Int32} {x4 : Int32} {w : XW} : VE g cX10_change 5 RX10 (some .int) [] (rmL 9 1 6) 1 6 oIX 0 0 0 [(0, .ref (g.2.1 + 0)), (1, .int x1), (2, .int x2), (3, .int x3), (4, .int x4)] [] w (f_X10_change x1 x2 x3 x4 w) := by
  unfold f_X10_change
  refine v_aload_n dX10_change_0 rfl 0 rfl ?_
  refine v_aload_n dX10_change_1 rfl 0 rfl ?_
  refine v_getR fl_X10_10 tt_0 rfl dX10_change_2 ?_
  refine v_iload_n dX10_change_5 rfl 1 rfl ?_
  refine v_iload_n dX10_change_6 rfl 2 rfl ?_
  refine v_iload_n dX10_change_7 rfl 3 rfl ?_
  refine v_iload dX10_change_8 4 rfl ?_
  refine v_callVi (As := [.int x1, .int x2, .int x3, .int x4]) cv_X10_279 (S_X8_judge hl is8_1) tt_1 rfl rfl rfl (Nat.le_of_ble_eq_true rfl) dX10_change_10 (CR_rm (by decide) (by decide) (by decide) (by decide)) (fun r1 w1 => ?_)
  refine v_callVvx (As := [.int r1]) rfl (fun _ => rfl) (by decide) (by decide) cv_X10_182 (S_X10_obey hl) tt_0 rfl rfl rfl (Nat.le_of_ble_eq_true rfl) dX10_change_13 (CR_rm (by decide) (by decide) (by decide) (by decide)) (fun w2 => ?_)
  refine v_aload_n dX10_change_16 rfl 0 rfl ?_
  refine v_getR fl_X10_25 tt_0 rfl dX10_change_17 ?_
  refine v_aload_n dX10_change_20 rfl 0 rfl ?_
  refine v_getR fl_X10_10 tt_0 rfl dX10_change_21 ?_
  refine v_callVv (As := [.ref (g.2.1 + 1)]) cv_X10_262 (S_X3_keep hl is8_1) tt_34 rfl rfl rfl (Nat.le_of_ble_eq_true rfl) dX10_change_24 (CR_rm (by decide) (by decide) (by decide) (by decide)) (fun w3 => ?_)
  refine v_aload_n dX10_change_27 rfl 0 rfl ?_
  refine v_getR fl_X10_10 tt_0 rfl dX10_change_28 ?_
  refine v_iload_n dX10_change_31 rfl 1 rfl ?_
  refine v_iload_n dX10_change_32 rfl 2 rfl ?_
  refine v_iload_n dX10_change_33 rfl 3 rfl ?_
  refine v_iload dX10_change_34 4 rfl ?_
  refine v_aload_n dX10_change_36 rfl 0 rfl ?_
  refine v_getR fl_X10_32 tt_0 rfl dX10_change_37 ?_
  refine v_callVi (As := [.int x1, .int x2, .int x3, .int x4, .ref (g.2.1 + 124)]) cv_X10_282 (S_X8_apply hl is8_1) tt_1 rfl rfl rfl (Nat.le_of_ble_eq_true rfl) dX10_change_40 (CR_rm (by decide) (by decide) (by decide) (by decide)) (fun r4 w4 => ?_)
  exact v_iret dX10_change_43 rfl rfl (by decide) (by decide)
theorem S_X10_change {g : GC} (hl : g.1.stackTraces = false) {x1 : Int32} {x2 : Int32} {x3 : Int32} {x4 : Int32} {w : XW} : ∀ q, f_X10_change x1 x2 x3 x4 w = some q → MM g (.code yX10_change cX10_change 5 (some .int)) yX10_change (rmL 9 1 6) 1 6 [.ref (g.2.1 + 0), .int x1, .int x2, .int x3, .int x4] w (oIX q) := fun q hq => MM_of (own := RX10) hl (by decide) gw_716 rfl (Nat.le_of_ble_eq_true rfl) (W_X10_change hl q hq) ⟨rfl, rfl⟩

theorem dX10_addSection_0 : decode cX10_addSection 0 = .ok (.aload_n 0, 1) := by decide +kernel
theorem dX10_addSection_1 : decode cX10_addSection 1 = .ok (.iconst 0, 1) := by decide +kernel
theorem dX10_addSection_2 : decode cX10_addSection 2 = .ok (.iconst 0, 1) := by decide +kernel
theorem dX10_addSection_3 : decode cX10_addSection 3 = .ok (.iconst 0, 1) := by decide +kernel
theorem dX10_addSection_4 : decode cX10_addSection 4 = .ok (.iconst 0, 1) := by decide +kernel
theorem dX10_addSection_5 : decode cX10_addSection 5 = .ok (.invokevirtual 86, 3) := by decide +kernel
theorem dX10_addSection_8 : decode cX10_addSection 8 = .ok (.ireturn, 1) := by decide +kernel
def f_X10_addSection (w : XW) : Option ((Int32 × XW) ⊕ (String × XW)) := (bIX (f_X10_change 0 0 0 0 w) (fun r1 w1 => (some (.inl (r1, w1)))))
set_option maxRecDepth 100000 in
theorem W_X10_addSection {g : GC} (hl : g.1.stackTraces = false) {w : XW} : VE g cX10_addSection 1 RX10 (some .int) [] (rmL 10 1 6) 1 6 oIX 0 0 0 [(0, .ref (g.2.1 + 0))] [] w (f_X10_addSection  w) := by
  unfold f_X10_addSection
  refine v_aload_n dX10_addSection_0 rfl 0 rfl ?_
  refine v_iconst (v := 0) dX10_addSection_1 (by decide) ?_
  refine v_iconst (v := 0) dX10_addSection_2 (by decide) ?_
  refine v_iconst (v := 0) dX10_addSection_3 (by decide) ?_
  refine v_iconst (v := 0) dX10_addSection_4 (by decide) ?_
  refine v_callVix (As := [.int 0, .int 0, .int 0, .int 0]) rfl (fun _ => rfl) (by decide) (by decide) cv_X10_86 (S_X10_change hl) tt_0 rfl rfl rfl (Nat.le_of_ble_eq_true rfl) dX10_addSection_5 (CR_rm (by decide) (by decide) (by decide) (by decide)) (fun r1 w1 => ?_)
  exact v_iret dX10_addSection_8 rfl rfl (by decide) (by decide)
theorem S_X10_addSection {g : GC} (hl : g.1.stackTraces = false) {w : XW} : ∀ q, f_X10_addSection  w = some q → MM g (.code yX10_addSection cX10_addSection 1 (some .int)) yX10_addSection (rmL 10 1 6) 1 6 [.ref (g.2.1 + 0)] w (oIX q) := fun q hq => MM_of (own := RX10) hl (by decide) gw_712 rfl (Nat.le_of_ble_eq_true rfl) (W_X10_addSection hl q hq) ⟨rfl, rfl⟩

theorem dX10_pour_0 : decode cX10_pour 0 = .ok (.aload_n 0, 1) := by decide +kernel
theorem dX10_pour_1 : decode cX10_pour 1 = .ok (.iconst 1, 1) := by decide +kernel
theorem dX10_pour_2 : decode cX10_pour 2 = .ok (.iload_n 1, 1) := by decide +kernel
theorem dX10_pour_3 : decode cX10_pour 3 = .ok (.iload_n 2, 1) := by decide +kernel
theorem dX10_pour_4 : decode cX10_pour 4 = .ok (.iconst 0, 1) := by decide +kernel
theorem dX10_pour_5 : decode cX10_pour 5 = .ok (.invokevirtual 86, 3) := by decide +kernel
theorem dX10_pour_8 : decode cX10_pour 8 = .ok (.ireturn, 1) := by decide +kernel
def f_X10_pour (x1 : Int32) (x2 : Int32) (w : XW) : Option ((Int32 × XW) ⊕ (String × XW)) := (bIX (f_X10_change 1 x1 x2 0 w) (fun r1 w1 => (some (.inl (r1, w1)))))
set_option maxRecDepth 100000 in
theorem W_X10_pour {g : GC} (hl : g.1.stackTraces = false) {x1 : Int32} {x2 : Int32} {w : XW} : VE g cX10_pour 3 RX10 (some .int) [] (rmL 10 1 6) 1 6 oIX 0 0 0 [(0, .ref (g.2.1 + 0)), (1, .int x1), (2, .int x2)] [] w (f_X10_pour x1 x2 w) := by
  unfold f_X10_pour
  refine v_aload_n dX10_pour_0 rfl 0 rfl ?_
  refine v_iconst (v := 1) dX10_pour_1 (by decide) ?_
  refine v_iload_n dX10_pour_2 rfl 1 rfl ?_
  refine v_iload_n dX10_pour_3 rfl 2 rfl ?_
  refine v_iconst (v := 0) dX10_pour_4 (by decide) ?_
  refine v_callVix (As := [.int 1, .int x1, .int x2, .int 0]) rfl (fun _ => rfl) (by decide) (by decide) cv_X10_86 (S_X10_change hl) tt_0 rfl rfl rfl (Nat.le_of_ble_eq_true rfl) dX10_pour_5 (CR_rm (by decide) (by decide) (by decide) (by decide)) (fun r1 w1 => ?_)
  exact v_iret dX10_pour_8 rfl rfl (by decide) (by decide)
theorem S_X10_pour {g : GC} (hl : g.1.stackTraces = false) {x1 : Int32} {x2 : Int32} {w : XW} : ∀ q, f_X10_pour x1 x2 w = some q → MM g (.code yX10_pour cX10_pour 3 (some .int)) yX10_pour (rmL 10 1 6) 1 6 [.ref (g.2.1 + 0), .int x1, .int x2] w (oIX q) := fun q hq => MM_of (own := RX10) hl (by decide) gw_877 rfl (Nat.le_of_ble_eq_true rfl) (W_X10_pour hl q hq) ⟨rfl, rfl⟩

theorem dX10_tag_0 : decode cX10_tag 0 = .ok (.aload_n 0, 1) := by decide +kernel
theorem dX10_tag_1 : decode cX10_tag 1 = .ok (.iconst 2, 1) := by decide +kernel
theorem dX10_tag_2 : decode cX10_tag 2 = .ok (.iload_n 1, 1) := by decide +kernel
theorem dX10_tag_3 : decode cX10_tag 3 = .ok (.iload_n 2, 1) := by decide +kernel
theorem dX10_tag_4 : decode cX10_tag 4 = .ok (.iconst 0, 1) := by decide +kernel
theorem dX10_tag_5 : decode cX10_tag 5 = .ok (.invokevirtual 86, 3) := by decide +kernel
theorem dX10_tag_8 : decode cX10_tag 8 = .ok (.ireturn, 1) := by decide +kernel
def f_X10_tag (x1 : Int32) (x2 : Int32) (w : XW) : Option ((Int32 × XW) ⊕ (String × XW)) := (bIX (f_X10_change 2 x1 x2 0 w) (fun r1 w1 => (some (.inl (r1, w1)))))
set_option maxRecDepth 100000 in
theorem W_X10_tag {g : GC} (hl : g.1.stackTraces = false) {x1 : Int32} {x2 : Int32} {w : XW} : VE g cX10_tag 3 RX10 (some .int) [] (rmL 10 1 6) 1 6 oIX 0 0 0 [(0, .ref (g.2.1 + 0)), (1, .int x1), (2, .int x2)] [] w (f_X10_tag x1 x2 w) := by
  unfold f_X10_tag
  refine v_aload_n dX10_tag_0 rfl 0 rfl ?_
  refine v_iconst (v := 2) dX10_tag_1 (by decide) ?_
  refine v_iload_n dX10_tag_2 rfl 1 rfl ?_
  refine v_iload_n dX10_tag_3 rfl 2 rfl ?_
  refine v_iconst (v := 0) dX10_tag_4 (by decide) ?_
  refine v_callVix (As := [.int 2, .int x1, .int x2, .int 0]) rfl (fun _ => rfl) (by decide) (by decide) cv_X10_86 (S_X10_change hl) tt_0 rfl rfl rfl (Nat.le_of_ble_eq_true rfl) dX10_tag_5 (CR_rm (by decide) (by decide) (by decide) (by decide)) (fun r1 w1 => ?_)
  exact v_iret dX10_tag_8 rfl rfl (by decide) (by decide)
theorem S_X10_tag {g : GC} (hl : g.1.stackTraces = false) {x1 : Int32} {x2 : Int32} {w : XW} : ∀ q, f_X10_tag x1 x2 w = some q → MM g (.code yX10_tag cX10_tag 3 (some .int)) yX10_tag (rmL 10 1 6) 1 6 [.ref (g.2.1 + 0), .int x1, .int x2] w (oIX q) := fun q hq => MM_of (own := RX10) hl (by decide) gw_884 rfl (Nat.le_of_ble_eq_true rfl) (W_X10_tag hl q hq) ⟨rfl, rfl⟩

theorem dX10_untag_0 : decode cX10_untag 0 = .ok (.aload_n 0, 1) := by decide +kernel
theorem dX10_untag_1 : decode cX10_untag 1 = .ok (.iconst 3, 1) := by decide +kernel
theorem dX10_untag_2 : decode cX10_untag 2 = .ok (.iload_n 1, 1) := by decide +kernel
theorem dX10_untag_3 : decode cX10_untag 3 = .ok (.iload_n 2, 1) := by decide +kernel
theorem dX10_untag_4 : decode cX10_untag 4 = .ok (.iconst 0, 1) := by decide +kernel
theorem dX10_untag_5 : decode cX10_untag 5 = .ok (.invokevirtual 86, 3) := by decide +kernel
theorem dX10_untag_8 : decode cX10_untag 8 = .ok (.ireturn, 1) := by decide +kernel
def f_X10_untag (x1 : Int32) (x2 : Int32) (w : XW) : Option ((Int32 × XW) ⊕ (String × XW)) := (bIX (f_X10_change 3 x1 x2 0 w) (fun r1 w1 => (some (.inl (r1, w1)))))
set_option maxRecDepth 100000 in
theorem W_X10_untag {g : GC} (hl : g.1.stackTraces = false) {x1 : Int32} {x2 : Int32} {w : XW} : VE g cX10_untag 3 RX10 (some .int) [] (rmL 10 1 6) 1 6 oIX 0 0 0 [(0, .ref (g.2.1 + 0)), (1, .int x1), (2, .int x2)] [] w (f_X10_untag x1 x2 w) := by
  unfold f_X10_untag
  refine v_aload_n dX10_untag_0 rfl 0 rfl ?_
  refine v_iconst (v := 3) dX10_untag_1 (by decide) ?_
  refine v_iload_n dX10_untag_2 rfl 1 rfl ?_
  refine v_iload_n dX10_untag_3 rfl 2 rfl ?_
  refine v_iconst (v := 0) dX10_untag_4 (by decide) ?_
  refine v_callVix (As := [.int 3, .int x1, .int x2, .int 0]) rfl (fun _ => rfl) (by decide) (by decide) cv_X10_86 (S_X10_change hl) tt_0 rfl rfl rfl (Nat.le_of_ble_eq_true rfl) dX10_untag_5 (CR_rm (by decide) (by decide) (by decide) (by decide)) (fun r1 w1 => ?_)
  exact v_iret dX10_untag_8 rfl rfl (by decide) (by decide)
theorem S_X10_untag {g : GC} (hl : g.1.stackTraces = false) {x1 : Int32} {x2 : Int32} {w : XW} : ∀ q, f_X10_untag x1 x2 w = some q → MM g (.code yX10_untag cX10_untag 3 (some .int)) yX10_untag (rmL 10 1 6) 1 6 [.ref (g.2.1 + 0), .int x1, .int x2] w (oIX q) := fun q hq => MM_of (own := RX10) hl (by decide) gw_891 rfl (Nat.le_of_ble_eq_true rfl) (W_X10_untag hl q hq) ⟨rfl, rfl⟩

theorem dX10_sectionCount_0 : decode cX10_sectionCount 0 = .ok (.aload_n 0, 1) := by decide +kernel
theorem dX10_sectionCount_1 : decode cX10_sectionCount 1 = .ok (.getfield 10, 3) := by decide +kernel
theorem dX10_sectionCount_4 : decode cX10_sectionCount 4 = .ok (.getfield 90, 3) := by decide +kernel
theorem dX10_sectionCount_7 : decode cX10_sectionCount 7 = .ok (.getfield 94, 3) := by decide +kernel
theorem dX10_sectionCount_10 : decode cX10_sectionCount 10 = .ok (.ireturn, 1) := by decide +kernel
def f_X10_sectionCount (w : XW) : Option (Int32 × XW) := (some ((w.1 2 0), w))
set_option maxRecDepth 100000 in
theorem W_X10_sectionCount {g : GC} (hl : g.1.stackTraces = false) {w : XW} : VE g cX10_sectionCount 1 RX10 (some .int) [] (rmL 3 0 0) 0 0 oI 0 0 0 [(0, .ref (g.2.1 + 0))] [] w (f_X10_sectionCount  w) := by
  unfold f_X10_sectionCount
  refine v_aload_n dX10_sectionCount_0 rfl 0 rfl ?_
  refine v_getR fl_X10_10 tt_0 rfl dX10_sectionCount_1 ?_
  refine v_getR fl_X10_90 tt_1 rfl dX10_sectionCount_4 ?_
  refine v_getI fl_X10_94 tt_2 rfl dX10_sectionCount_7 ?_
  exact v_iret dX10_sectionCount_10 rfl rfl (by decide) (by decide)
theorem S_X10_sectionCount {g : GC} (hl : g.1.stackTraces = false) {w : XW} : ∀ q, f_X10_sectionCount  w = some q → MM g (.code yX10_sectionCount cX10_sectionCount 1 (some .int)) yX10_sectionCount (rmL 3 0 0) 0 0 [.ref (g.2.1 + 0)] w (oI q) := fun q hq => MM_of (own := RX10) hl (by decide) gw_342 rfl (Nat.le_of_ble_eq_true rfl) (W_X10_sectionCount hl q hq) ⟨rfl, rfl⟩

theorem dX10_requireSection_0 : decode cX10_requireSection 0 = .ok (.aload_n 0, 1) := by decide +kernel
theorem dX10_requireSection_1 : decode cX10_requireSection 1 = .ok (.getfield 10, 3) := by decide +kernel
theorem dX10_requireSection_4 : decode cX10_requireSection 4 = .ok (.getfield 90, 3) := by decide +kernel
theorem dX10_requireSection_7 : decode cX10_requireSection 7 = .ok (.iload_n 1, 1) := by decide +kernel
theorem dX10_requireSection_8 : decode cX10_requireSection 8 = .ok (.invokevirtual 296, 3) := by decide +kernel
theorem dX10_requireSection_11 : decode cX10_requireSection 11 = .ok (.ifCond .ne 11, 3) := by decide +kernel
theorem dX10_requireSection_14 : decode cX10_requireSection 14 = .ok (.new 142, 3) := by decide +kernel
theorem dX10_requireSection_17 : decode cX10_requireSection 17 = .ok (.dup, 1) := by decide +kernel
theorem dX10_requireSection_18 : decode cX10_requireSection 18 = .ok (.invokespecial 144, 3) := by decide +kernel
theorem dX10_requireSection_21 : decode cX10_requireSection 21 = .ok (.athrow, 1) := by decide +kernel
theorem dX10_requireSection_22 : decode cX10_requireSection 22 = .ok (.return_, 1) := by decide +kernel
def f_X10_requireSection (x1 : Int32) (w : XW) : Option ((XW) ⊕ (String × XW)) := (bI (f_X9_has 2 x1 w) (fun r1 w1 => (if r1 = 0 then (some (.inr ("java/lang/IndexOutOfBoundsException", w1))) else (some (.inl w1)))))
set_option maxRecDepth 100000 in
theorem W_X10_requireSection {g : GC} (hl : g.1.stackTraces = false) {x1 : Int32} {w : XW} : VE g cX10_requireSection 2 RX10 none [] (rmL 4 1 6) 1 6 oVX 0 0 0 [(0, .ref (g.2.1 + 0)), (1, .int x1)] [] w (f_X10_requireSection x1 w) := by
  unfold f_X10_requireSection
  refine v_aload_n dX10_requireSection_0 rfl 0 rfl ?_
  refine v_getR fl_X10_10 tt_0 rfl dX10_requireSection_1 ?_
  refine v_getR fl_X10_90 tt_1 rfl dX10_requireSection_4 ?_
  refine v_iload_n dX10_requireSection_7 rfl 1 rfl ?_
  refine v_callVi (As := [.int x1]) cv_X10_296 (S_X9_has hl is9_2) tt_2 rfl rfl rfl (Nat.le_of_ble_eq_true rfl) dX10_requireSection_8 (CR_rm (by decide) (by decide) (by decide) (by decide)) (fun r1 w1 => ?_)
  refine v_if_ne (tgt := 22) dX10_requireSection_11 (by decide) ?_ ?_
  · exact v_vret dX10_requireSection_22 rfl rfl (by decide) (by decide)
  · exact v_throw (names := exN) rfl (by decide) exN_ok gw_461 gw_60 xg_X10_142 xo_X10_142 dX10_requireSection_14 dX10_requireSection_17 dX10_requireSection_18 dX10_requireSection_21 (CR_t1 _ _ _) (CR_t2 (Nat.le_of_ble_eq_true rfl) _ _ _) (by decide) (by decide) rfl (by decide) (by decide)
theorem S_X10_requireSection {g : GC} (hl : g.1.stackTraces = false) {x1 : Int32} {w : XW} : ∀ q, f_X10_requireSection x1 w = some q → MM g (.code yX10_requireSection cX10_requireSection 2 none) yX10_requireSection (rmL 4 1 6) 1 6 [.ref (g.2.1 + 0), .int x1] w (oVX q) := fun q hq => MM_of (own := RX10) hl (by decide) gw_456 rfl (Nat.le_of_ble_eq_true rfl) (W_X10_requireSection hl q hq) ⟨rfl, rfl⟩

theorem dX10_water_0 : decode cX10_water 0 = .ok (.aload_n 0, 1) := by decide +kernel
theorem dX10_water_1 : decode cX10_water 1 = .ok (.iload_n 1, 1) := by decide +kernel
theorem dX10_water_2 : decode cX10_water 2 = .ok (.invokevirtual 99, 3) := by decide +kernel
theorem dX10_water_5 : decode cX10_water 5 = .ok (.aload_n 0, 1) := by decide +kernel
theorem dX10_water_6 : decode cX10_water 6 = .ok (.getfield 10, 3) := by decide +kernel
theorem dX10_water_9 : decode cX10_water 9 = .ok (.getfield 90, 3) := by decide +kernel
theorem dX10_water_12 : decode cX10_water 12 = .ok (.iload_n 1, 1) := by decide +kernel
theorem dX10_water_13 : decode cX10_water 13 = .ok (.invokevirtual 102, 3) := by decide +kernel
theorem dX10_water_16 : decode cX10_water 16 = .ok (.ireturn, 1) := by decide +kernel
def f_X10_water (x1 : Int32) (w : XW) : Option ((Int32 × XW) ⊕ (String × XW)) := (bVX (f_X10_requireSection x1 w) (fun w1 => (bI (f_X9_waterOf 2 x1 w1) (fun r2 w2 => (some (.inl (r2, w2)))))))
set_option maxRecDepth 100000 in
theorem W_X10_water {g : GC} (hl : g.1.stackTraces = false) {x1 : Int32} {w : XW} : VE g cX10_water 2 RX10 (some .int) [] (rmL 5 1 6) 1 6 oIX 0 0 0 [(0, .ref (g.2.1 + 0)), (1, .int x1)] [] w (f_X10_water x1 w) := by
  unfold f_X10_water
  refine v_aload_n dX10_water_0 rfl 0 rfl ?_
  refine v_iload_n dX10_water_1 rfl 1 rfl ?_
  refine v_callVvx (As := [.int x1]) rfl (fun _ => rfl) (by decide) (by decide) cv_X10_99 (S_X10_requireSection hl) tt_0 rfl rfl rfl (Nat.le_of_ble_eq_true rfl) dX10_water_2 (CR_rm (by decide) (by decide) (by decide) (by decide)) (fun w1 => ?_)
  refine v_aload_n dX10_water_5 rfl 0 rfl ?_
  refine v_getR fl_X10_10 tt_0 rfl dX10_water_6 ?_
  refine v_getR fl_X10_90 tt_1 rfl dX10_water_9 ?_
  refine v_iload_n dX10_water_12 rfl 1 rfl ?_
  refine v_callVi (As := [.int x1]) cv_X10_102 (S_X9_waterOf hl is9_2) tt_2 rfl rfl rfl (Nat.le_of_ble_eq_true rfl) dX10_water_13 (CR_rm (by decide) (by decide) (by decide) (by decide)) (fun r2 w2 => ?_)
  exact v_iret dX10_water_16 rfl rfl (by decide) (by decide)
theorem S_X10_water {g : GC} (hl : g.1.stackTraces = false) {x1 : Int32} {w : XW} : ∀ q, f_X10_water x1 w = some q → MM g (.code yX10_water cX10_water 2 (some .int)) yX10_water (rmL 5 1 6) 1 6 [.ref (g.2.1 + 0), .int x1] w (oIX q) := fun q hq => MM_of (own := RX10) hl (by decide) gw_452 rfl (Nat.le_of_ble_eq_true rfl) (W_X10_water hl q hq) ⟨rfl, rfl⟩

theorem dX10_requireTerm_0 : decode cX10_requireTerm 0 = .ok (.iload_n 1, 1) := by decide +kernel
theorem dX10_requireTerm_1 : decode cX10_requireTerm 1 = .ok (.invokestatic 300, 3) := by decide +kernel
theorem dX10_requireTerm_4 : decode cX10_requireTerm 4 = .ok (.ifCond .ne 11, 3) := by decide +kernel
theorem dX10_requireTerm_7 : decode cX10_requireTerm 7 = .ok (.new 293, 3) := by decide +kernel
theorem dX10_requireTerm_10 : decode cX10_requireTerm 10 = .ok (.dup, 1) := by decide +kernel
theorem dX10_requireTerm_11 : decode cX10_requireTerm 11 = .ok (.invokespecial 295, 3) := by decide +kernel
theorem dX10_requireTerm_14 : decode cX10_requireTerm 14 = .ok (.athrow, 1) := by decide +kernel
theorem dX10_requireTerm_15 : decode cX10_requireTerm 15 = .ok (.return_, 1) := by decide +kernel
def f_X10_requireTerm (x1 : Int32) (w : XW) : Option ((XW) ⊕ (String × XW)) := (bI (f_X9_isTerm x1 w) (fun r1 w1 => (if r1 = 0 then (some (.inr ("java/lang/IllegalArgumentException", w1))) else (some (.inl w1)))))
set_option maxRecDepth 100000 in
theorem W_X10_requireTerm {g : GC} (hl : g.1.stackTraces = false) {x1 : Int32} {w : XW} : VE g cX10_requireTerm 2 RX10 none [] (rmL 4 1 6) 1 6 oVX 0 0 0 [(0, .ref (g.2.1 + 0)), (1, .int x1)] [] w (f_X10_requireTerm x1 w) := by
  unfold f_X10_requireTerm
  refine v_iload_n dX10_requireTerm_0 rfl 1 rfl ?_
  refine v_callSi (As := [.int x1]) cs_X10_300 (S_X9_isTerm hl) rfl rfl (Nat.le_of_ble_eq_true rfl) dX10_requireTerm_1 (CR_rm (by decide) (by decide) (by decide) (by decide)) (fun r1 w1 => ?_)
  refine v_if_ne (tgt := 15) dX10_requireTerm_4 (by decide) ?_ ?_
  · exact v_vret dX10_requireTerm_15 rfl rfl (by decide) (by decide)
  · exact v_throw (names := exN) rfl (by decide) exN_ok gw_602 gw_64 xg_X10_293 xo_X10_293 dX10_requireTerm_7 dX10_requireTerm_10 dX10_requireTerm_11 dX10_requireTerm_14 (CR_t1 _ _ _) (CR_t2 (Nat.le_of_ble_eq_true rfl) _ _ _) (by decide) (by decide) rfl (by decide) (by decide)
theorem S_X10_requireTerm {g : GC} (hl : g.1.stackTraces = false) {x1 : Int32} {w : XW} : ∀ q, f_X10_requireTerm x1 w = some q → MM g (.code yX10_requireTerm cX10_requireTerm 2 none) yX10_requireTerm (rmL 4 1 6) 1 6 [.ref (g.2.1 + 0), .int x1] w (oVX q) := fun q hq => MM_of (own := RX10) hl (by decide) gw_1373 rfl (Nat.le_of_ble_eq_true rfl) (W_X10_requireTerm hl q hq) ⟨rfl, rfl⟩

theorem dX10_hasTerm_0 : decode cX10_hasTerm 0 = .ok (.aload_n 0, 1) := by decide +kernel
theorem dX10_hasTerm_1 : decode cX10_hasTerm 1 = .ok (.iload_n 1, 1) := by decide +kernel
theorem dX10_hasTerm_2 : decode cX10_hasTerm 2 = .ok (.invokevirtual 99, 3) := by decide +kernel
theorem dX10_hasTerm_5 : decode cX10_hasTerm 5 = .ok (.aload_n 0, 1) := by decide +kernel
theorem dX10_hasTerm_6 : decode cX10_hasTerm 6 = .ok (.iload_n 2, 1) := by decide +kernel
theorem dX10_hasTerm_7 : decode cX10_hasTerm 7 = .ok (.invokevirtual 106, 3) := by decide +kernel
theorem dX10_hasTerm_10 : decode cX10_hasTerm 10 = .ok (.aload_n 0, 1) := by decide +kernel
theorem dX10_hasTerm_11 : decode cX10_hasTerm 11 = .ok (.getfield 10, 3) := by decide +kernel
theorem dX10_hasTerm_14 : decode cX10_hasTerm 14 = .ok (.getfield 90, 3) := by decide +kernel
theorem dX10_hasTerm_17 : decode cX10_hasTerm 17 = .ok (.iload_n 1, 1) := by decide +kernel
theorem dX10_hasTerm_18 : decode cX10_hasTerm 18 = .ok (.iload_n 2, 1) := by decide +kernel
theorem dX10_hasTerm_19 : decode cX10_hasTerm 19 = .ok (.invokevirtual 109, 3) := by decide +kernel
theorem dX10_hasTerm_22 : decode cX10_hasTerm 22 = .ok (.ireturn, 1) := by decide +kernel
def f_X10_hasTerm (x1 : Int32) (x2 : Int32) (w : XW) : Option ((Int32 × XW) ⊕ (String × XW)) := (bVX (f_X10_requireSection x1 w) (fun w1 => (bVX (f_X10_requireTerm x2 w1) (fun w2 => (bI (f_X9_bears 2 x1 x2 w2) (fun r3 w3 => (if vp_nar .boolean r3 = r3 then (some (.inl (r3, w3))) else none)))))))
set_option maxRecDepth 100000 in
theorem W_X10_hasTerm {g : GC} (hl : g.1.stackTraces = false) {x1 : Int32} {x2 : Int32} {w : XW} : VE g cX10_hasTerm 3 RX10 (some .boolean) [] (rmL 6 2 12) 2 12 oIX 0 0 0 [(0, .ref (g.2.1 + 0)), (1, .int x1), (2, .int x2)] [] w (f_X10_hasTerm x1 x2 w) := by
  unfold f_X10_hasTerm
  refine v_aload_n dX10_hasTerm_0 rfl 0 rfl ?_
  refine v_iload_n dX10_hasTerm_1 rfl 1 rfl ?_
  refine v_callVvx (As := [.int x1]) rfl (fun _ => rfl) (by decide) (by decide) cv_X10_99 (S_X10_requireSection hl) tt_0 rfl rfl rfl (Nat.le_of_ble_eq_true rfl) dX10_hasTerm_2 (CR_rm (by decide) (by decide) (by decide) (by decide)) (fun w1 => ?_)
  refine v_aload_n dX10_hasTerm_5 rfl 0 rfl ?_
  refine v_iload_n dX10_hasTerm_6 rfl 2 rfl ?_
  refine v_callVvx (As := [.int x2]) rfl (fun _ => rfl) (by decide) (by decide) cv_X10_106 (S_X10_requireTerm hl) tt_0 rfl rfl rfl (Nat.le_of_ble_eq_true rfl) dX10_hasTerm_7 (CR_rm (by decide) (by decide) (by decide) (by decide)) (fun w2 => ?_)
  refine v_aload_n dX10_hasTerm_10 rfl 0 rfl ?_
  refine v_getR fl_X10_10 tt_0 rfl dX10_hasTerm_11 ?_
  refine v_getR fl_X10_90 tt_1 rfl dX10_hasTerm_14 ?_
  refine v_iload_n dX10_hasTerm_17 rfl 1 rfl ?_
  refine v_iload_n dX10_hasTerm_18 rfl 2 rfl ?_
  refine v_callVi (As := [.int x1, .int x2]) cv_X10_109 (S_X9_bears hl is9_2) tt_2 rfl rfl rfl (Nat.le_of_ble_eq_true rfl) dX10_hasTerm_19 (CR_rm (by decide) (by decide) (by decide) (by decide)) (fun r3 w3 => ?_)
  refine v_guard (fun h4 => ?_)
  exact v_zret dX10_hasTerm_22 rfl (narB_ok h4) rfl (by decide) (by decide)
theorem S_X10_hasTerm {g : GC} (hl : g.1.stackTraces = false) {x1 : Int32} {x2 : Int32} {w : XW} : ∀ q, f_X10_hasTerm x1 x2 w = some q → MM g (.code yX10_hasTerm cX10_hasTerm 3 (some .boolean)) yX10_hasTerm (rmL 6 2 12) 2 12 [.ref (g.2.1 + 0), .int x1, .int x2] w (oIX q) := fun q hq => MM_of (own := RX10) hl (by decide) gw_1369 rfl (Nat.le_of_ble_eq_true rfl) (W_X10_hasTerm hl q hq) ⟨rfl, rfl⟩

theorem dX10_sectionsWith_0 : decode cX10_sectionsWith 0 = .ok (.aload_n 0, 1) := by decide +kernel
theorem dX10_sectionsWith_1 : decode cX10_sectionsWith 1 = .ok (.iload_n 1, 1) := by decide +kernel
theorem dX10_sectionsWith_2 : decode cX10_sectionsWith 2 = .ok (.invokevirtual 106, 3) := by decide +kernel
theorem dX10_sectionsWith_5 : decode cX10_sectionsWith 5 = .ok (.aload_n 0, 1) := by decide +kernel
theorem dX10_sectionsWith_6 : decode cX10_sectionsWith 6 = .ok (.getfield 10, 3) := by decide +kernel
theorem dX10_sectionsWith_9 : decode cX10_sectionsWith 9 = .ok (.getfield 90, 3) := by decide +kernel
theorem dX10_sectionsWith_12 : decode cX10_sectionsWith 12 = .ok (.iload_n 1, 1) := by decide +kernel
theorem dX10_sectionsWith_13 : decode cX10_sectionsWith 13 = .ok (.invokevirtual 113, 3) := by decide +kernel
theorem dX10_sectionsWith_16 : decode cX10_sectionsWith 16 = .ok (.invokestatic 116, 3) := by decide +kernel
theorem dX10_sectionsWith_19 : decode cX10_sectionsWith 19 = .ok (.ireturn, 1) := by decide +kernel
def f_X10_sectionsWith (x1 : Int32) (w : XW) : Option ((Int32 × XW) ⊕ (String × XW)) := (bVX (f_X10_requireTerm x1 w) (fun w1 => (bI (f_X9_bearersOf 2 x1 w1) (fun r2 w2 => (bI (f_J6_bitCount_0f7a4 r2 w2) (fun r3 w3 => (some (.inl (r3, w3)))))))))
set_option maxRecDepth 100000 in
theorem W_X10_sectionsWith {g : GC} (hl : g.1.stackTraces = false) {x1 : Int32} {w : XW} : VE g cX10_sectionsWith 2 RX10 (some .int) [] (rmL 7 1 6) 1 6 oIX 0 0 0 [(0, .ref (g.2.1 + 0)), (1, .int x1)] [] w (f_X10_sectionsWith x1 w) := by
  unfold f_X10_sectionsWith
  refine v_aload_n dX10_sectionsWith_0 rfl 0 rfl ?_
  refine v_iload_n dX10_sectionsWith_1 rfl 1 rfl ?_
  refine v_callVvx (As := [.int x1]) rfl (fun _ => rfl) (by decide) (by decide) cv_X10_106 (S_X10_requireTerm hl) tt_0 rfl rfl rfl (Nat.le_of_ble_eq_true rfl) dX10_sectionsWith_2 (CR_rm (by decide) (by decide) (by decide) (by decide)) (fun w1 => ?_)
  refine v_aload_n dX10_sectionsWith_5 rfl 0 rfl ?_
  refine v_getR fl_X10_10 tt_0 rfl dX10_sectionsWith_6 ?_
  refine v_getR fl_X10_90 tt_1 rfl dX10_sectionsWith_9 ?_
  refine v_iload_n dX10_sectionsWith_12 rfl 1 rfl ?_
  refine v_callVi (As := [.int x1]) cv_X10_113 (S_X9_bearersOf hl is9_2) tt_2 rfl rfl rfl (Nat.le_of_ble_eq_true rfl) dX10_sectionsWith_13 (CR_rm (by decide) (by decide) (by decide) (by decide)) (fun r2 w2 => ?_)
  refine v_callSi (As := [.int r2]) cs_X10_116 (S_J6_bitCount_0f7a4 hl) rfl rfl (Nat.le_of_ble_eq_true rfl) dX10_sectionsWith_16 (CR_rm (by decide) (by decide) (by decide) (by decide)) (fun r3 w3 => ?_)
  exact v_iret dX10_sectionsWith_19 rfl rfl (by decide) (by decide)
theorem S_X10_sectionsWith {g : GC} (hl : g.1.stackTraces = false) {x1 : Int32} {w : XW} : ∀ q, f_X10_sectionsWith x1 w = some q → MM g (.code yX10_sectionsWith cX10_sectionsWith 2 (some .int)) yX10_sectionsWith (rmL 7 1 6) 1 6 [.ref (g.2.1 + 0), .int x1] w (oIX q) := fun q hq => MM_of (own := RX10) hl (by decide) gw_1547 rfl (Nat.le_of_ble_eq_true rfl) (W_X10_sectionsWith hl q hq) ⟨rfl, rfl⟩

theorem dX10_sectionByWater_0 : decode cX10_sectionByWater 0 = .ok (.aload_n 0, 1) := by decide +kernel
theorem dX10_sectionByWater_1 : decode cX10_sectionByWater 1 = .ok (.getfield 10, 3) := by decide +kernel
theorem dX10_sectionByWater_4 : decode cX10_sectionByWater 4 = .ok (.getfield 90, 3) := by decide +kernel
theorem dX10_sectionByWater_7 : decode cX10_sectionByWater 7 = .ok (.iload_n 1, 1) := by decide +kernel
theorem dX10_sectionByWater_8 : decode cX10_sectionByWater 8 = .ok (.invokevirtual 121, 3) := by decide +kernel
theorem dX10_sectionByWater_11 : decode cX10_sectionByWater 11 = .ok (.istore_n 2, 1) := by decide +kernel
theorem dX10_sectionByWater_12 : decode cX10_sectionByWater 12 = .ok (.iload_n 2, 1) := by decide +kernel
theorem dX10_sectionByWater_13 : decode cX10_sectionByWater 13 = .ok (.iconst (-1), 1) := by decide +kernel
theorem dX10_sectionByWater_14 : decode cX10_sectionByWater 14 = .ok (.if_icmp .ne 11, 3) := by decide +kernel
theorem dX10_sectionByWater_17 : decode cX10_sectionByWater 17 = .ok (.new 124, 3) := by decide +kernel
theorem dX10_sectionByWater_20 : decode cX10_sectionByWater 20 = .ok (.dup, 1) := by decide +kernel
theorem dX10_sectionByWater_21 : decode cX10_sectionByWater 21 = .ok (.invokespecial 126, 3) := by decide +kernel
theorem dX10_sectionByWater_24 : decode cX10_sectionByWater 24 = .ok (.athrow, 1) := by decide +kernel
theorem dX10_sectionByWater_25 : decode cX10_sectionByWater 25 = .ok (.iload_n 2, 1) := by decide +kernel
theorem dX10_sectionByWater_26 : decode cX10_sectionByWater 26 = .ok (.ireturn, 1) := by decide +kernel
def f_X10_sectionByWater (x1 : Int32) (w : XW) : Option ((Int32 × XW) ⊕ (String × XW)) := (bI (f_X9_sectionAtRank 2 x1 w) (fun r1 w1 => (if r1 = (-1) then (some (.inr ("java/util/NoSuchElementException", w1))) else (some (.inl (r1, w1))))))
set_option maxRecDepth 100000 in
theorem W_X10_sectionByWater {g : GC} (hl : g.1.stackTraces = false) {x1 : Int32} {w : XW} : VE g cX10_sectionByWater 3 RX10 (some .int) [] (rmL 8 1 6) 1 6 oIX 0 0 0 [(0, .ref (g.2.1 + 0)), (1, .int x1)] [] w (f_X10_sectionByWater x1 w) := by
  unfold f_X10_sectionByWater
  refine v_aload_n dX10_sectionByWater_0 rfl 0 rfl ?_
  refine v_getR fl_X10_10 tt_0 rfl dX10_sectionByWater_1 ?_
  refine v_getR fl_X10_90 tt_1 rfl dX10_sectionByWater_4 ?_
  refine v_iload_n dX10_sectionByWater_7 rfl 1 rfl ?_
  refine v_callVi (As := [.int x1]) cv_X10_121 (S_X9_sectionAtRank hl is9_2) tt_2 rfl rfl rfl (Nat.le_of_ble_eq_true rfl) dX10_sectionByWater_8 (CR_rm (by decide) (by decide) (by decide) (by decide)) (fun r1 w1 => ?_)
  refine v_istore_n dX10_sectionByWater_11 rfl (Nat.le_of_ble_eq_true rfl) rfl ?_
  refine v_iload_n dX10_sectionByWater_12 rfl 0 rfl ?_
  refine v_iconst (v := (-1)) dX10_sectionByWater_13 (by decide) ?_
  refine v_icmp_ne (tgt := 25) dX10_sectionByWater_14 (by decide) ?_ ?_
  · refine v_iload_n dX10_sectionByWater_25 rfl 0 rfl ?_
    exact v_iret dX10_sectionByWater_26 rfl rfl (by decide) (by decide)
  · exact v_throw (names := exN) rfl (by decide) exN_ok gw_499 gw_63 xg_X10_124 xo_X10_124 dX10_sectionByWater_17 dX10_sectionByWater_20 dX10_sectionByWater_21 dX10_sectionByWater_24 (CR_t1 _ _ _) (CR_t2 (Nat.le_of_ble_eq_true rfl) _ _ _) (by decide) (by decide) rfl (by decide) (by decide)
theorem S_X10_sectionByWater {g : GC} (hl : g.1.stackTraces = false) {x1 : Int32} {w : XW} : ∀ q, f_X10_sectionByWater x1 w = some q → MM g (.code yX10_sectionByWater cX10_sectionByWater 3 (some .int)) yX10_sectionByWater (rmL 8 1 6) 1 6 [.ref (g.2.1 + 0), .int x1] w (oIX q) := fun q hq => MM_of (own := RX10) hl (by decide) gw_1403 rfl (Nat.le_of_ble_eq_true rfl) (W_X10_sectionByWater hl q hq) ⟨rfl, rfl⟩

theorem dX10_fold_0 : decode cX10_fold 0 = .ok (.aload_n 0, 1) := by decide +kernel
theorem dX10_fold_1 : decode cX10_fold 1 = .ok (.iconst 4, 1) := by decide +kernel
theorem dX10_fold_2 : decode cX10_fold 2 = .ok (.iload_n 1, 1) := by decide +kernel
theorem dX10_fold_3 : decode cX10_fold 3 = .ok (.iconst 0, 1) := by decide +kernel
theorem dX10_fold_4 : decode cX10_fold 4 = .ok (.iconst 0, 1) := by decide +kernel
theorem dX10_fold_5 : decode cX10_fold 5 = .ok (.invokevirtual 86, 3) := by decide +kernel
theorem dX10_fold_8 : decode cX10_fold 8 = .ok (.ireturn, 1) := by decide +kernel
def f_X10_fold (x1 : Int32) (w : XW) : Option ((Int32 × XW) ⊕ (String × XW)) := (bIX (f_X10_change 4 x1 0 0 w) (fun r1 w1 => (some (.inl (r1, w1)))))
set_option maxRecDepth 100000 in
theorem W_X10_fold {g : GC} (hl : g.1.stackTraces = false) {x1 : Int32} {w : XW} : VE g cX10_fold 2 RX10 (some .int) [] (rmL 10 1 6) 1 6 oIX 0 0 0 [(0, .ref (g.2.1 + 0)), (1, .int x1)] [] w (f_X10_fold x1 w) := by
  unfold f_X10_fold
  refine v_aload_n dX10_fold_0 rfl 0 rfl ?_
  refine v_iconst (v := 4) dX10_fold_1 (by decide) ?_
  refine v_iload_n dX10_fold_2 rfl 1 rfl ?_
  refine v_iconst (v := 0) dX10_fold_3 (by decide) ?_
  refine v_iconst (v := 0) dX10_fold_4 (by decide) ?_
  refine v_callVix (As := [.int 4, .int x1, .int 0, .int 0]) rfl (fun _ => rfl) (by decide) (by decide) cv_X10_86 (S_X10_change hl) tt_0 rfl rfl rfl (Nat.le_of_ble_eq_true rfl) dX10_fold_5 (CR_rm (by decide) (by decide) (by decide) (by decide)) (fun r1 w1 => ?_)
  exact v_iret dX10_fold_8 rfl rfl (by decide) (by decide)
theorem S_X10_fold {g : GC} (hl : g.1.stackTraces = false) {x1 : Int32} {w : XW} : ∀ q, f_X10_fold x1 w = some q → MM g (.code yX10_fold cX10_fold 2 (some .int)) yX10_fold (rmL 10 1 6) 1 6 [.ref (g.2.1 + 0), .int x1] w (oIX q) := fun q hq => MM_of (own := RX10) hl (by decide) gw_898 rfl (Nat.le_of_ble_eq_true rfl) (W_X10_fold hl q hq) ⟨rfl, rfl⟩

theorem dX10_unfold_0 : decode cX10_unfold 0 = .ok (.aload_n 0, 1) := by decide +kernel
theorem dX10_unfold_1 : decode cX10_unfold 1 = .ok (.iconst 5, 1) := by decide +kernel
theorem dX10_unfold_2 : decode cX10_unfold 2 = .ok (.iconst 0, 1) := by decide +kernel
theorem dX10_unfold_3 : decode cX10_unfold 3 = .ok (.iconst 0, 1) := by decide +kernel
theorem dX10_unfold_4 : decode cX10_unfold 4 = .ok (.iconst 0, 1) := by decide +kernel
theorem dX10_unfold_5 : decode cX10_unfold 5 = .ok (.invokevirtual 86, 3) := by decide +kernel
theorem dX10_unfold_8 : decode cX10_unfold 8 = .ok (.ireturn, 1) := by decide +kernel
def f_X10_unfold (w : XW) : Option ((Int32 × XW) ⊕ (String × XW)) := (bIX (f_X10_change 5 0 0 0 w) (fun r1 w1 => (some (.inl (r1, w1)))))
set_option maxRecDepth 100000 in
theorem W_X10_unfold {g : GC} (hl : g.1.stackTraces = false) {w : XW} : VE g cX10_unfold 1 RX10 (some .int) [] (rmL 10 1 6) 1 6 oIX 0 0 0 [(0, .ref (g.2.1 + 0))] [] w (f_X10_unfold  w) := by
  unfold f_X10_unfold
  refine v_aload_n dX10_unfold_0 rfl 0 rfl ?_
  refine v_iconst (v := 5) dX10_unfold_1 (by decide) ?_
  refine v_iconst (v := 0) dX10_unfold_2 (by decide) ?_
  refine v_iconst (v := 0) dX10_unfold_3 (by decide) ?_
  refine v_iconst (v := 0) dX10_unfold_4 (by decide) ?_
  refine v_callVix (As := [.int 5, .int 0, .int 0, .int 0]) rfl (fun _ => rfl) (by decide) (by decide) cv_X10_86 (S_X10_change hl) tt_0 rfl rfl rfl (Nat.le_of_ble_eq_true rfl) dX10_unfold_5 (CR_rm (by decide) (by decide) (by decide) (by decide)) (fun r1 w1 => ?_)
  exact v_iret dX10_unfold_8 rfl rfl (by decide) (by decide)
theorem S_X10_unfold {g : GC} (hl : g.1.stackTraces = false) {w : XW} : ∀ q, f_X10_unfold  w = some q → MM g (.code yX10_unfold cX10_unfold 1 (some .int)) yX10_unfold (rmL 10 1 6) 1 6 [.ref (g.2.1 + 0)] w (oIX q) := fun q hq => MM_of (own := RX10) hl (by decide) gw_905 rfl (Nat.le_of_ble_eq_true rfl) (W_X10_unfold hl q hq) ⟨rfl, rfl⟩

theorem dX10_foldedCount_0 : decode cX10_foldedCount 0 = .ok (.aload_n 0, 1) := by decide +kernel
theorem dX10_foldedCount_1 : decode cX10_foldedCount 1 = .ok (.getfield 10, 3) := by decide +kernel
theorem dX10_foldedCount_4 : decode cX10_foldedCount 4 = .ok (.getfield 127, 3) := by decide +kernel
theorem dX10_foldedCount_7 : decode cX10_foldedCount 7 = .ok (.getfield 131, 3) := by decide +kernel
theorem dX10_foldedCount_10 : decode cX10_foldedCount 10 = .ok (.ireturn, 1) := by decide +kernel
def f_X10_foldedCount (w : XW) : Option (Int32 × XW) := (some ((w.1 5 0), w))
set_option maxRecDepth 100000 in
theorem W_X10_foldedCount {g : GC} (hl : g.1.stackTraces = false) {w : XW} : VE g cX10_foldedCount 1 RX10 (some .int) [] (rmL 3 0 0) 0 0 oI 0 0 0 [(0, .ref (g.2.1 + 0))] [] w (f_X10_foldedCount  w) := by
  unfold f_X10_foldedCount
  refine v_aload_n dX10_foldedCount_0 rfl 0 rfl ?_
  refine v_getR fl_X10_10 tt_0 rfl dX10_foldedCount_1 ?_
  refine v_getR fl_X10_127 tt_1 rfl dX10_foldedCount_4 ?_
  refine v_getI fl_X10_131 tt_5 rfl dX10_foldedCount_7 ?_
  exact v_iret dX10_foldedCount_10 rfl rfl (by decide) (by decide)
theorem S_X10_foldedCount {g : GC} (hl : g.1.stackTraces = false) {w : XW} : ∀ q, f_X10_foldedCount  w = some q → MM g (.code yX10_foldedCount cX10_foldedCount 1 (some .int)) yX10_foldedCount (rmL 3 0 0) 0 0 [.ref (g.2.1 + 0)] w (oI q) := fun q hq => MM_of (own := RX10) hl (by decide) gw_346 rfl (Nat.le_of_ble_eq_true rfl) (W_X10_foldedCount hl q hq) ⟨rfl, rfl⟩

theorem dX10_layerOf_0 : decode cX10_layerOf 0 = .ok (.aload_n 0, 1) := by decide +kernel
theorem dX10_layerOf_1 : decode cX10_layerOf 1 = .ok (.iload_n 1, 1) := by decide +kernel
theorem dX10_layerOf_2 : decode cX10_layerOf 2 = .ok (.invokevirtual 99, 3) := by decide +kernel
theorem dX10_layerOf_5 : decode cX10_layerOf 5 = .ok (.aload_n 0, 1) := by decide +kernel
theorem dX10_layerOf_6 : decode cX10_layerOf 6 = .ok (.getfield 10, 3) := by decide +kernel
theorem dX10_layerOf_9 : decode cX10_layerOf 9 = .ok (.getfield 127, 3) := by decide +kernel
theorem dX10_layerOf_12 : decode cX10_layerOf 12 = .ok (.iload_n 1, 1) := by decide +kernel
theorem dX10_layerOf_13 : decode cX10_layerOf 13 = .ok (.invokevirtual 136, 3) := by decide +kernel
theorem dX10_layerOf_16 : decode cX10_layerOf 16 = .ok (.istore_n 2, 1) := by decide +kernel
theorem dX10_layerOf_17 : decode cX10_layerOf 17 = .ok (.iload_n 2, 1) := by decide +kernel
theorem dX10_layerOf_18 : decode cX10_layerOf 18 = .ok (.iconst (-1), 1) := by decide +kernel
theorem dX10_layerOf_19 : decode cX10_layerOf 19 = .ok (.if_icmp .ne 11, 3) := by decide +kernel
theorem dX10_layerOf_22 : decode cX10_layerOf 22 = .ok (.new 124, 3) := by decide +kernel
theorem dX10_layerOf_25 : decode cX10_layerOf 25 = .ok (.dup, 1) := by decide +kernel
theorem dX10_layerOf_26 : decode cX10_layerOf 26 = .ok (.invokespecial 126, 3) := by decide +kernel
theorem dX10_layerOf_29 : decode cX10_layerOf 29 = .ok (.athrow, 1) := by decide +kernel
theorem dX10_layerOf_30 : decode cX10_layerOf 30 = .ok (.iload_n 2, 1) := by decide +kernel
theorem dX10_layerOf_31 : decode cX10_layerOf 31 = .ok (.ireturn, 1) := by decide +kernel
def f_X10_layerOf (x1 : Int32) (w : XW) : Option ((Int32 × XW) ⊕ (String × XW)) := (bVX (f_X10_requireSection x1 w) (fun w1 => (bI (f_X4_layerHolding 5 x1 w1) (fun r2 w2 => (if r2 = (-1) then (some (.inr ("java/util/NoSuchElementException", w2))) else (some (.inl (r2, w2))))))))
set_option maxRecDepth 100000 in
theorem W_X10_layerOf {g : GC} (hl : g.1.stackTraces = false) {x1 : Int32} {w : XW} : VE g cX10_layerOf 3 RX10 (some .int) [] (rmL 5 2 12) 2 12 oIX 0 0 0 [(0, .ref (g.2.1 + 0)), (1, .int x1)] [] w (f_X10_layerOf x1 w) := by
  unfold f_X10_layerOf
  refine v_aload_n dX10_layerOf_0 rfl 0 rfl ?_
  refine v_iload_n dX10_layerOf_1 rfl 1 rfl ?_
  refine v_callVvx (As := [.int x1]) rfl (fun _ => rfl) (by decide) (by decide) cv_X10_99 (S_X10_requireSection hl) tt_0 rfl rfl rfl (Nat.le_of_ble_eq_true rfl) dX10_layerOf_2 (CR_rm (by decide) (by decide) (by decide) (by decide)) (fun w1 => ?_)
  refine v_aload_n dX10_layerOf_5 rfl 0 rfl ?_
  refine v_getR fl_X10_10 tt_0 rfl dX10_layerOf_6 ?_
  refine v_getR fl_X10_127 tt_1 rfl dX10_layerOf_9 ?_
  refine v_iload_n dX10_layerOf_12 rfl 1 rfl ?_
  refine v_callVi (As := [.int x1]) cv_X10_136 (S_X4_layerHolding hl is4_5) tt_5 rfl rfl rfl (Nat.le_of_ble_eq_true rfl) dX10_layerOf_13 (CR_rm (by decide) (by decide) (by decide) (by decide)) (fun r2 w2 => ?_)
  refine v_istore_n dX10_layerOf_16 rfl (Nat.le_of_ble_eq_true rfl) rfl ?_
  refine v_iload_n dX10_layerOf_17 rfl 0 rfl ?_
  refine v_iconst (v := (-1)) dX10_layerOf_18 (by decide) ?_
  refine v_icmp_ne (tgt := 30) dX10_layerOf_19 (by decide) ?_ ?_
  · refine v_iload_n dX10_layerOf_30 rfl 0 rfl ?_
    exact v_iret dX10_layerOf_31 rfl rfl (by decide) (by decide)
  · exact v_throw (names := exN) rfl (by decide) exN_ok gw_499 gw_63 xg_X10_124 xo_X10_124 dX10_layerOf_22 dX10_layerOf_25 dX10_layerOf_26 dX10_layerOf_29 (CR_t1 _ _ _) (CR_t2 (Nat.le_of_ble_eq_true rfl) _ _ _) (by decide) (by decide) rfl (by decide) (by decide)
theorem S_X10_layerOf {g : GC} (hl : g.1.stackTraces = false) {x1 : Int32} {w : XW} : ∀ q, f_X10_layerOf x1 w = some q → MM g (.code yX10_layerOf cX10_layerOf 3 (some .int)) yX10_layerOf (rmL 5 2 12) 2 12 [.ref (g.2.1 + 0), .int x1] w (oIX q) := fun q hq => MM_of (own := RX10) hl (by decide) gw_494 rfl (Nat.le_of_ble_eq_true rfl) (W_X10_layerOf hl q hq) ⟨rfl, rfl⟩

theorem dX10_sectionIn_0 : decode cX10_sectionIn 0 = .ok (.aload_n 0, 1) := by decide +kernel
theorem dX10_sectionIn_1 : decode cX10_sectionIn 1 = .ok (.getfield 10, 3) := by decide +kernel
theorem dX10_sectionIn_4 : decode cX10_sectionIn 4 = .ok (.getfield 127, 3) := by decide +kernel
theorem dX10_sectionIn_7 : decode cX10_sectionIn 7 = .ok (.iload_n 1, 1) := by decide +kernel
theorem dX10_sectionIn_8 : decode cX10_sectionIn 8 = .ok (.invokevirtual 139, 3) := by decide +kernel
theorem dX10_sectionIn_11 : decode cX10_sectionIn 11 = .ok (.istore_n 2, 1) := by decide +kernel
theorem dX10_sectionIn_12 : decode cX10_sectionIn 12 = .ok (.iload_n 2, 1) := by decide +kernel
theorem dX10_sectionIn_13 : decode cX10_sectionIn 13 = .ok (.iconst (-1), 1) := by decide +kernel
theorem dX10_sectionIn_14 : decode cX10_sectionIn 14 = .ok (.if_icmp .ne 11, 3) := by decide +kernel
theorem dX10_sectionIn_17 : decode cX10_sectionIn 17 = .ok (.new 142, 3) := by decide +kernel
theorem dX10_sectionIn_20 : decode cX10_sectionIn 20 = .ok (.dup, 1) := by decide +kernel
theorem dX10_sectionIn_21 : decode cX10_sectionIn 21 = .ok (.invokespecial 144, 3) := by decide +kernel
theorem dX10_sectionIn_24 : decode cX10_sectionIn 24 = .ok (.athrow, 1) := by decide +kernel
theorem dX10_sectionIn_25 : decode cX10_sectionIn 25 = .ok (.iload_n 2, 1) := by decide +kernel
theorem dX10_sectionIn_26 : decode cX10_sectionIn 26 = .ok (.ireturn, 1) := by decide +kernel
def f_X10_sectionIn (x1 : Int32) (w : XW) : Option ((Int32 × XW) ⊕ (String × XW)) := (bI (f_X4_sectionAt 5 x1 w) (fun r1 w1 => (if r1 = (-1) then (some (.inr ("java/lang/IndexOutOfBoundsException", w1))) else (some (.inl (r1, w1))))))
set_option maxRecDepth 100000 in
theorem W_X10_sectionIn {g : GC} (hl : g.1.stackTraces = false) {x1 : Int32} {w : XW} : VE g cX10_sectionIn 3 RX10 (some .int) [] (rmL 4 1 6) 1 6 oIX 0 0 0 [(0, .ref (g.2.1 + 0)), (1, .int x1)] [] w (f_X10_sectionIn x1 w) := by
  unfold f_X10_sectionIn
  refine v_aload_n dX10_sectionIn_0 rfl 0 rfl ?_
  refine v_getR fl_X10_10 tt_0 rfl dX10_sectionIn_1 ?_
  refine v_getR fl_X10_127 tt_1 rfl dX10_sectionIn_4 ?_
  refine v_iload_n dX10_sectionIn_7 rfl 1 rfl ?_
  refine v_callVi (As := [.int x1]) cv_X10_139 (S_X4_sectionAt hl is4_5) tt_5 rfl rfl rfl (Nat.le_of_ble_eq_true rfl) dX10_sectionIn_8 (CR_rm (by decide) (by decide) (by decide) (by decide)) (fun r1 w1 => ?_)
  refine v_istore_n dX10_sectionIn_11 rfl (Nat.le_of_ble_eq_true rfl) rfl ?_
  refine v_iload_n dX10_sectionIn_12 rfl 0 rfl ?_
  refine v_iconst (v := (-1)) dX10_sectionIn_13 (by decide) ?_
  refine v_icmp_ne (tgt := 25) dX10_sectionIn_14 (by decide) ?_ ?_
  · refine v_iload_n dX10_sectionIn_25 rfl 0 rfl ?_
    exact v_iret dX10_sectionIn_26 rfl rfl (by decide) (by decide)
  · exact v_throw (names := exN) rfl (by decide) exN_ok gw_461 gw_60 xg_X10_142 xo_X10_142 dX10_sectionIn_17 dX10_sectionIn_20 dX10_sectionIn_21 dX10_sectionIn_24 (CR_t1 _ _ _) (CR_t2 (Nat.le_of_ble_eq_true rfl) _ _ _) (by decide) (by decide) rfl (by decide) (by decide)
theorem S_X10_sectionIn {g : GC} (hl : g.1.stackTraces = false) {x1 : Int32} {w : XW} : ∀ q, f_X10_sectionIn x1 w = some q → MM g (.code yX10_sectionIn cX10_sectionIn 3 (some .int)) yX10_sectionIn (rmL 4 1 6) 1 6 [.ref (g.2.1 + 0), .int x1] w (oIX q) := fun q hq => MM_of (own := RX10) hl (by decide) gw_520 rfl (Nat.le_of_ble_eq_true rfl) (W_X10_sectionIn hl q hq) ⟨rfl, rfl⟩

theorem dX10_canFold_0 : decode cX10_canFold 0 = .ok (.aload_n 0, 1) := by decide +kernel
theorem dX10_canFold_1 : decode cX10_canFold 1 = .ok (.getfield 10, 3) := by decide +kernel
theorem dX10_canFold_4 : decode cX10_canFold 4 = .ok (.iload_n 1, 1) := by decide +kernel
theorem dX10_canFold_5 : decode cX10_canFold 5 = .ok (.invokevirtual 145, 3) := by decide +kernel
theorem dX10_canFold_8 : decode cX10_canFold 8 = .ok (.istore_n 2, 1) := by decide +kernel
theorem dX10_canFold_9 : decode cX10_canFold 9 = .ok (.iload_n 2, 1) := by decide +kernel
theorem dX10_canFold_10 : decode cX10_canFold 10 = .ok (.iconst (-1), 1) := by decide +kernel
theorem dX10_canFold_11 : decode cX10_canFold 11 = .ok (.if_icmp .ne 11, 3) := by decide +kernel
theorem dX10_canFold_14 : decode cX10_canFold 14 = .ok (.new 142, 3) := by decide +kernel
theorem dX10_canFold_17 : decode cX10_canFold 17 = .ok (.dup, 1) := by decide +kernel
theorem dX10_canFold_18 : decode cX10_canFold 18 = .ok (.invokespecial 144, 3) := by decide +kernel
theorem dX10_canFold_21 : decode cX10_canFold 21 = .ok (.athrow, 1) := by decide +kernel
theorem dX10_canFold_22 : decode cX10_canFold 22 = .ok (.iload_n 2, 1) := by decide +kernel
theorem dX10_canFold_23 : decode cX10_canFold 23 = .ok (.ifCond .ne 7, 3) := by decide +kernel
theorem dX10_canFold_26 : decode cX10_canFold 26 = .ok (.iconst 1, 1) := by decide +kernel
theorem dX10_canFold_27 : decode cX10_canFold 27 = .ok (.goto 4, 3) := by decide +kernel
theorem dX10_canFold_30 : decode cX10_canFold 30 = .ok (.iconst 0, 1) := by decide +kernel
theorem dX10_canFold_31 : decode cX10_canFold 31 = .ok (.ireturn, 1) := by decide +kernel
def f_X10_canFold (x1 : Int32) (w : XW) : Option ((Int32 × XW) ⊕ (String × XW)) := (bI (f_X8_judgeFold 1 x1 w) (fun r1 w1 => (if r1 = (-1) then (some (.inr ("java/lang/IndexOutOfBoundsException", w1))) else (if r1 = 0 then (some (.inl (1, w1))) else (some (.inl (0, w1)))))))
set_option maxRecDepth 100000 in
theorem W_X10_canFold {g : GC} (hl : g.1.stackTraces = false) {x1 : Int32} {w : XW} : VE g cX10_canFold 3 RX10 (some .boolean) [] (rmL 8 1 6) 1 6 oIX 0 0 0 [(0, .ref (g.2.1 + 0)), (1, .int x1)] [] w (f_X10_canFold x1 w) := by
  unfold f_X10_canFold
  refine v_aload_n dX10_canFold_0 rfl 0 rfl ?_
  refine v_getR fl_X10_10 tt_0 rfl dX10_canFold_1 ?_
  refine v_iload_n dX10_canFold_4 rfl 1 rfl ?_
  refine v_callVi (As := [.int x1]) cv_X10_145 (S_X8_judgeFold hl is8_1) tt_1 rfl rfl rfl (Nat.le_of_ble_eq_true rfl) dX10_canFold_5 (CR_rm (by decide) (by decide) (by decide) (by decide)) (fun r1 w1 => ?_)
  refine v_istore_n dX10_canFold_8 rfl (Nat.le_of_ble_eq_true rfl) rfl ?_
  refine v_iload_n dX10_canFold_9 rfl 0 rfl ?_
  refine v_iconst (v := (-1)) dX10_canFold_10 (by decide) ?_
  refine v_icmp_ne (tgt := 22) dX10_canFold_11 (by decide) ?_ ?_
  · refine v_iload_n dX10_canFold_22 rfl 0 rfl ?_
    refine v_if_ne (tgt := 30) dX10_canFold_23 (by decide) ?_ ?_
    · refine v_iconst (v := 0) dX10_canFold_30 (by decide) ?_
      exact v_zret dX10_canFold_31 rfl rfl rfl (by decide) (by decide)
    · refine v_iconst (v := 1) dX10_canFold_26 (by decide) ?_
      refine v_goto (tgt := 31) dX10_canFold_27 (by decide) ?_
      exact v_zret dX10_canFold_31 rfl rfl rfl (by decide) (by decide)
  · exact v_throw (names := exN) rfl (by decide) exN_ok gw_461 gw_60 xg_X10_142 xo_X10_142 dX10_canFold_14 dX10_canFold_17 dX10_canFold_18 dX10_canFold_21 (CR_t1 _ _ _) (CR_t2 (Nat.le_of_ble_eq_true rfl) _ _ _) (by decide) (by decide) rfl (by decide) (by decide)
theorem S_X10_canFold {g : GC} (hl : g.1.stackTraces = false) {x1 : Int32} {w : XW} : ∀ q, f_X10_canFold x1 w = some q → MM g (.code yX10_canFold cX10_canFold 3 (some .boolean)) yX10_canFold (rmL 8 1 6) 1 6 [.ref (g.2.1 + 0), .int x1] w (oIX q) := fun q hq => MM_of (own := RX10) hl (by decide) gw_531 rfl (Nat.le_of_ble_eq_true rfl) (W_X10_canFold hl q hq) ⟨rfl, rfl⟩

theorem dX10_completions_0 : decode cX10_completions 0 = .ok (.aload_n 0, 1) := by decide +kernel
theorem dX10_completions_1 : decode cX10_completions 1 = .ok (.getfield 39, 3) := by decide +kernel
theorem dX10_completions_4 : decode cX10_completions 4 = .ok (.aload_n 0, 1) := by decide +kernel
theorem dX10_completions_5 : decode cX10_completions 5 = .ok (.getfield 10, 3) := by decide +kernel
theorem dX10_completions_8 : decode cX10_completions 8 = .ok (.getfield 127, 3) := by decide +kernel
theorem dX10_completions_11 : decode cX10_completions 11 = .ok (.aload_n 0, 1) := by decide +kernel
theorem dX10_completions_12 : decode cX10_completions 12 = .ok (.getfield 10, 3) := by decide +kernel
theorem dX10_completions_15 : decode cX10_completions 15 = .ok (.getfield 90, 3) := by decide +kernel
theorem dX10_completions_18 : decode cX10_completions 18 = .ok (.getfield 94, 3) := by decide +kernel
theorem dX10_completions_21 : decode cX10_completions 21 = .ok (.invokevirtual 148, 3) := by decide +kernel
theorem dX10_completions_24 : decode cX10_completions 24 = .ok (.ireturn, 1) := by decide +kernel
def f_X10_completions (w : XW) : Option (Int32 × XW) := (bI (f_X2_countByFolding 5 (w.1 2 0) w) (fun r1 w1 => (some (r1, w1))))
set_option maxRecDepth 100000 in
theorem W_X10_completions {g : GC} (hl : g.1.stackTraces = false) {w : XW} : VE g cX10_completions 1 RX10 (some .int) [] (rmL 27 0 0) 0 0 oI 0 0 0 [(0, .ref (g.2.1 + 0))] [] w (f_X10_completions  w) := by
  unfold f_X10_completions
  refine v_aload_n dX10_completions_0 rfl 0 rfl ?_
  refine v_getR fl_X10_39 tt_0 rfl dX10_completions_1 ?_
  refine v_aload_n dX10_completions_4 rfl 0 rfl ?_
  refine v_getR fl_X10_10 tt_0 rfl dX10_completions_5 ?_
  refine v_getR fl_X10_127 tt_1 rfl dX10_completions_8 ?_
  refine v_aload_n dX10_completions_11 rfl 0 rfl ?_
  refine v_getR fl_X10_10 tt_0 rfl dX10_completions_12 ?_
  refine v_getR fl_X10_90 tt_1 rfl dX10_completions_15 ?_
  refine v_getI fl_X10_94 tt_2 rfl dX10_completions_18 ?_
  refine v_callVi (As := [.ref (g.2.1 + 5), .int (w.1 2 0)]) cv_X10_148 (S_X2_countByFolding hl is4_5) tt_128 rfl rfl rfl (Nat.le_of_ble_eq_true rfl) dX10_completions_21 (CR_rm (by decide) (by decide) (by decide) (by decide)) (fun r1 w1 => ?_)
  exact v_iret dX10_completions_24 rfl rfl (by decide) (by decide)
theorem S_X10_completions {g : GC} (hl : g.1.stackTraces = false) {w : XW} : ∀ q, f_X10_completions  w = some q → MM g (.code yX10_completions cX10_completions 1 (some .int)) yX10_completions (rmL 27 0 0) 0 0 [.ref (g.2.1 + 0)] w (oI q) := fun q hq => MM_of (own := RX10) hl (by decide) gw_1602 rfl (Nat.le_of_ble_eq_true rfl) (W_X10_completions hl q hq) ⟨rfl, rfl⟩

theorem dX10_completionsByOrders_0 : decode cX10_completionsByOrders 0 = .ok (.aload_n 0, 1) := by decide +kernel
theorem dX10_completionsByOrders_1 : decode cX10_completionsByOrders 1 = .ok (.getfield 39, 3) := by decide +kernel
theorem dX10_completionsByOrders_4 : decode cX10_completionsByOrders 4 = .ok (.aload_n 0, 1) := by decide +kernel
theorem dX10_completionsByOrders_5 : decode cX10_completionsByOrders 5 = .ok (.getfield 10, 3) := by decide +kernel
theorem dX10_completionsByOrders_8 : decode cX10_completionsByOrders 8 = .ok (.getfield 127, 3) := by decide +kernel
theorem dX10_completionsByOrders_11 : decode cX10_completionsByOrders 11 = .ok (.aload_n 0, 1) := by decide +kernel
theorem dX10_completionsByOrders_12 : decode cX10_completionsByOrders 12 = .ok (.getfield 10, 3) := by decide +kernel
theorem dX10_completionsByOrders_15 : decode cX10_completionsByOrders 15 = .ok (.getfield 90, 3) := by decide +kernel
theorem dX10_completionsByOrders_18 : decode cX10_completionsByOrders 18 = .ok (.getfield 94, 3) := by decide +kernel
theorem dX10_completionsByOrders_21 : decode cX10_completionsByOrders 21 = .ok (.invokevirtual 152, 3) := by decide +kernel
theorem dX10_completionsByOrders_24 : decode cX10_completionsByOrders 24 = .ok (.ireturn, 1) := by decide +kernel
def f_X10_completionsByOrders (w : XW) : Option (Int32 × XW) := (bI (f_X2_countByOrders 5 (w.1 2 0) w) (fun r1 w1 => (some (r1, w1))))
set_option maxRecDepth 100000 in
theorem W_X10_completionsByOrders {g : GC} (hl : g.1.stackTraces = false) {w : XW} : VE g cX10_completionsByOrders 1 RX10 (some .int) [] (rmL 27 0 0) 0 0 oI 0 0 0 [(0, .ref (g.2.1 + 0))] [] w (f_X10_completionsByOrders  w) := by
  unfold f_X10_completionsByOrders
  refine v_aload_n dX10_completionsByOrders_0 rfl 0 rfl ?_
  refine v_getR fl_X10_39 tt_0 rfl dX10_completionsByOrders_1 ?_
  refine v_aload_n dX10_completionsByOrders_4 rfl 0 rfl ?_
  refine v_getR fl_X10_10 tt_0 rfl dX10_completionsByOrders_5 ?_
  refine v_getR fl_X10_127 tt_1 rfl dX10_completionsByOrders_8 ?_
  refine v_aload_n dX10_completionsByOrders_11 rfl 0 rfl ?_
  refine v_getR fl_X10_10 tt_0 rfl dX10_completionsByOrders_12 ?_
  refine v_getR fl_X10_90 tt_1 rfl dX10_completionsByOrders_15 ?_
  refine v_getI fl_X10_94 tt_2 rfl dX10_completionsByOrders_18 ?_
  refine v_callVi (As := [.ref (g.2.1 + 5), .int (w.1 2 0)]) cv_X10_152 (S_X2_countByOrders hl is4_5) tt_128 rfl rfl rfl (Nat.le_of_ble_eq_true rfl) dX10_completionsByOrders_21 (CR_rm (by decide) (by decide) (by decide) (by decide)) (fun r1 w1 => ?_)
  exact v_iret dX10_completionsByOrders_24 rfl rfl (by decide) (by decide)
theorem S_X10_completionsByOrders {g : GC} (hl : g.1.stackTraces = false) {w : XW} : ∀ q, f_X10_completionsByOrders  w = some q → MM g (.code yX10_completionsByOrders cX10_completionsByOrders 1 (some .int)) yX10_completionsByOrders (rmL 27 0 0) 0 0 [.ref (g.2.1 + 0)] w (oI q) := fun q hq => MM_of (own := RX10) hl (by decide) gw_1623 rfl (Nat.le_of_ble_eq_true rfl) (W_X10_completionsByOrders hl q hq) ⟨rfl, rfl⟩

theorem dX10_layPipe_0 : decode cX10_layPipe 0 = .ok (.aload_n 0, 1) := by decide +kernel
theorem dX10_layPipe_1 : decode cX10_layPipe 1 = .ok (.bipush 6, 2) := by decide +kernel
theorem dX10_layPipe_3 : decode cX10_layPipe 3 = .ok (.iload_n 1, 1) := by decide +kernel
theorem dX10_layPipe_4 : decode cX10_layPipe 4 = .ok (.iload_n 2, 1) := by decide +kernel
theorem dX10_layPipe_5 : decode cX10_layPipe 5 = .ok (.iload_n 3, 1) := by decide +kernel
theorem dX10_layPipe_6 : decode cX10_layPipe 6 = .ok (.invokevirtual 86, 3) := by decide +kernel
theorem dX10_layPipe_9 : decode cX10_layPipe 9 = .ok (.ireturn, 1) := by decide +kernel
def f_X10_layPipe (x1 : Int32) (x2 : Int32) (x3 : Int32) (w : XW) : Option ((Int32 × XW) ⊕ (String × XW)) := (bIX (f_X10_change 6 x1 x2 x3 w) (fun r1 w1 => (some (.inl (r1, w1)))))
set_option maxRecDepth 100000 in
theorem W_X10_layPipe {g : GC} (hl : g.1.stackTraces = false) {x1 : Int32} {x2 : Int32} {x3 : Int32} {w : XW} : VE g cX10_layPipe 4 RX10 (some .int) [] (rmL 10 1 6) 1 6 oIX 0 0 0 [(0, .ref (g.2.1 + 0)), (1, .int x1), (2, .int x2), (3, .int x3)] [] w (f_X10_layPipe x1 x2 x3 w) := by
  unfold f_X10_layPipe
  refine v_aload_n dX10_layPipe_0 rfl 0 rfl ?_
  refine v_bipush (v := 6) dX10_layPipe_1 (by decide) ?_
  refine v_iload_n dX10_layPipe_3 rfl 1 rfl ?_
  refine v_iload_n dX10_layPipe_4 rfl 2 rfl ?_
  refine v_iload_n dX10_layPipe_5 rfl 3 rfl ?_
  refine v_callVix (As := [.int 6, .int x1, .int x2, .int x3]) rfl (fun _ => rfl) (by decide) (by decide) cv_X10_86 (S_X10_change hl) tt_0 rfl rfl rfl (Nat.le_of_ble_eq_true rfl) dX10_layPipe_6 (CR_rm (by decide) (by decide) (by decide) (by decide)) (fun r1 w1 => ?_)
  exact v_iret dX10_layPipe_9 rfl rfl (by decide) (by decide)
theorem S_X10_layPipe {g : GC} (hl : g.1.stackTraces = false) {x1 : Int32} {x2 : Int32} {x3 : Int32} {w : XW} : ∀ q, f_X10_layPipe x1 x2 x3 w = some q → MM g (.code yX10_layPipe cX10_layPipe 4 (some .int)) yX10_layPipe (rmL 10 1 6) 1 6 [.ref (g.2.1 + 0), .int x1, .int x2, .int x3] w (oIX q) := fun q hq => MM_of (own := RX10) hl (by decide) gw_912 rfl (Nat.le_of_ble_eq_true rfl) (W_X10_layPipe hl q hq) ⟨rfl, rfl⟩

theorem dX10_removePipe_0 : decode cX10_removePipe 0 = .ok (.aload_n 0, 1) := by decide +kernel
theorem dX10_removePipe_1 : decode cX10_removePipe 1 = .ok (.bipush 7, 2) := by decide +kernel
theorem dX10_removePipe_3 : decode cX10_removePipe 3 = .ok (.iload_n 1, 1) := by decide +kernel
theorem dX10_removePipe_4 : decode cX10_removePipe 4 = .ok (.iconst 0, 1) := by decide +kernel
theorem dX10_removePipe_5 : decode cX10_removePipe 5 = .ok (.iconst 0, 1) := by decide +kernel
theorem dX10_removePipe_6 : decode cX10_removePipe 6 = .ok (.invokevirtual 86, 3) := by decide +kernel
theorem dX10_removePipe_9 : decode cX10_removePipe 9 = .ok (.ireturn, 1) := by decide +kernel
def f_X10_removePipe (x1 : Int32) (w : XW) : Option ((Int32 × XW) ⊕ (String × XW)) := (bIX (f_X10_change 7 x1 0 0 w) (fun r1 w1 => (some (.inl (r1, w1)))))
set_option maxRecDepth 100000 in
theorem W_X10_removePipe {g : GC} (hl : g.1.stackTraces = false) {x1 : Int32} {w : XW} : VE g cX10_removePipe 2 RX10 (some .int) [] (rmL 10 1 6) 1 6 oIX 0 0 0 [(0, .ref (g.2.1 + 0)), (1, .int x1)] [] w (f_X10_removePipe x1 w) := by
  unfold f_X10_removePipe
  refine v_aload_n dX10_removePipe_0 rfl 0 rfl ?_
  refine v_bipush (v := 7) dX10_removePipe_1 (by decide) ?_
  refine v_iload_n dX10_removePipe_3 rfl 1 rfl ?_
  refine v_iconst (v := 0) dX10_removePipe_4 (by decide) ?_
  refine v_iconst (v := 0) dX10_removePipe_5 (by decide) ?_
  refine v_callVix (As := [.int 7, .int x1, .int 0, .int 0]) rfl (fun _ => rfl) (by decide) (by decide) cv_X10_86 (S_X10_change hl) tt_0 rfl rfl rfl (Nat.le_of_ble_eq_true rfl) dX10_removePipe_6 (CR_rm (by decide) (by decide) (by decide) (by decide)) (fun r1 w1 => ?_)
  exact v_iret dX10_removePipe_9 rfl rfl (by decide) (by decide)
theorem S_X10_removePipe {g : GC} (hl : g.1.stackTraces = false) {x1 : Int32} {w : XW} : ∀ q, f_X10_removePipe x1 w = some q → MM g (.code yX10_removePipe cX10_removePipe 2 (some .int)) yX10_removePipe (rmL 10 1 6) 1 6 [.ref (g.2.1 + 0), .int x1] w (oIX q) := fun q hq => MM_of (own := RX10) hl (by decide) gw_919 rfl (Nat.le_of_ble_eq_true rfl) (W_X10_removePipe hl q hq) ⟨rfl, rfl⟩

theorem dX10_breakPipe_0 : decode cX10_breakPipe 0 = .ok (.aload_n 0, 1) := by decide +kernel
theorem dX10_breakPipe_1 : decode cX10_breakPipe 1 = .ok (.bipush 8, 2) := by decide +kernel
theorem dX10_breakPipe_3 : decode cX10_breakPipe 3 = .ok (.iload_n 1, 1) := by decide +kernel
theorem dX10_breakPipe_4 : decode cX10_breakPipe 4 = .ok (.iconst 0, 1) := by decide +kernel
theorem dX10_breakPipe_5 : decode cX10_breakPipe 5 = .ok (.iconst 0, 1) := by decide +kernel
theorem dX10_breakPipe_6 : decode cX10_breakPipe 6 = .ok (.invokevirtual 86, 3) := by decide +kernel
theorem dX10_breakPipe_9 : decode cX10_breakPipe 9 = .ok (.ireturn, 1) := by decide +kernel
def f_X10_breakPipe (x1 : Int32) (w : XW) : Option ((Int32 × XW) ⊕ (String × XW)) := (bIX (f_X10_change 8 x1 0 0 w) (fun r1 w1 => (some (.inl (r1, w1)))))
set_option maxRecDepth 100000 in
theorem W_X10_breakPipe {g : GC} (hl : g.1.stackTraces = false) {x1 : Int32} {w : XW} : VE g cX10_breakPipe 2 RX10 (some .int) [] (rmL 10 1 6) 1 6 oIX 0 0 0 [(0, .ref (g.2.1 + 0)), (1, .int x1)] [] w (f_X10_breakPipe x1 w) := by
  unfold f_X10_breakPipe
  refine v_aload_n dX10_breakPipe_0 rfl 0 rfl ?_
  refine v_bipush (v := 8) dX10_breakPipe_1 (by decide) ?_
  refine v_iload_n dX10_breakPipe_3 rfl 1 rfl ?_
  refine v_iconst (v := 0) dX10_breakPipe_4 (by decide) ?_
  refine v_iconst (v := 0) dX10_breakPipe_5 (by decide) ?_
  refine v_callVix (As := [.int 8, .int x1, .int 0, .int 0]) rfl (fun _ => rfl) (by decide) (by decide) cv_X10_86 (S_X10_change hl) tt_0 rfl rfl rfl (Nat.le_of_ble_eq_true rfl) dX10_breakPipe_6 (CR_rm (by decide) (by decide) (by decide) (by decide)) (fun r1 w1 => ?_)
  exact v_iret dX10_breakPipe_9 rfl rfl (by decide) (by decide)
theorem S_X10_breakPipe {g : GC} (hl : g.1.stackTraces = false) {x1 : Int32} {w : XW} : ∀ q, f_X10_breakPipe x1 w = some q → MM g (.code yX10_breakPipe cX10_breakPipe 2 (some .int)) yX10_breakPipe (rmL 10 1 6) 1 6 [.ref (g.2.1 + 0), .int x1] w (oIX q) := fun q hq => MM_of (own := RX10) hl (by decide) gw_926 rfl (Nat.le_of_ble_eq_true rfl) (W_X10_breakPipe hl q hq) ⟨rfl, rfl⟩

theorem dX10_mendPipe_0 : decode cX10_mendPipe 0 = .ok (.aload_n 0, 1) := by decide +kernel
theorem dX10_mendPipe_1 : decode cX10_mendPipe 1 = .ok (.bipush 9, 2) := by decide +kernel
theorem dX10_mendPipe_3 : decode cX10_mendPipe 3 = .ok (.iload_n 1, 1) := by decide +kernel
theorem dX10_mendPipe_4 : decode cX10_mendPipe 4 = .ok (.iconst 0, 1) := by decide +kernel
theorem dX10_mendPipe_5 : decode cX10_mendPipe 5 = .ok (.iconst 0, 1) := by decide +kernel
theorem dX10_mendPipe_6 : decode cX10_mendPipe 6 = .ok (.invokevirtual 86, 3) := by decide +kernel
theorem dX10_mendPipe_9 : decode cX10_mendPipe 9 = .ok (.ireturn, 1) := by decide +kernel
def f_X10_mendPipe (x1 : Int32) (w : XW) : Option ((Int32 × XW) ⊕ (String × XW)) := (bIX (f_X10_change 9 x1 0 0 w) (fun r1 w1 => (some (.inl (r1, w1)))))
set_option maxRecDepth 100000 in
theorem W_X10_mendPipe {g : GC} (hl : g.1.stackTraces = false) {x1 : Int32} {w : XW} : VE g cX10_mendPipe 2 RX10 (some .int) [] (rmL 10 1 6) 1 6 oIX 0 0 0 [(0, .ref (g.2.1 + 0)), (1, .int x1)] [] w (f_X10_mendPipe x1 w) := by
  unfold f_X10_mendPipe
  refine v_aload_n dX10_mendPipe_0 rfl 0 rfl ?_
  refine v_bipush (v := 9) dX10_mendPipe_1 (by decide) ?_
  refine v_iload_n dX10_mendPipe_3 rfl 1 rfl ?_
  refine v_iconst (v := 0) dX10_mendPipe_4 (by decide) ?_
  refine v_iconst (v := 0) dX10_mendPipe_5 (by decide) ?_
  refine v_callVix (As := [.int 9, .int x1, .int 0, .int 0]) rfl (fun _ => rfl) (by decide) (by decide) cv_X10_86 (S_X10_change hl) tt_0 rfl rfl rfl (Nat.le_of_ble_eq_true rfl) dX10_mendPipe_6 (CR_rm (by decide) (by decide) (by decide) (by decide)) (fun r1 w1 => ?_)
  exact v_iret dX10_mendPipe_9 rfl rfl (by decide) (by decide)
theorem S_X10_mendPipe {g : GC} (hl : g.1.stackTraces = false) {x1 : Int32} {w : XW} : ∀ q, f_X10_mendPipe x1 w = some q → MM g (.code yX10_mendPipe cX10_mendPipe 2 (some .int)) yX10_mendPipe (rmL 10 1 6) 1 6 [.ref (g.2.1 + 0), .int x1] w (oIX q) := fun q hq => MM_of (own := RX10) hl (by decide) gw_933 rfl (Nat.le_of_ble_eq_true rfl) (W_X10_mendPipe hl q hq) ⟨rfl, rfl⟩

theorem dX10_pipeCount_0 : decode cX10_pipeCount 0 = .ok (.aload_n 0, 1) := by decide +kernel
theorem dX10_pipeCount_1 : decode cX10_pipeCount 1 = .ok (.getfield 10, 3) := by decide +kernel
theorem dX10_pipeCount_4 : decode cX10_pipeCount 4 = .ok (.getfield 155, 3) := by decide +kernel
theorem dX10_pipeCount_7 : decode cX10_pipeCount 7 = .ok (.getfield 159, 3) := by decide +kernel
theorem dX10_pipeCount_10 : decode cX10_pipeCount 10 = .ok (.ireturn, 1) := by decide +kernel
def f_X10_pipeCount (w : XW) : Option (Int32 × XW) := (some ((w.1 7 0), w))
set_option maxRecDepth 100000 in
theorem W_X10_pipeCount {g : GC} (hl : g.1.stackTraces = false) {w : XW} : VE g cX10_pipeCount 1 RX10 (some .int) [] (rmL 3 0 0) 0 0 oI 0 0 0 [(0, .ref (g.2.1 + 0))] [] w (f_X10_pipeCount  w) := by
  unfold f_X10_pipeCount
  refine v_aload_n dX10_pipeCount_0 rfl 0 rfl ?_
  refine v_getR fl_X10_10 tt_0 rfl dX10_pipeCount_1 ?_
  refine v_getR fl_X10_155 tt_1 rfl dX10_pipeCount_4 ?_
  refine v_getI fl_X10_159 tt_7 rfl dX10_pipeCount_7 ?_
  exact v_iret dX10_pipeCount_10 rfl rfl (by decide) (by decide)
theorem S_X10_pipeCount {g : GC} (hl : g.1.stackTraces = false) {w : XW} : ∀ q, f_X10_pipeCount  w = some q → MM g (.code yX10_pipeCount cX10_pipeCount 1 (some .int)) yX10_pipeCount (rmL 3 0 0) 0 0 [.ref (g.2.1 + 0)] w (oI q) := fun q hq => MM_of (own := RX10) hl (by decide) gw_350 rfl (Nat.le_of_ble_eq_true rfl) (W_X10_pipeCount hl q hq) ⟨rfl, rfl⟩

theorem dX10_requirePipe_0 : decode cX10_requirePipe 0 = .ok (.aload_n 0, 1) := by decide +kernel
theorem dX10_requirePipe_1 : decode cX10_requirePipe 1 = .ok (.getfield 10, 3) := by decide +kernel
theorem dX10_requirePipe_4 : decode cX10_requirePipe 4 = .ok (.getfield 155, 3) := by decide +kernel
theorem dX10_requirePipe_7 : decode cX10_requirePipe 7 = .ok (.iload_n 1, 1) := by decide +kernel
theorem dX10_requirePipe_8 : decode cX10_requirePipe 8 = .ok (.invokevirtual 299, 3) := by decide +kernel
theorem dX10_requirePipe_11 : decode cX10_requirePipe 11 = .ok (.ifCond .ne 11, 3) := by decide +kernel
theorem dX10_requirePipe_14 : decode cX10_requirePipe 14 = .ok (.new 142, 3) := by decide +kernel
theorem dX10_requirePipe_17 : decode cX10_requirePipe 17 = .ok (.dup, 1) := by decide +kernel
theorem dX10_requirePipe_18 : decode cX10_requirePipe 18 = .ok (.invokespecial 144, 3) := by decide +kernel
theorem dX10_requirePipe_21 : decode cX10_requirePipe 21 = .ok (.athrow, 1) := by decide +kernel
theorem dX10_requirePipe_22 : decode cX10_requirePipe 22 = .ok (.return_, 1) := by decide +kernel
def f_X10_requirePipe (x1 : Int32) (w : XW) : Option ((XW) ⊕ (String × XW)) := (bI (f_X5_has 7 x1 w) (fun r1 w1 => (if r1 = 0 then (some (.inr ("java/lang/IndexOutOfBoundsException", w1))) else (some (.inl w1)))))
set_option maxRecDepth 100000 in
theorem W_X10_requirePipe {g : GC} (hl : g.1.stackTraces = false) {x1 : Int32} {w : XW} : VE g cX10_requirePipe 2 RX10 none [] (rmL 4 1 6) 1 6 oVX 0 0 0 [(0, .ref (g.2.1 + 0)), (1, .int x1)] [] w (f_X10_requirePipe x1 w) := by
  unfold f_X10_requirePipe
  refine v_aload_n dX10_requirePipe_0 rfl 0 rfl ?_
  refine v_getR fl_X10_10 tt_0 rfl dX10_requirePipe_1 ?_
  refine v_getR fl_X10_155 tt_1 rfl dX10_requirePipe_4 ?_
  refine v_iload_n dX10_requirePipe_7 rfl 1 rfl ?_
  refine v_callVi (As := [.int x1]) cv_X10_299 (S_X5_has hl is5_7) tt_7 rfl rfl rfl (Nat.le_of_ble_eq_true rfl) dX10_requirePipe_8 (CR_rm (by decide) (by decide) (by decide) (by decide)) (fun r1 w1 => ?_)
  refine v_if_ne (tgt := 22) dX10_requirePipe_11 (by decide) ?_ ?_
  · exact v_vret dX10_requirePipe_22 rfl rfl (by decide) (by decide)
  · exact v_throw (names := exN) rfl (by decide) exN_ok gw_461 gw_60 xg_X10_142 xo_X10_142 dX10_requirePipe_14 dX10_requirePipe_17 dX10_requirePipe_18 dX10_requirePipe_21 (CR_t1 _ _ _) (CR_t2 (Nat.le_of_ble_eq_true rfl) _ _ _) (by decide) (by decide) rfl (by decide) (by decide)
theorem S_X10_requirePipe {g : GC} (hl : g.1.stackTraces = false) {x1 : Int32} {w : XW} : ∀ q, f_X10_requirePipe x1 w = some q → MM g (.code yX10_requirePipe cX10_requirePipe 2 none) yX10_requirePipe (rmL 4 1 6) 1 6 [.ref (g.2.1 + 0), .int x1] w (oVX q) := fun q hq => MM_of (own := RX10) hl (by decide) gw_565 rfl (Nat.le_of_ble_eq_true rfl) (W_X10_requirePipe hl q hq) ⟨rfl, rfl⟩

theorem dX10_pipeFrom_0 : decode cX10_pipeFrom 0 = .ok (.aload_n 0, 1) := by decide +kernel
theorem dX10_pipeFrom_1 : decode cX10_pipeFrom 1 = .ok (.iload_n 1, 1) := by decide +kernel
theorem dX10_pipeFrom_2 : decode cX10_pipeFrom 2 = .ok (.invokevirtual 162, 3) := by decide +kernel
theorem dX10_pipeFrom_5 : decode cX10_pipeFrom 5 = .ok (.aload_n 0, 1) := by decide +kernel
theorem dX10_pipeFrom_6 : decode cX10_pipeFrom 6 = .ok (.getfield 10, 3) := by decide +kernel
theorem dX10_pipeFrom_9 : decode cX10_pipeFrom 9 = .ok (.getfield 155, 3) := by decide +kernel
theorem dX10_pipeFrom_12 : decode cX10_pipeFrom 12 = .ok (.iload_n 1, 1) := by decide +kernel
theorem dX10_pipeFrom_13 : decode cX10_pipeFrom 13 = .ok (.invokevirtual 165, 3) := by decide +kernel
theorem dX10_pipeFrom_16 : decode cX10_pipeFrom 16 = .ok (.ireturn, 1) := by decide +kernel
def f_X10_pipeFrom (x1 : Int32) (w : XW) : Option ((Int32 × XW) ⊕ (String × XW)) := (bVX (f_X10_requirePipe x1 w) (fun w1 => (bI (f_X5_startOf 7 x1 w1) (fun r2 w2 => (some (.inl (r2, w2)))))))
set_option maxRecDepth 100000 in
theorem W_X10_pipeFrom {g : GC} (hl : g.1.stackTraces = false) {x1 : Int32} {w : XW} : VE g cX10_pipeFrom 2 RX10 (some .int) [] (rmL 5 1 6) 1 6 oIX 0 0 0 [(0, .ref (g.2.1 + 0)), (1, .int x1)] [] w (f_X10_pipeFrom x1 w) := by
  unfold f_X10_pipeFrom
  refine v_aload_n dX10_pipeFrom_0 rfl 0 rfl ?_
  refine v_iload_n dX10_pipeFrom_1 rfl 1 rfl ?_
  refine v_callVvx (As := [.int x1]) rfl (fun _ => rfl) (by decide) (by decide) cv_X10_162 (S_X10_requirePipe hl) tt_0 rfl rfl rfl (Nat.le_of_ble_eq_true rfl) dX10_pipeFrom_2 (CR_rm (by decide) (by decide) (by decide) (by decide)) (fun w1 => ?_)
  refine v_aload_n dX10_pipeFrom_5 rfl 0 rfl ?_
  refine v_getR fl_X10_10 tt_0 rfl dX10_pipeFrom_6 ?_
  refine v_getR fl_X10_155 tt_1 rfl dX10_pipeFrom_9 ?_
  refine v_iload_n dX10_pipeFrom_12 rfl 1 rfl ?_
  refine v_callVi (As := [.int x1]) cv_X10_165 (S_X5_startOf hl is5_7) tt_7 rfl rfl rfl (Nat.le_of_ble_eq_true rfl) dX10_pipeFrom_13 (CR_rm (by decide) (by decide) (by decide) (by decide)) (fun r2 w2 => ?_)
  exact v_iret dX10_pipeFrom_16 rfl rfl (by decide) (by decide)
theorem S_X10_pipeFrom {g : GC} (hl : g.1.stackTraces = false) {x1 : Int32} {w : XW} : ∀ q, f_X10_pipeFrom x1 w = some q → MM g (.code yX10_pipeFrom cX10_pipeFrom 2 (some .int)) yX10_pipeFrom (rmL 5 1 6) 1 6 [.ref (g.2.1 + 0), .int x1] w (oIX q) := fun q hq => MM_of (own := RX10) hl (by decide) gw_1383 rfl (Nat.le_of_ble_eq_true rfl) (W_X10_pipeFrom hl q hq) ⟨rfl, rfl⟩

theorem dX10_pipeTo_0 : decode cX10_pipeTo 0 = .ok (.aload_n 0, 1) := by decide +kernel
theorem dX10_pipeTo_1 : decode cX10_pipeTo 1 = .ok (.iload_n 1, 1) := by decide +kernel
theorem dX10_pipeTo_2 : decode cX10_pipeTo 2 = .ok (.invokevirtual 162, 3) := by decide +kernel
theorem dX10_pipeTo_5 : decode cX10_pipeTo 5 = .ok (.aload_n 0, 1) := by decide +kernel
theorem dX10_pipeTo_6 : decode cX10_pipeTo 6 = .ok (.getfield 10, 3) := by decide +kernel
theorem dX10_pipeTo_9 : decode cX10_pipeTo 9 = .ok (.getfield 155, 3) := by decide +kernel
theorem dX10_pipeTo_12 : decode cX10_pipeTo 12 = .ok (.iload_n 1, 1) := by decide +kernel
theorem dX10_pipeTo_13 : decode cX10_pipeTo 13 = .ok (.invokevirtual 168, 3) := by decide +kernel
theorem dX10_pipeTo_16 : decode cX10_pipeTo 16 = .ok (.ireturn, 1) := by decide +kernel
def f_X10_pipeTo (x1 : Int32) (w : XW) : Option ((Int32 × XW) ⊕ (String × XW)) := (bVX (f_X10_requirePipe x1 w) (fun w1 => (bI (f_X5_endOf 7 x1 w1) (fun r2 w2 => (some (.inl (r2, w2)))))))
set_option maxRecDepth 100000 in
theorem W_X10_pipeTo {g : GC} (hl : g.1.stackTraces = false) {x1 : Int32} {w : XW} : VE g cX10_pipeTo 2 RX10 (some .int) [] (rmL 5 1 6) 1 6 oIX 0 0 0 [(0, .ref (g.2.1 + 0)), (1, .int x1)] [] w (f_X10_pipeTo x1 w) := by
  unfold f_X10_pipeTo
  refine v_aload_n dX10_pipeTo_0 rfl 0 rfl ?_
  refine v_iload_n dX10_pipeTo_1 rfl 1 rfl ?_
  refine v_callVvx (As := [.int x1]) rfl (fun _ => rfl) (by decide) (by decide) cv_X10_162 (S_X10_requirePipe hl) tt_0 rfl rfl rfl (Nat.le_of_ble_eq_true rfl) dX10_pipeTo_2 (CR_rm (by decide) (by decide) (by decide) (by decide)) (fun w1 => ?_)
  refine v_aload_n dX10_pipeTo_5 rfl 0 rfl ?_
  refine v_getR fl_X10_10 tt_0 rfl dX10_pipeTo_6 ?_
  refine v_getR fl_X10_155 tt_1 rfl dX10_pipeTo_9 ?_
  refine v_iload_n dX10_pipeTo_12 rfl 1 rfl ?_
  refine v_callVi (As := [.int x1]) cv_X10_168 (S_X5_endOf hl is5_7) tt_7 rfl rfl rfl (Nat.le_of_ble_eq_true rfl) dX10_pipeTo_13 (CR_rm (by decide) (by decide) (by decide) (by decide)) (fun r2 w2 => ?_)
  exact v_iret dX10_pipeTo_16 rfl rfl (by decide) (by decide)
theorem S_X10_pipeTo {g : GC} (hl : g.1.stackTraces = false) {x1 : Int32} {w : XW} : ∀ q, f_X10_pipeTo x1 w = some q → MM g (.code yX10_pipeTo cX10_pipeTo 2 (some .int)) yX10_pipeTo (rmL 5 1 6) 1 6 [.ref (g.2.1 + 0), .int x1] w (oIX q) := fun q hq => MM_of (own := RX10) hl (by decide) gw_1392 rfl (Nat.le_of_ble_eq_true rfl) (W_X10_pipeTo hl q hq) ⟨rfl, rfl⟩

theorem dX10_capacity_0 : decode cX10_capacity 0 = .ok (.aload_n 0, 1) := by decide +kernel
theorem dX10_capacity_1 : decode cX10_capacity 1 = .ok (.iload_n 1, 1) := by decide +kernel
theorem dX10_capacity_2 : decode cX10_capacity 2 = .ok (.invokevirtual 162, 3) := by decide +kernel
theorem dX10_capacity_5 : decode cX10_capacity 5 = .ok (.aload_n 0, 1) := by decide +kernel
theorem dX10_capacity_6 : decode cX10_capacity 6 = .ok (.getfield 10, 3) := by decide +kernel
theorem dX10_capacity_9 : decode cX10_capacity 9 = .ok (.getfield 155, 3) := by decide +kernel
theorem dX10_capacity_12 : decode cX10_capacity 12 = .ok (.iload_n 1, 1) := by decide +kernel
theorem dX10_capacity_13 : decode cX10_capacity 13 = .ok (.invokevirtual 171, 3) := by decide +kernel
theorem dX10_capacity_16 : decode cX10_capacity 16 = .ok (.ireturn, 1) := by decide +kernel
def f_X10_capacity (x1 : Int32) (w : XW) : Option ((Int32 × XW) ⊕ (String × XW)) := (bVX (f_X10_requirePipe x1 w) (fun w1 => (bI (f_X5_widthOf 7 x1 w1) (fun r2 w2 => (some (.inl (r2, w2)))))))
set_option maxRecDepth 100000 in
theorem W_X10_capacity {g : GC} (hl : g.1.stackTraces = false) {x1 : Int32} {w : XW} : VE g cX10_capacity 2 RX10 (some .int) [] (rmL 5 1 6) 1 6 oIX 0 0 0 [(0, .ref (g.2.1 + 0)), (1, .int x1)] [] w (f_X10_capacity x1 w) := by
  unfold f_X10_capacity
  refine v_aload_n dX10_capacity_0 rfl 0 rfl ?_
  refine v_iload_n dX10_capacity_1 rfl 1 rfl ?_
  refine v_callVvx (As := [.int x1]) rfl (fun _ => rfl) (by decide) (by decide) cv_X10_162 (S_X10_requirePipe hl) tt_0 rfl rfl rfl (Nat.le_of_ble_eq_true rfl) dX10_capacity_2 (CR_rm (by decide) (by decide) (by decide) (by decide)) (fun w1 => ?_)
  refine v_aload_n dX10_capacity_5 rfl 0 rfl ?_
  refine v_getR fl_X10_10 tt_0 rfl dX10_capacity_6 ?_
  refine v_getR fl_X10_155 tt_1 rfl dX10_capacity_9 ?_
  refine v_iload_n dX10_capacity_12 rfl 1 rfl ?_
  refine v_callVi (As := [.int x1]) cv_X10_171 (S_X5_widthOf hl is5_7) tt_7 rfl rfl rfl (Nat.le_of_ble_eq_true rfl) dX10_capacity_13 (CR_rm (by decide) (by decide) (by decide) (by decide)) (fun r2 w2 => ?_)
  exact v_iret dX10_capacity_16 rfl rfl (by decide) (by decide)
theorem S_X10_capacity {g : GC} (hl : g.1.stackTraces = false) {x1 : Int32} {w : XW} : ∀ q, f_X10_capacity x1 w = some q → MM g (.code yX10_capacity cX10_capacity 2 (some .int)) yX10_capacity (rmL 5 1 6) 1 6 [.ref (g.2.1 + 0), .int x1] w (oIX q) := fun q hq => MM_of (own := RX10) hl (by decide) gw_561 rfl (Nat.le_of_ble_eq_true rfl) (W_X10_capacity hl q hq) ⟨rfl, rfl⟩

theorem dX10_isBroken_0 : decode cX10_isBroken 0 = .ok (.aload_n 0, 1) := by decide +kernel
theorem dX10_isBroken_1 : decode cX10_isBroken 1 = .ok (.iload_n 1, 1) := by decide +kernel
theorem dX10_isBroken_2 : decode cX10_isBroken 2 = .ok (.invokevirtual 162, 3) := by decide +kernel
theorem dX10_isBroken_5 : decode cX10_isBroken 5 = .ok (.aload_n 0, 1) := by decide +kernel
theorem dX10_isBroken_6 : decode cX10_isBroken 6 = .ok (.getfield 10, 3) := by decide +kernel
theorem dX10_isBroken_9 : decode cX10_isBroken 9 = .ok (.getfield 155, 3) := by decide +kernel
theorem dX10_isBroken_12 : decode cX10_isBroken 12 = .ok (.iload_n 1, 1) := by decide +kernel
theorem dX10_isBroken_13 : decode cX10_isBroken 13 = .ok (.invokevirtual 174, 3) := by decide +kernel
theorem dX10_isBroken_16 : decode cX10_isBroken 16 = .ok (.ireturn, 1) := by decide +kernel
def f_X10_isBroken (x1 : Int32) (w : XW) : Option ((Int32 × XW) ⊕ (String × XW)) := (bVX (f_X10_requirePipe x1 w) (fun w1 => (bI (f_X5_brokenAt 7 x1 w1) (fun r2 w2 => (if vp_nar .boolean r2 = r2 then (some (.inl (r2, w2))) else none)))))
set_option maxRecDepth 100000 in
theorem W_X10_isBroken {g : GC} (hl : g.1.stackTraces = false) {x1 : Int32} {w : XW} : VE g cX10_isBroken 2 RX10 (some .boolean) [] (rmL 5 1 6) 1 6 oIX 0 0 0 [(0, .ref (g.2.1 + 0)), (1, .int x1)] [] w (f_X10_isBroken x1 w) := by
  unfold f_X10_isBroken
  refine v_aload_n dX10_isBroken_0 rfl 0 rfl ?_
  refine v_iload_n dX10_isBroken_1 rfl 1 rfl ?_
  refine v_callVvx (As := [.int x1]) rfl (fun _ => rfl) (by decide) (by decide) cv_X10_162 (S_X10_requirePipe hl) tt_0 rfl rfl rfl (Nat.le_of_ble_eq_true rfl) dX10_isBroken_2 (CR_rm (by decide) (by decide) (by decide) (by decide)) (fun w1 => ?_)
  refine v_aload_n dX10_isBroken_5 rfl 0 rfl ?_
  refine v_getR fl_X10_10 tt_0 rfl dX10_isBroken_6 ?_
  refine v_getR fl_X10_155 tt_1 rfl dX10_isBroken_9 ?_
  refine v_iload_n dX10_isBroken_12 rfl 1 rfl ?_
  refine v_callVi (As := [.int x1]) cv_X10_174 (S_X5_brokenAt hl is5_7) tt_7 rfl rfl rfl (Nat.le_of_ble_eq_true rfl) dX10_isBroken_13 (CR_rm (by decide) (by decide) (by decide) (by decide)) (fun r2 w2 => ?_)
  refine v_guard (fun h3 => ?_)
  exact v_zret dX10_isBroken_16 rfl (narB_ok h3) rfl (by decide) (by decide)
theorem S_X10_isBroken {g : GC} (hl : g.1.stackTraces = false) {x1 : Int32} {w : XW} : ∀ q, f_X10_isBroken x1 w = some q → MM g (.code yX10_isBroken cX10_isBroken 2 (some .boolean)) yX10_isBroken (rmL 5 1 6) 1 6 [.ref (g.2.1 + 0), .int x1] w (oIX q) := fun q hq => MM_of (own := RX10) hl (by decide) gw_581 rfl (Nat.le_of_ble_eq_true rfl) (W_X10_isBroken hl q hq) ⟨rfl, rfl⟩

theorem dX10_greatestFlow_0 : decode cX10_greatestFlow 0 = .ok (.aload_n 0, 1) := by decide +kernel
theorem dX10_greatestFlow_1 : decode cX10_greatestFlow 1 = .ok (.aload_n 0, 1) := by decide +kernel
theorem dX10_greatestFlow_2 : decode cX10_greatestFlow 2 = .ok (.getfield 10, 3) := by decide +kernel
theorem dX10_greatestFlow_5 : decode cX10_greatestFlow 5 = .ok (.invokevirtual 178, 3) := by decide +kernel
theorem dX10_greatestFlow_8 : decode cX10_greatestFlow 8 = .ok (.invokevirtual 182, 3) := by decide +kernel
theorem dX10_greatestFlow_11 : decode cX10_greatestFlow 11 = .ok (.aload_n 0, 1) := by decide +kernel
theorem dX10_greatestFlow_12 : decode cX10_greatestFlow 12 = .ok (.getfield 32, 3) := by decide +kernel
theorem dX10_greatestFlow_15 : decode cX10_greatestFlow 15 = .ok (.aload_n 0, 1) := by decide +kernel
theorem dX10_greatestFlow_16 : decode cX10_greatestFlow 16 = .ok (.getfield 10, 3) := by decide +kernel
theorem dX10_greatestFlow_19 : decode cX10_greatestFlow 19 = .ok (.getfield 155, 3) := by decide +kernel
theorem dX10_greatestFlow_22 : decode cX10_greatestFlow 22 = .ok (.aload_n 0, 1) := by decide +kernel
theorem dX10_greatestFlow_23 : decode cX10_greatestFlow 23 = .ok (.getfield 10, 3) := by decide +kernel
theorem dX10_greatestFlow_26 : decode cX10_greatestFlow 26 = .ok (.getfield 90, 3) := by decide +kernel
theorem dX10_greatestFlow_29 : decode cX10_greatestFlow 29 = .ok (.getfield 94, 3) := by decide +kernel
theorem dX10_greatestFlow_32 : decode cX10_greatestFlow 32 = .ok (.iconst (-1), 1) := by decide +kernel
theorem dX10_greatestFlow_33 : decode cX10_greatestFlow 33 = .ok (.invokevirtual 185, 3) := by decide +kernel
theorem dX10_greatestFlow_36 : decode cX10_greatestFlow 36 = .ok (.ireturn, 1) := by decide +kernel
def f_X10_greatestFlow (w : XW) : Option ((Int32 × XW) ⊕ (String × XW)) := (bI (f_X8_judgeEnds 1 w) (fun r1 w1 => (bVX (f_X10_obey r1 w1) (fun w2 => (bI (f_X1_greatest 7 (w2.1 2 0) (-1) w2) (fun r3 w3 => (some (.inl (r3, w3)))))))))
set_option maxRecDepth 100000 in
theorem W_X10_greatestFlow {g : GC} (hl : g.1.stackTraces = false) {w : XW} : VE g cX10_greatestFlow 1 RX10 (some .int) [] (rmL 7 1 6) 1 6 oIX 0 0 0 [(0, .ref (g.2.1 + 0))] [] w (f_X10_greatestFlow  w) := by
  unfold f_X10_greatestFlow
  refine v_aload_n dX10_greatestFlow_0 rfl 0 rfl ?_
  refine v_aload_n dX10_greatestFlow_1 rfl 0 rfl ?_
  refine v_getR fl_X10_10 tt_0 rfl dX10_greatestFlow_2 ?_
  refine v_callVi (As := []) cv_X10_178 (S_X8_judgeEnds hl is8_1) tt_1 rfl rfl rfl (Nat.le_of_ble_eq_true rfl) dX10_greatestFlow_5 (CR_rm (by decide) (by decide) (by decide) (by decide)) (fun r1 w1 => ?_)
  refine v_callVvx (As := [.int r1]) rfl (fun _ => rfl) (by decide) (by decide) cv_X10_182 (S_X10_obey hl) tt_0 rfl rfl rfl (Nat.le_of_ble_eq_true rfl) dX10_greatestFlow_8 (CR_rm (by decide) (by decide) (by decide) (by decide)) (fun w2 => ?_)
  refine v_aload_n dX10_greatestFlow_11 rfl 0 rfl ?_
  refine v_getR fl_X10_32 tt_0 rfl dX10_greatestFlow_12 ?_
  refine v_aload_n dX10_greatestFlow_15 rfl 0 rfl ?_
  refine v_getR fl_X10_10 tt_0 rfl dX10_greatestFlow_16 ?_
  refine v_getR fl_X10_155 tt_1 rfl dX10_greatestFlow_19 ?_
  refine v_aload_n dX10_greatestFlow_22 rfl 0 rfl ?_
  refine v_getR fl_X10_10 tt_0 rfl dX10_greatestFlow_23 ?_
  refine v_getR fl_X10_90 tt_1 rfl dX10_greatestFlow_26 ?_
  refine v_getI fl_X10_94 tt_2 rfl dX10_greatestFlow_29 ?_
  refine v_iconst (v := (-1)) dX10_greatestFlow_32 (by decide) ?_
  refine v_callVi (As := [.ref (g.2.1 + 7), .int (w2.1 2 0), .int (-1)]) cv_X10_185 (S_X1_greatest hl is5_7) tt_124 rfl rfl rfl (Nat.le_of_ble_eq_true rfl) dX10_greatestFlow_33 (CR_rm (by decide) (by decide) (by decide) (by decide)) (fun r3 w3 => ?_)
  exact v_iret dX10_greatestFlow_36 rfl rfl (by decide) (by decide)
theorem S_X10_greatestFlow {g : GC} (hl : g.1.stackTraces = false) {w : XW} : ∀ q, f_X10_greatestFlow  w = some q → MM g (.code yX10_greatestFlow cX10_greatestFlow 1 (some .int)) yX10_greatestFlow (rmL 7 1 6) 1 6 [.ref (g.2.1 + 0)] w (oIX q) := fun q hq => MM_of (own := RX10) hl (by decide) gw_593 rfl (Nat.le_of_ble_eq_true rfl) (W_X10_greatestFlow hl q hq) ⟨rfl, rfl⟩

theorem dX10_smallestCut_0 : decode cX10_smallestCut 0 = .ok (.aload_n 0, 1) := by decide +kernel
theorem dX10_smallestCut_1 : decode cX10_smallestCut 1 = .ok (.aload_n 0, 1) := by decide +kernel
theorem dX10_smallestCut_2 : decode cX10_smallestCut 2 = .ok (.getfield 10, 3) := by decide +kernel
theorem dX10_smallestCut_5 : decode cX10_smallestCut 5 = .ok (.invokevirtual 178, 3) := by decide +kernel
theorem dX10_smallestCut_8 : decode cX10_smallestCut 8 = .ok (.invokevirtual 182, 3) := by decide +kernel
theorem dX10_smallestCut_11 : decode cX10_smallestCut 11 = .ok (.aload_n 0, 1) := by decide +kernel
theorem dX10_smallestCut_12 : decode cX10_smallestCut 12 = .ok (.getfield 32, 3) := by decide +kernel
theorem dX10_smallestCut_15 : decode cX10_smallestCut 15 = .ok (.aload_n 0, 1) := by decide +kernel
theorem dX10_smallestCut_16 : decode cX10_smallestCut 16 = .ok (.getfield 10, 3) := by decide +kernel
theorem dX10_smallestCut_19 : decode cX10_smallestCut 19 = .ok (.getfield 155, 3) := by decide +kernel
theorem dX10_smallestCut_22 : decode cX10_smallestCut 22 = .ok (.aload_n 0, 1) := by decide +kernel
theorem dX10_smallestCut_23 : decode cX10_smallestCut 23 = .ok (.getfield 10, 3) := by decide +kernel
theorem dX10_smallestCut_26 : decode cX10_smallestCut 26 = .ok (.getfield 90, 3) := by decide +kernel
theorem dX10_smallestCut_29 : decode cX10_smallestCut 29 = .ok (.getfield 94, 3) := by decide +kernel
theorem dX10_smallestCut_32 : decode cX10_smallestCut 32 = .ok (.invokevirtual 189, 3) := by decide +kernel
theorem dX10_smallestCut_35 : decode cX10_smallestCut 35 = .ok (.ireturn, 1) := by decide +kernel
def f_X10_smallestCut (w : XW) : Option ((Int32 × XW) ⊕ (String × XW)) := (bI (f_X8_judgeEnds 1 w) (fun r1 w1 => (bVX (f_X10_obey r1 w1) (fun w2 => (bI (f_X1_smallest 7 (w2.1 2 0) w2) (fun r3 w3 => (some (.inl (r3, w3)))))))))
set_option maxRecDepth 100000 in
theorem W_X10_smallestCut {g : GC} (hl : g.1.stackTraces = false) {w : XW} : VE g cX10_smallestCut 1 RX10 (some .int) [] (rmL 7 1 6) 1 6 oIX 0 0 0 [(0, .ref (g.2.1 + 0))] [] w (f_X10_smallestCut  w) := by
  unfold f_X10_smallestCut
  refine v_aload_n dX10_smallestCut_0 rfl 0 rfl ?_
  refine v_aload_n dX10_smallestCut_1 rfl 0 rfl ?_
  refine v_getR fl_X10_10 tt_0 rfl dX10_smallestCut_2 ?_
  refine v_callVi (As := []) cv_X10_178 (S_X8_judgeEnds hl is8_1) tt_1 rfl rfl rfl (Nat.le_of_ble_eq_true rfl) dX10_smallestCut_5 (CR_rm (by decide) (by decide) (by decide) (by decide)) (fun r1 w1 => ?_)
  refine v_callVvx (As := [.int r1]) rfl (fun _ => rfl) (by decide) (by decide) cv_X10_182 (S_X10_obey hl) tt_0 rfl rfl rfl (Nat.le_of_ble_eq_true rfl) dX10_smallestCut_8 (CR_rm (by decide) (by decide) (by decide) (by decide)) (fun w2 => ?_)
  refine v_aload_n dX10_smallestCut_11 rfl 0 rfl ?_
  refine v_getR fl_X10_32 tt_0 rfl dX10_smallestCut_12 ?_
  refine v_aload_n dX10_smallestCut_15 rfl 0 rfl ?_
  refine v_getR fl_X10_10 tt_0 rfl dX10_smallestCut_16 ?_
  refine v_getR fl_X10_155 tt_1 rfl dX10_smallestCut_19 ?_
  refine v_aload_n dX10_smallestCut_22 rfl 0 rfl ?_
  refine v_getR fl_X10_10 tt_0 rfl dX10_smallestCut_23 ?_
  refine v_getR fl_X10_90 tt_1 rfl dX10_smallestCut_26 ?_
  refine v_getI fl_X10_94 tt_2 rfl dX10_smallestCut_29 ?_
  refine v_callVi (As := [.ref (g.2.1 + 7), .int (w2.1 2 0)]) cv_X10_189 (S_X1_smallest hl is5_7) tt_124 rfl rfl rfl (Nat.le_of_ble_eq_true rfl) dX10_smallestCut_32 (CR_rm (by decide) (by decide) (by decide) (by decide)) (fun r3 w3 => ?_)
  exact v_iret dX10_smallestCut_35 rfl rfl (by decide) (by decide)
theorem S_X10_smallestCut {g : GC} (hl : g.1.stackTraces = false) {w : XW} : ∀ q, f_X10_smallestCut  w = some q → MM g (.code yX10_smallestCut cX10_smallestCut 1 (some .int)) yX10_smallestCut (rmL 7 1 6) 1 6 [.ref (g.2.1 + 0)] w (oIX q) := fun q hq => MM_of (own := RX10) hl (by decide) gw_1423 rfl (Nat.le_of_ble_eq_true rfl) (W_X10_smallestCut hl q hq) ⟨rfl, rfl⟩

theorem dX10_lossOf_0 : decode cX10_lossOf 0 = .ok (.aload_n 0, 1) := by decide +kernel
theorem dX10_lossOf_1 : decode cX10_lossOf 1 = .ok (.iload_n 1, 1) := by decide +kernel
theorem dX10_lossOf_2 : decode cX10_lossOf 2 = .ok (.invokevirtual 162, 3) := by decide +kernel
theorem dX10_lossOf_5 : decode cX10_lossOf 5 = .ok (.aload_n 0, 1) := by decide +kernel
theorem dX10_lossOf_6 : decode cX10_lossOf 6 = .ok (.getfield 10, 3) := by decide +kernel
theorem dX10_lossOf_9 : decode cX10_lossOf 9 = .ok (.getfield 90, 3) := by decide +kernel
theorem dX10_lossOf_12 : decode cX10_lossOf 12 = .ok (.getfield 94, 3) := by decide +kernel
theorem dX10_lossOf_15 : decode cX10_lossOf 15 = .ok (.istore_n 2, 1) := by decide +kernel
theorem dX10_lossOf_16 : decode cX10_lossOf 16 = .ok (.aload_n 0, 1) := by decide +kernel
theorem dX10_lossOf_17 : decode cX10_lossOf 17 = .ok (.getfield 32, 3) := by decide +kernel
theorem dX10_lossOf_20 : decode cX10_lossOf 20 = .ok (.aload_n 0, 1) := by decide +kernel
theorem dX10_lossOf_21 : decode cX10_lossOf 21 = .ok (.getfield 10, 3) := by decide +kernel
theorem dX10_lossOf_24 : decode cX10_lossOf 24 = .ok (.getfield 155, 3) := by decide +kernel
theorem dX10_lossOf_27 : decode cX10_lossOf 27 = .ok (.iload_n 2, 1) := by decide +kernel
theorem dX10_lossOf_28 : decode cX10_lossOf 28 = .ok (.iconst (-1), 1) := by decide +kernel
theorem dX10_lossOf_29 : decode cX10_lossOf 29 = .ok (.invokevirtual 185, 3) := by decide +kernel
theorem dX10_lossOf_32 : decode cX10_lossOf 32 = .ok (.aload_n 0, 1) := by decide +kernel
theorem dX10_lossOf_33 : decode cX10_lossOf 33 = .ok (.getfield 32, 3) := by decide +kernel
theorem dX10_lossOf_36 : decode cX10_lossOf 36 = .ok (.aload_n 0, 1) := by decide +kernel
theorem dX10_lossOf_37 : decode cX10_lossOf 37 = .ok (.getfield 10, 3) := by decide +kernel
theorem dX10_lossOf_40 : decode cX10_lossOf 40 = .ok (.getfield 155, 3) := by decide +kernel
theorem dX10_lossOf_43 : decode cX10_lossOf 43 = .ok (.iload_n 2, 1) := by decide +kernel
theorem dX10_lossOf_44 : decode cX10_lossOf 44 = .ok (.iload_n 1, 1) := by decide +kernel
theorem dX10_lossOf_45 : decode cX10_lossOf 45 = .ok (.invokevirtual 185, 3) := by decide +kernel
theorem dX10_lossOf_48 : decode cX10_lossOf 48 = .ok (.isub, 1) := by decide +kernel
theorem dX10_lossOf_49 : decode cX10_lossOf 49 = .ok (.ireturn, 1) := by decide +kernel
def f_X10_lossOf (x1 : Int32) (w : XW) : Option ((Int32 × XW) ⊕ (String × XW)) := (bVX (f_X10_requirePipe x1 w) (fun w1 => (bI (f_X1_greatest 7 (w1.1 2 0) (-1) w1) (fun r2 w2 => (bI (f_X1_greatest 7 (w1.1 2 0) x1 w2) (fun r3 w3 => (some (.inl ((r2 - r3), w3)))))))))
set_option maxRecDepth 100000 in
theorem W_X10_lossOf {g : GC} (hl : g.1.stackTraces = false) {x1 : Int32} {w : XW} : VE g cX10_lossOf 3 RX10 (some .int) [] (rmL 7 1 6) 1 6 oIX 0 0 0 [(0, .ref (g.2.1 + 0)), (1, .int x1)] [] w (f_X10_lossOf x1 w) := by
  unfold f_X10_lossOf
  refine v_aload_n dX10_lossOf_0 rfl 0 rfl ?_
  refine v_iload_n dX10_lossOf_1 rfl 1 rfl ?_
  refine v_callVvx (As := [.int x1]) rfl (fun _ => rfl) (by decide) (by decide) cv_X10_162 (S_X10_requirePipe hl) tt_0 rfl rfl rfl (Nat.le_of_ble_eq_true rfl) dX10_lossOf_2 (CR_rm (by decide) (by decide) (by decide) (by decide)) (fun w1 => ?_)
  refine v_aload_n dX10_lossOf_5 rfl 0 rfl ?_
  refine v_getR fl_X10_10 tt_0 rfl dX10_lossOf_6 ?_
  refine v_getR fl_X10_90 tt_1 rfl dX10_lossOf_9 ?_
  refine v_getI fl_X10_94 tt_2 rfl dX10_lossOf_12 ?_
  refine v_istore_n dX10_lossOf_15 rfl (Nat.le_of_ble_eq_true rfl) rfl ?_
  refine v_aload_n dX10_lossOf_16 rfl 1 rfl ?_
  refine v_getR fl_X10_32 tt_0 rfl dX10_lossOf_17 ?_
  refine v_aload_n dX10_lossOf_20 rfl 1 rfl ?_
  refine v_getR fl_X10_10 tt_0 rfl dX10_lossOf_21 ?_
  refine v_getR fl_X10_155 tt_1 rfl dX10_lossOf_24 ?_
  refine v_iload_n dX10_lossOf_27 rfl 0 rfl ?_
  refine v_iconst (v := (-1)) dX10_lossOf_28 (by decide) ?_
  refine v_callVi (As := [.ref (g.2.1 + 7), .int (w1.1 2 0), .int (-1)]) cv_X10_185 (S_X1_greatest hl is5_7) tt_124 rfl rfl rfl (Nat.le_of_ble_eq_true rfl) dX10_lossOf_29 (CR_rm (by decide) (by decide) (by decide) (by decide)) (fun r2 w2 => ?_)
  refine v_aload_n dX10_lossOf_32 rfl 1 rfl ?_
  refine v_getR fl_X10_32 tt_0 rfl dX10_lossOf_33 ?_
  refine v_aload_n dX10_lossOf_36 rfl 1 rfl ?_
  refine v_getR fl_X10_10 tt_0 rfl dX10_lossOf_37 ?_
  refine v_getR fl_X10_155 tt_1 rfl dX10_lossOf_40 ?_
  refine v_iload_n dX10_lossOf_43 rfl 0 rfl ?_
  refine v_iload_n dX10_lossOf_44 rfl 2 rfl ?_
  refine v_callVi (As := [.ref (g.2.1 + 7), .int (w1.1 2 0), .int x1]) cv_X10_185 (S_X1_greatest hl is5_7) tt_124 rfl rfl rfl (Nat.le_of_ble_eq_true rfl) dX10_lossOf_45 (CR_rm (by decide) (by decide) (by decide) (by decide)) (fun r3 w3 => ?_)
  refine v_isub dX10_lossOf_48 ?_
  exact v_iret dX10_lossOf_49 rfl rfl (by decide) (by decide)
theorem S_X10_lossOf {g : GC} (hl : g.1.stackTraces = false) {x1 : Int32} {w : XW} : ∀ q, f_X10_lossOf x1 w = some q → MM g (.code yX10_lossOf cX10_lossOf 3 (some .int)) yX10_lossOf (rmL 7 1 6) 1 6 [.ref (g.2.1 + 0), .int x1] w (oIX q) := fun q hq => MM_of (own := RX10) hl (by decide) gw_684 rfl (Nat.le_of_ble_eq_true rfl) (W_X10_lossOf hl q hq) ⟨rfl, rfl⟩

theorem dX10_drain_0 : decode cX10_drain 0 = .ok (.aload_n 0, 1) := by decide +kernel
theorem dX10_drain_1 : decode cX10_drain 1 = .ok (.bipush 10, 2) := by decide +kernel
theorem dX10_drain_3 : decode cX10_drain 3 = .ok (.iconst 0, 1) := by decide +kernel
theorem dX10_drain_4 : decode cX10_drain 4 = .ok (.iconst 0, 1) := by decide +kernel
theorem dX10_drain_5 : decode cX10_drain 5 = .ok (.iconst 0, 1) := by decide +kernel
theorem dX10_drain_6 : decode cX10_drain 6 = .ok (.invokevirtual 86, 3) := by decide +kernel
theorem dX10_drain_9 : decode cX10_drain 9 = .ok (.ireturn, 1) := by decide +kernel
def f_X10_drain (w : XW) : Option ((Int32 × XW) ⊕ (String × XW)) := (bIX (f_X10_change 10 0 0 0 w) (fun r1 w1 => (some (.inl (r1, w1)))))
set_option maxRecDepth 100000 in
theorem W_X10_drain {g : GC} (hl : g.1.stackTraces = false) {w : XW} : VE g cX10_drain 1 RX10 (some .int) [] (rmL 10 1 6) 1 6 oIX 0 0 0 [(0, .ref (g.2.1 + 0))] [] w (f_X10_drain  w) := by
  unfold f_X10_drain
  refine v_aload_n dX10_drain_0 rfl 0 rfl ?_
  refine v_bipush (v := 10) dX10_drain_1 (by decide) ?_
  refine v_iconst (v := 0) dX10_drain_3 (by decide) ?_
  refine v_iconst (v := 0) dX10_drain_4 (by decide) ?_
  refine v_iconst (v := 0) dX10_drain_5 (by decide) ?_
  refine v_callVix (As := [.int 10, .int 0, .int 0, .int 0]) rfl (fun _ => rfl) (by decide) (by decide) cv_X10_86 (S_X10_change hl) tt_0 rfl rfl rfl (Nat.le_of_ble_eq_true rfl) dX10_drain_6 (CR_rm (by decide) (by decide) (by decide) (by decide)) (fun r1 w1 => ?_)
  exact v_iret dX10_drain_9 rfl rfl (by decide) (by decide)
theorem S_X10_drain {g : GC} (hl : g.1.stackTraces = false) {w : XW} : ∀ q, f_X10_drain  w = some q → MM g (.code yX10_drain cX10_drain 1 (some .int)) yX10_drain (rmL 10 1 6) 1 6 [.ref (g.2.1 + 0)] w (oIX q) := fun q hq => MM_of (own := RX10) hl (by decide) gw_940 rfl (Nat.le_of_ble_eq_true rfl) (W_X10_drain hl q hq) ⟨rfl, rfl⟩

theorem dX10_seep_0 : decode cX10_seep 0 = .ok (.aload_n 0, 1) := by decide +kernel
theorem dX10_seep_1 : decode cX10_seep 1 = .ok (.bipush 11, 2) := by decide +kernel
theorem dX10_seep_3 : decode cX10_seep 3 = .ok (.iconst 0, 1) := by decide +kernel
theorem dX10_seep_4 : decode cX10_seep 4 = .ok (.iconst 0, 1) := by decide +kernel
theorem dX10_seep_5 : decode cX10_seep 5 = .ok (.iconst 0, 1) := by decide +kernel
theorem dX10_seep_6 : decode cX10_seep 6 = .ok (.invokevirtual 86, 3) := by decide +kernel
theorem dX10_seep_9 : decode cX10_seep 9 = .ok (.ireturn, 1) := by decide +kernel
def f_X10_seep (w : XW) : Option ((Int32 × XW) ⊕ (String × XW)) := (bIX (f_X10_change 11 0 0 0 w) (fun r1 w1 => (some (.inl (r1, w1)))))
set_option maxRecDepth 100000 in
theorem W_X10_seep {g : GC} (hl : g.1.stackTraces = false) {w : XW} : VE g cX10_seep 1 RX10 (some .int) [] (rmL 10 1 6) 1 6 oIX 0 0 0 [(0, .ref (g.2.1 + 0))] [] w (f_X10_seep  w) := by
  unfold f_X10_seep
  refine v_aload_n dX10_seep_0 rfl 0 rfl ?_
  refine v_bipush (v := 11) dX10_seep_1 (by decide) ?_
  refine v_iconst (v := 0) dX10_seep_3 (by decide) ?_
  refine v_iconst (v := 0) dX10_seep_4 (by decide) ?_
  refine v_iconst (v := 0) dX10_seep_5 (by decide) ?_
  refine v_callVix (As := [.int 11, .int 0, .int 0, .int 0]) rfl (fun _ => rfl) (by decide) (by decide) cv_X10_86 (S_X10_change hl) tt_0 rfl rfl rfl (Nat.le_of_ble_eq_true rfl) dX10_seep_6 (CR_rm (by decide) (by decide) (by decide) (by decide)) (fun r1 w1 => ?_)
  exact v_iret dX10_seep_9 rfl rfl (by decide) (by decide)
theorem S_X10_seep {g : GC} (hl : g.1.stackTraces = false) {w : XW} : ∀ q, f_X10_seep  w = some q → MM g (.code yX10_seep cX10_seep 1 (some .int)) yX10_seep (rmL 10 1 6) 1 6 [.ref (g.2.1 + 0)] w (oIX q) := fun q hq => MM_of (own := RX10) hl (by decide) gw_947 rfl (Nat.le_of_ble_eq_true rfl) (W_X10_seep hl q hq) ⟨rfl, rfl⟩

theorem dX10_totalWater_0 : decode cX10_totalWater 0 = .ok (.aload_n 0, 1) := by decide +kernel
theorem dX10_totalWater_1 : decode cX10_totalWater 1 = .ok (.getfield 10, 3) := by decide +kernel
theorem dX10_totalWater_4 : decode cX10_totalWater 4 = .ok (.getfield 90, 3) := by decide +kernel
theorem dX10_totalWater_7 : decode cX10_totalWater 7 = .ok (.invokevirtual 193, 3) := by decide +kernel
theorem dX10_totalWater_10 : decode cX10_totalWater 10 = .ok (.ireturn, 1) := by decide +kernel
def f_X10_totalWater (w : XW) : Option (Int32 × XW) := (bI (f_X9_waterSum 2 w) (fun r1 w1 => (some (r1, w1))))
set_option maxRecDepth 100000 in
theorem W_X10_totalWater {g : GC} (hl : g.1.stackTraces = false) {w : XW} : VE g cX10_totalWater 1 RX10 (some .int) [] (rmL 4 0 0) 0 0 oI 0 0 0 [(0, .ref (g.2.1 + 0))] [] w (f_X10_totalWater  w) := by
  unfold f_X10_totalWater
  refine v_aload_n dX10_totalWater_0 rfl 0 rfl ?_
  refine v_getR fl_X10_10 tt_0 rfl dX10_totalWater_1 ?_
  refine v_getR fl_X10_90 tt_1 rfl dX10_totalWater_4 ?_
  refine v_callVi (As := []) cv_X10_193 (S_X9_waterSum hl is9_2) tt_2 rfl rfl rfl (Nat.le_of_ble_eq_true rfl) dX10_totalWater_7 (CR_rm (by decide) (by decide) (by decide) (by decide)) (fun r1 w1 => ?_)
  exact v_iret dX10_totalWater_10 rfl rfl (by decide) (by decide)
theorem S_X10_totalWater {g : GC} (hl : g.1.stackTraces = false) {w : XW} : ∀ q, f_X10_totalWater  w = some q → MM g (.code yX10_totalWater cX10_totalWater 1 (some .int)) yX10_totalWater (rmL 4 0 0) 0 0 [.ref (g.2.1 + 0)] w (oI q) := fun q hq => MM_of (own := RX10) hl (by decide) gw_1437 rfl (Nat.le_of_ble_eq_true rfl) (W_X10_totalWater hl q hq) ⟨rfl, rfl⟩

theorem dX10_totalWaterByAccounts_0 : decode cX10_totalWaterByAccounts 0 = .ok (.aload_n 0, 1) := by decide +kernel
theorem dX10_totalWaterByAccounts_1 : decode cX10_totalWaterByAccounts 1 = .ok (.getfield 10, 3) := by decide +kernel
theorem dX10_totalWaterByAccounts_4 : decode cX10_totalWaterByAccounts 4 = .ok (.getfield 90, 3) := by decide +kernel
theorem dX10_totalWaterByAccounts_7 : decode cX10_totalWaterByAccounts 7 = .ok (.getfield 196, 3) := by decide +kernel
theorem dX10_totalWaterByAccounts_10 : decode cX10_totalWaterByAccounts 10 = .ok (.aload_n 0, 1) := by decide +kernel
theorem dX10_totalWaterByAccounts_11 : decode cX10_totalWaterByAccounts 11 = .ok (.getfield 10, 3) := by decide +kernel
theorem dX10_totalWaterByAccounts_14 : decode cX10_totalWaterByAccounts 14 = .ok (.getfield 90, 3) := by decide +kernel
theorem dX10_totalWaterByAccounts_17 : decode cX10_totalWaterByAccounts 17 = .ok (.getfield 199, 3) := by decide +kernel
theorem dX10_totalWaterByAccounts_20 : decode cX10_totalWaterByAccounts 20 = .ok (.isub, 1) := by decide +kernel
theorem dX10_totalWaterByAccounts_21 : decode cX10_totalWaterByAccounts 21 = .ok (.ireturn, 1) := by decide +kernel
def f_X10_totalWaterByAccounts (w : XW) : Option (Int32 × XW) := (some (((w.1 2 1) - (w.1 2 2)), w))
set_option maxRecDepth 100000 in
theorem W_X10_totalWaterByAccounts {g : GC} (hl : g.1.stackTraces = false) {w : XW} : VE g cX10_totalWaterByAccounts 1 RX10 (some .int) [] (rmL 3 0 0) 0 0 oI 0 0 0 [(0, .ref (g.2.1 + 0))] [] w (f_X10_totalWaterByAccounts  w) := by
  unfold f_X10_totalWaterByAccounts
  refine v_aload_n dX10_totalWaterByAccounts_0 rfl 0 rfl ?_
  refine v_getR fl_X10_10 tt_0 rfl dX10_totalWaterByAccounts_1 ?_
  refine v_getR fl_X10_90 tt_1 rfl dX10_totalWaterByAccounts_4 ?_
  refine v_getI fl_X10_196 tt_2 rfl dX10_totalWaterByAccounts_7 ?_
  refine v_aload_n dX10_totalWaterByAccounts_10 rfl 0 rfl ?_
  refine v_getR fl_X10_10 tt_0 rfl dX10_totalWaterByAccounts_11 ?_
  refine v_getR fl_X10_90 tt_1 rfl dX10_totalWaterByAccounts_14 ?_
  refine v_getI fl_X10_199 tt_2 rfl dX10_totalWaterByAccounts_17 ?_
  refine v_isub dX10_totalWaterByAccounts_20 ?_
  exact v_iret dX10_totalWaterByAccounts_21 rfl rfl (by decide) (by decide)
theorem S_X10_totalWaterByAccounts {g : GC} (hl : g.1.stackTraces = false) {w : XW} : ∀ q, f_X10_totalWaterByAccounts  w = some q → MM g (.code yX10_totalWaterByAccounts cX10_totalWaterByAccounts 1 (some .int)) yX10_totalWaterByAccounts (rmL 3 0 0) 0 0 [.ref (g.2.1 + 0)] w (oI q) := fun q hq => MM_of (own := RX10) hl (by decide) gw_1445 rfl (Nat.le_of_ble_eq_true rfl) (W_X10_totalWaterByAccounts hl q hq) ⟨rfl, rfl⟩

theorem dX10_poured_0 : decode cX10_poured 0 = .ok (.aload_n 0, 1) := by decide +kernel
theorem dX10_poured_1 : decode cX10_poured 1 = .ok (.getfield 10, 3) := by decide +kernel
theorem dX10_poured_4 : decode cX10_poured 4 = .ok (.getfield 90, 3) := by decide +kernel
theorem dX10_poured_7 : decode cX10_poured 7 = .ok (.getfield 196, 3) := by decide +kernel
theorem dX10_poured_10 : decode cX10_poured 10 = .ok (.ireturn, 1) := by decide +kernel
def f_X10_poured (w : XW) : Option (Int32 × XW) := (some ((w.1 2 1), w))
set_option maxRecDepth 100000 in
theorem W_X10_poured {g : GC} (hl : g.1.stackTraces = false) {w : XW} : VE g cX10_poured 1 RX10 (some .int) [] (rmL 3 0 0) 0 0 oI 0 0 0 [(0, .ref (g.2.1 + 0))] [] w (f_X10_poured  w) := by
  unfold f_X10_poured
  refine v_aload_n dX10_poured_0 rfl 0 rfl ?_
  refine v_getR fl_X10_10 tt_0 rfl dX10_poured_1 ?_
  refine v_getR fl_X10_90 tt_1 rfl dX10_poured_4 ?_
  refine v_getI fl_X10_196 tt_2 rfl dX10_poured_7 ?_
  exact v_iret dX10_poured_10 rfl rfl (by decide) (by decide)
theorem S_X10_poured {g : GC} (hl : g.1.stackTraces = false) {w : XW} : ∀ q, f_X10_poured  w = some q → MM g (.code yX10_poured cX10_poured 1 (some .int)) yX10_poured (rmL 3 0 0) 0 0 [.ref (g.2.1 + 0)] w (oI q) := fun q hq => MM_of (own := RX10) hl (by decide) gw_1360 rfl (Nat.le_of_ble_eq_true rfl) (W_X10_poured hl q hq) ⟨rfl, rfl⟩

theorem dX10_leaked_0 : decode cX10_leaked 0 = .ok (.aload_n 0, 1) := by decide +kernel
theorem dX10_leaked_1 : decode cX10_leaked 1 = .ok (.getfield 10, 3) := by decide +kernel
theorem dX10_leaked_4 : decode cX10_leaked 4 = .ok (.getfield 90, 3) := by decide +kernel
theorem dX10_leaked_7 : decode cX10_leaked 7 = .ok (.getfield 199, 3) := by decide +kernel
theorem dX10_leaked_10 : decode cX10_leaked 10 = .ok (.ireturn, 1) := by decide +kernel
def f_X10_leaked (w : XW) : Option (Int32 × XW) := (some ((w.1 2 2), w))
set_option maxRecDepth 100000 in
theorem W_X10_leaked {g : GC} (hl : g.1.stackTraces = false) {w : XW} : VE g cX10_leaked 1 RX10 (some .int) [] (rmL 3 0 0) 0 0 oI 0 0 0 [(0, .ref (g.2.1 + 0))] [] w (f_X10_leaked  w) := by
  unfold f_X10_leaked
  refine v_aload_n dX10_leaked_0 rfl 0 rfl ?_
  refine v_getR fl_X10_10 tt_0 rfl dX10_leaked_1 ?_
  refine v_getR fl_X10_90 tt_1 rfl dX10_leaked_4 ?_
  refine v_getI fl_X10_199 tt_2 rfl dX10_leaked_7 ?_
  exact v_iret dX10_leaked_10 rfl rfl (by decide) (by decide)
theorem S_X10_leaked {g : GC} (hl : g.1.stackTraces = false) {w : XW} : ∀ q, f_X10_leaked  w = some q → MM g (.code yX10_leaked cX10_leaked 1 (some .int)) yX10_leaked (rmL 3 0 0) 0 0 [.ref (g.2.1 + 0)] w (oI q) := fun q hq => MM_of (own := RX10) hl (by decide) gw_354 rfl (Nat.le_of_ble_eq_true rfl) (W_X10_leaked hl q hq) ⟨rfl, rfl⟩

theorem dX10_meanWater_0 : decode cX10_meanWater 0 = .ok (.aload_n 0, 1) := by decide +kernel
theorem dX10_meanWater_1 : decode cX10_meanWater 1 = .ok (.getfield 10, 3) := by decide +kernel
theorem dX10_meanWater_4 : decode cX10_meanWater 4 = .ok (.getfield 90, 3) := by decide +kernel
theorem dX10_meanWater_7 : decode cX10_meanWater 7 = .ok (.getfield 94, 3) := by decide +kernel
theorem dX10_meanWater_10 : decode cX10_meanWater 10 = .ok (.ifCond .gt 11, 3) := by decide +kernel
theorem dX10_meanWater_13 : decode cX10_meanWater 13 = .ok (.new 202, 3) := by decide +kernel
theorem dX10_meanWater_16 : decode cX10_meanWater 16 = .ok (.dup, 1) := by decide +kernel
theorem dX10_meanWater_17 : decode cX10_meanWater 17 = .ok (.invokespecial 204, 3) := by decide +kernel
theorem dX10_meanWater_20 : decode cX10_meanWater 20 = .ok (.athrow, 1) := by decide +kernel
theorem dX10_meanWater_21 : decode cX10_meanWater 21 = .ok (.aload_n 0, 1) := by decide +kernel
theorem dX10_meanWater_22 : decode cX10_meanWater 22 = .ok (.getfield 10, 3) := by decide +kernel
theorem dX10_meanWater_25 : decode cX10_meanWater 25 = .ok (.getfield 90, 3) := by decide +kernel
theorem dX10_meanWater_28 : decode cX10_meanWater 28 = .ok (.invokevirtual 193, 3) := by decide +kernel
theorem dX10_meanWater_31 : decode cX10_meanWater 31 = .ok (.i2d, 1) := by decide +kernel
theorem dX10_meanWater_32 : decode cX10_meanWater 32 = .ok (.aload_n 0, 1) := by decide +kernel
theorem dX10_meanWater_33 : decode cX10_meanWater 33 = .ok (.getfield 10, 3) := by decide +kernel
theorem dX10_meanWater_36 : decode cX10_meanWater 36 = .ok (.getfield 90, 3) := by decide +kernel
theorem dX10_meanWater_39 : decode cX10_meanWater 39 = .ok (.getfield 94, 3) := by decide +kernel
theorem dX10_meanWater_42 : decode cX10_meanWater 42 = .ok (.i2d, 1) := by decide +kernel
theorem dX10_meanWater_43 : decode cX10_meanWater 43 = .ok (.ddiv, 1) := by decide +kernel
theorem dX10_meanWater_44 : decode cX10_meanWater 44 = .ok (.dreturn, 1) := by decide +kernel
def f_X10_meanWater (w : XW) : Option ((UInt64 × XW) ⊕ (String × XW)) := (if 0 < (w.1 2 0) then (bI (f_X9_waterSum 2 w) (fun r1 w1 => (if okF64 (FP.ddiv (FP.i2d r1) (FP.i2d (w1.1 2 0))) then (some (.inl ((FP.ddiv (FP.i2d r1) (FP.i2d (w1.1 2 0))), w1))) else none))) else (some (.inr ("java/lang/ArithmeticException", w))))
set_option maxRecDepth 100000 in
theorem W_X10_meanWater {g : GC} (hl : g.1.stackTraces = false) {w : XW} : VE g cX10_meanWater 1 RX10 (some .double) [] (rmL 4 1 6) 1 6 oDX 0 0 0 [(0, .ref (g.2.1 + 0))] [] w (f_X10_meanWater  w) := by
  unfold f_X10_meanWater
  refine v_aload_n dX10_meanWater_0 rfl 0 rfl ?_
  refine v_getR fl_X10_10 tt_0 rfl dX10_meanWater_1 ?_
  refine v_getR fl_X10_90 tt_1 rfl dX10_meanWater_4 ?_
  refine v_getI fl_X10_94 tt_2 rfl dX10_meanWater_7 ?_
  refine v_if_gt (tgt := 21) dX10_meanWater_10 (by decide) ?_ ?_
  · refine v_aload_n dX10_meanWater_21 rfl 0 rfl ?_
    refine v_getR fl_X10_10 tt_0 rfl dX10_meanWater_22 ?_
    refine v_getR fl_X10_90 tt_1 rfl dX10_meanWater_25 ?_
    refine v_callVi (As := []) cv_X10_193 (S_X9_waterSum hl is9_2) tt_2 rfl rfl rfl (Nat.le_of_ble_eq_true rfl) dX10_meanWater_28 (CR_rm (by decide) (by decide) (by decide) (by decide)) (fun r1 w1 => ?_)
    refine v_i2d dX10_meanWater_31 ?_
    refine v_aload_n dX10_meanWater_32 rfl 0 rfl ?_
    refine v_getR fl_X10_10 tt_0 rfl dX10_meanWater_33 ?_
    refine v_getR fl_X10_90 tt_1 rfl dX10_meanWater_36 ?_
    refine v_getI fl_X10_94 tt_2 rfl dX10_meanWater_39 ?_
    refine v_i2d dX10_meanWater_42 ?_
    refine v_guard (fun h2 => ?_)
    refine v_ddiv dX10_meanWater_43 (okF64_ok h2) ?_
    exact v_dret dX10_meanWater_44 rfl rfl (by decide) (by decide)
  · exact v_throw (names := exN) rfl (by decide) exN_ok gw_1467 gw_77 xg_X10_202 xo_X10_202 dX10_meanWater_13 dX10_meanWater_16 dX10_meanWater_17 dX10_meanWater_20 (CR_t1 _ _ _) (CR_t2 (Nat.le_of_ble_eq_true rfl) _ _ _) (by decide) (by decide) rfl (by decide) (by decide)
theorem S_X10_meanWater {g : GC} (hl : g.1.stackTraces = false) {w : XW} : ∀ q, f_X10_meanWater  w = some q → MM g (.code yX10_meanWater cX10_meanWater 1 (some .double)) yX10_meanWater (rmL 4 1 6) 1 6 [.ref (g.2.1 + 0)] w (oDX q) := fun q hq => MM_of (own := RX10) hl (by decide) gw_1466 rfl (Nat.le_of_ble_eq_true rfl) (W_X10_meanWater hl q hq) ⟨rfl, rfl⟩

theorem dX10_leakedShare_0 : decode cX10_leakedShare 0 = .ok (.aload_n 0, 1) := by decide +kernel
theorem dX10_leakedShare_1 : decode cX10_leakedShare 1 = .ok (.getfield 10, 3) := by decide +kernel
theorem dX10_leakedShare_4 : decode cX10_leakedShare 4 = .ok (.getfield 90, 3) := by decide +kernel
theorem dX10_leakedShare_7 : decode cX10_leakedShare 7 = .ok (.getfield 196, 3) := by decide +kernel
theorem dX10_leakedShare_10 : decode cX10_leakedShare 10 = .ok (.ifCond .gt 11, 3) := by decide +kernel
theorem dX10_leakedShare_13 : decode cX10_leakedShare 13 = .ok (.new 202, 3) := by decide +kernel
theorem dX10_leakedShare_16 : decode cX10_leakedShare 16 = .ok (.dup, 1) := by decide +kernel
theorem dX10_leakedShare_17 : decode cX10_leakedShare 17 = .ok (.invokespecial 204, 3) := by decide +kernel
theorem dX10_leakedShare_20 : decode cX10_leakedShare 20 = .ok (.athrow, 1) := by decide +kernel
theorem dX10_leakedShare_21 : decode cX10_leakedShare 21 = .ok (.aload_n 0, 1) := by decide +kernel
theorem dX10_leakedShare_22 : decode cX10_leakedShare 22 = .ok (.getfield 10, 3) := by decide +kernel
theorem dX10_leakedShare_25 : decode cX10_leakedShare 25 = .ok (.getfield 90, 3) := by decide +kernel
theorem dX10_leakedShare_28 : decode cX10_leakedShare 28 = .ok (.getfield 199, 3) := by decide +kernel
theorem dX10_leakedShare_31 : decode cX10_leakedShare 31 = .ok (.i2f, 1) := by decide +kernel
theorem dX10_leakedShare_32 : decode cX10_leakedShare 32 = .ok (.aload_n 0, 1) := by decide +kernel
theorem dX10_leakedShare_33 : decode cX10_leakedShare 33 = .ok (.getfield 10, 3) := by decide +kernel
theorem dX10_leakedShare_36 : decode cX10_leakedShare 36 = .ok (.getfield 90, 3) := by decide +kernel
theorem dX10_leakedShare_39 : decode cX10_leakedShare 39 = .ok (.getfield 196, 3) := by decide +kernel
theorem dX10_leakedShare_42 : decode cX10_leakedShare 42 = .ok (.i2f, 1) := by decide +kernel
theorem dX10_leakedShare_43 : decode cX10_leakedShare 43 = .ok (.fdiv, 1) := by decide +kernel
theorem dX10_leakedShare_44 : decode cX10_leakedShare 44 = .ok (.freturn, 1) := by decide +kernel
def f_X10_leakedShare (w : XW) : Option ((UInt32 × XW) ⊕ (String × XW)) := (if 0 < (w.1 2 1) then (if okF32 (FP.fdiv (FP.i2f (w.1 2 2)) (FP.i2f (w.1 2 1))) then (some (.inl ((FP.fdiv (FP.i2f (w.1 2 2)) (FP.i2f (w.1 2 1))), w))) else none) else (some (.inr ("java/lang/ArithmeticException", w))))
set_option maxRecDepth 100000 in
theorem W_X10_leakedShare {g : GC} (hl : g.1.stackTraces = false) {w : XW} : VE g cX10_leakedShare 1 RX10 (some .float) [] (rmL 3 1 6) 1 6 oFX 0 0 0 [(0, .ref (g.2.1 + 0))] [] w (f_X10_leakedShare  w) := by
  unfold f_X10_leakedShare
  refine v_aload_n dX10_leakedShare_0 rfl 0 rfl ?_
  refine v_getR fl_X10_10 tt_0 rfl dX10_leakedShare_1 ?_
  refine v_getR fl_X10_90 tt_1 rfl dX10_leakedShare_4 ?_
  refine v_getI fl_X10_196 tt_2 rfl dX10_leakedShare_7 ?_
  refine v_if_gt (tgt := 21) dX10_leakedShare_10 (by decide) ?_ ?_
  · refine v_aload_n dX10_leakedShare_21 rfl 0 rfl ?_
    refine v_getR fl_X10_10 tt_0 rfl dX10_leakedShare_22 ?_
    refine v_getR fl_X10_90 tt_1 rfl dX10_leakedShare_25 ?_
    refine v_getI fl_X10_199 tt_2 rfl dX10_leakedShare_28 ?_
    refine v_i2f dX10_leakedShare_31 ?_
    refine v_aload_n dX10_leakedShare_32 rfl 0 rfl ?_
    refine v_getR fl_X10_10 tt_0 rfl dX10_leakedShare_33 ?_
    refine v_getR fl_X10_90 tt_1 rfl dX10_leakedShare_36 ?_
    refine v_getI fl_X10_196 tt_2 rfl dX10_leakedShare_39 ?_
    refine v_i2f dX10_leakedShare_42 ?_
    refine v_guard (fun h1 => ?_)
    refine v_fdiv dX10_leakedShare_43 (okF32_ok h1) ?_
    exact v_fret dX10_leakedShare_44 rfl rfl (by decide) (by decide)
  · exact v_throw (names := exN) rfl (by decide) exN_ok gw_1467 gw_77 xg_X10_202 xo_X10_202 dX10_leakedShare_13 dX10_leakedShare_16 dX10_leakedShare_17 dX10_leakedShare_20 (CR_t1 _ _ _) (CR_t2 (Nat.le_of_ble_eq_true rfl) _ _ _) (by decide) (by decide) rfl (by decide) (by decide)
theorem S_X10_leakedShare {g : GC} (hl : g.1.stackTraces = false) {w : XW} : ∀ q, f_X10_leakedShare  w = some q → MM g (.code yX10_leakedShare cX10_leakedShare 1 (some .float)) yX10_leakedShare (rmL 3 1 6) 1 6 [.ref (g.2.1 + 0)] w (oFX q) := fun q hq => MM_of (own := RX10) hl (by decide) gw_1479 rfl (Nat.le_of_ble_eq_true rfl) (W_X10_leakedShare hl q hq) ⟨rfl, rfl⟩

theorem dX10_feed_0 : decode cX10_feed 0 = .ok (.aload_n 0, 1) := by decide +kernel
theorem dX10_feed_1 : decode cX10_feed 1 = .ok (.getfield 48, 3) := by decide +kernel
theorem dX10_feed_4 : decode cX10_feed 4 = .ok (.invokevirtual 205, 3) := by decide +kernel
theorem dX10_feed_7 : decode cX10_feed 7 = .ok (.ifCond .eq 11, 3) := by decide +kernel
theorem dX10_feed_10 : decode cX10_feed 10 = .ok (.new 209, 3) := by decide +kernel
theorem dX10_feed_13 : decode cX10_feed 13 = .ok (.dup, 1) := by decide +kernel
theorem dX10_feed_14 : decode cX10_feed 14 = .ok (.invokespecial 211, 3) := by decide +kernel
theorem dX10_feed_17 : decode cX10_feed 17 = .ok (.athrow, 1) := by decide +kernel
theorem dX10_feed_18 : decode cX10_feed 18 = .ok (.aload_n 0, 1) := by decide +kernel
theorem dX10_feed_19 : decode cX10_feed 19 = .ok (.getfield 48, 3) := by decide +kernel
theorem dX10_feed_22 : decode cX10_feed 22 = .ok (.iload_n 1, 1) := by decide +kernel
theorem dX10_feed_23 : decode cX10_feed 23 = .ok (.invokevirtual 212, 3) := by decide +kernel
theorem dX10_feed_26 : decode cX10_feed 26 = .ok (.aload_n 0, 1) := by decide +kernel
theorem dX10_feed_27 : decode cX10_feed 27 = .ok (.getfield 48, 3) := by decide +kernel
theorem dX10_feed_30 : decode cX10_feed 30 = .ok (.getfield 216, 3) := by decide +kernel
theorem dX10_feed_33 : decode cX10_feed 33 = .ok (.ireturn, 1) := by decide +kernel
def f_X10_feed (x1 : Int32) (w : XW) : Option ((Int32 × XW) ⊕ (String × XW)) := (bI (f_X6_isFull 132 w) (fun r1 w1 => (if r1 = 0 then (bV (f_X6_put 132 x1 w1) (fun w2 => (some (.inl ((w2.1 132 1), w2))))) else (some (.inr ("java/lang/IllegalStateException", w1))))))
set_option maxRecDepth 100000 in
theorem W_X10_feed {g : GC} (hl : g.1.stackTraces = false) {x1 : Int32} {w : XW} : VE g cX10_feed 2 RX10 (some .int) [] (rmL 4 1 6) 1 6 oIX 0 0 0 [(0, .ref (g.2.1 + 0)), (1, .int x1)] [] w (f_X10_feed x1 w) := by
  unfold f_X10_feed
  refine v_aload_n dX10_feed_0 rfl 0 rfl ?_
  refine v_getR fl_X10_48 tt_0 rfl dX10_feed_1 ?_
  refine v_callVi (As := []) cv_X10_205 (S_X6_isFull hl is6_132) tt_132 rfl rfl rfl (Nat.le_of_ble_eq_true rfl) dX10_feed_4 (CR_rm (by decide) (by decide) (by decide) (by decide)) (fun r1 w1 => ?_)
  refine v_if_eq (tgt := 18) dX10_feed_7 (by decide) ?_ ?_
  · refine v_aload_n dX10_feed_18 rfl 0 rfl ?_
    refine v_getR fl_X10_48 tt_0 rfl dX10_feed_19 ?_
    refine v_iload_n dX10_feed_22 rfl 1 rfl ?_
    refine v_callVv (As := [.int x1]) cv_X10_212 (S_X6_put hl is6_132) tt_132 rfl rfl rfl (Nat.le_of_ble_eq_true rfl) dX10_feed_23 (CR_rm (by decide) (by decide) (by decide) (by decide)) (fun w2 => ?_)
    refine v_aload_n dX10_feed_26 rfl 0 rfl ?_
    refine v_getR fl_X10_48 tt_0 rfl dX10_feed_27 ?_
    refine v_getI fl_X10_216 tt_132 rfl dX10_feed_30 ?_
    exact v_iret dX10_feed_33 rfl rfl (by decide) (by decide)
  · exact v_throw (names := exN) rfl (by decide) exN_ok gw_1246 gw_76 xg_X10_209 xo_X10_209 dX10_feed_10 dX10_feed_13 dX10_feed_14 dX10_feed_17 (CR_t1 _ _ _) (CR_t2 (Nat.le_of_ble_eq_true rfl) _ _ _) (by decide) (by decide) rfl (by decide) (by decide)
theorem S_X10_feed {g : GC} (hl : g.1.stackTraces = false) {x1 : Int32} {w : XW} : ∀ q, f_X10_feed x1 w = some q → MM g (.code yX10_feed cX10_feed 2 (some .int)) yX10_feed (rmL 4 1 6) 1 6 [.ref (g.2.1 + 0), .int x1] w (oIX q) := fun q hq => MM_of (own := RX10) hl (by decide) gw_1241 rfl (Nat.le_of_ble_eq_true rfl) (W_X10_feed hl q hq) ⟨rfl, rfl⟩

theorem dX10_clearText_0 : decode cX10_clearText 0 = .ok (.aload_n 0, 1) := by decide +kernel
theorem dX10_clearText_1 : decode cX10_clearText 1 = .ok (.getfield 48, 3) := by decide +kernel
theorem dX10_clearText_4 : decode cX10_clearText 4 = .ok (.getfield 216, 3) := by decide +kernel
theorem dX10_clearText_7 : decode cX10_clearText 7 = .ok (.istore_n 1, 1) := by decide +kernel
theorem dX10_clearText_8 : decode cX10_clearText 8 = .ok (.aload_n 0, 1) := by decide +kernel
theorem dX10_clearText_9 : decode cX10_clearText 9 = .ok (.getfield 48, 3) := by decide +kernel
theorem dX10_clearText_12 : decode cX10_clearText 12 = .ok (.invokevirtual 219, 3) := by decide +kernel
theorem dX10_clearText_15 : decode cX10_clearText 15 = .ok (.iload_n 1, 1) := by decide +kernel
theorem dX10_clearText_16 : decode cX10_clearText 16 = .ok (.ireturn, 1) := by decide +kernel
def f_X10_clearText (w : XW) : Option (Int32 × XW) := (bV (f_X6_empty 132 w) (fun w1 => (some ((w.1 132 1), w1))))
set_option maxRecDepth 100000 in
theorem W_X10_clearText {g : GC} (hl : g.1.stackTraces = false) {w : XW} : VE g cX10_clearText 2 RX10 (some .int) [] (rmL 4 0 0) 0 0 oI 0 0 0 [(0, .ref (g.2.1 + 0))] [] w (f_X10_clearText  w) := by
  unfold f_X10_clearText
  refine v_aload_n dX10_clearText_0 rfl 0 rfl ?_
  refine v_getR fl_X10_48 tt_0 rfl dX10_clearText_1 ?_
  refine v_getI fl_X10_216 tt_132 rfl dX10_clearText_4 ?_
  refine v_istore_n dX10_clearText_7 rfl (Nat.le_of_ble_eq_true rfl) rfl ?_
  refine v_aload_n dX10_clearText_8 rfl 1 rfl ?_
  refine v_getR fl_X10_48 tt_0 rfl dX10_clearText_9 ?_
  refine v_callVv (As := []) cv_X10_219 (S_X6_empty hl is6_132) tt_132 rfl rfl rfl (Nat.le_of_ble_eq_true rfl) dX10_clearText_12 (CR_rm (by decide) (by decide) (by decide) (by decide)) (fun w1 => ?_)
  refine v_iload_n dX10_clearText_15 rfl 0 rfl ?_
  exact v_iret dX10_clearText_16 rfl rfl (by decide) (by decide)
theorem S_X10_clearText {g : GC} (hl : g.1.stackTraces = false) {w : XW} : ∀ q, f_X10_clearText  w = some q → MM g (.code yX10_clearText cX10_clearText 2 (some .int)) yX10_clearText (rmL 4 0 0) 0 0 [.ref (g.2.1 + 0)] w (oI q) := fun q hq => MM_of (own := RX10) hl (by decide) gw_1540 rfl (Nat.le_of_ble_eq_true rfl) (W_X10_clearText hl q hq) ⟨rfl, rfl⟩

theorem dX10_refuseFault_0 : decode cX10_refuseFault 0 = .ok (.iload_n 1, 1) := by decide +kernel
theorem dX10_refuseFault_1 : decode cX10_refuseFault 1 = .ok (.iconst (-1), 1) := by decide +kernel
theorem dX10_refuseFault_2 : decode cX10_refuseFault 2 = .ok (.if_icmp .eq 16, 3) := by decide +kernel
theorem dX10_refuseFault_5 : decode cX10_refuseFault 5 = .ok (.aload_n 0, 1) := by decide +kernel
theorem dX10_refuseFault_6 : decode cX10_refuseFault 6 = .ok (.iload_n 1, 1) := by decide +kernel
theorem dX10_refuseFault_7 : decode cX10_refuseFault 7 = .ok (.putfield 73, 3) := by decide +kernel
theorem dX10_refuseFault_10 : decode cX10_refuseFault 10 = .ok (.new 293, 3) := by decide +kernel
theorem dX10_refuseFault_13 : decode cX10_refuseFault 13 = .ok (.dup, 1) := by decide +kernel
theorem dX10_refuseFault_14 : decode cX10_refuseFault 14 = .ok (.invokespecial 295, 3) := by decide +kernel
theorem dX10_refuseFault_17 : decode cX10_refuseFault 17 = .ok (.athrow, 1) := by decide +kernel
theorem dX10_refuseFault_18 : decode cX10_refuseFault 18 = .ok (.return_, 1) := by decide +kernel
def f_X10_refuseFault (x1 : Int32) (w : XW) : Option ((XW) ⊕ (String × XW)) := (if x1 = (-1) then (some (.inl w)) else (some (.inr ("java/lang/IllegalArgumentException", (wset w 0 11 x1)))))
set_option maxRecDepth 100000 in
theorem W_X10_refuseFault {g : GC} (hl : g.1.stackTraces = false) {x1 : Int32} {w : XW} : VE g cX10_refuseFault 2 RX10 none [] (rmL 3 1 6) 1 6 oVX 0 0 0 [(0, .ref (g.2.1 + 0)), (1, .int x1)] [] w (f_X10_refuseFault x1 w) := by
  unfold f_X10_refuseFault
  refine v_iload_n dX10_refuseFault_0 rfl 1 rfl ?_
  refine v_iconst (v := (-1)) dX10_refuseFault_1 (by decide) ?_
  refine v_icmp_eq (tgt := 18) dX10_refuseFault_2 (by decide) ?_ ?_
  · exact v_vret dX10_refuseFault_18 rfl rfl (by decide) (by decide)
  · refine v_aload_n dX10_refuseFault_5 rfl 0 rfl ?_
    refine v_iload_n dX10_refuseFault_6 rfl 1 rfl ?_
    refine v_putI fl_X10_73 tt_0 rfl (ty0 := .int) rfl rfl rfl dX10_refuseFault_7 ?_
    exact v_throw (names := exN) rfl (by decide) exN_ok gw_602 gw_64 xg_X10_293 xo_X10_293 dX10_refuseFault_10 dX10_refuseFault_13 dX10_refuseFault_14 dX10_refuseFault_17 (CR_t1 _ _ _) (CR_t2 (Nat.le_of_ble_eq_true rfl) _ _ _) (by decide) (by decide) rfl (by decide) (by decide)
theorem S_X10_refuseFault {g : GC} (hl : g.1.stackTraces = false) {x1 : Int32} {w : XW} : ∀ q, f_X10_refuseFault x1 w = some q → MM g (.code yX10_refuseFault cX10_refuseFault 2 none) yX10_refuseFault (rmL 3 1 6) 1 6 [.ref (g.2.1 + 0), .int x1] w (oVX q) := fun q hq => MM_of (own := RX10) hl (by decide) gw_1336 rfl (Nat.le_of_ble_eq_true rfl) (W_X10_refuseFault hl q hq) ⟨rfl, rfl⟩

theorem dX10_search_0 : decode cX10_search 0 = .ok (.aload_n 0, 1) := by decide +kernel
theorem dX10_search_1 : decode cX10_search 1 = .ok (.getfield 58, 3) := by decide +kernel
theorem dX10_search_4 : decode cX10_search 4 = .ok (.aload_n 0, 1) := by decide +kernel
theorem dX10_search_5 : decode cX10_search 5 = .ok (.getfield 10, 3) := by decide +kernel
theorem dX10_search_8 : decode cX10_search 8 = .ok (.getfield 90, 3) := by decide +kernel
theorem dX10_search_11 : decode cX10_search 11 = .ok (.invokevirtual 222, 3) := by decide +kernel
theorem dX10_search_14 : decode cX10_search 14 = .ok (.aload_n 0, 1) := by decide +kernel
theorem dX10_search_15 : decode cX10_search 15 = .ok (.getfield 58, 3) := by decide +kernel
theorem dX10_search_18 : decode cX10_search 18 = .ok (.aload_n 0, 1) := by decide +kernel
theorem dX10_search_19 : decode cX10_search 19 = .ok (.getfield 48, 3) := by decide +kernel
theorem dX10_search_22 : decode cX10_search 22 = .ok (.invokevirtual 226, 3) := by decide +kernel
theorem dX10_search_25 : decode cX10_search 25 = .ok (.istore_n 1, 1) := by decide +kernel
theorem dX10_search_26 : decode cX10_search 26 = .ok (.aload_n 0, 1) := by decide +kernel
theorem dX10_search_27 : decode cX10_search 27 = .ok (.aload_n 0, 1) := by decide +kernel
theorem dX10_search_28 : decode cX10_search 28 = .ok (.getfield 58, 3) := by decide +kernel
theorem dX10_search_31 : decode cX10_search 31 = .ok (.getfield 230, 3) := by decide +kernel
theorem dX10_search_34 : decode cX10_search 34 = .ok (.invokevirtual 233, 3) := by decide +kernel
theorem dX10_search_37 : decode cX10_search 37 = .ok (.iload_n 1, 1) := by decide +kernel
theorem dX10_search_38 : decode cX10_search 38 = .ok (.invokestatic 116, 3) := by decide +kernel
theorem dX10_search_41 : decode cX10_search 41 = .ok (.ireturn, 1) := by decide +kernel
def f_X10_search (w : XW) : Option ((Int32 × XW) ⊕ (String × XW)) := (bV (f_X7_askForAll 2 w) (fun w1 => (bI (f_X7_read w1) (fun r2 w2 => (bVX (f_X10_refuseFault (w2.1 136 3) w2) (fun w3 => (bI (f_J6_bitCount_0f7a4 r2 w3) (fun r4 w4 => (some (.inl (r4, w4)))))))))))
set_option maxRecDepth 100000 in
theorem W_X10_search {g : GC} (hl : g.1.stackTraces = false) {w : XW} : VE g cX10_search 2 RX10 (some .int) [] (rmL 31 1 6) 1 6 oIX 0 0 0 [(0, .ref (g.2.1 + 0))] [] w (f_X10_search  w) := by
  unfold f_X10_search
  refine v_aload_n dX10_search_0 rfl 0 rfl ?_
  refine v_getR fl_X10_58 tt_0 rfl dX10_search_1 ?_
  refine v_aload_n dX10_search_4 rfl 0 rfl ?_
  refine v_getR fl_X10_10 tt_0 rfl dX10_search_5 ?_
  refine v_getR fl_X10_90 tt_1 rfl dX10_search_8 ?_
  refine v_callVv (As := [.ref (g.2.1 + 2)]) cv_X10_222 (S_X7_askForAll hl is9_2) tt_136 rfl rfl rfl (Nat.le_of_ble_eq_true rfl) dX10_search_11 (CR_rm (by decide) (by decide) (by decide) (by decide)) (fun w1 => ?_)
  refine v_aload_n dX10_search_14 rfl 0 rfl ?_
  refine v_getR fl_X10_58 tt_0 rfl dX10_search_15 ?_
  refine v_aload_n dX10_search_18 rfl 0 rfl ?_
  refine v_getR fl_X10_48 tt_0 rfl dX10_search_19 ?_
  refine v_callVi (As := [.ref (g.2.1 + 132)]) cv_X10_226 (S_X7_read hl) tt_136 rfl rfl rfl (Nat.le_of_ble_eq_true rfl) dX10_search_22 (CR_rm (by decide) (by decide) (by decide) (by decide)) (fun r2 w2 => ?_)
  refine v_istore_n dX10_search_25 rfl (Nat.le_of_ble_eq_true rfl) rfl ?_
  refine v_aload_n dX10_search_26 rfl 1 rfl ?_
  refine v_aload_n dX10_search_27 rfl 1 rfl ?_
  refine v_getR fl_X10_58 tt_0 rfl dX10_search_28 ?_
  refine v_getI fl_X10_230 tt_136 rfl dX10_search_31 ?_
  refine v_callVvx (As := [.int (w2.1 136 3)]) rfl (fun _ => rfl) (by decide) (by decide) cv_X10_233 (S_X10_refuseFault hl) tt_0 rfl rfl rfl (Nat.le_of_ble_eq_true rfl) dX10_search_34 (CR_rm (by decide) (by decide) (by decide) (by decide)) (fun w3 => ?_)
  refine v_iload_n dX10_search_37 rfl 0 rfl ?_
  refine v_callSi (As := [.int r2]) cs_X10_116 (S_J6_bitCount_0f7a4 hl) rfl rfl (Nat.le_of_ble_eq_true rfl) dX10_search_38 (CR_rm (by decide) (by decide) (by decide) (by decide)) (fun r4 w4 => ?_)
  exact v_iret dX10_search_41 rfl rfl (by decide) (by decide)
theorem S_X10_search {g : GC} (hl : g.1.stackTraces = false) {w : XW} : ∀ q, f_X10_search  w = some q → MM g (.code yX10_search cX10_search 2 (some .int)) yX10_search (rmL 31 1 6) 1 6 [.ref (g.2.1 + 0)] w (oIX q) := fun q hq => MM_of (own := RX10) hl (by decide) gw_1497 rfl (Nat.le_of_ble_eq_true rfl) (W_X10_search hl q hq) ⟨rfl, rfl⟩

theorem dX10_matches_0 : decode cX10_matches 0 = .ok (.aload_n 0, 1) := by decide +kernel
theorem dX10_matches_1 : decode cX10_matches 1 = .ok (.iload_n 1, 1) := by decide +kernel
theorem dX10_matches_2 : decode cX10_matches 2 = .ok (.invokevirtual 99, 3) := by decide +kernel
theorem dX10_matches_5 : decode cX10_matches 5 = .ok (.aload_n 0, 1) := by decide +kernel
theorem dX10_matches_6 : decode cX10_matches 6 = .ok (.getfield 58, 3) := by decide +kernel
theorem dX10_matches_9 : decode cX10_matches 9 = .ok (.aload_n 0, 1) := by decide +kernel
theorem dX10_matches_10 : decode cX10_matches 10 = .ok (.getfield 10, 3) := by decide +kernel
theorem dX10_matches_13 : decode cX10_matches 13 = .ok (.getfield 90, 3) := by decide +kernel
theorem dX10_matches_16 : decode cX10_matches 16 = .ok (.iload_n 1, 1) := by decide +kernel
theorem dX10_matches_17 : decode cX10_matches 17 = .ok (.invokevirtual 236, 3) := by decide +kernel
theorem dX10_matches_20 : decode cX10_matches 20 = .ok (.aload_n 0, 1) := by decide +kernel
theorem dX10_matches_21 : decode cX10_matches 21 = .ok (.getfield 58, 3) := by decide +kernel
theorem dX10_matches_24 : decode cX10_matches 24 = .ok (.aload_n 0, 1) := by decide +kernel
theorem dX10_matches_25 : decode cX10_matches 25 = .ok (.getfield 48, 3) := by decide +kernel
theorem dX10_matches_28 : decode cX10_matches 28 = .ok (.invokevirtual 226, 3) := by decide +kernel
theorem dX10_matches_31 : decode cX10_matches 31 = .ok (.istore_n 2, 1) := by decide +kernel
theorem dX10_matches_32 : decode cX10_matches 32 = .ok (.aload_n 0, 1) := by decide +kernel
theorem dX10_matches_33 : decode cX10_matches 33 = .ok (.aload_n 0, 1) := by decide +kernel
theorem dX10_matches_34 : decode cX10_matches 34 = .ok (.getfield 58, 3) := by decide +kernel
theorem dX10_matches_37 : decode cX10_matches 37 = .ok (.getfield 230, 3) := by decide +kernel
theorem dX10_matches_40 : decode cX10_matches 40 = .ok (.invokevirtual 233, 3) := by decide +kernel
theorem dX10_matches_43 : decode cX10_matches 43 = .ok (.iload_n 2, 1) := by decide +kernel
theorem dX10_matches_44 : decode cX10_matches 44 = .ok (.ifCond .eq 7, 3) := by decide +kernel
theorem dX10_matches_47 : decode cX10_matches 47 = .ok (.iconst 1, 1) := by decide +kernel
theorem dX10_matches_48 : decode cX10_matches 48 = .ok (.goto 4, 3) := by decide +kernel
theorem dX10_matches_51 : decode cX10_matches 51 = .ok (.iconst 0, 1) := by decide +kernel
theorem dX10_matches_52 : decode cX10_matches 52 = .ok (.ireturn, 1) := by decide +kernel
def f_X10_matches (x1 : Int32) (w : XW) : Option ((Int32 × XW) ⊕ (String × XW)) := (bVX (f_X10_requireSection x1 w) (fun w1 => (bV (f_X7_askForOne 2 x1 w1) (fun w2 => (bI (f_X7_read w2) (fun r3 w3 => (bVX (f_X10_refuseFault (w3.1 136 3) w3) (fun w4 => (if r3 = 0 then (some (.inl (0, w4))) else (some (.inl (1, w4))))))))))))
set_option maxRecDepth 100000 in
theorem W_X10_matches {g : GC} (hl : g.1.stackTraces = false) {x1 : Int32} {w : XW} : VE g cX10_matches 3 RX10 (some .boolean) [] (rmL 31 2 12) 2 12 oIX 0 0 0 [(0, .ref (g.2.1 + 0)), (1, .int x1)] [] w (f_X10_matches x1 w) := by
  unfold f_X10_matches
  refine v_aload_n dX10_matches_0 rfl 0 rfl ?_
  refine v_iload_n dX10_matches_1 rfl 1 rfl ?_
  refine v_callVvx (As := [.int x1]) rfl (fun _ => rfl) (by decide) (by decide) cv_X10_99 (S_X10_requireSection hl) tt_0 rfl rfl rfl (Nat.le_of_ble_eq_true rfl) dX10_matches_2 (CR_rm (by decide) (by decide) (by decide) (by decide)) (fun w1 => ?_)
  refine v_aload_n dX10_matches_5 rfl 0 rfl ?_
  refine v_getR fl_X10_58 tt_0 rfl dX10_matches_6 ?_
  refine v_aload_n dX10_matches_9 rfl 0 rfl ?_
  refine v_getR fl_X10_10 tt_0 rfl dX10_matches_10 ?_
  refine v_getR fl_X10_90 tt_1 rfl dX10_matches_13 ?_
  refine v_iload_n dX10_matches_16 rfl 1 rfl ?_
  refine v_callVv (As := [.ref (g.2.1 + 2), .int x1]) cv_X10_236 (S_X7_askForOne hl is9_2) tt_136 rfl rfl rfl (Nat.le_of_ble_eq_true rfl) dX10_matches_17 (CR_rm (by decide) (by decide) (by decide) (by decide)) (fun w2 => ?_)
  refine v_aload_n dX10_matches_20 rfl 0 rfl ?_
  refine v_getR fl_X10_58 tt_0 rfl dX10_matches_21 ?_
  refine v_aload_n dX10_matches_24 rfl 0 rfl ?_
  refine v_getR fl_X10_48 tt_0 rfl dX10_matches_25 ?_
  refine v_callVi (As := [.ref (g.2.1 + 132)]) cv_X10_226 (S_X7_read hl) tt_136 rfl rfl rfl (Nat.le_of_ble_eq_true rfl) dX10_matches_28 (CR_rm (by decide) (by decide) (by decide) (by decide)) (fun r3 w3 => ?_)
  refine v_istore_n dX10_matches_31 rfl (Nat.le_of_ble_eq_true rfl) rfl ?_
  refine v_aload_n dX10_matches_32 rfl 1 rfl ?_
  refine v_aload_n dX10_matches_33 rfl 1 rfl ?_
  refine v_getR fl_X10_58 tt_0 rfl dX10_matches_34 ?_
  refine v_getI fl_X10_230 tt_136 rfl dX10_matches_37 ?_
  refine v_callVvx (As := [.int (w3.1 136 3)]) rfl (fun _ => rfl) (by decide) (by decide) cv_X10_233 (S_X10_refuseFault hl) tt_0 rfl rfl rfl (Nat.le_of_ble_eq_true rfl) dX10_matches_40 (CR_rm (by decide) (by decide) (by decide) (by decide)) (fun w4 => ?_)
  refine v_iload_n dX10_matches_43 rfl 0 rfl ?_
  refine v_if_eq (tgt := 51) dX10_matches_44 (by decide) ?_ ?_
  · refine v_iconst (v := 0) dX10_matches_51 (by decide) ?_
    exact v_zret dX10_matches_52 rfl rfl rfl (by decide) (by decide)
  · refine v_iconst (v := 1) dX10_matches_47 (by decide) ?_
    refine v_goto (tgt := 52) dX10_matches_48 (by decide) ?_
    exact v_zret dX10_matches_52 rfl rfl rfl (by decide) (by decide)
theorem S_X10_matches {g : GC} (hl : g.1.stackTraces = false) {x1 : Int32} {w : XW} : ∀ q, f_X10_matches x1 w = some q → MM g (.code yX10_matches cX10_matches 3 (some .boolean)) yX10_matches (rmL 31 2 12) 2 12 [.ref (g.2.1 + 0), .int x1] w (oIX q) := fun q hq => MM_of (own := RX10) hl (by decide) gw_1561 rfl (Nat.le_of_ble_eq_true rfl) (W_X10_matches hl q hq) ⟨rfl, rfl⟩

theorem dX10_runCommand_0 : decode cX10_runCommand 0 = .ok (.aload_n 0, 1) := by decide +kernel
theorem dX10_runCommand_1 : decode cX10_runCommand 1 = .ok (.getfield 65, 3) := by decide +kernel
theorem dX10_runCommand_4 : decode cX10_runCommand 4 = .ok (.iload_n 1, 1) := by decide +kernel
theorem dX10_runCommand_5 : decode cX10_runCommand 5 = .ok (.invokevirtual 286, 3) := by decide +kernel
theorem dX10_runCommand_8 : decode cX10_runCommand 8 = .ok (.istore_n 2, 1) := by decide +kernel
theorem dX10_runCommand_9 : decode cX10_runCommand 9 = .ok (.aload_n 0, 1) := by decide +kernel
theorem dX10_runCommand_10 : decode cX10_runCommand 10 = .ok (.getfield 65, 3) := by decide +kernel
theorem dX10_runCommand_13 : decode cX10_runCommand 13 = .ok (.iload_n 1, 1) := by decide +kernel
theorem dX10_runCommand_14 : decode cX10_runCommand 14 = .ok (.iconst 0, 1) := by decide +kernel
theorem dX10_runCommand_15 : decode cX10_runCommand 15 = .ok (.invokevirtual 289, 3) := by decide +kernel
theorem dX10_runCommand_18 : decode cX10_runCommand 18 = .ok (.istore_n 3, 1) := by decide +kernel
theorem dX10_runCommand_19 : decode cX10_runCommand 19 = .ok (.aload_n 0, 1) := by decide +kernel
theorem dX10_runCommand_20 : decode cX10_runCommand 20 = .ok (.getfield 65, 3) := by decide +kernel
theorem dX10_runCommand_23 : decode cX10_runCommand 23 = .ok (.iload_n 1, 1) := by decide +kernel
theorem dX10_runCommand_24 : decode cX10_runCommand 24 = .ok (.iconst 1, 1) := by decide +kernel
theorem dX10_runCommand_25 : decode cX10_runCommand 25 = .ok (.invokevirtual 289, 3) := by decide +kernel
theorem dX10_runCommand_28 : decode cX10_runCommand 28 = .ok (.istore 4, 2) := by decide +kernel
theorem dX10_runCommand_30 : decode cX10_runCommand 30 = .ok (.aload_n 0, 1) := by decide +kernel
theorem dX10_runCommand_31 : decode cX10_runCommand 31 = .ok (.getfield 65, 3) := by decide +kernel
theorem dX10_runCommand_34 : decode cX10_runCommand 34 = .ok (.iload_n 1, 1) := by decide +kernel
theorem dX10_runCommand_35 : decode cX10_runCommand 35 = .ok (.iconst 2, 1) := by decide +kernel
theorem dX10_runCommand_36 : decode cX10_runCommand 36 = .ok (.invokevirtual 289, 3) := by decide +kernel
theorem dX10_runCommand_39 : decode cX10_runCommand 39 = .ok (.istore 5, 2) := by decide +kernel
theorem dX10_runCommand_41 : decode cX10_runCommand 41 = .ok (.aload_n 0, 1) := by decide +kernel
theorem dX10_runCommand_42 : decode cX10_runCommand 42 = .ok (.getfield 10, 3) := by decide +kernel
theorem dX10_runCommand_45 : decode cX10_runCommand 45 = .ok (.iload_n 2, 1) := by decide +kernel
theorem dX10_runCommand_46 : decode cX10_runCommand 46 = .ok (.iload_n 3, 1) := by decide +kernel
theorem dX10_runCommand_47 : decode cX10_runCommand 47 = .ok (.iload 4, 2) := by decide +kernel
theorem dX10_runCommand_49 : decode cX10_runCommand 49 = .ok (.iload 5, 2) := by decide +kernel
theorem dX10_runCommand_51 : decode cX10_runCommand 51 = .ok (.invokevirtual 279, 3) := by decide +kernel
theorem dX10_runCommand_54 : decode cX10_runCommand 54 = .ok (.istore 6, 2) := by decide +kernel
theorem dX10_runCommand_56 : decode cX10_runCommand 56 = .ok (.iload 6, 2) := by decide +kernel
theorem dX10_runCommand_58 : decode cX10_runCommand 58 = .ok (.ifCond .ne 21, 3) := by decide +kernel
theorem dX10_runCommand_61 : decode cX10_runCommand 61 = .ok (.aload_n 0, 1) := by decide +kernel
theorem dX10_runCommand_62 : decode cX10_runCommand 62 = .ok (.getfield 10, 3) := by decide +kernel
theorem dX10_runCommand_65 : decode cX10_runCommand 65 = .ok (.iload_n 2, 1) := by decide +kernel
theorem dX10_runCommand_66 : decode cX10_runCommand 66 = .ok (.iload_n 3, 1) := by decide +kernel
theorem dX10_runCommand_67 : decode cX10_runCommand 67 = .ok (.iload 4, 2) := by decide +kernel
theorem dX10_runCommand_69 : decode cX10_runCommand 69 = .ok (.iload 5, 2) := by decide +kernel
theorem dX10_runCommand_71 : decode cX10_runCommand 71 = .ok (.aload_n 0, 1) := by decide +kernel
theorem dX10_runCommand_72 : decode cX10_runCommand 72 = .ok (.getfield 32, 3) := by decide +kernel
theorem dX10_runCommand_75 : decode cX10_runCommand 75 = .ok (.invokevirtual 282, 3) := by decide +kernel
theorem dX10_runCommand_78 : decode cX10_runCommand 78 = .ok (.pop, 1) := by decide +kernel
theorem dX10_runCommand_79 : decode cX10_runCommand 79 = .ok (.iload 6, 2) := by decide +kernel
theorem dX10_runCommand_81 : decode cX10_runCommand 81 = .ok (.ireturn, 1) := by decide +kernel
def f_X10_runCommand (x1 : Int32) (w : XW) : Option (Int32 × XW) := (bI (f_X0_kindOf x1 w) (fun r1 w1 => (bI (f_X0_operandOf x1 0 w1) (fun r2 w2 => (bI (f_X0_operandOf x1 1 w2) (fun r3 w3 => (bI (f_X0_operandOf x1 2 w3) (fun r4 w4 => (bI (f_X8_judge 1 r1 r2 r3 r4 w4) (fun r5 w5 => (if r5 = 0 then (bI (f_X8_apply 1 r1 r2 r3 r4 w5) (fun r6 w6 => (some (r5, w6)))) else (some (r5, w5)))))))))))))
set_option maxRecDepth 100000 in
theorem W_X10_runCommand {g : GC} (hl : g.1.stackTraces = false) {x1 : Int32} {w : XW} : VE g cX10_runCommand 7 RX10 (some .int) [] (rmL 9 0 0) 0 0 oI 0 0 0 [(0, .ref (g.2.1 + 0)), (1, .int x1)] [] w (f_X10_runCommand x1 w) := by
  unfold f_X10_runCommand
  refine v_aload_n dX10_runCommand_0 rfl 0 rfl ?_
  refine v_getR fl_X10_65 tt_0 rfl dX10_runCommand_1 ?_
  refine v_iload_n dX10_runCommand_4 rfl 1 rfl ?_
  refine v_callVi (As := [.int x1]) cv_X10_286 (S_X0_kindOf hl) tt_138 rfl rfl rfl (Nat.le_of_ble_eq_true rfl) dX10_runCommand_5 (CR_rm (by decide) (by decide) (by decide) (by decide)) (fun r1 w1 => ?_)
  refine v_istore_n dX10_runCommand_8 rfl (Nat.le_of_ble_eq_true rfl) rfl ?_
  refine v_aload_n dX10_runCommand_9 rfl 1 rfl ?_
  refine v_getR fl_X10_65 tt_0 rfl dX10_runCommand_10 ?_
  refine v_iload_n dX10_runCommand_13 rfl 2 rfl ?_
  refine v_iconst (v := 0) dX10_runCommand_14 (by decide) ?_
  refine v_callVi (As := [.int x1, .int 0]) cv_X10_289 (S_X0_operandOf hl) tt_138 rfl rfl rfl (Nat.le_of_ble_eq_true rfl) dX10_runCommand_15 (CR_rm (by decide) (by decide) (by decide) (by decide)) (fun r2 w2 => ?_)
  refine v_istore_n dX10_runCommand_18 rfl (Nat.le_of_ble_eq_true rfl) rfl ?_
  refine v_aload_n dX10_runCommand_19 rfl 2 rfl ?_
  refine v_getR fl_X10_65 tt_0 rfl dX10_runCommand_20 ?_
  refine v_iload_n dX10_runCommand_23 rfl 3 rfl ?_
  refine v_iconst (v := 1) dX10_runCommand_24 (by decide) ?_
  refine v_callVi (As := [.int x1, .int 1]) cv_X10_289 (S_X0_operandOf hl) tt_138 rfl rfl rfl (Nat.le_of_ble_eq_true rfl) dX10_runCommand_25 (CR_rm (by decide) (by decide) (by decide) (by decide)) (fun r3 w3 => ?_)
  refine v_istore dX10_runCommand_28 (Nat.le_of_ble_eq_true rfl) rfl ?_
  refine v_aload_n dX10_runCommand_30 rfl 3 rfl ?_
  refine v_getR fl_X10_65 tt_0 rfl dX10_runCommand_31 ?_
  refine v_iload_n dX10_runCommand_34 rfl 4 rfl ?_
  refine v_iconst (v := 2) dX10_runCommand_35 (by decide) ?_
  refine v_callVi (As := [.int x1, .int 2]) cv_X10_289 (S_X0_operandOf hl) tt_138 rfl rfl rfl (Nat.le_of_ble_eq_true rfl) dX10_runCommand_36 (CR_rm (by decide) (by decide) (by decide) (by decide)) (fun r4 w4 => ?_)
  refine v_istore dX10_runCommand_39 (Nat.le_of_ble_eq_true rfl) rfl ?_
  refine v_aload_n dX10_runCommand_41 rfl 4 rfl ?_
  refine v_getR fl_X10_10 tt_0 rfl dX10_runCommand_42 ?_
  refine v_iload_n dX10_runCommand_45 rfl 3 rfl ?_
  refine v_iload_n dX10_runCommand_46 rfl 2 rfl ?_
  refine v_iload dX10_runCommand_47 1 rfl ?_
  refine v_iload dX10_runCommand_49 0 rfl ?_
  refine v_callVi (As := [.int r1, .int r2, .int r3, .int r4]) cv_X10_279 (S_X8_judge hl is8_1) tt_1 rfl rfl rfl (Nat.le_of_ble_eq_true rfl) dX10_runCommand_51 (CR_rm (by decide) (by decide) (by decide) (by decide)) (fun r5 w5 => ?_)
  refine v_istore dX10_runCommand_54 (Nat.le_of_ble_eq_true rfl) rfl ?_
  refine v_iload dX10_runCommand_56 0 rfl ?_
  refine v_if_ne (tgt := 79) dX10_runCommand_58 (by decide) ?_ ?_
  · refine v_iload dX10_runCommand_79 0 rfl ?_
    exact v_iret dX10_runCommand_81 rfl rfl (by decide) (by decide)
  · refine v_aload_n dX10_runCommand_61 rfl 5 rfl ?_
    refine v_getR fl_X10_10 tt_0 rfl dX10_runCommand_62 ?_
    refine v_iload_n dX10_runCommand_65 rfl 4 rfl ?_
    refine v_iload_n dX10_runCommand_66 rfl 3 rfl ?_
    refine v_iload dX10_runCommand_67 2 rfl ?_
    refine v_iload dX10_runCommand_69 1 rfl ?_
    refine v_aload_n dX10_runCommand_71 rfl 5 rfl ?_
    refine v_getR fl_X10_32 tt_0 rfl dX10_runCommand_72 ?_
    refine v_callVi (As := [.int r1, .int r2, .int r3, .int r4, .ref (g.2.1 + 124)]) cv_X10_282 (S_X8_apply hl is8_1) tt_1 rfl rfl rfl (Nat.le_of_ble_eq_true rfl) dX10_runCommand_75 (CR_rm (by decide) (by decide) (by decide) (by decide)) (fun r6 w6 => ?_)
    refine v_pop dX10_runCommand_78 rfl ?_
    refine v_iload dX10_runCommand_79 0 rfl ?_
    exact v_iret dX10_runCommand_81 rfl rfl (by decide) (by decide)
theorem S_X10_runCommand {g : GC} (hl : g.1.stackTraces = false) {x1 : Int32} {w : XW} : ∀ q, f_X10_runCommand x1 w = some q → MM g (.code yX10_runCommand cX10_runCommand 7 (some .int)) yX10_runCommand (rmL 9 0 0) 0 0 [.ref (g.2.1 + 0), .int x1] w (oI q) := fun q hq => MM_of (own := RX10) hl (by decide) gw_1341 rfl (Nat.le_of_ble_eq_true rfl) (W_X10_runCommand hl q hq) ⟨rfl, rfl⟩

theorem dX10_causeOf_0 : decode cX10_causeOf 0 = .ok (.iload_n 0, 1) := by decide +kernel
theorem dX10_causeOf_1 : decode cX10_causeOf 1 = .ok (.ifCond .le 10, 3) := by decide +kernel
theorem dX10_causeOf_4 : decode cX10_causeOf 4 = .ok (.iload_n 0, 1) := by decide +kernel
theorem dX10_causeOf_5 : decode cX10_causeOf 5 = .ok (.bipush 100, 2) := by decide +kernel
theorem dX10_causeOf_7 : decode cX10_causeOf 7 = .ok (.idiv, 1) := by decide +kernel
theorem dX10_causeOf_8 : decode cX10_causeOf 8 = .ok (.goto 5, 3) := by decide +kernel
theorem dX10_causeOf_11 : decode cX10_causeOf 11 = .ok (.bipush 9, 2) := by decide +kernel
theorem dX10_causeOf_13 : decode cX10_causeOf 13 = .ok (.ireturn, 1) := by decide +kernel
def f_X10_causeOf (x0 : Int32) (w : XW) : Option (Int32 × XW) := (if x0 ≤ 0 then (some (9, w)) else (some ((x0 / 100), w)))
set_option maxRecDepth 100000 in
theorem W_X10_causeOf {g : GC} (hl : g.1.stackTraces = false) {x0 : Int32} {w : XW} : VE g cX10_causeOf 1 RX10 (some .int) [] (rmL 3 0 0) 0 0 oI 0 0 0 [(0, .int x0)] [] w (f_X10_causeOf x0 w) := by
  unfold f_X10_causeOf
  refine v_iload_n dX10_causeOf_0 rfl 0 rfl ?_
  refine v_if_le (tgt := 11) dX10_causeOf_1 (by decide) ?_ ?_
  · refine v_bipush (v := 9) dX10_causeOf_11 (by decide) ?_
    exact v_iret dX10_causeOf_13 rfl rfl (by decide) (by decide)
  · refine v_iload_n dX10_causeOf_4 rfl 0 rfl ?_
    refine v_bipush (v := 100) dX10_causeOf_5 (by decide) ?_
    refine v_idiv dX10_causeOf_7 (by decide) ?_
    refine v_goto (tgt := 13) dX10_causeOf_8 (by decide) ?_
    exact v_iret dX10_causeOf_13 rfl rfl (by decide) (by decide)
theorem S_X10_causeOf {g : GC} (hl : g.1.stackTraces = false) {x0 : Int32} {w : XW} : ∀ q, f_X10_causeOf x0 w = some q → MM g (.code yX10_causeOf cX10_causeOf 1 (some .int)) yX10_causeOf (rmL 3 0 0) 0 0 [.int x0] w (oI q) := fun q hq => MM_of (own := RX10) hl (by decide) gw_1352 rfl (Nat.le_of_ble_eq_true rfl) (W_X10_causeOf hl q hq) ⟨rfl, rfl⟩

theorem dX10_execute_0 : decode cX10_execute 0 = .ok (.aload_n 0, 1) := by decide +kernel
theorem dX10_execute_1 : decode cX10_execute 1 = .ok (.getfield 65, 3) := by decide +kernel
theorem dX10_execute_4 : decode cX10_execute 4 = .ok (.aload_n 0, 1) := by decide +kernel
theorem dX10_execute_5 : decode cX10_execute 5 = .ok (.getfield 48, 3) := by decide +kernel
theorem dX10_execute_8 : decode cX10_execute 8 = .ok (.invokevirtual 240, 3) := by decide +kernel
theorem dX10_execute_11 : decode cX10_execute 11 = .ok (.aload_n 0, 1) := by decide +kernel
theorem dX10_execute_12 : decode cX10_execute 12 = .ok (.getfield 48, 3) := by decide +kernel
theorem dX10_execute_15 : decode cX10_execute 15 = .ok (.invokevirtual 219, 3) := by decide +kernel
theorem dX10_execute_18 : decode cX10_execute 18 = .ok (.aload_n 0, 1) := by decide +kernel
theorem dX10_execute_19 : decode cX10_execute 19 = .ok (.aload_n 0, 1) := by decide +kernel
theorem dX10_execute_20 : decode cX10_execute 20 = .ok (.getfield 65, 3) := by decide +kernel
theorem dX10_execute_23 : decode cX10_execute 23 = .ok (.getfield 243, 3) := by decide +kernel
theorem dX10_execute_26 : decode cX10_execute 26 = .ok (.invokevirtual 233, 3) := by decide +kernel
theorem dX10_execute_29 : decode cX10_execute 29 = .ok (.aload_n 0, 1) := by decide +kernel
theorem dX10_execute_30 : decode cX10_execute 30 = .ok (.getfield 16, 3) := by decide +kernel
theorem dX10_execute_33 : decode cX10_execute 33 = .ok (.aload_n 0, 1) := by decide +kernel
theorem dX10_execute_34 : decode cX10_execute 34 = .ok (.getfield 10, 3) := by decide +kernel
theorem dX10_execute_37 : decode cX10_execute 37 = .ok (.invokevirtual 244, 3) := by decide +kernel
theorem dX10_execute_40 : decode cX10_execute 40 = .ok (.iconst 0, 1) := by decide +kernel
theorem dX10_execute_41 : decode cX10_execute 41 = .ok (.istore_n 1, 1) := by decide +kernel
theorem dX10_execute_42 : decode cX10_execute 42 = .ok (.iload_n 1, 1) := by decide +kernel
theorem dX10_execute_43 : decode cX10_execute 43 = .ok (.aload_n 0, 1) := by decide +kernel
theorem dX10_execute_44 : decode cX10_execute 44 = .ok (.getfield 65, 3) := by decide +kernel
theorem dX10_execute_47 : decode cX10_execute 47 = .ok (.getfield 248, 3) := by decide +kernel
theorem dX10_execute_50 : decode cX10_execute 50 = .ok (.if_icmp .ge 49, 3) := by decide +kernel
theorem dX10_execute_53 : decode cX10_execute 53 = .ok (.aload_n 0, 1) := by decide +kernel
theorem dX10_execute_54 : decode cX10_execute 54 = .ok (.iload_n 1, 1) := by decide +kernel
theorem dX10_execute_55 : decode cX10_execute 55 = .ok (.invokevirtual 249, 3) := by decide +kernel
theorem dX10_execute_58 : decode cX10_execute 58 = .ok (.istore_n 2, 1) := by decide +kernel
theorem dX10_execute_59 : decode cX10_execute 59 = .ok (.iload_n 2, 1) := by decide +kernel
theorem dX10_execute_60 : decode cX10_execute 60 = .ok (.ifCond .eq 33, 3) := by decide +kernel
theorem dX10_execute_63 : decode cX10_execute 63 = .ok (.aload_n 0, 1) := by decide +kernel
theorem dX10_execute_64 : decode cX10_execute 64 = .ok (.getfield 10, 3) := by decide +kernel
theorem dX10_execute_67 : decode cX10_execute 67 = .ok (.aload_n 0, 1) := by decide +kernel
theorem dX10_execute_68 : decode cX10_execute 68 = .ok (.getfield 16, 3) := by decide +kernel
theorem dX10_execute_71 : decode cX10_execute 71 = .ok (.invokevirtual 244, 3) := by decide +kernel
theorem dX10_execute_74 : decode cX10_execute 74 = .ok (.aload_n 0, 1) := by decide +kernel
theorem dX10_execute_75 : decode cX10_execute 75 = .ok (.bipush 8, 2) := by decide +kernel
theorem dX10_execute_77 : decode cX10_execute 77 = .ok (.iload_n 1, 1) := by decide +kernel
theorem dX10_execute_78 : decode cX10_execute 78 = .ok (.iload_n 2, 1) := by decide +kernel
theorem dX10_execute_79 : decode cX10_execute 79 = .ok (.invokestatic 252, 3) := by decide +kernel
theorem dX10_execute_82 : decode cX10_execute 82 = .ok (.invokevirtual 255, 3) := by decide +kernel
theorem dX10_execute_85 : decode cX10_execute 85 = .ok (.new 259, 3) := by decide +kernel
theorem dX10_execute_88 : decode cX10_execute 88 = .ok (.dup, 1) := by decide +kernel
theorem dX10_execute_89 : decode cX10_execute 89 = .ok (.invokespecial 261, 3) := by decide +kernel
theorem dX10_execute_92 : decode cX10_execute 92 = .ok (.athrow, 1) := by decide +kernel
theorem dX10_execute_93 : decode cX10_execute 93 = .ok (.iinc 1 1, 3) := by decide +kernel
theorem dX10_execute_96 : decode cX10_execute 96 = .ok (.goto (-54), 3) := by decide +kernel
theorem dX10_execute_99 : decode cX10_execute 99 = .ok (.aload_n 0, 1) := by decide +kernel
theorem dX10_execute_100 : decode cX10_execute 100 = .ok (.getfield 25, 3) := by decide +kernel
theorem dX10_execute_103 : decode cX10_execute 103 = .ok (.aload_n 0, 1) := by decide +kernel
theorem dX10_execute_104 : decode cX10_execute 104 = .ok (.getfield 16, 3) := by decide +kernel
theorem dX10_execute_107 : decode cX10_execute 107 = .ok (.invokevirtual 262, 3) := by decide +kernel
theorem dX10_execute_110 : decode cX10_execute 110 = .ok (.aload_n 0, 1) := by decide +kernel
theorem dX10_execute_111 : decode cX10_execute 111 = .ok (.getfield 65, 3) := by decide +kernel
theorem dX10_execute_114 : decode cX10_execute 114 = .ok (.getfield 248, 3) := by decide +kernel
theorem dX10_execute_117 : decode cX10_execute 117 = .ok (.ireturn, 1) := by decide +kernel
def f_X10_execute_42 : Nat → Int32 → XW → Option ((Int32 × XW) ⊕ (String × XW))
  | 0, _, _ => none
  | n + 1, z1, w => (if (w.1 138 2) ≤ z1 then (bV (f_X3_keep 12 w) (fun w5 => (some (.inl ((w5.1 138 2), w5))))) else (bI (f_X10_runCommand z1 w) (fun r6 w6 => (if r6 = 0 then (f_X10_execute_42 n (z1 + 1) w6) else (bV (f_X8_copyFrom 1 12 w6) (fun w7 => (bI (f_X10_causeOf r6 w7) (fun r8 w8 => (bV (f_X10_recordDenial 8 z1 r8 w8) (fun w9 => (some (.inr ("java/lang/UnsupportedOperationException", w9)))))))))))))
set_option maxRecDepth 100000 in
theorem S_X10_execute_42 {g : GC} (hl : g.1.stackTraces = false) : ∀ (n : Nat) (z1 : Int32) (w : XW), VE g cX10_execute 3 RX10 (some .int) [] (rmL 10 2 12) 2 12 oIX 1 6 42 [(0, .ref (g.2.1 + 0)), (1, .int z1)] [] w (f_X10_execute_42  n z1 w) := by
  intro n
  induction n with
  | zero => intro z1 w; exact v_none
  | succ n ih =>
    intro z1 w
    rw [f_X10_execute_42]
    refine v_iload_n dX10_execute_42 rfl 1 rfl ?_
    refine v_aload_n dX10_execute_43 rfl 0 rfl ?_
    refine v_getR fl_X10_65 tt_0 rfl dX10_execute_44 ?_
    refine v_getI fl_X10_248 tt_138 rfl dX10_execute_47 ?_
    refine v_icmp_ge (tgt := 99) dX10_execute_50 (by decide) ?_ ?_
    · refine v_aload_n dX10_execute_99 rfl 0 rfl ?_
      refine v_getR fl_X10_25 tt_0 rfl dX10_execute_100 ?_
      refine v_aload_n dX10_execute_103 rfl 0 rfl ?_
      refine v_getR fl_X10_16 tt_0 rfl dX10_execute_104 ?_
      refine v_callVv (As := [.ref (g.2.1 + 12)]) cv_X10_262 (S_X3_keep hl is8_12) tt_34 rfl rfl rfl (Nat.le_of_ble_eq_true rfl) dX10_execute_107 (CR_rm (by decide) (by decide) (by decide) (by decide)) (fun w5 => ?_)
      refine v_aload_n dX10_execute_110 rfl 0 rfl ?_
      refine v_getR fl_X10_65 tt_0 rfl dX10_execute_111 ?_
      refine v_getI fl_X10_248 tt_138 rfl dX10_execute_114 ?_
      exact v_iret dX10_execute_117 rfl rfl (by decide) (by decide)
    · refine v_aload_n dX10_execute_53 rfl 0 rfl ?_
      refine v_iload_n dX10_execute_54 rfl 1 rfl ?_
      refine v_callVi (As := [.int z1]) cv_X10_249 (S_X10_runCommand hl) tt_0 rfl rfl rfl (Nat.le_of_ble_eq_true rfl) dX10_execute_55 (CR_rm (by decide) (by decide) (by decide) (by decide)) (fun r6 w6 => ?_)
      refine v_istore_n dX10_execute_58 rfl (Nat.le_of_ble_eq_true rfl) rfl ?_
      refine v_iload_n dX10_execute_59 rfl 0 rfl ?_
      refine v_if_eq (tgt := 93) dX10_execute_60 (by decide) ?_ ?_
      · refine v_iinc (v := (z1 + 1)) dX10_execute_93 (q := 2) rfl rfl (Nat.le_of_ble_eq_true rfl) rfl ?_
        refine v_goto (tgt := 42) dX10_execute_96 (by decide) ?_
        refine v_sub [2, 0] rfl ?_
        exact ih _ _
      · refine v_aload_n dX10_execute_63 rfl 1 rfl ?_
        refine v_getR fl_X10_10 tt_0 rfl dX10_execute_64 ?_
        refine v_aload_n dX10_execute_67 rfl 1 rfl ?_
        refine v_getR fl_X10_16 tt_0 rfl dX10_execute_68 ?_
        refine v_callVv (As := [.ref (g.2.1 + 12)]) cv_X10_244 (S_X8_copyFrom hl is8_1 is8_12) tt_1 rfl rfl rfl (Nat.le_of_ble_eq_true rfl) dX10_execute_71 (CR_rm (by decide) (by decide) (by decide) (by decide)) (fun w7 => ?_)
        refine v_aload_n dX10_execute_74 rfl 1 rfl ?_
        refine v_bipush (v := 8) dX10_execute_75 (by decide) ?_
        refine v_iload_n dX10_execute_77 rfl 2 rfl ?_
        refine v_iload_n dX10_execute_78 rfl 0 rfl ?_
        refine v_callSi (As := [.int r6]) cs_X10_252 (S_X10_causeOf hl) rfl rfl (Nat.le_of_ble_eq_true rfl) dX10_execute_79 (CR_rm (by decide) (by decide) (by decide) (by decide)) (fun r8 w8 => ?_)
        refine v_callVv (As := [.int 8, .int z1, .int r8]) cv_X10_255 (S_X10_recordDenial hl) tt_0 rfl rfl rfl (Nat.le_of_ble_eq_true rfl) dX10_execute_82 (CR_rm (by decide) (by decide) (by decide) (by decide)) (fun w9 => ?_)
        exact v_throw (names := exN) rfl (by decide) exN_ok gw_621 gw_65 xg_X10_259 xo_X10_259 dX10_execute_85 dX10_execute_88 dX10_execute_89 dX10_execute_92 (CR_t1 _ _ _) (CR_t2 (Nat.le_of_ble_eq_true rfl) _ _ _) (by decide) (by decide) rfl (by decide) (by decide)
def f_X10_execute (w : XW) : Option ((Int32 × XW) ⊕ (String × XW)) := (bV (f_X0_read w) (fun w1 => (bV (f_X6_empty 132 w1) (fun w2 => (bVX (f_X10_refuseFault (w2.1 138 3) w2) (fun w3 => (bV (f_X8_copyFrom 12 1 w3) (fun w4 => (f_X10_execute_42 1000 0 w4)))))))))
set_option maxRecDepth 100000 in
theorem W_X10_execute {g : GC} (hl : g.1.stackTraces = false) {w : XW} : VE g cX10_execute 3 RX10 (some .int) [] (rmL 10 2 12) 2 12 oIX 0 0 0 [(0, .ref (g.2.1 + 0))] [] w (f_X10_execute  w) := by
  unfold f_X10_execute
  refine v_aload_n dX10_execute_0 rfl 0 rfl ?_
  refine v_getR fl_X10_65 tt_0 rfl dX10_execute_1 ?_
  refine v_aload_n dX10_execute_4 rfl 0 rfl ?_
  refine v_getR fl_X10_48 tt_0 rfl dX10_execute_5 ?_
  refine v_callVv (As := [.ref (g.2.1 + 132)]) cv_X10_240 (S_X0_read hl) tt_138 rfl rfl rfl (Nat.le_of_ble_eq_true rfl) dX10_execute_8 (CR_rm (by decide) (by decide) (by decide) (by decide)) (fun w1 => ?_)
  refine v_aload_n dX10_execute_11 rfl 0 rfl ?_
  refine v_getR fl_X10_48 tt_0 rfl dX10_execute_12 ?_
  refine v_callVv (As := []) cv_X10_219 (S_X6_empty hl is6_132) tt_132 rfl rfl rfl (Nat.le_of_ble_eq_true rfl) dX10_execute_15 (CR_rm (by decide) (by decide) (by decide) (by decide)) (fun w2 => ?_)
  refine v_aload_n dX10_execute_18 rfl 0 rfl ?_
  refine v_aload_n dX10_execute_19 rfl 0 rfl ?_
  refine v_getR fl_X10_65 tt_0 rfl dX10_execute_20 ?_
  refine v_getI fl_X10_243 tt_138 rfl dX10_execute_23 ?_
  refine v_callVvx (As := [.int (w2.1 138 3)]) rfl (fun _ => rfl) (by decide) (by decide) cv_X10_233 (S_X10_refuseFault hl) tt_0 rfl rfl rfl (Nat.le_of_ble_eq_true rfl) dX10_execute_26 (CR_rm (by decide) (by decide) (by decide) (by decide)) (fun w3 => ?_)
  refine v_aload_n dX10_execute_29 rfl 0 rfl ?_
  refine v_getR fl_X10_16 tt_0 rfl dX10_execute_30 ?_
  refine v_aload_n dX10_execute_33 rfl 0 rfl ?_
  refine v_getR fl_X10_10 tt_0 rfl dX10_execute_34 ?_
  refine v_callVv (As := [.ref (g.2.1 + 1)]) cv_X10_244 (S_X8_copyFrom hl is8_12 is8_1) tt_12 rfl rfl rfl (Nat.le_of_ble_eq_true rfl) dX10_execute_37 (CR_rm (by decide) (by decide) (by decide) (by decide)) (fun w4 => ?_)
  refine v_iconst (v := 0) dX10_execute_40 (by decide) ?_
  refine v_istore_n dX10_execute_41 rfl (Nat.le_of_ble_eq_true rfl) rfl ?_
  refine v_sub [1, 0] rfl ?_
  exact S_X10_execute_42 hl  _ _ _
theorem S_X10_execute {g : GC} (hl : g.1.stackTraces = false) {w : XW} : ∀ q, f_X10_execute  w = some q → MM g (.code yX10_execute cX10_execute 3 (some .int)) yX10_execute (rmL 10 2 12) 2 12 [.ref (g.2.1 + 0)] w (oIX q) := fun q hq => MM_of (own := RX10) hl (by decide) gw_1271 rfl (Nat.le_of_ble_eq_true rfl) (W_X10_execute hl q hq) ⟨rfl, rfl⟩

theorem dX10_denial_0 : decode cX10_denial 0 = .ok (.aload_n 0, 1) := by decide +kernel
theorem dX10_denial_1 : decode cX10_denial 1 = .ok (.getfield 77, 3) := by decide +kernel
theorem dX10_denial_4 : decode cX10_denial 4 = .ok (.iconst (-1), 1) := by decide +kernel
theorem dX10_denial_5 : decode cX10_denial 5 = .ok (.if_icmp .ne 11, 3) := by decide +kernel
theorem dX10_denial_8 : decode cX10_denial 8 = .ok (.new 124, 3) := by decide +kernel
theorem dX10_denial_11 : decode cX10_denial 11 = .ok (.dup, 1) := by decide +kernel
theorem dX10_denial_12 : decode cX10_denial 12 = .ok (.invokespecial 126, 3) := by decide +kernel
theorem dX10_denial_15 : decode cX10_denial 15 = .ok (.athrow, 1) := by decide +kernel
theorem dX10_denial_16 : decode cX10_denial 16 = .ok (.aload_n 0, 1) := by decide +kernel
theorem dX10_denial_17 : decode cX10_denial 17 = .ok (.getfield 77, 3) := by decide +kernel
theorem dX10_denial_20 : decode cX10_denial 20 = .ok (.ireturn, 1) := by decide +kernel
def f_X10_denial (w : XW) : Option ((Int32 × XW) ⊕ (String × XW)) := (if (w.1 0 12) = (-1) then (some (.inr ("java/util/NoSuchElementException", w))) else (some (.inl ((w.1 0 12), w))))
set_option maxRecDepth 100000 in
theorem W_X10_denial {g : GC} (hl : g.1.stackTraces = false) {w : XW} : VE g cX10_denial 1 RX10 (some .int) [] (rmL 3 1 6) 1 6 oIX 0 0 0 [(0, .ref (g.2.1 + 0))] [] w (f_X10_denial  w) := by
  unfold f_X10_denial
  refine v_aload_n dX10_denial_0 rfl 0 rfl ?_
  refine v_getI fl_X10_77 tt_0 rfl dX10_denial_1 ?_
  refine v_iconst (v := (-1)) dX10_denial_4 (by decide) ?_
  refine v_icmp_ne (tgt := 16) dX10_denial_5 (by decide) ?_ ?_
  · refine v_aload_n dX10_denial_16 rfl 0 rfl ?_
    refine v_getI fl_X10_77 tt_0 rfl dX10_denial_17 ?_
    exact v_iret dX10_denial_20 rfl rfl (by decide) (by decide)
  · exact v_throw (names := exN) rfl (by decide) exN_ok gw_499 gw_63 xg_X10_124 xo_X10_124 dX10_denial_8 dX10_denial_11 dX10_denial_12 dX10_denial_15 (CR_t1 _ _ _) (CR_t2 (Nat.le_of_ble_eq_true rfl) _ _ _) (by decide) (by decide) rfl (by decide) (by decide)
theorem S_X10_denial {g : GC} (hl : g.1.stackTraces = false) {w : XW} : ∀ q, f_X10_denial  w = some q → MM g (.code yX10_denial cX10_denial 1 (some .int)) yX10_denial (rmL 3 1 6) 1 6 [.ref (g.2.1 + 0)] w (oIX q) := fun q hq => MM_of (own := RX10) hl (by decide) gw_691 rfl (Nat.le_of_ble_eq_true rfl) (W_X10_denial hl q hq) ⟨rfl, rfl⟩

theorem dX10_denialDetail_0 : decode cX10_denialDetail 0 = .ok (.aload_n 0, 1) := by decide +kernel
theorem dX10_denialDetail_1 : decode cX10_denialDetail 1 = .ok (.getfield 77, 3) := by decide +kernel
theorem dX10_denialDetail_4 : decode cX10_denialDetail 4 = .ok (.iconst (-1), 1) := by decide +kernel
theorem dX10_denialDetail_5 : decode cX10_denialDetail 5 = .ok (.if_icmp .ne 11, 3) := by decide +kernel
theorem dX10_denialDetail_8 : decode cX10_denialDetail 8 = .ok (.new 124, 3) := by decide +kernel
theorem dX10_denialDetail_11 : decode cX10_denialDetail 11 = .ok (.dup, 1) := by decide +kernel
theorem dX10_denialDetail_12 : decode cX10_denialDetail 12 = .ok (.invokespecial 126, 3) := by decide +kernel
theorem dX10_denialDetail_15 : decode cX10_denialDetail 15 = .ok (.athrow, 1) := by decide +kernel
theorem dX10_denialDetail_16 : decode cX10_denialDetail 16 = .ok (.aload_n 0, 1) := by decide +kernel
theorem dX10_denialDetail_17 : decode cX10_denialDetail 17 = .ok (.getfield 80, 3) := by decide +kernel
theorem dX10_denialDetail_20 : decode cX10_denialDetail 20 = .ok (.ireturn, 1) := by decide +kernel
def f_X10_denialDetail (w : XW) : Option ((Int32 × XW) ⊕ (String × XW)) := (if (w.1 0 12) = (-1) then (some (.inr ("java/util/NoSuchElementException", w))) else (some (.inl ((w.1 0 13), w))))
set_option maxRecDepth 100000 in
theorem W_X10_denialDetail {g : GC} (hl : g.1.stackTraces = false) {w : XW} : VE g cX10_denialDetail 1 RX10 (some .int) [] (rmL 3 1 6) 1 6 oIX 0 0 0 [(0, .ref (g.2.1 + 0))] [] w (f_X10_denialDetail  w) := by
  unfold f_X10_denialDetail
  refine v_aload_n dX10_denialDetail_0 rfl 0 rfl ?_
  refine v_getI fl_X10_77 tt_0 rfl dX10_denialDetail_1 ?_
  refine v_iconst (v := (-1)) dX10_denialDetail_4 (by decide) ?_
  refine v_icmp_ne (tgt := 16) dX10_denialDetail_5 (by decide) ?_ ?_
  · refine v_aload_n dX10_denialDetail_16 rfl 0 rfl ?_
    refine v_getI fl_X10_80 tt_0 rfl dX10_denialDetail_17 ?_
    exact v_iret dX10_denialDetail_20 rfl rfl (by decide) (by decide)
  · exact v_throw (names := exN) rfl (by decide) exN_ok gw_499 gw_63 xg_X10_124 xo_X10_124 dX10_denialDetail_8 dX10_denialDetail_11 dX10_denialDetail_12 dX10_denialDetail_15 (CR_t1 _ _ _) (CR_t2 (Nat.le_of_ble_eq_true rfl) _ _ _) (by decide) (by decide) rfl (by decide) (by decide)
theorem S_X10_denialDetail {g : GC} (hl : g.1.stackTraces = false) {w : XW} : ∀ q, f_X10_denialDetail  w = some q → MM g (.code yX10_denialDetail cX10_denialDetail 1 (some .int)) yX10_denialDetail (rmL 3 1 6) 1 6 [.ref (g.2.1 + 0)] w (oIX q) := fun q hq => MM_of (own := RX10) hl (by decide) gw_698 rfl (Nat.le_of_ble_eq_true rfl) (W_X10_denialDetail hl q hq) ⟨rfl, rfl⟩

theorem dX10_undo_0 : decode cX10_undo 0 = .ok (.aload_n 0, 1) := by decide +kernel
theorem dX10_undo_1 : decode cX10_undo 1 = .ok (.getfield 25, 3) := by decide +kernel
theorem dX10_undo_4 : decode cX10_undo 4 = .ok (.getfield 272, 3) := by decide +kernel
theorem dX10_undo_7 : decode cX10_undo 7 = .ok (.ifCond .gt 11, 3) := by decide +kernel
theorem dX10_undo_10 : decode cX10_undo 10 = .ok (.new 209, 3) := by decide +kernel
theorem dX10_undo_13 : decode cX10_undo 13 = .ok (.dup, 1) := by decide +kernel
theorem dX10_undo_14 : decode cX10_undo 14 = .ok (.invokespecial 211, 3) := by decide +kernel
theorem dX10_undo_17 : decode cX10_undo 17 = .ok (.athrow, 1) := by decide +kernel
theorem dX10_undo_18 : decode cX10_undo 18 = .ok (.aload_n 0, 1) := by decide +kernel
theorem dX10_undo_19 : decode cX10_undo 19 = .ok (.getfield 25, 3) := by decide +kernel
theorem dX10_undo_22 : decode cX10_undo 22 = .ok (.aload_n 0, 1) := by decide +kernel
theorem dX10_undo_23 : decode cX10_undo 23 = .ok (.getfield 10, 3) := by decide +kernel
theorem dX10_undo_26 : decode cX10_undo 26 = .ok (.invokevirtual 273, 3) := by decide +kernel
theorem dX10_undo_29 : decode cX10_undo 29 = .ok (.aload_n 0, 1) := by decide +kernel
theorem dX10_undo_30 : decode cX10_undo 30 = .ok (.getfield 25, 3) := by decide +kernel
theorem dX10_undo_33 : decode cX10_undo 33 = .ok (.getfield 272, 3) := by decide +kernel
theorem dX10_undo_36 : decode cX10_undo 36 = .ok (.ireturn, 1) := by decide +kernel
def f_X10_undo (w : XW) : Option ((Int32 × XW) ⊕ (String × XW)) := (if 0 < (w.1 34 2) then (bV (f_X3_takeBack 1 w) (fun w1 => (some (.inl ((w1.1 34 2), w1))))) else (some (.inr ("java/lang/IllegalStateException", w))))
set_option maxRecDepth 100000 in
theorem W_X10_undo {g : GC} (hl : g.1.stackTraces = false) {w : XW} : VE g cX10_undo 1 RX10 (some .int) [] (rmL 8 1 6) 1 6 oIX 0 0 0 [(0, .ref (g.2.1 + 0))] [] w (f_X10_undo  w) := by
  unfold f_X10_undo
  refine v_aload_n dX10_undo_0 rfl 0 rfl ?_
  refine v_getR fl_X10_25 tt_0 rfl dX10_undo_1 ?_
  refine v_getI fl_X10_272 tt_34 rfl dX10_undo_4 ?_
  refine v_if_gt (tgt := 18) dX10_undo_7 (by decide) ?_ ?_
  · refine v_aload_n dX10_undo_18 rfl 0 rfl ?_
    refine v_getR fl_X10_25 tt_0 rfl dX10_undo_19 ?_
    refine v_aload_n dX10_undo_22 rfl 0 rfl ?_
    refine v_getR fl_X10_10 tt_0 rfl dX10_undo_23 ?_
    refine v_callVv (As := [.ref (g.2.1 + 1)]) cv_X10_273 (S_X3_takeBack hl is8_1) tt_34 rfl rfl rfl (Nat.le_of_ble_eq_true rfl) dX10_undo_26 (CR_rm (by decide) (by decide) (by decide) (by decide)) (fun w1 => ?_)
    refine v_aload_n dX10_undo_29 rfl 0 rfl ?_
    refine v_getR fl_X10_25 tt_0 rfl dX10_undo_30 ?_
    refine v_getI fl_X10_272 tt_34 rfl dX10_undo_33 ?_
    exact v_iret dX10_undo_36 rfl rfl (by decide) (by decide)
  · exact v_throw (names := exN) rfl (by decide) exN_ok gw_1246 gw_76 xg_X10_209 xo_X10_209 dX10_undo_10 dX10_undo_13 dX10_undo_14 dX10_undo_17 (CR_t1 _ _ _) (CR_t2 (Nat.le_of_ble_eq_true rfl) _ _ _) (by decide) (by decide) rfl (by decide) (by decide)
theorem S_X10_undo {g : GC} (hl : g.1.stackTraces = false) {w : XW} : ∀ q, f_X10_undo  w = some q → MM g (.code yX10_undo cX10_undo 1 (some .int)) yX10_undo (rmL 8 1 6) 1 6 [.ref (g.2.1 + 0)] w (oIX q) := fun q hq => MM_of (own := RX10) hl (by decide) gw_1580 rfl (Nat.le_of_ble_eq_true rfl) (W_X10_undo hl q hq) ⟨rfl, rfl⟩

theorem dX10_undoCount_0 : decode cX10_undoCount 0 = .ok (.aload_n 0, 1) := by decide +kernel
theorem dX10_undoCount_1 : decode cX10_undoCount 1 = .ok (.getfield 25, 3) := by decide +kernel
theorem dX10_undoCount_4 : decode cX10_undoCount 4 = .ok (.getfield 272, 3) := by decide +kernel
theorem dX10_undoCount_7 : decode cX10_undoCount 7 = .ok (.ireturn, 1) := by decide +kernel
def f_X10_undoCount (w : XW) : Option (Int32 × XW) := (some ((w.1 34 2), w))
set_option maxRecDepth 100000 in
theorem W_X10_undoCount {g : GC} (hl : g.1.stackTraces = false) {w : XW} : VE g cX10_undoCount 1 RX10 (some .int) [] (rmL 3 0 0) 0 0 oI 0 0 0 [(0, .ref (g.2.1 + 0))] [] w (f_X10_undoCount  w) := by
  unfold f_X10_undoCount
  refine v_aload_n dX10_undoCount_0 rfl 0 rfl ?_
  refine v_getR fl_X10_25 tt_0 rfl dX10_undoCount_1 ?_
  refine v_getI fl_X10_272 tt_34 rfl dX10_undoCount_4 ?_
  exact v_iret dX10_undoCount_7 rfl rfl (by decide) (by decide)
theorem S_X10_undoCount {g : GC} (hl : g.1.stackTraces = false) {w : XW} : ∀ q, f_X10_undoCount  w = some q → MM g (.code yX10_undoCount cX10_undoCount 1 (some .int)) yX10_undoCount (rmL 3 0 0) 0 0 [.ref (g.2.1 + 0)] w (oI q) := fun q hq => MM_of (own := RX10) hl (by decide) gw_358 rfl (Nat.le_of_ble_eq_true rfl) (W_X10_undoCount hl q hq) ⟨rfl, rfl⟩

theorem dX10_saveSnapshot_0 : decode cX10_saveSnapshot 0 = .ok (.aload_n 0, 1) := by decide +kernel
theorem dX10_saveSnapshot_1 : decode cX10_saveSnapshot 1 = .ok (.getfield 19, 3) := by decide +kernel
theorem dX10_saveSnapshot_4 : decode cX10_saveSnapshot 4 = .ok (.aload_n 0, 1) := by decide +kernel
theorem dX10_saveSnapshot_5 : decode cX10_saveSnapshot 5 = .ok (.getfield 10, 3) := by decide +kernel
theorem dX10_saveSnapshot_8 : decode cX10_saveSnapshot 8 = .ok (.invokevirtual 244, 3) := by decide +kernel
theorem dX10_saveSnapshot_11 : decode cX10_saveSnapshot 11 = .ok (.aload_n 0, 1) := by decide +kernel
theorem dX10_saveSnapshot_12 : decode cX10_saveSnapshot 12 = .ok (.iconst 1, 1) := by decide +kernel
theorem dX10_saveSnapshot_13 : decode cX10_saveSnapshot 13 = .ok (.putfield 69, 3) := by decide +kernel
theorem dX10_saveSnapshot_16 : decode cX10_saveSnapshot 16 = .ok (.aload_n 0, 1) := by decide +kernel
theorem dX10_saveSnapshot_17 : decode cX10_saveSnapshot 17 = .ok (.getfield 10, 3) := by decide +kernel
theorem dX10_saveSnapshot_20 : decode cX10_saveSnapshot 20 = .ok (.getfield 90, 3) := by decide +kernel
theorem dX10_saveSnapshot_23 : decode cX10_saveSnapshot 23 = .ok (.getfield 94, 3) := by decide +kernel
theorem dX10_saveSnapshot_26 : decode cX10_saveSnapshot 26 = .ok (.ireturn, 1) := by decide +kernel
def f_X10_saveSnapshot (w : XW) : Option (Int32 × XW) := (bV (f_X8_copyFrom 23 1 w) (fun w1 => (some (((wset w1 0 10 1).1 2 0), (wset w1 0 10 1)))))
set_option maxRecDepth 100000 in
theorem W_X10_saveSnapshot {g : GC} (hl : g.1.stackTraces = false) {w : XW} : VE g cX10_saveSnapshot 1 RX10 (some .int) [] (rmL 7 0 0) 0 0 oI 0 0 0 [(0, .ref (g.2.1 + 0))] [] w (f_X10_saveSnapshot  w) := by
  unfold f_X10_saveSnapshot
  refine v_aload_n dX10_saveSnapshot_0 rfl 0 rfl ?_
  refine v_getR fl_X10_19 tt_0 rfl dX10_saveSnapshot_1 ?_
  refine v_aload_n dX10_saveSnapshot_4 rfl 0 rfl ?_
  refine v_getR fl_X10_10 tt_0 rfl dX10_saveSnapshot_5 ?_
  refine v_callVv (As := [.ref (g.2.1 + 1)]) cv_X10_244 (S_X8_copyFrom hl is8_23 is8_1) tt_23 rfl rfl rfl (Nat.le_of_ble_eq_true rfl) dX10_saveSnapshot_8 (CR_rm (by decide) (by decide) (by decide) (by decide)) (fun w1 => ?_)
  refine v_aload_n dX10_saveSnapshot_11 rfl 0 rfl ?_
  refine v_iconst (v := 1) dX10_saveSnapshot_12 (by decide) ?_
  refine v_putI fl_X10_69 tt_0 rfl (ty0 := .boolean) rfl rfl rfl dX10_saveSnapshot_13 ?_
  refine v_aload_n dX10_saveSnapshot_16 rfl 0 rfl ?_
  refine v_getR fl_X10_10 tt_0 rfl dX10_saveSnapshot_17 ?_
  refine v_getR fl_X10_90 tt_1 rfl dX10_saveSnapshot_20 ?_
  refine v_getI fl_X10_94 tt_2 rfl dX10_saveSnapshot_23 ?_
  exact v_iret dX10_saveSnapshot_26 rfl rfl (by decide) (by decide)
theorem S_X10_saveSnapshot {g : GC} (hl : g.1.stackTraces = false) {w : XW} : ∀ q, f_X10_saveSnapshot  w = some q → MM g (.code yX10_saveSnapshot cX10_saveSnapshot 1 (some .int)) yX10_saveSnapshot (rmL 7 0 0) 0 0 [.ref (g.2.1 + 0)] w (oI q) := fun q hq => MM_of (own := RX10) hl (by decide) gw_1573 rfl (Nat.le_of_ble_eq_true rfl) (W_X10_saveSnapshot hl q hq) ⟨rfl, rfl⟩

theorem dX10_restoreSnapshot_0 : decode cX10_restoreSnapshot 0 = .ok (.aload_n 0, 1) := by decide +kernel
theorem dX10_restoreSnapshot_1 : decode cX10_restoreSnapshot 1 = .ok (.getfield 69, 3) := by decide +kernel
theorem dX10_restoreSnapshot_4 : decode cX10_restoreSnapshot 4 = .ok (.ifCond .ne 11, 3) := by decide +kernel
theorem dX10_restoreSnapshot_7 : decode cX10_restoreSnapshot 7 = .ok (.new 209, 3) := by decide +kernel
theorem dX10_restoreSnapshot_10 : decode cX10_restoreSnapshot 10 = .ok (.dup, 1) := by decide +kernel
theorem dX10_restoreSnapshot_11 : decode cX10_restoreSnapshot 11 = .ok (.invokespecial 211, 3) := by decide +kernel
theorem dX10_restoreSnapshot_14 : decode cX10_restoreSnapshot 14 = .ok (.athrow, 1) := by decide +kernel
theorem dX10_restoreSnapshot_15 : decode cX10_restoreSnapshot 15 = .ok (.aload_n 0, 1) := by decide +kernel
theorem dX10_restoreSnapshot_16 : decode cX10_restoreSnapshot 16 = .ok (.getfield 10, 3) := by decide +kernel
theorem dX10_restoreSnapshot_19 : decode cX10_restoreSnapshot 19 = .ok (.aload_n 0, 1) := by decide +kernel
theorem dX10_restoreSnapshot_20 : decode cX10_restoreSnapshot 20 = .ok (.getfield 19, 3) := by decide +kernel
theorem dX10_restoreSnapshot_23 : decode cX10_restoreSnapshot 23 = .ok (.invokevirtual 244, 3) := by decide +kernel
theorem dX10_restoreSnapshot_26 : decode cX10_restoreSnapshot 26 = .ok (.aload_n 0, 1) := by decide +kernel
theorem dX10_restoreSnapshot_27 : decode cX10_restoreSnapshot 27 = .ok (.getfield 25, 3) := by decide +kernel
theorem dX10_restoreSnapshot_30 : decode cX10_restoreSnapshot 30 = .ok (.invokevirtual 276, 3) := by decide +kernel
theorem dX10_restoreSnapshot_33 : decode cX10_restoreSnapshot 33 = .ok (.aload_n 0, 1) := by decide +kernel
theorem dX10_restoreSnapshot_34 : decode cX10_restoreSnapshot 34 = .ok (.getfield 10, 3) := by decide +kernel
theorem dX10_restoreSnapshot_37 : decode cX10_restoreSnapshot 37 = .ok (.getfield 90, 3) := by decide +kernel
theorem dX10_restoreSnapshot_40 : decode cX10_restoreSnapshot 40 = .ok (.getfield 94, 3) := by decide +kernel
theorem dX10_restoreSnapshot_43 : decode cX10_restoreSnapshot 43 = .ok (.ireturn, 1) := by decide +kernel
def f_X10_restoreSnapshot (w : XW) : Option ((Int32 × XW) ⊕ (String × XW)) := (if (w.1 0 10) = 0 then (some (.inr ("java/lang/IllegalStateException", w))) else (bV (f_X8_copyFrom 1 23 w) (fun w1 => (bV (f_X3_forget w1) (fun w2 => (some (.inl ((w2.1 2 0), w2))))))))
set_option maxRecDepth 100000 in
theorem W_X10_restoreSnapshot {g : GC} (hl : g.1.stackTraces = false) {w : XW} : VE g cX10_restoreSnapshot 1 RX10 (some .int) [] (rmL 7 1 6) 1 6 oIX 0 0 0 [(0, .ref (g.2.1 + 0))] [] w (f_X10_restoreSnapshot  w) := by
  unfold f_X10_restoreSnapshot
  refine v_aload_n dX10_restoreSnapshot_0 rfl 0 rfl ?_
  refine v_getI fl_X10_69 tt_0 rfl dX10_restoreSnapshot_1 ?_
  refine v_if_ne (tgt := 15) dX10_restoreSnapshot_4 (by decide) ?_ ?_
  · refine v_aload_n dX10_restoreSnapshot_15 rfl 0 rfl ?_
    refine v_getR fl_X10_10 tt_0 rfl dX10_restoreSnapshot_16 ?_
    refine v_aload_n dX10_restoreSnapshot_19 rfl 0 rfl ?_
    refine v_getR fl_X10_19 tt_0 rfl dX10_restoreSnapshot_20 ?_
    refine v_callVv (As := [.ref (g.2.1 + 23)]) cv_X10_244 (S_X8_copyFrom hl is8_1 is8_23) tt_1 rfl rfl rfl (Nat.le_of_ble_eq_true rfl) dX10_restoreSnapshot_23 (CR_rm (by decide) (by decide) (by decide) (by decide)) (fun w1 => ?_)
    refine v_aload_n dX10_restoreSnapshot_26 rfl 0 rfl ?_
    refine v_getR fl_X10_25 tt_0 rfl dX10_restoreSnapshot_27 ?_
    refine v_callVv (As := []) cv_X10_276 (S_X3_forget hl) tt_34 rfl rfl rfl (Nat.le_of_ble_eq_true rfl) dX10_restoreSnapshot_30 (CR_rm (by decide) (by decide) (by decide) (by decide)) (fun w2 => ?_)
    refine v_aload_n dX10_restoreSnapshot_33 rfl 0 rfl ?_
    refine v_getR fl_X10_10 tt_0 rfl dX10_restoreSnapshot_34 ?_
    refine v_getR fl_X10_90 tt_1 rfl dX10_restoreSnapshot_37 ?_
    refine v_getI fl_X10_94 tt_2 rfl dX10_restoreSnapshot_40 ?_
    exact v_iret dX10_restoreSnapshot_43 rfl rfl (by decide) (by decide)
  · exact v_throw (names := exN) rfl (by decide) exN_ok gw_1246 gw_76 xg_X10_209 xo_X10_209 dX10_restoreSnapshot_7 dX10_restoreSnapshot_10 dX10_restoreSnapshot_11 dX10_restoreSnapshot_14 (CR_t1 _ _ _) (CR_t2 (Nat.le_of_ble_eq_true rfl) _ _ _) (by decide) (by decide) rfl (by decide) (by decide)
theorem S_X10_restoreSnapshot {g : GC} (hl : g.1.stackTraces = false) {w : XW} : ∀ q, f_X10_restoreSnapshot  w = some q → MM g (.code yX10_restoreSnapshot cX10_restoreSnapshot 1 (some .int)) yX10_restoreSnapshot (rmL 7 1 6) 1 6 [.ref (g.2.1 + 0)] w (oIX q) := fun q hq => MM_of (own := RX10) hl (by decide) gw_1591 rfl (Nat.le_of_ble_eq_true rfl) (W_X10_restoreSnapshot hl q hq) ⟨rfl, rfl⟩
