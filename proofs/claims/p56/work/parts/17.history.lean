theorem dX3_stateAt_0 : decode cX3_stateAt 0 = .ok (.iload_n 1, 1) := by decide +kernel
theorem dX3_stateAt_1 : decode cX3_stateAt 1 = .ok (.ifCond .lt 21, 3) := by decide +kernel
theorem dX3_stateAt_4 : decode cX3_stateAt 4 = .ok (.iload_n 1, 1) := by decide +kernel
theorem dX3_stateAt_5 : decode cX3_stateAt 5 = .ok (.aload_n 0, 1) := by decide +kernel
theorem dX3_stateAt_6 : decode cX3_stateAt 6 = .ok (.getfield 11, 3) := by decide +kernel
theorem dX3_stateAt_9 : decode cX3_stateAt 9 = .ok (.arraylength, 1) := by decide +kernel
theorem dX3_stateAt_10 : decode cX3_stateAt 10 = .ok (.if_icmp .ge 12, 3) := by decide +kernel
theorem dX3_stateAt_13 : decode cX3_stateAt 13 = .ok (.aload_n 0, 1) := by decide +kernel
theorem dX3_stateAt_14 : decode cX3_stateAt 14 = .ok (.getfield 11, 3) := by decide +kernel
theorem dX3_stateAt_17 : decode cX3_stateAt 17 = .ok (.iload_n 1, 1) := by decide +kernel
theorem dX3_stateAt_18 : decode cX3_stateAt 18 = .ok (.aaload, 1) := by decide +kernel
theorem dX3_stateAt_19 : decode cX3_stateAt 19 = .ok (.goto 4, 3) := by decide +kernel
theorem dX3_stateAt_22 : decode cX3_stateAt 22 = .ok (.aconst_null, 1) := by decide +kernel
theorem dX3_stateAt_23 : decode cX3_stateAt 23 = .ok (.areturn, 1) := by decide +kernel
def f_X3_stateAt (x1 : Int32) (w : XW) : Option (Option Nat × XW) := (if x1 < 0 then (some (none, w)) else (if 8 ≤ x1 then (some (none, w)) else (if inB x1 8 then (some (some (36 + 11 * Int32.toNatClampNeg x1), w)) else none)))
set_option maxRecDepth 100000 in
theorem W_X3_stateAt {g : GC} (hl : g.1.stackTraces = false) {x1 : Int32} {w : XW} : VE g cX3_stateAt 2 RX3 (some (.object "FoldedArchive$State")) [] (rmL 3 0 0) 0 0 (oQ g) 0 0 0 [(0, .ref (g.2.1 + 34)), (1, .int x1)] [] w (f_X3_stateAt x1 w) := by
  unfold f_X3_stateAt
  refine v_iload_n dX3_stateAt_0 rfl 1 rfl ?_
  refine v_if_lt (tgt := 22) dX3_stateAt_1 (by decide) ?_ ?_
  · refine v_null dX3_stateAt_22 ?_
    exact v_aret dX3_stateAt_23 rfl (Or.inl ⟨_, rfl⟩) (Or.inl rfl) rfl (by decide) (by decide)
  · refine v_iload_n dX3_stateAt_4 rfl 1 rfl ?_
    refine v_aload_n dX3_stateAt_5 rfl 0 rfl ?_
    refine v_getR fl_X3_11 tt_34 rfl dX3_stateAt_6 ?_
    refine v_alen (v := 8) tt_35 (by decide) rfl dX3_stateAt_9 ?_
    refine v_icmp_ge (tgt := 22) dX3_stateAt_10 (by decide) ?_ ?_
    · refine v_null dX3_stateAt_22 ?_
      exact v_aret dX3_stateAt_23 rfl (Or.inl ⟨_, rfl⟩) (Or.inl rfl) rfl (by decide) (by decide)
    · refine v_aload_n dX3_stateAt_13 rfl 0 rfl ?_
      refine v_getR fl_X3_11 tt_34 rfl dX3_stateAt_14 ?_
      refine v_iload_n dX3_stateAt_17 rfl 1 rfl ?_
      refine v_guard (fun h1 => ?_)
      refine v_aald tt_35 h1 (aald8 h1) dX3_stateAt_18 ?_
      refine v_goto (tgt := 23) dX3_stateAt_19 (by decide) ?_
      exact v_aret dX3_stateAt_23 rfl (Or.inl ⟨_, rfl⟩) (Or.inr ⟨_, rfl⟩) rfl (by decide) (by decide)
theorem S_X3_stateAt {g : GC} (hl : g.1.stackTraces = false) {x1 : Int32} {w : XW} : ∀ q, f_X3_stateAt x1 w = some q → MM g (.code yX3_stateAt cX3_stateAt 2 (some (.object "FoldedArchive$State"))) yX3_stateAt (rmL 3 0 0) 0 0 [.ref (g.2.1 + 34), .int x1] w ((oQ g) q) := fun q hq => MM_of (own := RX3) hl (by decide) gw_772 rfl (Nat.le_of_ble_eq_true rfl) (W_X3_stateAt hl q hq) ⟨rfl, rfl⟩

theorem dX3_keep_0 : decode cX3_keep 0 = .ok (.aload_n 0, 1) := by decide +kernel
theorem dX3_keep_1 : decode cX3_keep 1 = .ok (.aload_n 0, 1) := by decide +kernel
theorem dX3_keep_2 : decode cX3_keep 2 = .ok (.getfield 18, 3) := by decide +kernel
theorem dX3_keep_5 : decode cX3_keep 5 = .ok (.invokevirtual 22, 3) := by decide +kernel
theorem dX3_keep_8 : decode cX3_keep 8 = .ok (.astore_n 2, 1) := by decide +kernel
theorem dX3_keep_9 : decode cX3_keep 9 = .ok (.aload_n 2, 1) := by decide +kernel
theorem dX3_keep_10 : decode cX3_keep 10 = .ok (.ifnull 8, 3) := by decide +kernel
theorem dX3_keep_13 : decode cX3_keep 13 = .ok (.aload_n 2, 1) := by decide +kernel
theorem dX3_keep_14 : decode cX3_keep 14 = .ok (.aload_n 1, 1) := by decide +kernel
theorem dX3_keep_15 : decode cX3_keep 15 = .ok (.invokevirtual 26, 3) := by decide +kernel
theorem dX3_keep_18 : decode cX3_keep 18 = .ok (.aload_n 0, 1) := by decide +kernel
theorem dX3_keep_19 : decode cX3_keep 19 = .ok (.aload_n 0, 1) := by decide +kernel
theorem dX3_keep_20 : decode cX3_keep 20 = .ok (.getfield 18, 3) := by decide +kernel
theorem dX3_keep_23 : decode cX3_keep 23 = .ok (.iconst 1, 1) := by decide +kernel
theorem dX3_keep_24 : decode cX3_keep 24 = .ok (.iadd, 1) := by decide +kernel
theorem dX3_keep_25 : decode cX3_keep 25 = .ok (.bipush 8, 2) := by decide +kernel
theorem dX3_keep_27 : decode cX3_keep 27 = .ok (.irem, 1) := by decide +kernel
theorem dX3_keep_28 : decode cX3_keep 28 = .ok (.putfield 18, 3) := by decide +kernel
theorem dX3_keep_31 : decode cX3_keep 31 = .ok (.aload_n 0, 1) := by decide +kernel
theorem dX3_keep_32 : decode cX3_keep 32 = .ok (.aload_n 0, 1) := by decide +kernel
theorem dX3_keep_33 : decode cX3_keep 33 = .ok (.getfield 30, 3) := by decide +kernel
theorem dX3_keep_36 : decode cX3_keep 36 = .ok (.iconst 1, 1) := by decide +kernel
theorem dX3_keep_37 : decode cX3_keep 37 = .ok (.iadd, 1) := by decide +kernel
theorem dX3_keep_38 : decode cX3_keep 38 = .ok (.bipush 8, 2) := by decide +kernel
theorem dX3_keep_40 : decode cX3_keep 40 = .ok (.invokestatic 33, 3) := by decide +kernel
theorem dX3_keep_43 : decode cX3_keep 43 = .ok (.putfield 30, 3) := by decide +kernel
theorem dX3_keep_46 : decode cX3_keep 46 = .ok (.return_, 1) := by decide +kernel
def f_X3_keep (k1 : Nat) (w : XW) : Option (XW) := (bQ (f_X3_stateAt (w.1 34 1) w) (fun w1 => (some (wset (wset w1 34 1 (((w1.1 34 1) + 1) - ((w1.1 34 1) + 1) / 8 * 8)) 34 2 (if 8 < (((wset w1 34 1 (((w1.1 34 1) + 1) - ((w1.1 34 1) + 1) / 8 * 8)).1 34 2) + 1) then 8 else (((wset w1 34 1 (((w1.1 34 1) + 1) - ((w1.1 34 1) + 1) / 8 * 8)).1 34 2) + 1))))) (fun t1 w1 => (if stOK t1 then (bV (f_X8_copyFrom t1 k1 w1) (fun w3 => (some (wset (wset w3 34 1 (((w3.1 34 1) + 1) - ((w3.1 34 1) + 1) / 8 * 8)) 34 2 (if 8 < (((wset w3 34 1 (((w3.1 34 1) + 1) - ((w3.1 34 1) + 1) / 8 * 8)).1 34 2) + 1) then 8 else (((wset w3 34 1 (((w3.1 34 1) + 1) - ((w3.1 34 1) + 1) / 8 * 8)).1 34 2) + 1)))))) else none)))
set_option maxRecDepth 100000 in
theorem W_X3_keep {g : GC} (hl : g.1.stackTraces = false) {k1 : Nat} (hk1 : isX8 k1) {w : XW} : VE g cX3_keep 3 RX3 none [] (rmL 7 0 0) 0 0 oV 0 0 0 [(0, .ref (g.2.1 + 34)), (1, .ref (g.2.1 + k1))] [] w (f_X3_keep k1 w) := by
  unfold f_X3_keep
  refine v_aload_n dX3_keep_0 rfl 0 rfl ?_
  refine v_aload_n dX3_keep_1 rfl 0 rfl ?_
  refine v_getI fl_X3_18 tt_34 rfl dX3_keep_2 ?_
  refine v_callVq (As := [.int (w.1 34 1)]) cv_X3_22 (S_X3_stateAt hl) tt_34 rfl rfl rfl (Nat.le_of_ble_eq_true rfl) dX3_keep_5 (CR_rm (by decide) (by decide) (by decide) (by decide)) (fun w1 => ?_) (fun t1 w1 => ?_)
  · refine v_astore_nN dX3_keep_8 rfl (Nat.le_of_ble_eq_true rfl) rfl ?_
    refine v_aload_nN dX3_keep_9 rfl 0 rfl ?_
    refine v_ifnullN (tgt := 18) dX3_keep_10 (by decide) ?_
    refine v_aload_n dX3_keep_18 rfl 1 rfl ?_
    refine v_aload_n dX3_keep_19 rfl 1 rfl ?_
    refine v_getI fl_X3_18 tt_34 rfl dX3_keep_20 ?_
    refine v_iconst (v := 1) dX3_keep_23 (by decide) ?_
    refine v_iadd dX3_keep_24 ?_
    refine v_bipush (v := 8) dX3_keep_25 (by decide) ?_
    refine v_irem dX3_keep_27 (by decide) ?_
    refine v_putI fl_X3_18 tt_34 rfl (ty0 := .int) rfl rfl rfl dX3_keep_28 ?_
    refine v_aload_n dX3_keep_31 rfl 1 rfl ?_
    refine v_aload_n dX3_keep_32 rfl 1 rfl ?_
    refine v_getI fl_X3_30 tt_34 rfl dX3_keep_33 ?_
    refine v_iconst (v := 1) dX3_keep_36 (by decide) ?_
    refine v_iadd dX3_keep_37 ?_
    refine v_bipush (v := 8) dX3_keep_38 (by decide) ?_
    refine v_min gw_794 gw_552 gw_54 gw_553 dX3_keep_40 (CR_f1 _ _ _) (CR_f2 (Nat.le_of_ble_eq_true rfl) _ _ _) (by decide) (by decide) ?_
    refine v_putI fl_X3_30 tt_34 rfl (ty0 := .int) rfl rfl rfl dX3_keep_43 ?_
    exact v_vret dX3_keep_46 rfl rfl (by decide) (by decide)
  · refine v_astore_n dX3_keep_8 rfl (Nat.le_of_ble_eq_true rfl) rfl ?_
    refine v_aload_n dX3_keep_9 rfl 0 rfl ?_
    refine v_ifnull dX3_keep_10 ?_
    refine v_aload_n dX3_keep_13 rfl 0 rfl ?_
    refine v_aload_n dX3_keep_14 rfl 2 rfl ?_
    refine v_guard (fun h2 => ?_)
    refine v_callVv (As := [.ref (g.2.1 + k1)]) cv_X3_26 (S_X8_copyFrom hl (stOK_is h2) hk1) (stOK_is h2).1 rfl rfl rfl (Nat.le_of_ble_eq_true rfl) dX3_keep_15 (CR_rm (by decide) (by decide) (by decide) (by decide)) (fun w3 => ?_)
    refine v_aload_n dX3_keep_18 rfl 1 rfl ?_
    refine v_aload_n dX3_keep_19 rfl 1 rfl ?_
    refine v_getI fl_X3_18 tt_34 rfl dX3_keep_20 ?_
    refine v_iconst (v := 1) dX3_keep_23 (by decide) ?_
    refine v_iadd dX3_keep_24 ?_
    refine v_bipush (v := 8) dX3_keep_25 (by decide) ?_
    refine v_irem dX3_keep_27 (by decide) ?_
    refine v_putI fl_X3_18 tt_34 rfl (ty0 := .int) rfl rfl rfl dX3_keep_28 ?_
    refine v_aload_n dX3_keep_31 rfl 1 rfl ?_
    refine v_aload_n dX3_keep_32 rfl 1 rfl ?_
    refine v_getI fl_X3_30 tt_34 rfl dX3_keep_33 ?_
    refine v_iconst (v := 1) dX3_keep_36 (by decide) ?_
    refine v_iadd dX3_keep_37 ?_
    refine v_bipush (v := 8) dX3_keep_38 (by decide) ?_
    refine v_min gw_794 gw_552 gw_54 gw_553 dX3_keep_40 (CR_f1 _ _ _) (CR_f2 (Nat.le_of_ble_eq_true rfl) _ _ _) (by decide) (by decide) ?_
    refine v_putI fl_X3_30 tt_34 rfl (ty0 := .int) rfl rfl rfl dX3_keep_43 ?_
    exact v_vret dX3_keep_46 rfl rfl (by decide) (by decide)
theorem S_X3_keep {g : GC} (hl : g.1.stackTraces = false) {k1 : Nat} (hk1 : isX8 k1) {w : XW} : ∀ q, f_X3_keep k1 w = some q → MM g (.code yX3_keep cX3_keep 3 none) yX3_keep (rmL 7 0 0) 0 0 [.ref (g.2.1 + 34), .ref (g.2.1 + k1)] w (oV q) := fun q hq => MM_of (own := RX3) hl (by decide) gw_768 rfl (Nat.le_of_ble_eq_true rfl) (W_X3_keep hl hk1 q hq) ⟨rfl, rfl⟩

theorem dX3_takeBack_0 : decode cX3_takeBack 0 = .ok (.aload_n 0, 1) := by decide +kernel
theorem dX3_takeBack_1 : decode cX3_takeBack 1 = .ok (.getfield 30, 3) := by decide +kernel
theorem dX3_takeBack_4 : decode cX3_takeBack 4 = .ok (.ifCond .le 47, 3) := by decide +kernel
theorem dX3_takeBack_7 : decode cX3_takeBack 7 = .ok (.aload_n 0, 1) := by decide +kernel
theorem dX3_takeBack_8 : decode cX3_takeBack 8 = .ok (.aload_n 0, 1) := by decide +kernel
theorem dX3_takeBack_9 : decode cX3_takeBack 9 = .ok (.getfield 18, 3) := by decide +kernel
theorem dX3_takeBack_12 : decode cX3_takeBack 12 = .ok (.bipush 8, 2) := by decide +kernel
theorem dX3_takeBack_14 : decode cX3_takeBack 14 = .ok (.iadd, 1) := by decide +kernel
theorem dX3_takeBack_15 : decode cX3_takeBack 15 = .ok (.iconst 1, 1) := by decide +kernel
theorem dX3_takeBack_16 : decode cX3_takeBack 16 = .ok (.isub, 1) := by decide +kernel
theorem dX3_takeBack_17 : decode cX3_takeBack 17 = .ok (.bipush 8, 2) := by decide +kernel
theorem dX3_takeBack_19 : decode cX3_takeBack 19 = .ok (.irem, 1) := by decide +kernel
theorem dX3_takeBack_20 : decode cX3_takeBack 20 = .ok (.putfield 18, 3) := by decide +kernel
theorem dX3_takeBack_23 : decode cX3_takeBack 23 = .ok (.aload_n 0, 1) := by decide +kernel
theorem dX3_takeBack_24 : decode cX3_takeBack 24 = .ok (.dup, 1) := by decide +kernel
theorem dX3_takeBack_25 : decode cX3_takeBack 25 = .ok (.getfield 30, 3) := by decide +kernel
theorem dX3_takeBack_28 : decode cX3_takeBack 28 = .ok (.iconst 1, 1) := by decide +kernel
theorem dX3_takeBack_29 : decode cX3_takeBack 29 = .ok (.isub, 1) := by decide +kernel
theorem dX3_takeBack_30 : decode cX3_takeBack 30 = .ok (.putfield 30, 3) := by decide +kernel
theorem dX3_takeBack_33 : decode cX3_takeBack 33 = .ok (.aload_n 0, 1) := by decide +kernel
theorem dX3_takeBack_34 : decode cX3_takeBack 34 = .ok (.aload_n 0, 1) := by decide +kernel
theorem dX3_takeBack_35 : decode cX3_takeBack 35 = .ok (.getfield 18, 3) := by decide +kernel
theorem dX3_takeBack_38 : decode cX3_takeBack 38 = .ok (.invokevirtual 22, 3) := by decide +kernel
theorem dX3_takeBack_41 : decode cX3_takeBack 41 = .ok (.astore_n 2, 1) := by decide +kernel
theorem dX3_takeBack_42 : decode cX3_takeBack 42 = .ok (.aload_n 2, 1) := by decide +kernel
theorem dX3_takeBack_43 : decode cX3_takeBack 43 = .ok (.ifnull 8, 3) := by decide +kernel
theorem dX3_takeBack_46 : decode cX3_takeBack 46 = .ok (.aload_n 1, 1) := by decide +kernel
theorem dX3_takeBack_47 : decode cX3_takeBack 47 = .ok (.aload_n 2, 1) := by decide +kernel
theorem dX3_takeBack_48 : decode cX3_takeBack 48 = .ok (.invokevirtual 26, 3) := by decide +kernel
theorem dX3_takeBack_51 : decode cX3_takeBack 51 = .ok (.return_, 1) := by decide +kernel
def f_X3_takeBack (k1 : Nat) (w : XW) : Option (XW) := (if (w.1 34 2) ≤ 0 then (some w) else (bQ (f_X3_stateAt ((wset (wset w 34 1 ((((w.1 34 1) + 8) - 1) - (((w.1 34 1) + 8) - 1) / 8 * 8)) 34 2 (((wset w 34 1 ((((w.1 34 1) + 8) - 1) - (((w.1 34 1) + 8) - 1) / 8 * 8)).1 34 2) - 1)).1 34 1) (wset (wset w 34 1 ((((w.1 34 1) + 8) - 1) - (((w.1 34 1) + 8) - 1) / 8 * 8)) 34 2 (((wset w 34 1 ((((w.1 34 1) + 8) - 1) - (((w.1 34 1) + 8) - 1) / 8 * 8)).1 34 2) - 1))) (fun w1 => (some w1)) (fun t1 w1 => (if stOK t1 then (bV (f_X8_copyFrom k1 t1 w1) (fun w3 => (some w3))) else none))))
set_option maxRecDepth 100000 in
theorem W_X3_takeBack {g : GC} (hl : g.1.stackTraces = false) {k1 : Nat} (hk1 : isX8 k1) {w : XW} : VE g cX3_takeBack 3 RX3 none [] (rmL 7 0 0) 0 0 oV 0 0 0 [(0, .ref (g.2.1 + 34)), (1, .ref (g.2.1 + k1))] [] w (f_X3_takeBack k1 w) := by
  unfold f_X3_takeBack
  refine v_aload_n dX3_takeBack_0 rfl 0 rfl ?_
  refine v_getI fl_X3_30 tt_34 rfl dX3_takeBack_1 ?_
  refine v_if_le (tgt := 51) dX3_takeBack_4 (by decide) ?_ ?_
  · exact v_vret dX3_takeBack_51 rfl rfl (by decide) (by decide)
  · refine v_aload_n dX3_takeBack_7 rfl 0 rfl ?_
    refine v_aload_n dX3_takeBack_8 rfl 0 rfl ?_
    refine v_getI fl_X3_18 tt_34 rfl dX3_takeBack_9 ?_
    refine v_bipush (v := 8) dX3_takeBack_12 (by decide) ?_
    refine v_iadd dX3_takeBack_14 ?_
    refine v_iconst (v := 1) dX3_takeBack_15 (by decide) ?_
    refine v_isub dX3_takeBack_16 ?_
    refine v_bipush (v := 8) dX3_takeBack_17 (by decide) ?_
    refine v_irem dX3_takeBack_19 (by decide) ?_
    refine v_putI fl_X3_18 tt_34 rfl (ty0 := .int) rfl rfl rfl dX3_takeBack_20 ?_
    refine v_aload_n dX3_takeBack_23 rfl 0 rfl ?_
    refine v_dup dX3_takeBack_24 rfl ?_
    refine v_getI fl_X3_30 tt_34 rfl dX3_takeBack_25 ?_
    refine v_iconst (v := 1) dX3_takeBack_28 (by decide) ?_
    refine v_isub dX3_takeBack_29 ?_
    refine v_putI fl_X3_30 tt_34 rfl (ty0 := .int) rfl rfl rfl dX3_takeBack_30 ?_
    refine v_aload_n dX3_takeBack_33 rfl 0 rfl ?_
    refine v_aload_n dX3_takeBack_34 rfl 0 rfl ?_
    refine v_getI fl_X3_18 tt_34 rfl dX3_takeBack_35 ?_
    refine v_callVq (As := [.int ((wset (wset w 34 1 ((((w.1 34 1) + 8) - 1) - (((w.1 34 1) + 8) - 1) / 8 * 8)) 34 2 (((wset w 34 1 ((((w.1 34 1) + 8) - 1) - (((w.1 34 1) + 8) - 1) / 8 * 8)).1 34 2) - 1)).1 34 1)]) cv_X3_22 (S_X3_stateAt hl) tt_34 rfl rfl rfl (Nat.le_of_ble_eq_true rfl) dX3_takeBack_38 (CR_rm (by decide) (by decide) (by decide) (by decide)) (fun w1 => ?_) (fun t1 w1 => ?_)
    · refine v_astore_nN dX3_takeBack_41 rfl (Nat.le_of_ble_eq_true rfl) rfl ?_
      refine v_aload_nN dX3_takeBack_42 rfl 0 rfl ?_
      refine v_ifnullN (tgt := 51) dX3_takeBack_43 (by decide) ?_
      exact v_vret dX3_takeBack_51 rfl rfl (by decide) (by decide)
    · refine v_astore_n dX3_takeBack_41 rfl (Nat.le_of_ble_eq_true rfl) rfl ?_
      refine v_aload_n dX3_takeBack_42 rfl 0 rfl ?_
      refine v_ifnull dX3_takeBack_43 ?_
      refine v_aload_n dX3_takeBack_46 rfl 2 rfl ?_
      refine v_aload_n dX3_takeBack_47 rfl 0 rfl ?_
      refine v_guard (fun h2 => ?_)
      refine v_callVv (As := [.ref (g.2.1 + t1)]) cv_X3_26 (S_X8_copyFrom hl hk1 (stOK_is h2)) hk1.1 rfl rfl rfl (Nat.le_of_ble_eq_true rfl) dX3_takeBack_48 (CR_rm (by decide) (by decide) (by decide) (by decide)) (fun w3 => ?_)
      exact v_vret dX3_takeBack_51 rfl rfl (by decide) (by decide)
theorem S_X3_takeBack {g : GC} (hl : g.1.stackTraces = false) {k1 : Nat} (hk1 : isX8 k1) {w : XW} : ∀ q, f_X3_takeBack k1 w = some q → MM g (.code yX3_takeBack cX3_takeBack 3 none) yX3_takeBack (rmL 7 0 0) 0 0 [.ref (g.2.1 + 34), .ref (g.2.1 + k1)] w (oV q) := fun q hq => MM_of (own := RX3) hl (by decide) gw_1584 rfl (Nat.le_of_ble_eq_true rfl) (W_X3_takeBack hl hk1 q hq) ⟨rfl, rfl⟩

theorem dX3_forget_0 : decode cX3_forget 0 = .ok (.aload_n 0, 1) := by decide +kernel
theorem dX3_forget_1 : decode cX3_forget 1 = .ok (.iconst 0, 1) := by decide +kernel
theorem dX3_forget_2 : decode cX3_forget 2 = .ok (.putfield 30, 3) := by decide +kernel
theorem dX3_forget_5 : decode cX3_forget 5 = .ok (.return_, 1) := by decide +kernel
def f_X3_forget (w : XW) : Option (XW) := (some (wset w 34 2 0))
set_option maxRecDepth 100000 in
theorem W_X3_forget {g : GC} (hl : g.1.stackTraces = false) {w : XW} : VE g cX3_forget 1 RX3 none [] (rmL 3 0 0) 0 0 oV 0 0 0 [(0, .ref (g.2.1 + 34))] [] w (f_X3_forget  w) := by
  unfold f_X3_forget
  refine v_aload_n dX3_forget_0 rfl 0 rfl ?_
  refine v_iconst (v := 0) dX3_forget_1 (by decide) ?_
  refine v_putI fl_X3_30 tt_34 rfl (ty0 := .int) rfl rfl rfl dX3_forget_2 ?_
  exact v_vret dX3_forget_5 rfl rfl (by decide) (by decide)
theorem S_X3_forget {g : GC} (hl : g.1.stackTraces = false) {w : XW} : ∀ q, f_X3_forget  w = some q → MM g (.code yX3_forget cX3_forget 1 none) yX3_forget (rmL 3 0 0) 0 0 [.ref (g.2.1 + 34)] w (oV q) := fun q hq => MM_of (own := RX3) hl (by decide) gw_1595 rfl (Nat.le_of_ble_eq_true rfl) (W_X3_forget hl q hq) ⟨rfl, rfl⟩
