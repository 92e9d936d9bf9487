theorem dX2_foldInto_0 : decode cX2_foldInto 0 = .ok (.aload_n 0, 1) := by decide +kernel
theorem dX2_foldInto_1 : decode cX2_foldInto 1 = .ok (.getfield 12, 3) := by decide +kernel
theorem dX2_foldInto_4 : decode cX2_foldInto 4 = .ok (.iload_n 1, 1) := by decide +kernel
theorem dX2_foldInto_5 : decode cX2_foldInto 5 = .ok (.invokevirtual 47, 3) := by decide +kernel
theorem dX2_foldInto_8 : decode cX2_foldInto 8 = .ok (.pop, 1) := by decide +kernel
theorem dX2_foldInto_9 : decode cX2_foldInto 9 = .ok (.aload_n 0, 1) := by decide +kernel
theorem dX2_foldInto_10 : decode cX2_foldInto 10 = .ok (.iload_n 2, 1) := by decide +kernel
theorem dX2_foldInto_11 : decode cX2_foldInto 11 = .ok (.iconst 1, 1) := by decide +kernel
theorem dX2_foldInto_12 : decode cX2_foldInto 12 = .ok (.iadd, 1) := by decide +kernel
theorem dX2_foldInto_13 : decode cX2_foldInto 13 = .ok (.iload_n 3, 1) := by decide +kernel
theorem dX2_foldInto_14 : decode cX2_foldInto 14 = .ok (.invokevirtual 36, 3) := by decide +kernel
theorem dX2_foldInto_17 : decode cX2_foldInto 17 = .ok (.istore 4, 2) := by decide +kernel
theorem dX2_foldInto_19 : decode cX2_foldInto 19 = .ok (.aload_n 0, 1) := by decide +kernel
theorem dX2_foldInto_20 : decode cX2_foldInto 20 = .ok (.getfield 12, 3) := by decide +kernel
theorem dX2_foldInto_23 : decode cX2_foldInto 23 = .ok (.invokevirtual 50, 3) := by decide +kernel
theorem dX2_foldInto_26 : decode cX2_foldInto 26 = .ok (.pop, 1) := by decide +kernel
theorem dX2_foldInto_27 : decode cX2_foldInto 27 = .ok (.iload 4, 2) := by decide +kernel
theorem dX2_foldInto_29 : decode cX2_foldInto 29 = .ok (.ireturn, 1) := by decide +kernel
def f_X2_foldInto (RC : Int32 → Int32 → XW → Option (Int32 × XW)) (x1 : Int32) (x2 : Int32) (x3 : Int32) (w : XW) : Option (Int32 × XW) := (bI (f_X4_insert 129 x1 w) (fun r1 w1 => (bI (RC (x2 + 1) x3 w1) (fun r2 w2 => (bI (f_X4_removeLast 129 w2) (fun r3 w3 => (some (r2, w3))))))))
set_option maxRecDepth 100000 in
theorem W_X2_foldInto {g : GC} (hl : g.1.stackTraces = false) {n0 : Nat} (hn0 : 7 ≤ n0) {RC : Int32 → Int32 → XW → Option (Int32 × XW)} (hRC : ∀ (x1 : Int32) (x2 : Int32) (w : XW) q, RC x1 x2 w = some q → MM g (.code yX2_foldRest cX2_foldRest 5 (some .int)) yX2_foldRest (rmL n0 0 0) 0 0 [.ref (g.2.1 + 128), .int x1, .int x2] w (oI q)) {x1 : Int32} {x2 : Int32} {x3 : Int32} {w : XW} : VE g cX2_foldInto 5 RX2 (some .int) [] (rmL (n0 + 1) 0 0) 0 0 oI 0 0 0 [(0, .ref (g.2.1 + 128)), (1, .int x1), (2, .int x2), (3, .int x3)] [] w (f_X2_foldInto RC x1 x2 x3 w) := by
  unfold f_X2_foldInto
  refine v_aload_n dX2_foldInto_0 rfl 0 rfl ?_
  refine v_getR fl_X2_12 tt_128 rfl dX2_foldInto_1 ?_
  refine v_iload_n dX2_foldInto_4 rfl 1 rfl ?_
  refine v_callVi (As := [.int x1]) cv_X2_47 (S_X4_insert hl is4_129) tt_129 rfl rfl rfl (Nat.le_of_ble_eq_true rfl) dX2_foldInto_5 (CR_rm (by omega) (by decide) (by decide) (by decide)) (fun r1 w1 => ?_)
  refine v_pop dX2_foldInto_8 rfl ?_
  refine v_aload_n dX2_foldInto_9 rfl 0 rfl ?_
  refine v_iload_n dX2_foldInto_10 rfl 2 rfl ?_
  refine v_iconst (v := 1) dX2_foldInto_11 (by decide) ?_
  refine v_iadd dX2_foldInto_12 ?_
  refine v_iload_n dX2_foldInto_13 rfl 3 rfl ?_
  refine v_callVi (As := [.int (x2 + 1), .int x3]) cv_X2_36 (hRC _ _ _) tt_128 rfl rfl rfl (Nat.le_of_ble_eq_true rfl) dX2_foldInto_14 (CR_rm (by omega) (by decide) (by decide) (by decide)) (fun r2 w2 => ?_)
  refine v_istore dX2_foldInto_17 (Nat.le_of_ble_eq_true rfl) rfl ?_
  refine v_aload_n dX2_foldInto_19 rfl 1 rfl ?_
  refine v_getR fl_X2_12 tt_128 rfl dX2_foldInto_20 ?_
  refine v_callVi (As := []) cv_X2_50 (S_X4_removeLast hl is4_129) tt_129 rfl rfl rfl (Nat.le_of_ble_eq_true rfl) dX2_foldInto_23 (CR_rm (by omega) (by decide) (by decide) (by decide)) (fun r3 w3 => ?_)
  refine v_pop dX2_foldInto_26 rfl ?_
  refine v_iload dX2_foldInto_27 0 rfl ?_
  exact v_iret dX2_foldInto_29 rfl rfl (by decide) (by decide)
theorem S_X2_foldInto {g : GC} (hl : g.1.stackTraces = false) {n0 : Nat} (hn0 : 7 ≤ n0) {RC : Int32 → Int32 → XW → Option (Int32 × XW)} (hRC : ∀ (x1 : Int32) (x2 : Int32) (w : XW) q, RC x1 x2 w = some q → MM g (.code yX2_foldRest cX2_foldRest 5 (some .int)) yX2_foldRest (rmL n0 0 0) 0 0 [.ref (g.2.1 + 128), .int x1, .int x2] w (oI q)) {x1 : Int32} {x2 : Int32} {x3 : Int32} {w : XW} : ∀ q, f_X2_foldInto RC x1 x2 x3 w = some q → MM g (.code yX2_foldInto cX2_foldInto 5 (some .int)) yX2_foldInto (rmL (n0 + 1) 0 0) 0 0 [.ref (g.2.1 + 128), .int x1, .int x2, .int x3] w (oI q) := fun q hq => MM_of (own := RX2) hl (by decide) gw_1617 rfl (Nat.le_of_ble_eq_true rfl) (W_X2_foldInto hl hn0 hRC q hq) ⟨rfl, rfl⟩

theorem dX2_foldRest_0 : decode cX2_foldRest 0 = .ok (.iload_n 1, 1) := by decide +kernel
theorem dX2_foldRest_1 : decode cX2_foldRest 1 = .ok (.iload_n 2, 1) := by decide +kernel
theorem dX2_foldRest_2 : decode cX2_foldRest 2 = .ok (.if_icmp .lt 5, 3) := by decide +kernel
theorem dX2_foldRest_5 : decode cX2_foldRest 5 = .ok (.iconst 1, 1) := by decide +kernel
theorem dX2_foldRest_6 : decode cX2_foldRest 6 = .ok (.ireturn, 1) := by decide +kernel
theorem dX2_foldRest_7 : decode cX2_foldRest 7 = .ok (.iconst 0, 1) := by decide +kernel
theorem dX2_foldRest_8 : decode cX2_foldRest 8 = .ok (.istore_n 3, 1) := by decide +kernel
theorem dX2_foldRest_9 : decode cX2_foldRest 9 = .ok (.iconst 0, 1) := by decide +kernel
theorem dX2_foldRest_10 : decode cX2_foldRest 10 = .ok (.istore 4, 2) := by decide +kernel
theorem dX2_foldRest_12 : decode cX2_foldRest 12 = .ok (.iload 4, 2) := by decide +kernel
theorem dX2_foldRest_14 : decode cX2_foldRest 14 = .ok (.iload_n 1, 1) := by decide +kernel
theorem dX2_foldRest_15 : decode cX2_foldRest 15 = .ok (.if_icmp .gt 33, 3) := by decide +kernel
theorem dX2_foldRest_18 : decode cX2_foldRest 18 = .ok (.aload_n 0, 1) := by decide +kernel
theorem dX2_foldRest_19 : decode cX2_foldRest 19 = .ok (.getfield 12, 3) := by decide +kernel
theorem dX2_foldRest_22 : decode cX2_foldRest 22 = .ok (.iload 4, 2) := by decide +kernel
theorem dX2_foldRest_24 : decode cX2_foldRest 24 = .ok (.invokevirtual 39, 3) := by decide +kernel
theorem dX2_foldRest_27 : decode cX2_foldRest 27 = .ok (.iconst (-1), 1) := by decide +kernel
theorem dX2_foldRest_28 : decode cX2_foldRest 28 = .ok (.if_icmp .ne 14, 3) := by decide +kernel
theorem dX2_foldRest_31 : decode cX2_foldRest 31 = .ok (.iload_n 3, 1) := by decide +kernel
theorem dX2_foldRest_32 : decode cX2_foldRest 32 = .ok (.aload_n 0, 1) := by decide +kernel
theorem dX2_foldRest_33 : decode cX2_foldRest 33 = .ok (.iload 4, 2) := by decide +kernel
theorem dX2_foldRest_35 : decode cX2_foldRest 35 = .ok (.iload_n 1, 1) := by decide +kernel
theorem dX2_foldRest_36 : decode cX2_foldRest 36 = .ok (.iload_n 2, 1) := by decide +kernel
theorem dX2_foldRest_37 : decode cX2_foldRest 37 = .ok (.invokevirtual 43, 3) := by decide +kernel
theorem dX2_foldRest_40 : decode cX2_foldRest 40 = .ok (.iadd, 1) := by decide +kernel
theorem dX2_foldRest_41 : decode cX2_foldRest 41 = .ok (.istore_n 3, 1) := by decide +kernel
theorem dX2_foldRest_42 : decode cX2_foldRest 42 = .ok (.iinc 4 1, 3) := by decide +kernel
theorem dX2_foldRest_45 : decode cX2_foldRest 45 = .ok (.goto (-33), 3) := by decide +kernel
theorem dX2_foldRest_48 : decode cX2_foldRest 48 = .ok (.iload_n 3, 1) := by decide +kernel
theorem dX2_foldRest_49 : decode cX2_foldRest 49 = .ok (.ireturn, 1) := by decide +kernel
def f_X2_foldRest_12 (RC : Int32 → Int32 → XW → Option (Int32 × XW)) (y1 : Int32) (y2 : Int32) : Nat → Int32 → Int32 → XW → Option (Int32 × XW)
  | 0, _, _, _ => none
  | n + 1, z3, z4, w => (if y1 < z4 then (some (z3, w)) else (bI (f_X4_creaseCrossedAt 129 z4 w) (fun r1 w1 => (if r1 = (-1) then (bI (f_X2_foldInto RC z4 y1 y2 w1) (fun r2 w2 => (f_X2_foldRest_12 RC y1 y2 n (z3 + r2) (z4 + 1) w2))) else (f_X2_foldRest_12 RC y1 y2 n z3 (z4 + 1) w1)))))
set_option maxRecDepth 100000 in
theorem S_X2_foldRest_12 {g : GC} (hl : g.1.stackTraces = false) {n0 : Nat} (hn0 : 7 ≤ n0) {RC : Int32 → Int32 → XW → Option (Int32 × XW)} (hRC : ∀ (x1 : Int32) (x2 : Int32) (w : XW) q, RC x1 x2 w = some q → MM g (.code yX2_foldRest cX2_foldRest 5 (some .int)) yX2_foldRest (rmL n0 0 0) 0 0 [.ref (g.2.1 + 128), .int x1, .int x2] w (oI q)) {y1 : Int32} {y2 : Int32} : ∀ (n : Nat) (z3 : Int32) (z4 : Int32) (w : XW), VE g cX2_foldRest 5 RX2 (some .int) [] (rmL (n0 + 2) 0 0) 0 0 oI 0 0 12 [(0, .ref (g.2.1 + 128)), (1, .int y1), (2, .int y2), (3, .int z3), (4, .int z4)] [] w (f_X2_foldRest_12 RC y1 y2 n z3 z4 w) := by
  intro n
  induction n with
  | zero => intro z3 z4 w; exact v_none
  | succ n ih =>
    intro z3 z4 w
    rw [f_X2_foldRest_12]
    refine v_iload dX2_foldRest_12 4 rfl ?_
    refine v_iload_n dX2_foldRest_14 rfl 1 rfl ?_
    refine v_icmp_gt (tgt := 48) dX2_foldRest_15 (by decide) ?_ ?_
    · refine v_iload_n dX2_foldRest_48 rfl 3 rfl ?_
      exact v_iret dX2_foldRest_49 rfl rfl (by decide) (by decide)
    · refine v_aload_n dX2_foldRest_18 rfl 0 rfl ?_
      refine v_getR fl_X2_12 tt_128 rfl dX2_foldRest_19 ?_
      refine v_iload dX2_foldRest_22 4 rfl ?_
      refine v_callVi (As := [.int z4]) cv_X2_39 (S_X4_creaseCrossedAt hl is4_129) tt_129 rfl rfl rfl (Nat.le_of_ble_eq_true rfl) dX2_foldRest_24 (CR_rm (by omega) (by decide) (by decide) (by decide)) (fun r1 w1 => ?_)
      refine v_iconst (v := (-1)) dX2_foldRest_27 (by decide) ?_
      refine v_icmp_ne (tgt := 42) dX2_foldRest_28 (by decide) ?_ ?_
      · refine v_iinc (v := (z4 + 1)) dX2_foldRest_42 (q := 4) rfl rfl (Nat.le_of_ble_eq_true rfl) rfl ?_
        refine v_goto (tgt := 12) dX2_foldRest_45 (by decide) ?_
        refine v_sub [1, 2, 3, 4, 0] rfl ?_
        exact ih _ _ _
      · refine v_iload_n dX2_foldRest_31 rfl 3 rfl ?_
        refine v_aload_n dX2_foldRest_32 rfl 0 rfl ?_
        refine v_iload dX2_foldRest_33 4 rfl ?_
        refine v_iload_n dX2_foldRest_35 rfl 1 rfl ?_
        refine v_iload_n dX2_foldRest_36 rfl 2 rfl ?_
        refine v_callVi (As := [.int z4, .int y1, .int y2]) cv_X2_43 (S_X2_foldInto hl hn0 hRC) tt_128 rfl rfl rfl (Nat.le_of_ble_eq_true rfl) dX2_foldRest_37 (CR_rm (by omega) (by decide) (by decide) (by decide)) (fun r2 w2 => ?_)
        refine v_iadd dX2_foldRest_40 ?_
        refine v_istore_n dX2_foldRest_41 rfl (Nat.le_of_ble_eq_true rfl) rfl ?_
        refine v_iinc (v := (z4 + 1)) dX2_foldRest_42 (q := 4) rfl rfl (Nat.le_of_ble_eq_true rfl) rfl ?_
        refine v_goto (tgt := 12) dX2_foldRest_45 (by decide) ?_
        refine v_sub [2, 3, 4, 1, 0] rfl ?_
        exact ih _ _ _
def f_X2_foldRestO (RC : Int32 → Int32 → XW → Option (Int32 × XW)) (x1 : Int32) (x2 : Int32) (w : XW) : Option (Int32 × XW) := (if x1 < x2 then (f_X2_foldRest_12 RC x1 x2 1000 0 0 w) else (some (1, w)))
set_option maxRecDepth 100000 in
theorem W_X2_foldRestO {g : GC} (hl : g.1.stackTraces = false) {n0 : Nat} (hn0 : 7 ≤ n0) {RC : Int32 → Int32 → XW → Option (Int32 × XW)} (hRC : ∀ (x1 : Int32) (x2 : Int32) (w : XW) q, RC x1 x2 w = some q → MM g (.code yX2_foldRest cX2_foldRest 5 (some .int)) yX2_foldRest (rmL n0 0 0) 0 0 [.ref (g.2.1 + 128), .int x1, .int x2] w (oI q)) {x1 : Int32} {x2 : Int32} {w : XW} : VE g cX2_foldRest 5 RX2 (some .int) [] (rmL (n0 + 2) 0 0) 0 0 oI 0 0 0 [(0, .ref (g.2.1 + 128)), (1, .int x1), (2, .int x2)] [] w (f_X2_foldRestO RC x1 x2 w) := by
  unfold f_X2_foldRestO
  refine v_iload_n dX2_foldRest_0 rfl 1 rfl ?_
  refine v_iload_n dX2_foldRest_1 rfl 2 rfl ?_
  refine v_icmp_lt (tgt := 7) dX2_foldRest_2 (by decide) ?_ ?_
  · refine v_iconst (v := 0) dX2_foldRest_7 (by decide) ?_
    refine v_istore_n dX2_foldRest_8 rfl (Nat.le_of_ble_eq_true rfl) rfl ?_
    refine v_iconst (v := 0) dX2_foldRest_9 (by decide) ?_
    refine v_istore dX2_foldRest_10 (Nat.le_of_ble_eq_true rfl) rfl ?_
    refine v_sub [2, 3, 4, 1, 0] rfl ?_
    exact S_X2_foldRest_12 hl hn0 hRC  _ _ _ _
  · refine v_iconst (v := 1) dX2_foldRest_5 (by decide) ?_
    exact v_iret dX2_foldRest_6 rfl rfl (by decide) (by decide)
theorem S_X2_foldRestO {g : GC} (hl : g.1.stackTraces = false) {n0 : Nat} (hn0 : 7 ≤ n0) {RC : Int32 → Int32 → XW → Option (Int32 × XW)} (hRC : ∀ (x1 : Int32) (x2 : Int32) (w : XW) q, RC x1 x2 w = some q → MM g (.code yX2_foldRest cX2_foldRest 5 (some .int)) yX2_foldRest (rmL n0 0 0) 0 0 [.ref (g.2.1 + 128), .int x1, .int x2] w (oI q)) {x1 : Int32} {x2 : Int32} {w : XW} : ∀ q, f_X2_foldRestO RC x1 x2 w = some q → MM g (.code yX2_foldRest cX2_foldRest 5 (some .int)) yX2_foldRest (rmL (n0 + 2) 0 0) 0 0 [.ref (g.2.1 + 128), .int x1, .int x2] w (oI q) := fun q hq => MM_of (own := RX2) hl (by decide) gw_1612 rfl (Nat.le_of_ble_eq_true rfl) (W_X2_foldRestO hl hn0 hRC q hq) ⟨rfl, rfl⟩
def f_X2_foldRest : Nat → Int32 → Int32 → XW → Option (Int32 × XW)
  | 0, _, _, _ => none
  | n + 1, x1, x2, w => f_X2_foldRestO (f_X2_foldRest n) x1 x2 w
theorem S_X2_foldRest {g : GC} (hl : g.1.stackTraces = false) : ∀ (n : Nat) (x1 : Int32) (x2 : Int32) (w : XW) q, f_X2_foldRest n x1 x2 w = some q → MM g (.code yX2_foldRest cX2_foldRest 5 (some .int)) yX2_foldRest (rmL (7 + 2 * n) 0 0) 0 0 [.ref (g.2.1 + 128), .int x1, .int x2] w (oI q) := by
  intro n
  induction n with
  | zero => intro x1 x2 w q h; cases h
  | succ n ih =>
    intro x1 x2 w q h
    exact S_X2_foldRestO hl (n0 := 7 + 2 * n) (by omega) ih q h

theorem dX2_countByFolding_0 : decode cX2_countByFolding 0 = .ok (.aload_n 0, 1) := by decide +kernel
theorem dX2_countByFolding_1 : decode cX2_countByFolding 1 = .ok (.getfield 12, 3) := by decide +kernel
theorem dX2_countByFolding_4 : decode cX2_countByFolding 4 = .ok (.aload_n 1, 1) := by decide +kernel
theorem dX2_countByFolding_5 : decode cX2_countByFolding 5 = .ok (.invokevirtual 22, 3) := by decide +kernel
theorem dX2_countByFolding_8 : decode cX2_countByFolding 8 = .ok (.aload_n 0, 1) := by decide +kernel
theorem dX2_countByFolding_9 : decode cX2_countByFolding 9 = .ok (.aload_n 0, 1) := by decide +kernel
theorem dX2_countByFolding_10 : decode cX2_countByFolding 10 = .ok (.getfield 12, 3) := by decide +kernel
theorem dX2_countByFolding_13 : decode cX2_countByFolding 13 = .ok (.getfield 26, 3) := by decide +kernel
theorem dX2_countByFolding_16 : decode cX2_countByFolding 16 = .ok (.iload_n 2, 1) := by decide +kernel
theorem dX2_countByFolding_17 : decode cX2_countByFolding 17 = .ok (.bipush 7, 2) := by decide +kernel
theorem dX2_countByFolding_19 : decode cX2_countByFolding 19 = .ok (.invokestatic 30, 3) := by decide +kernel
theorem dX2_countByFolding_22 : decode cX2_countByFolding 22 = .ok (.invokevirtual 36, 3) := by decide +kernel
theorem dX2_countByFolding_25 : decode cX2_countByFolding 25 = .ok (.ireturn, 1) := by decide +kernel
def f_X2_countByFolding (k1 : Nat) (x2 : Int32) (w : XW) : Option (Int32 × XW) := (bV (f_X4_copyFrom 129 k1 w) (fun w1 => (bI (f_X2_foldRest 9 (w1.1 129 0) (if 7 < x2 then 7 else x2) w1) (fun r2 w2 => (some (r2, w2))))))
set_option maxRecDepth 100000 in
theorem W_X2_countByFolding {g : GC} (hl : g.1.stackTraces = false) {k1 : Nat} (hk1 : isX4 k1) {x2 : Int32} {w : XW} : VE g cX2_countByFolding 3 RX2 (some .int) [] (rmL 26 0 0) 0 0 oI 0 0 0 [(0, .ref (g.2.1 + 128)), (1, .ref (g.2.1 + k1)), (2, .int x2)] [] w (f_X2_countByFolding k1 x2 w) := by
  unfold f_X2_countByFolding
  refine v_aload_n dX2_countByFolding_0 rfl 0 rfl ?_
  refine v_getR fl_X2_12 tt_128 rfl dX2_countByFolding_1 ?_
  refine v_aload_n dX2_countByFolding_4 rfl 1 rfl ?_
  refine v_callVv (As := [.ref (g.2.1 + k1)]) cv_X2_22 (S_X4_copyFrom hl is4_129 hk1) tt_129 rfl rfl rfl (Nat.le_of_ble_eq_true rfl) dX2_countByFolding_5 (CR_rm (by decide) (by decide) (by decide) (by decide)) (fun w1 => ?_)
  refine v_aload_n dX2_countByFolding_8 rfl 0 rfl ?_
  refine v_aload_n dX2_countByFolding_9 rfl 0 rfl ?_
  refine v_getR fl_X2_12 tt_128 rfl dX2_countByFolding_10 ?_
  refine v_getI fl_X2_26 tt_129 rfl dX2_countByFolding_13 ?_
  refine v_iload_n dX2_countByFolding_16 rfl 2 rfl ?_
  refine v_bipush (v := 7) dX2_countByFolding_17 (by decide) ?_
  refine v_min gw_1608 gw_552 gw_54 gw_553 dX2_countByFolding_19 (CR_f1 _ _ _) (CR_f2 (Nat.le_of_ble_eq_true rfl) _ _ _) (by decide) (by decide) ?_
  refine v_callVi (As := [.int (w1.1 129 0), .int (if 7 < x2 then 7 else x2)]) cv_X2_36 (S_X2_foldRest hl 9 _ _ _) tt_128 rfl rfl rfl (Nat.le_of_ble_eq_true rfl) dX2_countByFolding_22 (CR_rm (by decide) (by decide) (by decide) (by decide)) (fun r2 w2 => ?_)
  exact v_iret dX2_countByFolding_25 rfl rfl (by decide) (by decide)
theorem S_X2_countByFolding {g : GC} (hl : g.1.stackTraces = false) {k1 : Nat} (hk1 : isX4 k1) {x2 : Int32} {w : XW} : ∀ q, f_X2_countByFolding k1 x2 w = some q → MM g (.code yX2_countByFolding cX2_countByFolding 3 (some .int)) yX2_countByFolding (rmL 26 0 0) 0 0 [.ref (g.2.1 + 128), .ref (g.2.1 + k1), .int x2] w (oI q) := fun q hq => MM_of (own := RX2) hl (by decide) gw_1606 rfl (Nat.le_of_ble_eq_true rfl) (W_X2_countByFolding hl hk1 q hq) ⟨rfl, rfl⟩

theorem dX2_isNextOfPile_0 : decode cX2_isNextOfPile 0 = .ok (.aload_n 0, 1) := by decide +kernel
theorem dX2_isNextOfPile_1 : decode cX2_isNextOfPile 1 = .ok (.getfield 12, 3) := by decide +kernel
theorem dX2_isNextOfPile_4 : decode cX2_isNextOfPile 4 = .ok (.iload_n 1, 1) := by decide +kernel
theorem dX2_isNextOfPile_5 : decode cX2_isNextOfPile 5 = .ok (.invokevirtual 67, 3) := by decide +kernel
theorem dX2_isNextOfPile_8 : decode cX2_isNextOfPile 8 = .ok (.istore_n 3, 1) := by decide +kernel
theorem dX2_isNextOfPile_9 : decode cX2_isNextOfPile 9 = .ok (.iconst 0, 1) := by decide +kernel
theorem dX2_isNextOfPile_10 : decode cX2_isNextOfPile 10 = .ok (.istore 4, 2) := by decide +kernel
theorem dX2_isNextOfPile_12 : decode cX2_isNextOfPile 12 = .ok (.iload 4, 2) := by decide +kernel
theorem dX2_isNextOfPile_14 : decode cX2_isNextOfPile 14 = .ok (.aload_n 0, 1) := by decide +kernel
theorem dX2_isNextOfPile_15 : decode cX2_isNextOfPile 15 = .ok (.getfield 12, 3) := by decide +kernel
theorem dX2_isNextOfPile_18 : decode cX2_isNextOfPile 18 = .ok (.getfield 26, 3) := by decide +kernel
theorem dX2_isNextOfPile_21 : decode cX2_isNextOfPile 21 = .ok (.if_icmp .ge 42, 3) := by decide +kernel
theorem dX2_isNextOfPile_24 : decode cX2_isNextOfPile 24 = .ok (.iload 4, 2) := by decide +kernel
theorem dX2_isNextOfPile_26 : decode cX2_isNextOfPile 26 = .ok (.bipush 7, 2) := by decide +kernel
theorem dX2_isNextOfPile_28 : decode cX2_isNextOfPile 28 = .ok (.if_icmp .ge 35, 3) := by decide +kernel
theorem dX2_isNextOfPile_31 : decode cX2_isNextOfPile 31 = .ok (.aload_n 0, 1) := by decide +kernel
theorem dX2_isNextOfPile_32 : decode cX2_isNextOfPile 32 = .ok (.getfield 12, 3) := by decide +kernel
theorem dX2_isNextOfPile_35 : decode cX2_isNextOfPile 35 = .ok (.iload 4, 2) := by decide +kernel
theorem dX2_isNextOfPile_37 : decode cX2_isNextOfPile 37 = .ok (.invokevirtual 67, 3) := by decide +kernel
theorem dX2_isNextOfPile_40 : decode cX2_isNextOfPile 40 = .ok (.iload_n 3, 1) := by decide +kernel
theorem dX2_isNextOfPile_41 : decode cX2_isNextOfPile 41 = .ok (.if_icmp .ge 16, 3) := by decide +kernel
theorem dX2_isNextOfPile_44 : decode cX2_isNextOfPile 44 = .ok (.aload_n 0, 1) := by decide +kernel
theorem dX2_isNextOfPile_45 : decode cX2_isNextOfPile 45 = .ok (.getfield 18, 3) := by decide +kernel
theorem dX2_isNextOfPile_48 : decode cX2_isNextOfPile 48 = .ok (.iload 4, 2) := by decide +kernel
theorem dX2_isNextOfPile_50 : decode cX2_isNextOfPile 50 = .ok (.iaload, 1) := by decide +kernel
theorem dX2_isNextOfPile_51 : decode cX2_isNextOfPile 51 = .ok (.iload_n 2, 1) := by decide +kernel
theorem dX2_isNextOfPile_52 : decode cX2_isNextOfPile 52 = .ok (.if_icmp .ne 5, 3) := by decide +kernel
theorem dX2_isNextOfPile_55 : decode cX2_isNextOfPile 55 = .ok (.iconst 0, 1) := by decide +kernel
theorem dX2_isNextOfPile_56 : decode cX2_isNextOfPile 56 = .ok (.ireturn, 1) := by decide +kernel
theorem dX2_isNextOfPile_57 : decode cX2_isNextOfPile 57 = .ok (.iinc 4 1, 3) := by decide +kernel
theorem dX2_isNextOfPile_60 : decode cX2_isNextOfPile 60 = .ok (.goto (-48), 3) := by decide +kernel
theorem dX2_isNextOfPile_63 : decode cX2_isNextOfPile 63 = .ok (.iconst 1, 1) := by decide +kernel
theorem dX2_isNextOfPile_64 : decode cX2_isNextOfPile 64 = .ok (.ireturn, 1) := by decide +kernel
def f_X2_isNextOfPile_12 (y2 : Int32) (y3 : Int32) : Nat → Int32 → XW → Option (Int32 × XW)
  | 0, _, _ => none
  | n + 1, z4, w => (if (w.1 129 0) ≤ z4 then (some (1, w)) else (if 7 ≤ z4 then (some (1, w)) else (bI (f_X4_layerHolding 129 z4 w) (fun r2 w2 => (if y3 ≤ r2 then (f_X2_isNextOfPile_12 y2 y3 n (z4 + 1) w2) else (if inB z4 7 then (if (w2.1 131 (Int32.toNatClampNeg z4)) = y2 then (some (0, w2)) else (f_X2_isNextOfPile_12 y2 y3 n (z4 + 1) w2)) else none))))))
set_option maxRecDepth 100000 in
theorem S_X2_isNextOfPile_12 {g : GC} (hl : g.1.stackTraces = false) {y2 : Int32} {y3 : Int32} : ∀ (n : Nat) (z4 : Int32) (w : XW), VE g cX2_isNextOfPile 5 RX2 (some .boolean) [] (rmL 4 0 0) 0 0 oI 0 0 12 [(0, .ref (g.2.1 + 128)), (2, .int y2), (3, .int y3), (4, .int z4)] [] w (f_X2_isNextOfPile_12 y2 y3 n z4 w) := by
  intro n
  induction n with
  | zero => intro z4 w; exact v_none
  | succ n ih =>
    intro z4 w
    rw [f_X2_isNextOfPile_12]
    refine v_iload dX2_isNextOfPile_12 3 rfl ?_
    refine v_aload_n dX2_isNextOfPile_14 rfl 0 rfl ?_
    refine v_getR fl_X2_12 tt_128 rfl dX2_isNextOfPile_15 ?_
    refine v_getI fl_X2_26 tt_129 rfl dX2_isNextOfPile_18 ?_
    refine v_icmp_ge (tgt := 63) dX2_isNextOfPile_21 (by decide) ?_ ?_
    · refine v_iconst (v := 1) dX2_isNextOfPile_63 (by decide) ?_
      exact v_zret dX2_isNextOfPile_64 rfl rfl rfl (by decide) (by decide)
    · refine v_iload dX2_isNextOfPile_24 3 rfl ?_
      refine v_bipush (v := 7) dX2_isNextOfPile_26 (by decide) ?_
      refine v_icmp_ge (tgt := 63) dX2_isNextOfPile_28 (by decide) ?_ ?_
      · refine v_iconst (v := 1) dX2_isNextOfPile_63 (by decide) ?_
        exact v_zret dX2_isNextOfPile_64 rfl rfl rfl (by decide) (by decide)
      · refine v_aload_n dX2_isNextOfPile_31 rfl 0 rfl ?_
        refine v_getR fl_X2_12 tt_128 rfl dX2_isNextOfPile_32 ?_
        refine v_iload dX2_isNextOfPile_35 3 rfl ?_
        refine v_callVi (As := [.int z4]) cv_X2_67 (S_X4_layerHolding hl is4_129) tt_129 rfl rfl rfl (Nat.le_of_ble_eq_true rfl) dX2_isNextOfPile_37 (CR_rm (by decide) (by decide) (by decide) (by decide)) (fun r2 w2 => ?_)
        refine v_iload_n dX2_isNextOfPile_40 rfl 2 rfl ?_
        refine v_icmp_ge (tgt := 57) dX2_isNextOfPile_41 (by decide) ?_ ?_
        · refine v_iinc (v := (z4 + 1)) dX2_isNextOfPile_57 (q := 3) rfl rfl (Nat.le_of_ble_eq_true rfl) rfl ?_
          refine v_goto (tgt := 12) dX2_isNextOfPile_60 (by decide) ?_
          refine v_sub [1, 2, 3, 0] rfl ?_
          exact ih _ _
        · refine v_aload_n dX2_isNextOfPile_44 rfl 0 rfl ?_
          refine v_getR fl_X2_18 tt_128 rfl dX2_isNextOfPile_45 ?_
          refine v_iload dX2_isNextOfPile_48 3 rfl ?_
          refine v_guard (fun h3 => ?_)
          refine v_iald tt_131 h3 dX2_isNextOfPile_50 ?_
          refine v_iload_n dX2_isNextOfPile_51 rfl 1 rfl ?_
          refine v_icmp_ne (tgt := 57) dX2_isNextOfPile_52 (by decide) ?_ ?_
          · refine v_iinc (v := (z4 + 1)) dX2_isNextOfPile_57 (q := 3) rfl rfl (Nat.le_of_ble_eq_true rfl) rfl ?_
            refine v_goto (tgt := 12) dX2_isNextOfPile_60 (by decide) ?_
            refine v_sub [1, 2, 3, 0] rfl ?_
            exact ih _ _
          · refine v_iconst (v := 0) dX2_isNextOfPile_55 (by decide) ?_
            exact v_zret dX2_isNextOfPile_56 rfl rfl rfl (by decide) (by decide)
def f_X2_isNextOfPile (x1 : Int32) (x2 : Int32) (w : XW) : Option (Int32 × XW) := (bI (f_X4_layerHolding 129 x1 w) (fun r1 w1 => (f_X2_isNextOfPile_12 x2 r1 1000 0 w1)))
set_option maxRecDepth 100000 in
theorem W_X2_isNextOfPile {g : GC} (hl : g.1.stackTraces = false) {x1 : Int32} {x2 : Int32} {w : XW} : VE g cX2_isNextOfPile 5 RX2 (some .boolean) [] (rmL 4 0 0) 0 0 oI 0 0 0 [(0, .ref (g.2.1 + 128)), (1, .int x1), (2, .int x2)] [] w (f_X2_isNextOfPile x1 x2 w) := by
  unfold f_X2_isNextOfPile
  refine v_aload_n dX2_isNextOfPile_0 rfl 0 rfl ?_
  refine v_getR fl_X2_12 tt_128 rfl dX2_isNextOfPile_1 ?_
  refine v_iload_n dX2_isNextOfPile_4 rfl 1 rfl ?_
  refine v_callVi (As := [.int x1]) cv_X2_67 (S_X4_layerHolding hl is4_129) tt_129 rfl rfl rfl (Nat.le_of_ble_eq_true rfl) dX2_isNextOfPile_5 (CR_rm (by decide) (by decide) (by decide) (by decide)) (fun r1 w1 => ?_)
  refine v_istore_n dX2_isNextOfPile_8 rfl (Nat.le_of_ble_eq_true rfl) rfl ?_
  refine v_iconst (v := 0) dX2_isNextOfPile_9 (by decide) ?_
  refine v_istore dX2_isNextOfPile_10 (Nat.le_of_ble_eq_true rfl) rfl ?_
  refine v_sub [2, 4, 1, 0] rfl ?_
  exact S_X2_isNextOfPile_12 hl  _ _ _
theorem S_X2_isNextOfPile {g : GC} (hl : g.1.stackTraces = false) {x1 : Int32} {x2 : Int32} {w : XW} : ∀ q, f_X2_isNextOfPile x1 x2 w = some q → MM g (.code yX2_isNextOfPile cX2_isNextOfPile 5 (some .boolean)) yX2_isNextOfPile (rmL 4 0 0) 0 0 [.ref (g.2.1 + 128), .int x1, .int x2] w (oI q) := fun q hq => MM_of (own := RX2) hl (by decide) gw_1635 rfl (Nat.le_of_ble_eq_true rfl) (W_X2_isNextOfPile hl q hq) ⟨rfl, rfl⟩

theorem dX2_placeOf_0 : decode cX2_placeOf 0 = .ok (.iload_n 1, 1) := by decide +kernel
theorem dX2_placeOf_1 : decode cX2_placeOf 1 = .ok (.ifCond .lt 23, 3) := by decide +kernel
theorem dX2_placeOf_4 : decode cX2_placeOf 4 = .ok (.iload_n 1, 1) := by decide +kernel
theorem dX2_placeOf_5 : decode cX2_placeOf 5 = .ok (.iload_n 2, 1) := by decide +kernel
theorem dX2_placeOf_6 : decode cX2_placeOf 6 = .ok (.if_icmp .ge 18, 3) := by decide +kernel
theorem dX2_placeOf_9 : decode cX2_placeOf 9 = .ok (.iload_n 1, 1) := by decide +kernel
theorem dX2_placeOf_10 : decode cX2_placeOf 10 = .ok (.bipush 7, 2) := by decide +kernel
theorem dX2_placeOf_12 : decode cX2_placeOf 12 = .ok (.if_icmp .ge 12, 3) := by decide +kernel
theorem dX2_placeOf_15 : decode cX2_placeOf 15 = .ok (.aload_n 0, 1) := by decide +kernel
theorem dX2_placeOf_16 : decode cX2_placeOf 16 = .ok (.getfield 18, 3) := by decide +kernel
theorem dX2_placeOf_19 : decode cX2_placeOf 19 = .ok (.iload_n 1, 1) := by decide +kernel
theorem dX2_placeOf_20 : decode cX2_placeOf 20 = .ok (.iaload, 1) := by decide +kernel
theorem dX2_placeOf_21 : decode cX2_placeOf 21 = .ok (.goto 4, 3) := by decide +kernel
theorem dX2_placeOf_24 : decode cX2_placeOf 24 = .ok (.iload_n 2, 1) := by decide +kernel
theorem dX2_placeOf_25 : decode cX2_placeOf 25 = .ok (.ireturn, 1) := by decide +kernel
def f_X2_placeOf (x1 : Int32) (x2 : Int32) (w : XW) : Option (Int32 × XW) := (if x1 < 0 then (some (x2, w)) else (if x2 ≤ x1 then (some (x2, w)) else (if 7 ≤ x1 then (some (x2, w)) else (if inB x1 7 then (some ((w.1 131 (Int32.toNatClampNeg x1)), w)) else none))))
set_option maxRecDepth 100000 in
theorem W_X2_placeOf {g : GC} (hl : g.1.stackTraces = false) {x1 : Int32} {x2 : Int32} {w : XW} : VE g cX2_placeOf 3 RX2 (some .int) [] (rmL 3 0 0) 0 0 oI 0 0 0 [(0, .ref (g.2.1 + 128)), (1, .int x1), (2, .int x2)] [] w (f_X2_placeOf x1 x2 w) := by
  unfold f_X2_placeOf
  refine v_iload_n dX2_placeOf_0 rfl 1 rfl ?_
  refine v_if_lt (tgt := 24) dX2_placeOf_1 (by decide) ?_ ?_
  · refine v_iload_n dX2_placeOf_24 rfl 2 rfl ?_
    exact v_iret dX2_placeOf_25 rfl rfl (by decide) (by decide)
  · refine v_iload_n dX2_placeOf_4 rfl 1 rfl ?_
    refine v_iload_n dX2_placeOf_5 rfl 2 rfl ?_
    refine v_icmp_ge (tgt := 24) dX2_placeOf_6 (by decide) ?_ ?_
    · refine v_iload_n dX2_placeOf_24 rfl 2 rfl ?_
      exact v_iret dX2_placeOf_25 rfl rfl (by decide) (by decide)
    · refine v_iload_n dX2_placeOf_9 rfl 1 rfl ?_
      refine v_bipush (v := 7) dX2_placeOf_10 (by decide) ?_
      refine v_icmp_ge (tgt := 24) dX2_placeOf_12 (by decide) ?_ ?_
      · refine v_iload_n dX2_placeOf_24 rfl 2 rfl ?_
        exact v_iret dX2_placeOf_25 rfl rfl (by decide) (by decide)
      · refine v_aload_n dX2_placeOf_15 rfl 0 rfl ?_
        refine v_getR fl_X2_18 tt_128 rfl dX2_placeOf_16 ?_
        refine v_iload_n dX2_placeOf_19 rfl 1 rfl ?_
        refine v_guard (fun h1 => ?_)
        refine v_iald tt_131 h1 dX2_placeOf_20 ?_
        refine v_goto (tgt := 25) dX2_placeOf_21 (by decide) ?_
        exact v_iret dX2_placeOf_25 rfl rfl (by decide) (by decide)
theorem S_X2_placeOf {g : GC} (hl : g.1.stackTraces = false) {x1 : Int32} {x2 : Int32} {w : XW} : ∀ q, f_X2_placeOf x1 x2 w = some q → MM g (.code yX2_placeOf cX2_placeOf 3 (some .int)) yX2_placeOf (rmL 3 0 0) 0 0 [.ref (g.2.1 + 128), .int x1, .int x2] w (oI q) := fun q hq => MM_of (own := RX2) hl (by decide) gw_1648 rfl (Nat.le_of_ble_eq_true rfl) (W_X2_placeOf hl q hq) ⟨rfl, rfl⟩

theorem dX2_spanCrosses_0 : decode cX2_spanCrosses 0 = .ok (.aload_n 0, 1) := by decide +kernel
theorem dX2_spanCrosses_1 : decode cX2_spanCrosses 1 = .ok (.iload_n 1, 1) := by decide +kernel
theorem dX2_spanCrosses_2 : decode cX2_spanCrosses 2 = .ok (.iload_n 2, 1) := by decide +kernel
theorem dX2_spanCrosses_3 : decode cX2_spanCrosses 3 = .ok (.invokevirtual 70, 3) := by decide +kernel
theorem dX2_spanCrosses_6 : decode cX2_spanCrosses 6 = .ok (.istore_n 3, 1) := by decide +kernel
theorem dX2_spanCrosses_7 : decode cX2_spanCrosses 7 = .ok (.aload_n 0, 1) := by decide +kernel
theorem dX2_spanCrosses_8 : decode cX2_spanCrosses 8 = .ok (.iload_n 1, 1) := by decide +kernel
theorem dX2_spanCrosses_9 : decode cX2_spanCrosses 9 = .ok (.iconst 1, 1) := by decide +kernel
theorem dX2_spanCrosses_10 : decode cX2_spanCrosses 10 = .ok (.iadd, 1) := by decide +kernel
theorem dX2_spanCrosses_11 : decode cX2_spanCrosses 11 = .ok (.iload_n 2, 1) := by decide +kernel
theorem dX2_spanCrosses_12 : decode cX2_spanCrosses 12 = .ok (.invokevirtual 70, 3) := by decide +kernel
theorem dX2_spanCrosses_15 : decode cX2_spanCrosses 15 = .ok (.istore 4, 2) := by decide +kernel
theorem dX2_spanCrosses_17 : decode cX2_spanCrosses 17 = .ok (.iload_n 3, 1) := by decide +kernel
theorem dX2_spanCrosses_18 : decode cX2_spanCrosses 18 = .ok (.iload_n 2, 1) := by decide +kernel
theorem dX2_spanCrosses_19 : decode cX2_spanCrosses 19 = .ok (.if_icmp .eq 9, 3) := by decide +kernel
theorem dX2_spanCrosses_22 : decode cX2_spanCrosses 22 = .ok (.iload 4, 2) := by decide +kernel
theorem dX2_spanCrosses_24 : decode cX2_spanCrosses 24 = .ok (.iload_n 2, 1) := by decide +kernel
theorem dX2_spanCrosses_25 : decode cX2_spanCrosses 25 = .ok (.if_icmp .ne 5, 3) := by decide +kernel
theorem dX2_spanCrosses_28 : decode cX2_spanCrosses 28 = .ok (.iconst 0, 1) := by decide +kernel
theorem dX2_spanCrosses_29 : decode cX2_spanCrosses 29 = .ok (.ireturn, 1) := by decide +kernel
theorem dX2_spanCrosses_30 : decode cX2_spanCrosses 30 = .ok (.iload_n 1, 1) := by decide +kernel
theorem dX2_spanCrosses_31 : decode cX2_spanCrosses 31 = .ok (.iconst 2, 1) := by decide +kernel
theorem dX2_spanCrosses_32 : decode cX2_spanCrosses 32 = .ok (.irem, 1) := by decide +kernel
theorem dX2_spanCrosses_33 : decode cX2_spanCrosses 33 = .ok (.istore 5, 2) := by decide +kernel
theorem dX2_spanCrosses_35 : decode cX2_spanCrosses 35 = .ok (.iload 5, 2) := by decide +kernel
theorem dX2_spanCrosses_37 : decode cX2_spanCrosses 37 = .ok (.iconst 1, 1) := by decide +kernel
theorem dX2_spanCrosses_38 : decode cX2_spanCrosses 38 = .ok (.iadd, 1) := by decide +kernel
theorem dX2_spanCrosses_39 : decode cX2_spanCrosses 39 = .ok (.iload_n 2, 1) := by decide +kernel
theorem dX2_spanCrosses_40 : decode cX2_spanCrosses 40 = .ok (.if_icmp .ge 46, 3) := by decide +kernel
theorem dX2_spanCrosses_43 : decode cX2_spanCrosses 43 = .ok (.iload_n 3, 1) := by decide +kernel
theorem dX2_spanCrosses_44 : decode cX2_spanCrosses 44 = .ok (.iload 4, 2) := by decide +kernel
theorem dX2_spanCrosses_46 : decode cX2_spanCrosses 46 = .ok (.aload_n 0, 1) := by decide +kernel
theorem dX2_spanCrosses_47 : decode cX2_spanCrosses 47 = .ok (.iload 5, 2) := by decide +kernel
theorem dX2_spanCrosses_49 : decode cX2_spanCrosses 49 = .ok (.iload_n 2, 1) := by decide +kernel
theorem dX2_spanCrosses_50 : decode cX2_spanCrosses 50 = .ok (.invokevirtual 70, 3) := by decide +kernel
theorem dX2_spanCrosses_53 : decode cX2_spanCrosses 53 = .ok (.aload_n 0, 1) := by decide +kernel
theorem dX2_spanCrosses_54 : decode cX2_spanCrosses 54 = .ok (.iload 5, 2) := by decide +kernel
theorem dX2_spanCrosses_56 : decode cX2_spanCrosses 56 = .ok (.iconst 1, 1) := by decide +kernel
theorem dX2_spanCrosses_57 : decode cX2_spanCrosses 57 = .ok (.iadd, 1) := by decide +kernel
theorem dX2_spanCrosses_58 : decode cX2_spanCrosses 58 = .ok (.iload_n 2, 1) := by decide +kernel
theorem dX2_spanCrosses_59 : decode cX2_spanCrosses 59 = .ok (.invokevirtual 70, 3) := by decide +kernel
theorem dX2_spanCrosses_62 : decode cX2_spanCrosses 62 = .ok (.invokestatic 73, 3) := by decide +kernel
theorem dX2_spanCrosses_65 : decode cX2_spanCrosses 65 = .ok (.istore 6, 2) := by decide +kernel
theorem dX2_spanCrosses_67 : decode cX2_spanCrosses 67 = .ok (.iload 5, 2) := by decide +kernel
theorem dX2_spanCrosses_69 : decode cX2_spanCrosses 69 = .ok (.iload_n 1, 1) := by decide +kernel
theorem dX2_spanCrosses_70 : decode cX2_spanCrosses 70 = .ok (.if_icmp .eq 10, 3) := by decide +kernel
theorem dX2_spanCrosses_73 : decode cX2_spanCrosses 73 = .ok (.iload 6, 2) := by decide +kernel
theorem dX2_spanCrosses_75 : decode cX2_spanCrosses 75 = .ok (.ifCond .eq 5, 3) := by decide +kernel
theorem dX2_spanCrosses_78 : decode cX2_spanCrosses 78 = .ok (.iconst 1, 1) := by decide +kernel
theorem dX2_spanCrosses_79 : decode cX2_spanCrosses 79 = .ok (.ireturn, 1) := by decide +kernel
theorem dX2_spanCrosses_80 : decode cX2_spanCrosses 80 = .ok (.iinc 5 2, 3) := by decide +kernel
theorem dX2_spanCrosses_83 : decode cX2_spanCrosses 83 = .ok (.goto (-48), 3) := by decide +kernel
theorem dX2_spanCrosses_86 : decode cX2_spanCrosses 86 = .ok (.iconst 0, 1) := by decide +kernel
theorem dX2_spanCrosses_87 : decode cX2_spanCrosses 87 = .ok (.ireturn, 1) := by decide +kernel
def f_X2_spanCrosses_35 (y1 : Int32) (y2 : Int32) (y3 : Int32) (y4 : Int32) : Nat → Int32 → XW → Option (Int32 × XW)
  | 0, _, _ => none
  | n + 1, z5, w => (if y2 ≤ (z5 + 1) then (some (0, w)) else (bI (f_X2_placeOf z5 y2 w) (fun r3 w3 => (bI (f_X2_placeOf (z5 + 1) y2 w3) (fun r4 w4 => (bI (f_X4_spansCross y3 y4 r3 r4 w4) (fun r5 w5 => (if z5 = y1 then (f_X2_spanCrosses_35 y1 y2 y3 y4 n (z5 + 2) w5) else (if r5 = 0 then (f_X2_spanCrosses_35 y1 y2 y3 y4 n (z5 + 2) w5) else (some (1, w5)))))))))))
set_option maxRecDepth 100000 in
theorem S_X2_spanCrosses_35 {g : GC} (hl : g.1.stackTraces = false) {y1 : Int32} {y2 : Int32} {y3 : Int32} {y4 : Int32} : ∀ (n : Nat) (z5 : Int32) (w : XW), VE g cX2_spanCrosses 7 RX2 (some .boolean) [] (rmL 6 0 0) 0 0 oI 0 0 35 [(0, .ref (g.2.1 + 128)), (1, .int y1), (2, .int y2), (3, .int y3), (4, .int y4), (5, .int z5)] [] w (f_X2_spanCrosses_35 y1 y2 y3 y4 n z5 w) := by
  intro n
  induction n with
  | zero => intro z5 w; exact v_none
  | succ n ih =>
    intro z5 w
    rw [f_X2_spanCrosses_35]
    refine v_iload dX2_spanCrosses_35 5 rfl ?_
    refine v_iconst (v := 1) dX2_spanCrosses_37 (by decide) ?_
    refine v_iadd dX2_spanCrosses_38 ?_
    refine v_iload_n dX2_spanCrosses_39 rfl 2 rfl ?_
    refine v_icmp_ge (tgt := 86) dX2_spanCrosses_40 (by decide) ?_ ?_
    · refine v_iconst (v := 0) dX2_spanCrosses_86 (by decide) ?_
      exact v_zret dX2_spanCrosses_87 rfl rfl rfl (by decide) (by decide)
    · refine v_iload_n dX2_spanCrosses_43 rfl 3 rfl ?_
      refine v_iload dX2_spanCrosses_44 4 rfl ?_
      refine v_aload_n dX2_spanCrosses_46 rfl 0 rfl ?_
      refine v_iload dX2_spanCrosses_47 5 rfl ?_
      refine v_iload_n dX2_spanCrosses_49 rfl 2 rfl ?_
      refine v_callVi (As := [.int z5, .int y2]) cv_X2_70 (S_X2_placeOf hl) tt_128 rfl rfl rfl (Nat.le_of_ble_eq_true rfl) dX2_spanCrosses_50 (CR_rm (by decide) (by decide) (by decide) (by decide)) (fun r3 w3 => ?_)
      refine v_aload_n dX2_spanCrosses_53 rfl 0 rfl ?_
      refine v_iload dX2_spanCrosses_54 5 rfl ?_
      refine v_iconst (v := 1) dX2_spanCrosses_56 (by decide) ?_
      refine v_iadd dX2_spanCrosses_57 ?_
      refine v_iload_n dX2_spanCrosses_58 rfl 2 rfl ?_
      refine v_callVi (As := [.int (z5 + 1), .int y2]) cv_X2_70 (S_X2_placeOf hl) tt_128 rfl rfl rfl (Nat.le_of_ble_eq_true rfl) dX2_spanCrosses_59 (CR_rm (by decide) (by decide) (by decide) (by decide)) (fun r4 w4 => ?_)
      refine v_callSi (As := [.int y3, .int y4, .int r3, .int r4]) cs_X2_73 (S_X4_spansCross hl) rfl rfl (Nat.le_of_ble_eq_true rfl) dX2_spanCrosses_62 (CR_rm (by decide) (by decide) (by decide) (by decide)) (fun r5 w5 => ?_)
      refine v_istore dX2_spanCrosses_65 (Nat.le_of_ble_eq_true rfl) rfl ?_
      refine v_iload dX2_spanCrosses_67 6 rfl ?_
      refine v_iload_n dX2_spanCrosses_69 rfl 2 rfl ?_
      refine v_icmp_eq (tgt := 80) dX2_spanCrosses_70 (by decide) ?_ ?_
      · refine v_iinc (v := (z5 + 2)) dX2_spanCrosses_80 (q := 6) rfl rfl (Nat.le_of_ble_eq_true rfl) rfl ?_
        refine v_goto (tgt := 35) dX2_spanCrosses_83 (by decide) ?_
        refine v_sub [2, 3, 4, 5, 6, 0] rfl ?_
        exact ih _ _
      · refine v_iload dX2_spanCrosses_73 0 rfl ?_
        refine v_if_eq (tgt := 80) dX2_spanCrosses_75 (by decide) ?_ ?_
        · refine v_iinc (v := (z5 + 2)) dX2_spanCrosses_80 (q := 6) rfl rfl (Nat.le_of_ble_eq_true rfl) rfl ?_
          refine v_goto (tgt := 35) dX2_spanCrosses_83 (by decide) ?_
          refine v_sub [2, 3, 4, 5, 6, 0] rfl ?_
          exact ih _ _
        · refine v_iconst (v := 1) dX2_spanCrosses_78 (by decide) ?_
          exact v_zret dX2_spanCrosses_79 rfl rfl rfl (by decide) (by decide)
def f_X2_spanCrosses (x1 : Int32) (x2 : Int32) (w : XW) : Option (Int32 × XW) := (bI (f_X2_placeOf x1 x2 w) (fun r1 w1 => (bI (f_X2_placeOf (x1 + 1) x2 w1) (fun r2 w2 => (if r1 = x2 then (some (0, w2)) else (if r2 = x2 then (some (0, w2)) else (f_X2_spanCrosses_35 x1 x2 r1 r2 1000 (x1 - x1 / 2 * 2) w2)))))))
set_option maxRecDepth 100000 in
theorem W_X2_spanCrosses {g : GC} (hl : g.1.stackTraces = false) {x1 : Int32} {x2 : Int32} {w : XW} : VE g cX2_spanCrosses 7 RX2 (some .boolean) [] (rmL 6 0 0) 0 0 oI 0 0 0 [(0, .ref (g.2.1 + 128)), (1, .int x1), (2, .int x2)] [] w (f_X2_spanCrosses x1 x2 w) := by
  unfold f_X2_spanCrosses
  refine v_aload_n dX2_spanCrosses_0 rfl 0 rfl ?_
  refine v_iload_n dX2_spanCrosses_1 rfl 1 rfl ?_
  refine v_iload_n dX2_spanCrosses_2 rfl 2 rfl ?_
  refine v_callVi (As := [.int x1, .int x2]) cv_X2_70 (S_X2_placeOf hl) tt_128 rfl rfl rfl (Nat.le_of_ble_eq_true rfl) dX2_spanCrosses_3 (CR_rm (by decide) (by decide) (by decide) (by decide)) (fun r1 w1 => ?_)
  refine v_istore_n dX2_spanCrosses_6 rfl (Nat.le_of_ble_eq_true rfl) rfl ?_
  refine v_aload_n dX2_spanCrosses_7 rfl 1 rfl ?_
  refine v_iload_n dX2_spanCrosses_8 rfl 2 rfl ?_
  refine v_iconst (v := 1) dX2_spanCrosses_9 (by decide) ?_
  refine v_iadd dX2_spanCrosses_10 ?_
  refine v_iload_n dX2_spanCrosses_11 rfl 3 rfl ?_
  refine v_callVi (As := [.int (x1 + 1), .int x2]) cv_X2_70 (S_X2_placeOf hl) tt_128 rfl rfl rfl (Nat.le_of_ble_eq_true rfl) dX2_spanCrosses_12 (CR_rm (by decide) (by decide) (by decide) (by decide)) (fun r2 w2 => ?_)
  refine v_istore dX2_spanCrosses_15 (Nat.le_of_ble_eq_true rfl) rfl ?_
  refine v_iload_n dX2_spanCrosses_17 rfl 1 rfl ?_
  refine v_iload_n dX2_spanCrosses_18 rfl 4 rfl ?_
  refine v_icmp_eq (tgt := 28) dX2_spanCrosses_19 (by decide) ?_ ?_
  · refine v_iconst (v := 0) dX2_spanCrosses_28 (by decide) ?_
    exact v_zret dX2_spanCrosses_29 rfl rfl rfl (by decide) (by decide)
  · refine v_iload dX2_spanCrosses_22 0 rfl ?_
    refine v_iload_n dX2_spanCrosses_24 rfl 4 rfl ?_
    refine v_icmp_ne (tgt := 30) dX2_spanCrosses_25 (by decide) ?_ ?_
    · refine v_iload_n dX2_spanCrosses_30 rfl 3 rfl ?_
      refine v_iconst (v := 2) dX2_spanCrosses_31 (by decide) ?_
      refine v_irem dX2_spanCrosses_32 (by decide) ?_
      refine v_istore dX2_spanCrosses_33 (Nat.le_of_ble_eq_true rfl) rfl ?_
      refine v_sub [3, 4, 5, 2, 1, 0] rfl ?_
      exact S_X2_spanCrosses_35 hl  _ _ _
    · refine v_iconst (v := 0) dX2_spanCrosses_28 (by decide) ?_
      exact v_zret dX2_spanCrosses_29 rfl rfl rfl (by decide) (by decide)
theorem S_X2_spanCrosses {g : GC} (hl : g.1.stackTraces = false) {x1 : Int32} {x2 : Int32} {w : XW} : ∀ q, f_X2_spanCrosses x1 x2 w = some q → MM g (.code yX2_spanCrosses cX2_spanCrosses 7 (some .boolean)) yX2_spanCrosses (rmL 6 0 0) 0 0 [.ref (g.2.1 + 128), .int x1, .int x2] w (oI q) := fun q hq => MM_of (own := RX2) hl (by decide) gw_1644 rfl (Nat.le_of_ble_eq_true rfl) (W_X2_spanCrosses hl q hq) ⟨rfl, rfl⟩

theorem dX2_goOnAbove_0 : decode cX2_goOnAbove 0 = .ok (.aload_n 0, 1) := by decide +kernel
theorem dX2_goOnAbove_1 : decode cX2_goOnAbove 1 = .ok (.iload_n 1, 1) := by decide +kernel
theorem dX2_goOnAbove_2 : decode cX2_goOnAbove 2 = .ok (.iconst 1, 1) := by decide +kernel
theorem dX2_goOnAbove_3 : decode cX2_goOnAbove 3 = .ok (.isub, 1) := by decide +kernel
theorem dX2_goOnAbove_4 : decode cX2_goOnAbove 4 = .ok (.iload_n 3, 1) := by decide +kernel
theorem dX2_goOnAbove_5 : decode cX2_goOnAbove 5 = .ok (.invokevirtual 64, 3) := by decide +kernel
theorem dX2_goOnAbove_8 : decode cX2_goOnAbove 8 = .ok (.ifCond .ne 12, 3) := by decide +kernel
theorem dX2_goOnAbove_11 : decode cX2_goOnAbove 11 = .ok (.aload_n 0, 1) := by decide +kernel
theorem dX2_goOnAbove_12 : decode cX2_goOnAbove 12 = .ok (.iload_n 1, 1) := by decide +kernel
theorem dX2_goOnAbove_13 : decode cX2_goOnAbove 13 = .ok (.iload_n 3, 1) := by decide +kernel
theorem dX2_goOnAbove_14 : decode cX2_goOnAbove 14 = .ok (.invokevirtual 64, 3) := by decide +kernel
theorem dX2_goOnAbove_17 : decode cX2_goOnAbove 17 = .ok (.ifCond .eq 7, 3) := by decide +kernel
theorem dX2_goOnAbove_20 : decode cX2_goOnAbove 20 = .ok (.iconst 1, 1) := by decide +kernel
theorem dX2_goOnAbove_21 : decode cX2_goOnAbove 21 = .ok (.goto 4, 3) := by decide +kernel
theorem dX2_goOnAbove_24 : decode cX2_goOnAbove 24 = .ok (.iconst 0, 1) := by decide +kernel
theorem dX2_goOnAbove_25 : decode cX2_goOnAbove 25 = .ok (.istore 4, 2) := by decide +kernel
theorem dX2_goOnAbove_27 : decode cX2_goOnAbove 27 = .ok (.iload 4, 2) := by decide +kernel
theorem dX2_goOnAbove_29 : decode cX2_goOnAbove 29 = .ok (.ifCond .eq 7, 3) := by decide +kernel
theorem dX2_goOnAbove_32 : decode cX2_goOnAbove 32 = .ok (.iconst 0, 1) := by decide +kernel
theorem dX2_goOnAbove_33 : decode cX2_goOnAbove 33 = .ok (.goto 11, 3) := by decide +kernel
theorem dX2_goOnAbove_36 : decode cX2_goOnAbove 36 = .ok (.aload_n 0, 1) := by decide +kernel
theorem dX2_goOnAbove_37 : decode cX2_goOnAbove 37 = .ok (.iload_n 2, 1) := by decide +kernel
theorem dX2_goOnAbove_38 : decode cX2_goOnAbove 38 = .ok (.iconst 1, 1) := by decide +kernel
theorem dX2_goOnAbove_39 : decode cX2_goOnAbove 39 = .ok (.iadd, 1) := by decide +kernel
theorem dX2_goOnAbove_40 : decode cX2_goOnAbove 40 = .ok (.iload_n 3, 1) := by decide +kernel
theorem dX2_goOnAbove_41 : decode cX2_goOnAbove 41 = .ok (.invokevirtual 54, 3) := by decide +kernel
theorem dX2_goOnAbove_44 : decode cX2_goOnAbove 44 = .ok (.ireturn, 1) := by decide +kernel
def f_X2_goOnAbove (RC : Int32 → Int32 → XW → Option (Int32 × XW)) (x1 : Int32) (x2 : Int32) (x3 : Int32) (w : XW) : Option (Int32 × XW) := (bI (f_X2_spanCrosses (x1 - 1) x3 w) (fun r1 w1 => (if r1 = 0 then (bI (f_X2_spanCrosses x1 x3 w1) (fun r2 w2 => (if r2 = 0 then (bI (RC (x2 + 1) x3 w2) (fun r3 w3 => (some (r3, w3)))) else (some (0, w2))))) else (some (0, w1)))))
set_option maxRecDepth 100000 in
theorem W_X2_goOnAbove {g : GC} (hl : g.1.stackTraces = false) {n0 : Nat} (hn0 : 7 ≤ n0) {RC : Int32 → Int32 → XW → Option (Int32 × XW)} (hRC : ∀ (x1 : Int32) (x2 : Int32) (w : XW) q, RC x1 x2 w = some q → MM g (.code yX2_placeRest cX2_placeRest 5 (some .int)) yX2_placeRest (rmL n0 0 0) 0 0 [.ref (g.2.1 + 128), .int x1, .int x2] w (oI q)) {x1 : Int32} {x2 : Int32} {x3 : Int32} {w : XW} : VE g cX2_goOnAbove 5 RX2 (some .int) [] (rmL (n0 + 1) 0 0) 0 0 oI 0 0 0 [(0, .ref (g.2.1 + 128)), (1, .int x1), (2, .int x2), (3, .int x3)] [] w (f_X2_goOnAbove RC x1 x2 x3 w) := by
  unfold f_X2_goOnAbove
  refine v_aload_n dX2_goOnAbove_0 rfl 0 rfl ?_
  refine v_iload_n dX2_goOnAbove_1 rfl 1 rfl ?_
  refine v_iconst (v := 1) dX2_goOnAbove_2 (by decide) ?_
  refine v_isub dX2_goOnAbove_3 ?_
  refine v_iload_n dX2_goOnAbove_4 rfl 3 rfl ?_
  refine v_callVi (As := [.int (x1 - 1), .int x3]) cv_X2_64 (S_X2_spanCrosses hl) tt_128 rfl rfl rfl (Nat.le_of_ble_eq_true rfl) dX2_goOnAbove_5 (CR_rm (by omega) (by decide) (by decide) (by decide)) (fun r1 w1 => ?_)
  refine v_if_ne (tgt := 20) dX2_goOnAbove_8 (by decide) ?_ ?_
  · refine v_iconst (v := 1) dX2_goOnAbove_20 (by decide) ?_
    refine v_goto (tgt := 25) dX2_goOnAbove_21 (by decide) ?_
    refine v_istore dX2_goOnAbove_25 (Nat.le_of_ble_eq_true rfl) rfl ?_
    refine v_iload dX2_goOnAbove_27 0 rfl ?_
    refine v_if_eqF (tgt := 36) dX2_goOnAbove_29 (by decide) (by decide) ?_
    refine v_iconst (v := 0) dX2_goOnAbove_32 (by decide) ?_
    refine v_goto (tgt := 44) dX2_goOnAbove_33 (by decide) ?_
    exact v_iret dX2_goOnAbove_44 rfl rfl (by decide) (by decide)
  · refine v_aload_n dX2_goOnAbove_11 rfl 0 rfl ?_
    refine v_iload_n dX2_goOnAbove_12 rfl 1 rfl ?_
    refine v_iload_n dX2_goOnAbove_13 rfl 3 rfl ?_
    refine v_callVi (As := [.int x1, .int x3]) cv_X2_64 (S_X2_spanCrosses hl) tt_128 rfl rfl rfl (Nat.le_of_ble_eq_true rfl) dX2_goOnAbove_14 (CR_rm (by omega) (by decide) (by decide) (by decide)) (fun r2 w2 => ?_)
    refine v_if_eq (tgt := 24) dX2_goOnAbove_17 (by decide) ?_ ?_
    · refine v_iconst (v := 0) dX2_goOnAbove_24 (by decide) ?_
      refine v_istore dX2_goOnAbove_25 (Nat.le_of_ble_eq_true rfl) rfl ?_
      refine v_iload dX2_goOnAbove_27 0 rfl ?_
      refine v_if_eqT (tgt := 36) dX2_goOnAbove_29 (by decide) (by decide) ?_
      refine v_aload_n dX2_goOnAbove_36 rfl 1 rfl ?_
      refine v_iload_n dX2_goOnAbove_37 rfl 3 rfl ?_
      refine v_iconst (v := 1) dX2_goOnAbove_38 (by decide) ?_
      refine v_iadd dX2_goOnAbove_39 ?_
      refine v_iload_n dX2_goOnAbove_40 rfl 4 rfl ?_
      refine v_callVi (As := [.int (x2 + 1), .int x3]) cv_X2_54 (hRC _ _ _) tt_128 rfl rfl rfl (Nat.le_of_ble_eq_true rfl) dX2_goOnAbove_41 (CR_rm (by omega) (by decide) (by decide) (by decide)) (fun r3 w3 => ?_)
      exact v_iret dX2_goOnAbove_44 rfl rfl (by decide) (by decide)
    · refine v_iconst (v := 1) dX2_goOnAbove_20 (by decide) ?_
      refine v_goto (tgt := 25) dX2_goOnAbove_21 (by decide) ?_
      refine v_istore dX2_goOnAbove_25 (Nat.le_of_ble_eq_true rfl) rfl ?_
      refine v_iload dX2_goOnAbove_27 0 rfl ?_
      refine v_if_eqF (tgt := 36) dX2_goOnAbove_29 (by decide) (by decide) ?_
      refine v_iconst (v := 0) dX2_goOnAbove_32 (by decide) ?_
      refine v_goto (tgt := 44) dX2_goOnAbove_33 (by decide) ?_
      exact v_iret dX2_goOnAbove_44 rfl rfl (by decide) (by decide)
theorem S_X2_goOnAbove {g : GC} (hl : g.1.stackTraces = false) {n0 : Nat} (hn0 : 7 ≤ n0) {RC : Int32 → Int32 → XW → Option (Int32 × XW)} (hRC : ∀ (x1 : Int32) (x2 : Int32) (w : XW) q, RC x1 x2 w = some q → MM g (.code yX2_placeRest cX2_placeRest 5 (some .int)) yX2_placeRest (rmL n0 0 0) 0 0 [.ref (g.2.1 + 128), .int x1, .int x2] w (oI q)) {x1 : Int32} {x2 : Int32} {x3 : Int32} {w : XW} : ∀ q, f_X2_goOnAbove RC x1 x2 x3 w = some q → MM g (.code yX2_goOnAbove cX2_goOnAbove 5 (some .int)) yX2_goOnAbove (rmL (n0 + 1) 0 0) 0 0 [.ref (g.2.1 + 128), .int x1, .int x2, .int x3] w (oI q) := fun q hq => MM_of (own := RX2) hl (by decide) gw_1640 rfl (Nat.le_of_ble_eq_true rfl) (W_X2_goOnAbove hl hn0 hRC q hq) ⟨rfl, rfl⟩

theorem dX2_placeRest_0 : decode cX2_placeRest 0 = .ok (.iload_n 1, 1) := by decide +kernel
theorem dX2_placeRest_1 : decode cX2_placeRest 1 = .ok (.iload_n 2, 1) := by decide +kernel
theorem dX2_placeRest_2 : decode cX2_placeRest 2 = .ok (.if_icmp .lt 5, 3) := by decide +kernel
theorem dX2_placeRest_5 : decode cX2_placeRest 5 = .ok (.iconst 1, 1) := by decide +kernel
theorem dX2_placeRest_6 : decode cX2_placeRest 6 = .ok (.ireturn, 1) := by decide +kernel
theorem dX2_placeRest_7 : decode cX2_placeRest 7 = .ok (.iconst 0, 1) := by decide +kernel
theorem dX2_placeRest_8 : decode cX2_placeRest 8 = .ok (.istore_n 3, 1) := by decide +kernel
theorem dX2_placeRest_9 : decode cX2_placeRest 9 = .ok (.iconst 0, 1) := by decide +kernel
theorem dX2_placeRest_10 : decode cX2_placeRest 10 = .ok (.istore 4, 2) := by decide +kernel
theorem dX2_placeRest_12 : decode cX2_placeRest 12 = .ok (.iload 4, 2) := by decide +kernel
theorem dX2_placeRest_14 : decode cX2_placeRest 14 = .ok (.iload_n 2, 1) := by decide +kernel
theorem dX2_placeRest_15 : decode cX2_placeRest 15 = .ok (.if_icmp .ge 64, 3) := by decide +kernel
theorem dX2_placeRest_18 : decode cX2_placeRest 18 = .ok (.iload 4, 2) := by decide +kernel
theorem dX2_placeRest_20 : decode cX2_placeRest 20 = .ok (.bipush 7, 2) := by decide +kernel
theorem dX2_placeRest_22 : decode cX2_placeRest 22 = .ok (.if_icmp .ge 57, 3) := by decide +kernel
theorem dX2_placeRest_25 : decode cX2_placeRest 25 = .ok (.aload_n 0, 1) := by decide +kernel
theorem dX2_placeRest_26 : decode cX2_placeRest 26 = .ok (.getfield 18, 3) := by decide +kernel
theorem dX2_placeRest_29 : decode cX2_placeRest 29 = .ok (.iload 4, 2) := by decide +kernel
theorem dX2_placeRest_31 : decode cX2_placeRest 31 = .ok (.iaload, 1) := by decide +kernel
theorem dX2_placeRest_32 : decode cX2_placeRest 32 = .ok (.iload_n 2, 1) := by decide +kernel
theorem dX2_placeRest_33 : decode cX2_placeRest 33 = .ok (.if_icmp .ne 40, 3) := by decide +kernel
theorem dX2_placeRest_36 : decode cX2_placeRest 36 = .ok (.aload_n 0, 1) := by decide +kernel
theorem dX2_placeRest_37 : decode cX2_placeRest 37 = .ok (.iload 4, 2) := by decide +kernel
theorem dX2_placeRest_39 : decode cX2_placeRest 39 = .ok (.iload_n 2, 1) := by decide +kernel
theorem dX2_placeRest_40 : decode cX2_placeRest 40 = .ok (.invokevirtual 57, 3) := by decide +kernel
theorem dX2_placeRest_43 : decode cX2_placeRest 43 = .ok (.ifCond .eq 30, 3) := by decide +kernel
theorem dX2_placeRest_46 : decode cX2_placeRest 46 = .ok (.aload_n 0, 1) := by decide +kernel
theorem dX2_placeRest_47 : decode cX2_placeRest 47 = .ok (.getfield 18, 3) := by decide +kernel
theorem dX2_placeRest_50 : decode cX2_placeRest 50 = .ok (.iload 4, 2) := by decide +kernel
theorem dX2_placeRest_52 : decode cX2_placeRest 52 = .ok (.iload_n 1, 1) := by decide +kernel
theorem dX2_placeRest_53 : decode cX2_placeRest 53 = .ok (.iastore, 1) := by decide +kernel
theorem dX2_placeRest_54 : decode cX2_placeRest 54 = .ok (.iload_n 3, 1) := by decide +kernel
theorem dX2_placeRest_55 : decode cX2_placeRest 55 = .ok (.aload_n 0, 1) := by decide +kernel
theorem dX2_placeRest_56 : decode cX2_placeRest 56 = .ok (.iload 4, 2) := by decide +kernel
theorem dX2_placeRest_58 : decode cX2_placeRest 58 = .ok (.iload_n 1, 1) := by decide +kernel
theorem dX2_placeRest_59 : decode cX2_placeRest 59 = .ok (.iload_n 2, 1) := by decide +kernel
theorem dX2_placeRest_60 : decode cX2_placeRest 60 = .ok (.invokevirtual 61, 3) := by decide +kernel
theorem dX2_placeRest_63 : decode cX2_placeRest 63 = .ok (.iadd, 1) := by decide +kernel
theorem dX2_placeRest_64 : decode cX2_placeRest 64 = .ok (.istore_n 3, 1) := by decide +kernel
theorem dX2_placeRest_65 : decode cX2_placeRest 65 = .ok (.aload_n 0, 1) := by decide +kernel
theorem dX2_placeRest_66 : decode cX2_placeRest 66 = .ok (.getfield 18, 3) := by decide +kernel
theorem dX2_placeRest_69 : decode cX2_placeRest 69 = .ok (.iload 4, 2) := by decide +kernel
theorem dX2_placeRest_71 : decode cX2_placeRest 71 = .ok (.iload_n 2, 1) := by decide +kernel
theorem dX2_placeRest_72 : decode cX2_placeRest 72 = .ok (.iastore, 1) := by decide +kernel
theorem dX2_placeRest_73 : decode cX2_placeRest 73 = .ok (.iinc 4 1, 3) := by decide +kernel
theorem dX2_placeRest_76 : decode cX2_placeRest 76 = .ok (.goto (-64), 3) := by decide +kernel
theorem dX2_placeRest_79 : decode cX2_placeRest 79 = .ok (.iload_n 3, 1) := by decide +kernel
theorem dX2_placeRest_80 : decode cX2_placeRest 80 = .ok (.ireturn, 1) := by decide +kernel
def f_X2_placeRest_12 (RC : Int32 → Int32 → XW → Option (Int32 × XW)) (y1 : Int32) (y2 : Int32) : Nat → Int32 → Int32 → XW → Option (Int32 × XW)
  | 0, _, _, _ => none
  | n + 1, z3, z4, w => (if y2 ≤ z4 then (some (z3, w)) else (if 7 ≤ z4 then (some (z3, w)) else (if inB z4 7 then (if (w.1 131 (Int32.toNatClampNeg z4)) = y2 then (bI (f_X2_isNextOfPile z4 y2 w) (fun r2 w2 => (if r2 = 0 then (f_X2_placeRest_12 RC y1 y2 n z3 (z4 + 1) w2) else (if inB z4 7 then (bI (f_X2_goOnAbove RC z4 y1 y2 (wset w2 131 (Int32.toNatClampNeg z4) y1)) (fun r4 w4 => (if inB z4 7 then (f_X2_placeRest_12 RC y1 y2 n (z3 + r4) (z4 + 1) (wset w4 131 (Int32.toNatClampNeg z4) y2)) else none))) else none)))) else (f_X2_placeRest_12 RC y1 y2 n z3 (z4 + 1) w)) else none)))
set_option maxRecDepth 100000 in
theorem S_X2_placeRest_12 {g : GC} (hl : g.1.stackTraces = false) {n0 : Nat} (hn0 : 7 ≤ n0) {RC : Int32 → Int32 → XW → Option (Int32 × XW)} (hRC : ∀ (x1 : Int32) (x2 : Int32) (w : XW) q, RC x1 x2 w = some q → MM g (.code yX2_placeRest cX2_placeRest 5 (some .int)) yX2_placeRest (rmL n0 0 0) 0 0 [.ref (g.2.1 + 128), .int x1, .int x2] w (oI q)) {y1 : Int32} {y2 : Int32} : ∀ (n : Nat) (z3 : Int32) (z4 : Int32) (w : XW), VE g cX2_placeRest 5 RX2 (some .int) [] (rmL (n0 + 2) 0 0) 0 0 oI 0 0 12 [(0, .ref (g.2.1 + 128)), (1, .int y1), (2, .int y2), (3, .int z3), (4, .int z4)] [] w (f_X2_placeRest_12 RC y1 y2 n z3 z4 w) := by
  intro n
  induction n with
  | zero => intro z3 z4 w; exact v_none
  | succ n ih =>
    intro z3 z4 w
    rw [f_X2_placeRest_12]
    refine v_iload dX2_placeRest_12 4 rfl ?_
    refine v_iload_n dX2_placeRest_14 rfl 2 rfl ?_
    refine v_icmp_ge (tgt := 79) dX2_placeRest_15 (by decide) ?_ ?_
    · refine v_iload_n dX2_placeRest_79 rfl 3 rfl ?_
      exact v_iret dX2_placeRest_80 rfl rfl (by decide) (by decide)
    · refine v_iload dX2_placeRest_18 4 rfl ?_
      refine v_bipush (v := 7) dX2_placeRest_20 (by decide) ?_
      refine v_icmp_ge (tgt := 79) dX2_placeRest_22 (by decide) ?_ ?_
      · refine v_iload_n dX2_placeRest_79 rfl 3 rfl ?_
        exact v_iret dX2_placeRest_80 rfl rfl (by decide) (by decide)
      · refine v_aload_n dX2_placeRest_25 rfl 0 rfl ?_
        refine v_getR fl_X2_18 tt_128 rfl dX2_placeRest_26 ?_
        refine v_iload dX2_placeRest_29 4 rfl ?_
        refine v_guard (fun h1 => ?_)
        refine v_iald tt_131 h1 dX2_placeRest_31 ?_
        refine v_iload_n dX2_placeRest_32 rfl 2 rfl ?_
        refine v_icmp_ne (tgt := 73) dX2_placeRest_33 (by decide) ?_ ?_
        · refine v_iinc (v := (z4 + 1)) dX2_placeRest_73 (q := 4) rfl rfl (Nat.le_of_ble_eq_true rfl) rfl ?_
          refine v_goto (tgt := 12) dX2_placeRest_76 (by decide) ?_
          refine v_sub [1, 2, 3, 4, 0] rfl ?_
          exact ih _ _ _
        · refine v_aload_n dX2_placeRest_36 rfl 0 rfl ?_
          refine v_iload dX2_placeRest_37 4 rfl ?_
          refine v_iload_n dX2_placeRest_39 rfl 2 rfl ?_
          refine v_callVi (As := [.int z4, .int y2]) cv_X2_57 (S_X2_isNextOfPile hl) tt_128 rfl rfl rfl (Nat.le_of_ble_eq_true rfl) dX2_placeRest_40 (CR_rm (by omega) (by decide) (by decide) (by decide)) (fun r2 w2 => ?_)
          refine v_if_eq (tgt := 73) dX2_placeRest_43 (by decide) ?_ ?_
          · refine v_iinc (v := (z4 + 1)) dX2_placeRest_73 (q := 4) rfl rfl (Nat.le_of_ble_eq_true rfl) rfl ?_
            refine v_goto (tgt := 12) dX2_placeRest_76 (by decide) ?_
            refine v_sub [1, 2, 3, 4, 0] rfl ?_
            exact ih _ _ _
          · refine v_aload_n dX2_placeRest_46 rfl 0 rfl ?_
            refine v_getR fl_X2_18 tt_128 rfl dX2_placeRest_47 ?_
            refine v_iload dX2_placeRest_50 4 rfl ?_
            refine v_iload_n dX2_placeRest_52 rfl 1 rfl ?_
            refine v_guard (fun h3 => ?_)
            refine v_iast tt_131 h3 dX2_placeRest_53 ?_
            refine v_iload_n dX2_placeRest_54 rfl 3 rfl ?_
            refine v_aload_n dX2_placeRest_55 rfl 0 rfl ?_
            refine v_iload dX2_placeRest_56 4 rfl ?_
            refine v_iload_n dX2_placeRest_58 rfl 1 rfl ?_
            refine v_iload_n dX2_placeRest_59 rfl 2 rfl ?_
            refine v_callVi (As := [.int z4, .int y1, .int y2]) cv_X2_61 (S_X2_goOnAbove hl hn0 hRC) tt_128 rfl rfl rfl (Nat.le_of_ble_eq_true rfl) dX2_placeRest_60 (CR_rm (by omega) (by decide) (by decide) (by decide)) (fun r4 w4 => ?_)
            refine v_iadd dX2_placeRest_63 ?_
            refine v_istore_n dX2_placeRest_64 rfl (Nat.le_of_ble_eq_true rfl) rfl ?_
            refine v_aload_n dX2_placeRest_65 rfl 1 rfl ?_
            refine v_getR fl_X2_18 tt_128 rfl dX2_placeRest_66 ?_
            refine v_iload dX2_placeRest_69 4 rfl ?_
            refine v_iload_n dX2_placeRest_71 rfl 3 rfl ?_
            refine v_guard (fun h5 => ?_)
            refine v_iast tt_131 h5 dX2_placeRest_72 ?_
            refine v_iinc (v := (z4 + 1)) dX2_placeRest_73 (q := 4) rfl rfl (Nat.le_of_ble_eq_true rfl) rfl ?_
            refine v_goto (tgt := 12) dX2_placeRest_76 (by decide) ?_
            refine v_sub [2, 3, 4, 1, 0] rfl ?_
            exact ih _ _ _
def f_X2_placeRestO (RC : Int32 → Int32 → XW → Option (Int32 × XW)) (x1 : Int32) (x2 : Int32) (w : XW) : Option (Int32 × XW) := (if x1 < x2 then (f_X2_placeRest_12 RC x1 x2 1000 0 0 w) else (some (1, w)))
set_option maxRecDepth 100000 in
theorem W_X2_placeRestO {g : GC} (hl : g.1.stackTraces = false) {n0 : Nat} (hn0 : 7 ≤ n0) {RC : Int32 → Int32 → XW → Option (Int32 × XW)} (hRC : ∀ (x1 : Int32) (x2 : Int32) (w : XW) q, RC x1 x2 w = some q → MM g (.code yX2_placeRest cX2_placeRest 5 (some .int)) yX2_placeRest (rmL n0 0 0) 0 0 [.ref (g.2.1 + 128), .int x1, .int x2] w (oI q)) {x1 : Int32} {x2 : Int32} {w : XW} : VE g cX2_placeRest 5 RX2 (some .int) [] (rmL (n0 + 2) 0 0) 0 0 oI 0 0 0 [(0, .ref (g.2.1 + 128)), (1, .int x1), (2, .int x2)] [] w (f_X2_placeRestO RC x1 x2 w) := by
  unfold f_X2_placeRestO
  refine v_iload_n dX2_placeRest_0 rfl 1 rfl ?_
  refine v_iload_n dX2_placeRest_1 rfl 2 rfl ?_
  refine v_icmp_lt (tgt := 7) dX2_placeRest_2 (by decide) ?_ ?_
  · refine v_iconst (v := 0) dX2_placeRest_7 (by decide) ?_
    refine v_istore_n dX2_placeRest_8 rfl (Nat.le_of_ble_eq_true rfl) rfl ?_
    refine v_iconst (v := 0) dX2_placeRest_9 (by decide) ?_
    refine v_istore dX2_placeRest_10 (Nat.le_of_ble_eq_true rfl) rfl ?_
    refine v_sub [2, 3, 4, 1, 0] rfl ?_
    exact S_X2_placeRest_12 hl hn0 hRC  _ _ _ _
  · refine v_iconst (v := 1) dX2_placeRest_5 (by decide) ?_
    exact v_iret dX2_placeRest_6 rfl rfl (by decide) (by decide)
theorem S_X2_placeRestO {g : GC} (hl : g.1.stackTraces = false) {n0 : Nat} (hn0 : 7 ≤ n0) {RC : Int32 → Int32 → XW → Option (Int32 × XW)} (hRC : ∀ (x1 : Int32) (x2 : Int32) (w : XW) q, RC x1 x2 w = some q → MM g (.code yX2_placeRest cX2_placeRest 5 (some .int)) yX2_placeRest (rmL n0 0 0) 0 0 [.ref (g.2.1 + 128), .int x1, .int x2] w (oI q)) {x1 : Int32} {x2 : Int32} {w : XW} : ∀ q, f_X2_placeRestO RC x1 x2 w = some q → MM g (.code yX2_placeRest cX2_placeRest 5 (some .int)) yX2_placeRest (rmL (n0 + 2) 0 0) 0 0 [.ref (g.2.1 + 128), .int x1, .int x2] w (oI q) := fun q hq => MM_of (own := RX2) hl (by decide) gw_1631 rfl (Nat.le_of_ble_eq_true rfl) (W_X2_placeRestO hl hn0 hRC q hq) ⟨rfl, rfl⟩
def f_X2_placeRest : Nat → Int32 → Int32 → XW → Option (Int32 × XW)
  | 0, _, _, _ => none
  | n + 1, x1, x2, w => f_X2_placeRestO (f_X2_placeRest n) x1 x2 w
theorem S_X2_placeRest {g : GC} (hl : g.1.stackTraces = false) : ∀ (n : Nat) (x1 : Int32) (x2 : Int32) (w : XW) q, f_X2_placeRest n x1 x2 w = some q → MM g (.code yX2_placeRest cX2_placeRest 5 (some .int)) yX2_placeRest (rmL (7 + 2 * n) 0 0) 0 0 [.ref (g.2.1 + 128), .int x1, .int x2] w (oI q) := by
  intro n
  induction n with
  | zero => intro x1 x2 w q h; cases h
  | succ n ih =>
    intro x1 x2 w q h
    exact S_X2_placeRestO hl (n0 := 7 + 2 * n) (by omega) ih q h

theorem dX2_countByOrders_0 : decode cX2_countByOrders 0 = .ok (.aload_n 0, 1) := by decide +kernel
theorem dX2_countByOrders_1 : decode cX2_countByOrders 1 = .ok (.getfield 12, 3) := by decide +kernel
theorem dX2_countByOrders_4 : decode cX2_countByOrders 4 = .ok (.aload_n 1, 1) := by decide +kernel
theorem dX2_countByOrders_5 : decode cX2_countByOrders 5 = .ok (.invokevirtual 22, 3) := by decide +kernel
theorem dX2_countByOrders_8 : decode cX2_countByOrders 8 = .ok (.iload_n 2, 1) := by decide +kernel
theorem dX2_countByOrders_9 : decode cX2_countByOrders 9 = .ok (.bipush 7, 2) := by decide +kernel
theorem dX2_countByOrders_11 : decode cX2_countByOrders 11 = .ok (.invokestatic 30, 3) := by decide +kernel
theorem dX2_countByOrders_14 : decode cX2_countByOrders 14 = .ok (.istore_n 3, 1) := by decide +kernel
theorem dX2_countByOrders_15 : decode cX2_countByOrders 15 = .ok (.iconst 0, 1) := by decide +kernel
theorem dX2_countByOrders_16 : decode cX2_countByOrders 16 = .ok (.istore 4, 2) := by decide +kernel
theorem dX2_countByOrders_18 : decode cX2_countByOrders 18 = .ok (.iload 4, 2) := by decide +kernel
theorem dX2_countByOrders_20 : decode cX2_countByOrders 20 = .ok (.bipush 7, 2) := by decide +kernel
theorem dX2_countByOrders_22 : decode cX2_countByOrders 22 = .ok (.if_icmp .ge 17, 3) := by decide +kernel
theorem dX2_countByOrders_25 : decode cX2_countByOrders 25 = .ok (.aload_n 0, 1) := by decide +kernel
theorem dX2_countByOrders_26 : decode cX2_countByOrders 26 = .ok (.getfield 18, 3) := by decide +kernel
theorem dX2_countByOrders_29 : decode cX2_countByOrders 29 = .ok (.iload 4, 2) := by decide +kernel
theorem dX2_countByOrders_31 : decode cX2_countByOrders 31 = .ok (.iload_n 3, 1) := by decide +kernel
theorem dX2_countByOrders_32 : decode cX2_countByOrders 32 = .ok (.iastore, 1) := by decide +kernel
theorem dX2_countByOrders_33 : decode cX2_countByOrders 33 = .ok (.iinc 4 1, 3) := by decide +kernel
theorem dX2_countByOrders_36 : decode cX2_countByOrders 36 = .ok (.goto (-18), 3) := by decide +kernel
theorem dX2_countByOrders_39 : decode cX2_countByOrders 39 = .ok (.aload_n 0, 1) := by decide +kernel
theorem dX2_countByOrders_40 : decode cX2_countByOrders 40 = .ok (.iconst 0, 1) := by decide +kernel
theorem dX2_countByOrders_41 : decode cX2_countByOrders 41 = .ok (.iload_n 3, 1) := by decide +kernel
theorem dX2_countByOrders_42 : decode cX2_countByOrders 42 = .ok (.invokevirtual 54, 3) := by decide +kernel
theorem dX2_countByOrders_45 : decode cX2_countByOrders 45 = .ok (.ireturn, 1) := by decide +kernel
def f_X2_countByOrders_18 (k1 : Nat) (y3 : Int32) : Nat → Int32 → XW → Option (Int32 × XW)
  | 0, _, _ => none
  | n + 1, z4, w => (if 7 ≤ z4 then (bI (f_X2_placeRest 9 0 y3 w) (fun r2 w2 => (some (r2, w2)))) else (if inB z4 7 then (f_X2_countByOrders_18 k1 y3 n (z4 + 1) (wset w 131 (Int32.toNatClampNeg z4) y3)) else none))
set_option maxRecDepth 100000 in
theorem S_X2_countByOrders_18 {g : GC} (hl : g.1.stackTraces = false) {k1 : Nat} (hk1 : isX4 k1) {y3 : Int32} : ∀ (n : Nat) (z4 : Int32) (w : XW), VE g cX2_countByOrders 5 RX2 (some .int) [] (rmL 26 0 0) 0 0 oI 0 0 18 [(0, .ref (g.2.1 + 128)), (3, .int y3), (4, .int z4)] [] w (f_X2_countByOrders_18 k1 y3 n z4 w) := by
  intro n
  induction n with
  | zero => intro z4 w; exact v_none
  | succ n ih =>
    intro z4 w
    rw [f_X2_countByOrders_18]
    refine v_iload dX2_countByOrders_18 2 rfl ?_
    refine v_bipush (v := 7) dX2_countByOrders_20 (by decide) ?_
    refine v_icmp_ge (tgt := 39) dX2_countByOrders_22 (by decide) ?_ ?_
    · refine v_aload_n dX2_countByOrders_39 rfl 0 rfl ?_
      refine v_iconst (v := 0) dX2_countByOrders_40 (by decide) ?_
      refine v_iload_n dX2_countByOrders_41 rfl 1 rfl ?_
      refine v_callVi (As := [.int 0, .int y3]) cv_X2_54 (S_X2_placeRest hl 9 _ _ _) tt_128 rfl rfl rfl (Nat.le_of_ble_eq_true rfl) dX2_countByOrders_42 (CR_rm (by decide) (by decide) (by decide) (by decide)) (fun r2 w2 => ?_)
      exact v_iret dX2_countByOrders_45 rfl rfl (by decide) (by decide)
    · refine v_aload_n dX2_countByOrders_25 rfl 0 rfl ?_
      refine v_getR fl_X2_18 tt_128 rfl dX2_countByOrders_26 ?_
      refine v_iload dX2_countByOrders_29 2 rfl ?_
      refine v_iload_n dX2_countByOrders_31 rfl 1 rfl ?_
      refine v_guard (fun h3 => ?_)
      refine v_iast tt_131 h3 dX2_countByOrders_32 ?_
      refine v_iinc (v := (z4 + 1)) dX2_countByOrders_33 (q := 2) rfl rfl (Nat.le_of_ble_eq_true rfl) rfl ?_
      refine v_goto (tgt := 18) dX2_countByOrders_36 (by decide) ?_
      refine v_sub [1, 2, 0] rfl ?_
      exact ih _ _
def f_X2_countByOrders (k1 : Nat) (x2 : Int32) (w : XW) : Option (Int32 × XW) := (bV (f_X4_copyFrom 129 k1 w) (fun w1 => (f_X2_countByOrders_18 k1 (if 7 < x2 then 7 else x2) 1000 0 w1)))
set_option maxRecDepth 100000 in
theorem W_X2_countByOrders {g : GC} (hl : g.1.stackTraces = false) {k1 : Nat} (hk1 : isX4 k1) {x2 : Int32} {w : XW} : VE g cX2_countByOrders 5 RX2 (some .int) [] (rmL 26 0 0) 0 0 oI 0 0 0 [(0, .ref (g.2.1 + 128)), (1, .ref (g.2.1 + k1)), (2, .int x2)] [] w (f_X2_countByOrders k1 x2 w) := by
  unfold f_X2_countByOrders
  refine v_aload_n dX2_countByOrders_0 rfl 0 rfl ?_
  refine v_getR fl_X2_12 tt_128 rfl dX2_countByOrders_1 ?_
  refine v_aload_n dX2_countByOrders_4 rfl 1 rfl ?_
  refine v_callVv (As := [.ref (g.2.1 + k1)]) cv_X2_22 (S_X4_copyFrom hl is4_129 hk1) tt_129 rfl rfl rfl (Nat.le_of_ble_eq_true rfl) dX2_countByOrders_5 (CR_rm (by decide) (by decide) (by decide) (by decide)) (fun w1 => ?_)
  refine v_iload_n dX2_countByOrders_8 rfl 2 rfl ?_
  refine v_bipush (v := 7) dX2_countByOrders_9 (by decide) ?_
  refine v_min gw_1608 gw_552 gw_54 gw_553 dX2_countByOrders_11 (CR_f1 _ _ _) (CR_f2 (Nat.le_of_ble_eq_true rfl) _ _ _) (by decide) (by decide) ?_
  refine v_istore_n dX2_countByOrders_14 rfl (Nat.le_of_ble_eq_true rfl) rfl ?_
  refine v_iconst (v := 0) dX2_countByOrders_15 (by decide) ?_
  refine v_istore dX2_countByOrders_16 (Nat.le_of_ble_eq_true rfl) rfl ?_
  refine v_sub [2, 1, 0] rfl ?_
  exact S_X2_countByOrders_18 hl hk1  _ _ _
theorem S_X2_countByOrders {g : GC} (hl : g.1.stackTraces = false) {k1 : Nat} (hk1 : isX4 k1) {x2 : Int32} {w : XW} : ∀ q, f_X2_countByOrders k1 x2 w = some q → MM g (.code yX2_countByOrders cX2_countByOrders 5 (some .int)) yX2_countByOrders (rmL 26 0 0) 0 0 [.ref (g.2.1 + 128), .ref (g.2.1 + k1), .int x2] w (oI q) := fun q hq => MM_of (own := RX2) hl (by decide) gw_1627 rfl (Nat.le_of_ble_eq_true rfl) (W_X2_countByOrders hl hk1 q hq) ⟨rfl, rfl⟩
