theorem dX0_kindOf_0 : decode cX0_kindOf 0 = .ok (.iload_n 1, 1) := by decide +kernel
theorem dX0_kindOf_1 : decode cX0_kindOf 1 = .ok (.ifCond .lt 26, 3) := by decide +kernel
theorem dX0_kindOf_4 : decode cX0_kindOf 4 = .ok (.iload_n 1, 1) := by decide +kernel
theorem dX0_kindOf_5 : decode cX0_kindOf 5 = .ok (.aload_n 0, 1) := by decide +kernel
theorem dX0_kindOf_6 : decode cX0_kindOf 6 = .ok (.getfield 18, 3) := by decide +kernel
theorem dX0_kindOf_9 : decode cX0_kindOf 9 = .ok (.if_icmp .ge 18, 3) := by decide +kernel
theorem dX0_kindOf_12 : decode cX0_kindOf 12 = .ok (.iload_n 1, 1) := by decide +kernel
theorem dX0_kindOf_13 : decode cX0_kindOf 13 = .ok (.bipush 60, 2) := by decide +kernel
theorem dX0_kindOf_15 : decode cX0_kindOf 15 = .ok (.if_icmp .ge 12, 3) := by decide +kernel
theorem dX0_kindOf_18 : decode cX0_kindOf 18 = .ok (.aload_n 0, 1) := by decide +kernel
theorem dX0_kindOf_19 : decode cX0_kindOf 19 = .ok (.getfield 9, 3) := by decide +kernel
theorem dX0_kindOf_22 : decode cX0_kindOf 22 = .ok (.iload_n 1, 1) := by decide +kernel
theorem dX0_kindOf_23 : decode cX0_kindOf 23 = .ok (.iaload, 1) := by decide +kernel
theorem dX0_kindOf_24 : decode cX0_kindOf 24 = .ok (.goto 4, 3) := by decide +kernel
theorem dX0_kindOf_27 : decode cX0_kindOf 27 = .ok (.iconst (-1), 1) := by decide +kernel
theorem dX0_kindOf_28 : decode cX0_kindOf 28 = .ok (.ireturn, 1) := by decide +kernel
def f_X0_kindOf (x1 : Int32) (w : XW) : Option (Int32 × XW) := (if x1 < 0 then (some ((-1), w)) else (if (w.1 138 2) ≤ x1 then (some ((-1), w)) else (if 60 ≤ x1 then (some ((-1), w)) else (if inB x1 60 then (some ((w.1 139 (Int32.toNatClampNeg x1)), w)) else none))))
set_option maxRecDepth 100000 in
theorem W_X0_kindOf {g : GC} (hl : g.1.stackTraces = false) {x1 : Int32} {w : XW} : VE g cX0_kindOf 2 RX0 (some .int) [] (rmL 3 0 0) 0 0 oI 0 0 0 [(0, .ref (g.2.1 + 138)), (1, .int x1)] [] w (f_X0_kindOf x1 w) := by
  unfold f_X0_kindOf
  refine v_iload_n dX0_kindOf_0 rfl 1 rfl ?_
  refine v_if_lt (tgt := 27) dX0_kindOf_1 (by decide) ?_ ?_
  · refine v_iconst (v := (-1)) dX0_kindOf_27 (by decide) ?_
    exact v_iret dX0_kindOf_28 rfl rfl (by decide) (by decide)
  · refine v_iload_n dX0_kindOf_4 rfl 1 rfl ?_
    refine v_aload_n dX0_kindOf_5 rfl 0 rfl ?_
    refine v_getI fl_X0_18 tt_138 rfl dX0_kindOf_6 ?_
    refine v_icmp_ge (tgt := 27) dX0_kindOf_9 (by decide) ?_ ?_
    · refine v_iconst (v := (-1)) dX0_kindOf_27 (by decide) ?_
      exact v_iret dX0_kindOf_28 rfl rfl (by decide) (by decide)
    · refine v_iload_n dX0_kindOf_12 rfl 1 rfl ?_
      refine v_bipush (v := 60) dX0_kindOf_13 (by decide) ?_
      refine v_icmp_ge (tgt := 27) dX0_kindOf_15 (by decide) ?_ ?_
      · refine v_iconst (v := (-1)) dX0_kindOf_27 (by decide) ?_
        exact v_iret dX0_kindOf_28 rfl rfl (by decide) (by decide)
      · refine v_aload_n dX0_kindOf_18 rfl 0 rfl ?_
        refine v_getR fl_X0_9 tt_138 rfl dX0_kindOf_19 ?_
        refine v_iload_n dX0_kindOf_22 rfl 1 rfl ?_
        refine v_guard (fun h1 => ?_)
        refine v_iald tt_139 h1 dX0_kindOf_23 ?_
        refine v_goto (tgt := 28) dX0_kindOf_24 (by decide) ?_
        exact v_iret dX0_kindOf_28 rfl rfl (by decide) (by decide)
theorem S_X0_kindOf {g : GC} (hl : g.1.stackTraces = false) {x1 : Int32} {w : XW} : ∀ q, f_X0_kindOf x1 w = some q → MM g (.code yX0_kindOf cX0_kindOf 2 (some .int)) yX0_kindOf (rmL 3 0 0) 0 0 [.ref (g.2.1 + 138), .int x1] w (oI q) := fun q hq => MM_of (own := RX0) hl (by decide) gw_1345 rfl (Nat.le_of_ble_eq_true rfl) (W_X0_kindOf hl q hq) ⟨rfl, rfl⟩

theorem dX0_operandOf_0 : decode cX0_operandOf 0 = .ok (.iload_n 1, 1) := by decide +kernel
theorem dX0_operandOf_1 : decode cX0_operandOf 1 = .ok (.iconst 3, 1) := by decide +kernel
theorem dX0_operandOf_2 : decode cX0_operandOf 2 = .ok (.imul, 1) := by decide +kernel
theorem dX0_operandOf_3 : decode cX0_operandOf 3 = .ok (.iload_n 2, 1) := by decide +kernel
theorem dX0_operandOf_4 : decode cX0_operandOf 4 = .ok (.iadd, 1) := by decide +kernel
theorem dX0_operandOf_5 : decode cX0_operandOf 5 = .ok (.istore_n 3, 1) := by decide +kernel
theorem dX0_operandOf_6 : decode cX0_operandOf 6 = .ok (.iload_n 3, 1) := by decide +kernel
theorem dX0_operandOf_7 : decode cX0_operandOf 7 = .ok (.ifCond .lt 21, 3) := by decide +kernel
theorem dX0_operandOf_10 : decode cX0_operandOf 10 = .ok (.iload_n 3, 1) := by decide +kernel
theorem dX0_operandOf_11 : decode cX0_operandOf 11 = .ok (.aload_n 0, 1) := by decide +kernel
theorem dX0_operandOf_12 : decode cX0_operandOf 12 = .ok (.getfield 15, 3) := by decide +kernel
theorem dX0_operandOf_15 : decode cX0_operandOf 15 = .ok (.arraylength, 1) := by decide +kernel
theorem dX0_operandOf_16 : decode cX0_operandOf 16 = .ok (.if_icmp .ge 12, 3) := by decide +kernel
theorem dX0_operandOf_19 : decode cX0_operandOf 19 = .ok (.aload_n 0, 1) := by decide +kernel
theorem dX0_operandOf_20 : decode cX0_operandOf 20 = .ok (.getfield 15, 3) := by decide +kernel
theorem dX0_operandOf_23 : decode cX0_operandOf 23 = .ok (.iload_n 3, 1) := by decide +kernel
theorem dX0_operandOf_24 : decode cX0_operandOf 24 = .ok (.iaload, 1) := by decide +kernel
theorem dX0_operandOf_25 : decode cX0_operandOf 25 = .ok (.goto 4, 3) := by decide +kernel
theorem dX0_operandOf_28 : decode cX0_operandOf 28 = .ok (.iconst 0, 1) := by decide +kernel
theorem dX0_operandOf_29 : decode cX0_operandOf 29 = .ok (.ireturn, 1) := by decide +kernel
def f_X0_operandOf (x1 : Int32) (x2 : Int32) (w : XW) : Option (Int32 × XW) := (if ((x1 * 3) + x2) < 0 then (some (0, w)) else (if 180 ≤ ((x1 * 3) + x2) then (some (0, w)) else (if inB ((x1 * 3) + x2) 180 then (some ((w.1 140 (Int32.toNatClampNeg ((x1 * 3) + x2))), w)) else none)))
set_option maxRecDepth 100000 in
theorem W_X0_operandOf {g : GC} (hl : g.1.stackTraces = false) {x1 : Int32} {x2 : Int32} {w : XW} : VE g cX0_operandOf 4 RX0 (some .int) [] (rmL 3 0 0) 0 0 oI 0 0 0 [(0, .ref (g.2.1 + 138)), (1, .int x1), (2, .int x2)] [] w (f_X0_operandOf x1 x2 w) := by
  unfold f_X0_operandOf
  refine v_iload_n dX0_operandOf_0 rfl 1 rfl ?_
  refine v_iconst (v := 3) dX0_operandOf_1 (by decide) ?_
  refine v_imul dX0_operandOf_2 ?_
  refine v_iload_n dX0_operandOf_3 rfl 2 rfl ?_
  refine v_iadd dX0_operandOf_4 ?_
  refine v_istore_n dX0_operandOf_5 rfl (Nat.le_of_ble_eq_true rfl) rfl ?_
  refine v_iload_n dX0_operandOf_6 rfl 0 rfl ?_
  refine v_if_lt (tgt := 28) dX0_operandOf_7 (by decide) ?_ ?_
  · refine v_iconst (v := 0) dX0_operandOf_28 (by decide) ?_
    exact v_iret dX0_operandOf_29 rfl rfl (by decide) (by decide)
  · refine v_iload_n dX0_operandOf_10 rfl 0 rfl ?_
    refine v_aload_n dX0_operandOf_11 rfl 1 rfl ?_
    refine v_getR fl_X0_15 tt_138 rfl dX0_operandOf_12 ?_
    refine v_alen (v := 180) tt_140 (by decide) rfl dX0_operandOf_15 ?_
    refine v_icmp_ge (tgt := 28) dX0_operandOf_16 (by decide) ?_ ?_
    · refine v_iconst (v := 0) dX0_operandOf_28 (by decide) ?_
      exact v_iret dX0_operandOf_29 rfl rfl (by decide) (by decide)
    · refine v_aload_n dX0_operandOf_19 rfl 1 rfl ?_
      refine v_getR fl_X0_15 tt_138 rfl dX0_operandOf_20 ?_
      refine v_iload_n dX0_operandOf_23 rfl 0 rfl ?_
      refine v_guard (fun h1 => ?_)
      refine v_iald tt_140 h1 dX0_operandOf_24 ?_
      refine v_goto (tgt := 29) dX0_operandOf_25 (by decide) ?_
      exact v_iret dX0_operandOf_29 rfl rfl (by decide) (by decide)
theorem S_X0_operandOf {g : GC} (hl : g.1.stackTraces = false) {x1 : Int32} {x2 : Int32} {w : XW} : ∀ q, f_X0_operandOf x1 x2 w = some q → MM g (.code yX0_operandOf cX0_operandOf 4 (some .int)) yX0_operandOf (rmL 3 0 0) 0 0 [.ref (g.2.1 + 138), .int x1, .int x2] w (oI q) := fun q hq => MM_of (own := RX0) hl (by decide) gw_1349 rfl (Nat.le_of_ble_eq_true rfl) (W_X0_operandOf hl q hq) ⟨rfl, rfl⟩

theorem dX0_shapeOf_0 : decode cX0_shapeOf 0 = .ok (.iload_n 0, 1) := by decide +kernel
theorem dX0_shapeOf_1 : decode cX0_shapeOf 1 = .ok (.tableswitch 92 0 10 #[59, 62, 65, 68, 71, 74, 77, 80, 83, 86, 89], 59) := by decide +kernel
theorem dX0_shapeOf_60 : decode cX0_shapeOf 60 = .ok (.ldc 59, 2) := by decide +kernel
theorem dX0_shapeOf_62 : decode cX0_shapeOf 62 = .ok (.areturn, 1) := by decide +kernel
theorem dX0_shapeOf_63 : decode cX0_shapeOf 63 = .ok (.ldc 61, 2) := by decide +kernel
theorem dX0_shapeOf_65 : decode cX0_shapeOf 65 = .ok (.areturn, 1) := by decide +kernel
theorem dX0_shapeOf_66 : decode cX0_shapeOf 66 = .ok (.ldc 63, 2) := by decide +kernel
theorem dX0_shapeOf_68 : decode cX0_shapeOf 68 = .ok (.areturn, 1) := by decide +kernel
theorem dX0_shapeOf_69 : decode cX0_shapeOf 69 = .ok (.ldc 65, 2) := by decide +kernel
theorem dX0_shapeOf_71 : decode cX0_shapeOf 71 = .ok (.areturn, 1) := by decide +kernel
theorem dX0_shapeOf_72 : decode cX0_shapeOf 72 = .ok (.ldc 67, 2) := by decide +kernel
theorem dX0_shapeOf_74 : decode cX0_shapeOf 74 = .ok (.areturn, 1) := by decide +kernel
theorem dX0_shapeOf_75 : decode cX0_shapeOf 75 = .ok (.ldc 69, 2) := by decide +kernel
theorem dX0_shapeOf_77 : decode cX0_shapeOf 77 = .ok (.areturn, 1) := by decide +kernel
theorem dX0_shapeOf_78 : decode cX0_shapeOf 78 = .ok (.ldc 71, 2) := by decide +kernel
theorem dX0_shapeOf_80 : decode cX0_shapeOf 80 = .ok (.areturn, 1) := by decide +kernel
theorem dX0_shapeOf_81 : decode cX0_shapeOf 81 = .ok (.ldc 73, 2) := by decide +kernel
theorem dX0_shapeOf_83 : decode cX0_shapeOf 83 = .ok (.areturn, 1) := by decide +kernel
theorem dX0_shapeOf_84 : decode cX0_shapeOf 84 = .ok (.ldc 75, 2) := by decide +kernel
theorem dX0_shapeOf_86 : decode cX0_shapeOf 86 = .ok (.areturn, 1) := by decide +kernel
theorem dX0_shapeOf_87 : decode cX0_shapeOf 87 = .ok (.ldc 77, 2) := by decide +kernel
theorem dX0_shapeOf_89 : decode cX0_shapeOf 89 = .ok (.areturn, 1) := by decide +kernel
theorem dX0_shapeOf_90 : decode cX0_shapeOf 90 = .ok (.ldc 79, 2) := by decide +kernel
theorem dX0_shapeOf_92 : decode cX0_shapeOf 92 = .ok (.areturn, 1) := by decide +kernel
theorem dX0_shapeOf_93 : decode cX0_shapeOf 93 = .ok (.ldc 81, 2) := by decide +kernel
theorem dX0_shapeOf_95 : decode cX0_shapeOf 95 = .ok (.areturn, 1) := by decide +kernel
def f_X0_shapeOf (x0 : Int32) (w : XW) : Option (Nat × XW) := (if x0 = 0 then (some (7, w)) else (if x0 = 1 then (some (8, w)) else (if x0 = 2 then (some (9, w)) else (if x0 = 3 then (some (10, w)) else (if x0 = 4 then (some (11, w)) else (if x0 = 5 then (some (12, w)) else (if x0 = 6 then (some (13, w)) else (if x0 = 7 then (some (14, w)) else (if x0 = 8 then (some (15, w)) else (if x0 = 9 then (some (16, w)) else (if x0 = 10 then (some (17, w)) else (some (18, w)))))))))))))
set_option maxRecDepth 100000 in
theorem W_X0_shapeOf {g : GC} (hl : g.1.stackTraces = false) {x0 : Int32} {w : XW} : VE g cX0_shapeOf 1 RX0 (some (.object "java/lang/String")) [] (rmL 3 0 0) 0 0 (oS g) 0 0 0 [(0, .int x0)] [] w (f_X0_shapeOf x0 w) := by
  unfold f_X0_shapeOf
  refine v_iload_n dX0_shapeOf_0 rfl 0 rfl ?_
  refine v_split (fun h1 => ?_) (fun h1 => ?_)
  · refine v_tsIn (tgt := 60) (off := (59)) 0 h1 dX0_shapeOf_1 (by decide) (by decide) (by decide) (by decide) ?_
    refine v_ldcS (i := 7) rfl dX0_shapeOf_60 ?_
    exact v_aret dX0_shapeOf_62 rfl (Or.inl ⟨_, rfl⟩) (Or.inr ⟨_, rfl⟩) rfl (by decide) (by decide)
  refine v_split (fun h2 => ?_) (fun h2 => ?_)
  · refine v_tsIn (tgt := 63) (off := (62)) 1 h2 dX0_shapeOf_1 (by decide) (by decide) (by decide) (by decide) ?_
    refine v_ldcS (i := 8) rfl dX0_shapeOf_63 ?_
    exact v_aret dX0_shapeOf_65 rfl (Or.inl ⟨_, rfl⟩) (Or.inr ⟨_, rfl⟩) rfl (by decide) (by decide)
  refine v_split (fun h3 => ?_) (fun h3 => ?_)
  · refine v_tsIn (tgt := 66) (off := (65)) 2 h3 dX0_shapeOf_1 (by decide) (by decide) (by decide) (by decide) ?_
    refine v_ldcS (i := 9) rfl dX0_shapeOf_66 ?_
    exact v_aret dX0_shapeOf_68 rfl (Or.inl ⟨_, rfl⟩) (Or.inr ⟨_, rfl⟩) rfl (by decide) (by decide)
  refine v_split (fun h4 => ?_) (fun h4 => ?_)
  · refine v_tsIn (tgt := 69) (off := (68)) 3 h4 dX0_shapeOf_1 (by decide) (by decide) (by decide) (by decide) ?_
    refine v_ldcS (i := 10) rfl dX0_shapeOf_69 ?_
    exact v_aret dX0_shapeOf_71 rfl (Or.inl ⟨_, rfl⟩) (Or.inr ⟨_, rfl⟩) rfl (by decide) (by decide)
  refine v_split (fun h5 => ?_) (fun h5 => ?_)
  · refine v_tsIn (tgt := 72) (off := (71)) 4 h5 dX0_shapeOf_1 (by decide) (by decide) (by decide) (by decide) ?_
    refine v_ldcS (i := 11) rfl dX0_shapeOf_72 ?_
    exact v_aret dX0_shapeOf_74 rfl (Or.inl ⟨_, rfl⟩) (Or.inr ⟨_, rfl⟩) rfl (by decide) (by decide)
  refine v_split (fun h6 => ?_) (fun h6 => ?_)
  · refine v_tsIn (tgt := 75) (off := (74)) 5 h6 dX0_shapeOf_1 (by decide) (by decide) (by decide) (by decide) ?_
    refine v_ldcS (i := 12) rfl dX0_shapeOf_75 ?_
    exact v_aret dX0_shapeOf_77 rfl (Or.inl ⟨_, rfl⟩) (Or.inr ⟨_, rfl⟩) rfl (by decide) (by decide)
  refine v_split (fun h7 => ?_) (fun h7 => ?_)
  · refine v_tsIn (tgt := 78) (off := (77)) 6 h7 dX0_shapeOf_1 (by decide) (by decide) (by decide) (by decide) ?_
    refine v_ldcS (i := 13) rfl dX0_shapeOf_78 ?_
    exact v_aret dX0_shapeOf_80 rfl (Or.inl ⟨_, rfl⟩) (Or.inr ⟨_, rfl⟩) rfl (by decide) (by decide)
  refine v_split (fun h8 => ?_) (fun h8 => ?_)
  · refine v_tsIn (tgt := 81) (off := (80)) 7 h8 dX0_shapeOf_1 (by decide) (by decide) (by decide) (by decide) ?_
    refine v_ldcS (i := 14) rfl dX0_shapeOf_81 ?_
    exact v_aret dX0_shapeOf_83 rfl (Or.inl ⟨_, rfl⟩) (Or.inr ⟨_, rfl⟩) rfl (by decide) (by decide)
  refine v_split (fun h9 => ?_) (fun h9 => ?_)
  · refine v_tsIn (tgt := 84) (off := (83)) 8 h9 dX0_shapeOf_1 (by decide) (by decide) (by decide) (by decide) ?_
    refine v_ldcS (i := 15) rfl dX0_shapeOf_84 ?_
    exact v_aret dX0_shapeOf_86 rfl (Or.inl ⟨_, rfl⟩) (Or.inr ⟨_, rfl⟩) rfl (by decide) (by decide)
  refine v_split (fun h10 => ?_) (fun h10 => ?_)
  · refine v_tsIn (tgt := 87) (off := (86)) 9 h10 dX0_shapeOf_1 (by decide) (by decide) (by decide) (by decide) ?_
    refine v_ldcS (i := 16) rfl dX0_shapeOf_87 ?_
    exact v_aret dX0_shapeOf_89 rfl (Or.inl ⟨_, rfl⟩) (Or.inr ⟨_, rfl⟩) rfl (by decide) (by decide)
  refine v_split (fun h11 => ?_) (fun h11 => ?_)
  · refine v_tsIn (tgt := 90) (off := (89)) 10 h11 dX0_shapeOf_1 (by decide) (by decide) (by decide) (by decide) ?_
    refine v_ldcS (i := 17) rfl dX0_shapeOf_90 ?_
    exact v_aret dX0_shapeOf_92 rfl (Or.inl ⟨_, rfl⟩) (Or.inr ⟨_, rfl⟩) rfl (by decide) (by decide)
  have h1 := v_tsNe (z := 0) (by decide) h1
  have h2 := v_tsNe (z := 1) (by decide) h2
  have h3 := v_tsNe (z := 2) (by decide) h3
  have h4 := v_tsNe (z := 3) (by decide) h4
  have h5 := v_tsNe (z := 4) (by decide) h5
  have h6 := v_tsNe (z := 5) (by decide) h6
  have h7 := v_tsNe (z := 6) (by decide) h7
  have h8 := v_tsNe (z := 7) (by decide) h8
  have h9 := v_tsNe (z := 8) (by decide) h9
  have h10 := v_tsNe (z := 9) (by decide) h10
  have h11 := v_tsNe (z := 10) (by decide) h11
  refine v_tsOut (tgt := 93) dX0_shapeOf_1 (by omega) (by decide) ?_
  refine v_ldcS (i := 18) rfl dX0_shapeOf_93 ?_
  exact v_aret dX0_shapeOf_95 rfl (Or.inl ⟨_, rfl⟩) (Or.inr ⟨_, rfl⟩) rfl (by decide) (by decide)
theorem S_X0_shapeOf {g : GC} (hl : g.1.stackTraces = false) {x0 : Int32} {w : XW} : ∀ q, f_X0_shapeOf x0 w = some q → MM g (.code yX0_shapeOf cX0_shapeOf 1 (some (.object "java/lang/String"))) yX0_shapeOf (rmL 3 0 0) 0 0 [.int x0] w ((oS g) q) := fun q hq => MM_of (own := RX0) hl (by decide) gw_1282 rfl (Nat.le_of_ble_eq_true rfl) (W_X0_shapeOf hl q hq) ⟨rfl, rfl⟩

theorem dX0_isDigit_0 : decode cX0_isDigit 0 = .ok (.iload_n 0, 1) := by decide +kernel
theorem dX0_isDigit_1 : decode cX0_isDigit 1 = .ok (.bipush 48, 2) := by decide +kernel
theorem dX0_isDigit_3 : decode cX0_isDigit 3 = .ok (.if_icmp .lt 13, 3) := by decide +kernel
theorem dX0_isDigit_6 : decode cX0_isDigit 6 = .ok (.iload_n 0, 1) := by decide +kernel
theorem dX0_isDigit_7 : decode cX0_isDigit 7 = .ok (.bipush 57, 2) := by decide +kernel
theorem dX0_isDigit_9 : decode cX0_isDigit 9 = .ok (.if_icmp .gt 7, 3) := by decide +kernel
theorem dX0_isDigit_12 : decode cX0_isDigit 12 = .ok (.iconst 1, 1) := by decide +kernel
theorem dX0_isDigit_13 : decode cX0_isDigit 13 = .ok (.goto 4, 3) := by decide +kernel
theorem dX0_isDigit_16 : decode cX0_isDigit 16 = .ok (.iconst 0, 1) := by decide +kernel
theorem dX0_isDigit_17 : decode cX0_isDigit 17 = .ok (.ireturn, 1) := by decide +kernel
def f_X0_isDigit (x0 : Int32) (w : XW) : Option (Int32 × XW) := (if x0 < 48 then (some (0, w)) else (if 57 < x0 then (some (0, w)) else (some (1, w))))
set_option maxRecDepth 100000 in
theorem W_X0_isDigit {g : GC} (hl : g.1.stackTraces = false) {x0 : Int32} {w : XW} : VE g cX0_isDigit 1 RX0 (some .boolean) [] (rmL 3 0 0) 0 0 oI 0 0 0 [(0, .int x0)] [] w (f_X0_isDigit x0 w) := by
  unfold f_X0_isDigit
  refine v_iload_n dX0_isDigit_0 rfl 0 rfl ?_
  refine v_bipush (v := 48) dX0_isDigit_1 (by decide) ?_
  refine v_icmp_lt (tgt := 16) dX0_isDigit_3 (by decide) ?_ ?_
  · refine v_iconst (v := 0) dX0_isDigit_16 (by decide) ?_
    exact v_zret dX0_isDigit_17 rfl rfl rfl (by decide) (by decide)
  · refine v_iload_n dX0_isDigit_6 rfl 0 rfl ?_
    refine v_bipush (v := 57) dX0_isDigit_7 (by decide) ?_
    refine v_icmp_gt (tgt := 16) dX0_isDigit_9 (by decide) ?_ ?_
    · refine v_iconst (v := 0) dX0_isDigit_16 (by decide) ?_
      exact v_zret dX0_isDigit_17 rfl rfl rfl (by decide) (by decide)
    · refine v_iconst (v := 1) dX0_isDigit_12 (by decide) ?_
      refine v_goto (tgt := 17) dX0_isDigit_13 (by decide) ?_
      exact v_zret dX0_isDigit_17 rfl rfl rfl (by decide) (by decide)
theorem S_X0_isDigit {g : GC} (hl : g.1.stackTraces = false) {x0 : Int32} {w : XW} : ∀ q, f_X0_isDigit x0 w = some q → MM g (.code yX0_isDigit cX0_isDigit 1 (some .boolean)) yX0_isDigit (rmL 3 0 0) 0 0 [.int x0] w (oI q) := fun q hq => MM_of (own := RX0) hl (by decide) gw_1314 rfl (Nat.le_of_ble_eq_true rfl) (W_X0_isDigit hl q hq) ⟨rfl, rfl⟩

theorem dX0_fits_0 : decode cX0_fits 0 = .ok (.iload_n 1, 1) := by decide +kernel
theorem dX0_fits_1 : decode cX0_fits 1 = .ok (.bipush 68, 2) := by decide +kernel
theorem dX0_fits_3 : decode cX0_fits 3 = .ok (.if_icmp .eq 9, 3) := by decide +kernel
theorem dX0_fits_6 : decode cX0_fits 6 = .ok (.iload_n 1, 1) := by decide +kernel
theorem dX0_fits_7 : decode cX0_fits 7 = .ok (.bipush 78, 2) := by decide +kernel
theorem dX0_fits_9 : decode cX0_fits 9 = .ok (.if_icmp .ne 8, 3) := by decide +kernel
theorem dX0_fits_12 : decode cX0_fits 12 = .ok (.iload_n 0, 1) := by decide +kernel
theorem dX0_fits_13 : decode cX0_fits 13 = .ok (.invokestatic 109, 3) := by decide +kernel
theorem dX0_fits_16 : decode cX0_fits 16 = .ok (.ireturn, 1) := by decide +kernel
theorem dX0_fits_17 : decode cX0_fits 17 = .ok (.iload_n 1, 1) := by decide +kernel
theorem dX0_fits_18 : decode cX0_fits 18 = .ok (.bipush 84, 2) := by decide +kernel
theorem dX0_fits_20 : decode cX0_fits 20 = .ok (.if_icmp .ne 10, 3) := by decide +kernel
theorem dX0_fits_23 : decode cX0_fits 23 = .ok (.iload_n 0, 1) := by decide +kernel
theorem dX0_fits_24 : decode cX0_fits 24 = .ok (.invokestatic 113, 3) := by decide +kernel
theorem dX0_fits_27 : decode cX0_fits 27 = .ok (.goto 13, 3) := by decide +kernel
theorem dX0_fits_30 : decode cX0_fits 30 = .ok (.iload_n 0, 1) := by decide +kernel
theorem dX0_fits_31 : decode cX0_fits 31 = .ok (.iload_n 1, 1) := by decide +kernel
theorem dX0_fits_32 : decode cX0_fits 32 = .ok (.if_icmp .ne 7, 3) := by decide +kernel
theorem dX0_fits_35 : decode cX0_fits 35 = .ok (.iconst 1, 1) := by decide +kernel
theorem dX0_fits_36 : decode cX0_fits 36 = .ok (.goto 4, 3) := by decide +kernel
theorem dX0_fits_39 : decode cX0_fits 39 = .ok (.iconst 0, 1) := by decide +kernel
theorem dX0_fits_40 : decode cX0_fits 40 = .ok (.ireturn, 1) := by decide +kernel
def f_X0_fits (x0 : Int32) (x1 : Int32) (w : XW) : Option (Int32 × XW) := (if x1 = 68 then (bI (f_X0_isDigit x0 w) (fun r1 w1 => (if vp_nar .boolean r1 = r1 then (some (r1, w1)) else none))) else (if x1 = 78 then (bI (f_X0_isDigit x0 w) (fun r5 w5 => (if vp_nar .boolean r5 = r5 then (some (r5, w5)) else none))) else (if x1 = 84 then (bI (f_X9_isTerm x0 w) (fun r3 w3 => (if vp_nar .boolean r3 = r3 then (some (r3, w3)) else none))) else (if x0 = x1 then (some (1, w)) else (some (0, w))))))
set_option maxRecDepth 100000 in
theorem W_X0_fits {g : GC} (hl : g.1.stackTraces = false) {x0 : Int32} {x1 : Int32} {w : XW} : VE g cX0_fits 2 RX0 (some .boolean) [] (rmL 4 0 0) 0 0 oI 0 0 0 [(0, .int x0), (1, .int x1)] [] w (f_X0_fits x0 x1 w) := by
  unfold f_X0_fits
  refine v_iload_n dX0_fits_0 rfl 1 rfl ?_
  refine v_bipush (v := 68) dX0_fits_1 (by decide) ?_
  refine v_icmp_eq (tgt := 12) dX0_fits_3 (by decide) ?_ ?_
  · refine v_iload_n dX0_fits_12 rfl 0 rfl ?_
    refine v_callSi (As := [.int x0]) cs_X0_109 (S_X0_isDigit hl) rfl rfl (Nat.le_of_ble_eq_true rfl) dX0_fits_13 (CR_rm (by decide) (by decide) (by decide) (by decide)) (fun r1 w1 => ?_)
    refine v_guard (fun h2 => ?_)
    exact v_zret dX0_fits_16 rfl (narB_ok h2) rfl (by decide) (by decide)
  · refine v_iload_n dX0_fits_6 rfl 1 rfl ?_
    refine v_bipush (v := 78) dX0_fits_7 (by decide) ?_
    refine v_icmp_ne (tgt := 17) dX0_fits_9 (by decide) ?_ ?_
    · refine v_iload_n dX0_fits_17 rfl 1 rfl ?_
      refine v_bipush (v := 84) dX0_fits_18 (by decide) ?_
      refine v_icmp_ne (tgt := 30) dX0_fits_20 (by decide) ?_ ?_
      · refine v_iload_n dX0_fits_30 rfl 0 rfl ?_
        refine v_iload_n dX0_fits_31 rfl 1 rfl ?_
        refine v_icmp_ne (tgt := 39) dX0_fits_32 (by decide) ?_ ?_
        · refine v_iconst (v := 0) dX0_fits_39 (by decide) ?_
          exact v_zret dX0_fits_40 rfl rfl rfl (by decide) (by decide)
        · refine v_iconst (v := 1) dX0_fits_35 (by decide) ?_
          refine v_goto (tgt := 40) dX0_fits_36 (by decide) ?_
          exact v_zret dX0_fits_40 rfl rfl rfl (by decide) (by decide)
      · refine v_iload_n dX0_fits_23 rfl 0 rfl ?_
        refine v_callSi (As := [.int x0]) cs_X0_113 (S_X9_isTerm hl) rfl rfl (Nat.le_of_ble_eq_true rfl) dX0_fits_24 (CR_rm (by decide) (by decide) (by decide) (by decide)) (fun r3 w3 => ?_)
        refine v_goto (tgt := 40) dX0_fits_27 (by decide) ?_
        refine v_guard (fun h4 => ?_)
        exact v_zret dX0_fits_40 rfl (narB_ok h4) rfl (by decide) (by decide)
    · refine v_iload_n dX0_fits_12 rfl 0 rfl ?_
      refine v_callSi (As := [.int x0]) cs_X0_109 (S_X0_isDigit hl) rfl rfl (Nat.le_of_ble_eq_true rfl) dX0_fits_13 (CR_rm (by decide) (by decide) (by decide) (by decide)) (fun r5 w5 => ?_)
      refine v_guard (fun h6 => ?_)
      exact v_zret dX0_fits_16 rfl (narB_ok h6) rfl (by decide) (by decide)
theorem S_X0_fits {g : GC} (hl : g.1.stackTraces = false) {x0 : Int32} {x1 : Int32} {w : XW} : ∀ q, f_X0_fits x0 x1 w = some q → MM g (.code yX0_fits cX0_fits 2 (some .boolean)) yX0_fits (rmL 4 0 0) 0 0 [.int x0, .int x1] w (oI q) := fun q hq => MM_of (own := RX0) hl (by decide) gw_1311 rfl (Nat.le_of_ble_eq_true rfl) (W_X0_fits hl q hq) ⟨rfl, rfl⟩

theorem dX0_takeOperand_0 : decode cX0_takeOperand 0 = .ok (.aload_n 0, 1) := by decide +kernel
theorem dX0_takeOperand_1 : decode cX0_takeOperand 1 = .ok (.getfield 18, 3) := by decide +kernel
theorem dX0_takeOperand_4 : decode cX0_takeOperand 4 = .ok (.iconst 3, 1) := by decide +kernel
theorem dX0_takeOperand_5 : decode cX0_takeOperand 5 = .ok (.imul, 1) := by decide +kernel
theorem dX0_takeOperand_6 : decode cX0_takeOperand 6 = .ok (.aload_n 0, 1) := by decide +kernel
theorem dX0_takeOperand_7 : decode cX0_takeOperand 7 = .ok (.getfield 83, 3) := by decide +kernel
theorem dX0_takeOperand_10 : decode cX0_takeOperand 10 = .ok (.iadd, 1) := by decide +kernel
theorem dX0_takeOperand_11 : decode cX0_takeOperand 11 = .ok (.istore_n 2, 1) := by decide +kernel
theorem dX0_takeOperand_12 : decode cX0_takeOperand 12 = .ok (.iload_n 2, 1) := by decide +kernel
theorem dX0_takeOperand_13 : decode cX0_takeOperand 13 = .ok (.ifCond .lt 19, 3) := by decide +kernel
theorem dX0_takeOperand_16 : decode cX0_takeOperand 16 = .ok (.iload_n 2, 1) := by decide +kernel
theorem dX0_takeOperand_17 : decode cX0_takeOperand 17 = .ok (.aload_n 0, 1) := by decide +kernel
theorem dX0_takeOperand_18 : decode cX0_takeOperand 18 = .ok (.getfield 15, 3) := by decide +kernel
theorem dX0_takeOperand_21 : decode cX0_takeOperand 21 = .ok (.arraylength, 1) := by decide +kernel
theorem dX0_takeOperand_22 : decode cX0_takeOperand 22 = .ok (.if_icmp .ge 10, 3) := by decide +kernel
theorem dX0_takeOperand_25 : decode cX0_takeOperand 25 = .ok (.aload_n 0, 1) := by decide +kernel
theorem dX0_takeOperand_26 : decode cX0_takeOperand 26 = .ok (.getfield 15, 3) := by decide +kernel
theorem dX0_takeOperand_29 : decode cX0_takeOperand 29 = .ok (.iload_n 2, 1) := by decide +kernel
theorem dX0_takeOperand_30 : decode cX0_takeOperand 30 = .ok (.iload_n 1, 1) := by decide +kernel
theorem dX0_takeOperand_31 : decode cX0_takeOperand 31 = .ok (.iastore, 1) := by decide +kernel
theorem dX0_takeOperand_32 : decode cX0_takeOperand 32 = .ok (.aload_n 0, 1) := by decide +kernel
theorem dX0_takeOperand_33 : decode cX0_takeOperand 33 = .ok (.dup, 1) := by decide +kernel
theorem dX0_takeOperand_34 : decode cX0_takeOperand 34 = .ok (.getfield 83, 3) := by decide +kernel
theorem dX0_takeOperand_37 : decode cX0_takeOperand 37 = .ok (.iconst 1, 1) := by decide +kernel
theorem dX0_takeOperand_38 : decode cX0_takeOperand 38 = .ok (.iadd, 1) := by decide +kernel
theorem dX0_takeOperand_39 : decode cX0_takeOperand 39 = .ok (.putfield 83, 3) := by decide +kernel
theorem dX0_takeOperand_42 : decode cX0_takeOperand 42 = .ok (.return_, 1) := by decide +kernel
def f_X0_takeOperand (x1 : Int32) (w : XW) : Option (XW) := (if (((w.1 138 2) * 3) + (w.1 138 5)) < 0 then (some (wset w 138 5 ((w.1 138 5) + 1))) else (if 180 ≤ (((w.1 138 2) * 3) + (w.1 138 5)) then (some (wset w 138 5 ((w.1 138 5) + 1))) else (if inB (((w.1 138 2) * 3) + (w.1 138 5)) 180 then (some (wset (wset w 140 (Int32.toNatClampNeg (((w.1 138 2) * 3) + (w.1 138 5))) x1) 138 5 (((wset w 140 (Int32.toNatClampNeg (((w.1 138 2) * 3) + (w.1 138 5))) x1).1 138 5) + 1))) else none)))
set_option maxRecDepth 100000 in
theorem W_X0_takeOperand {g : GC} (hl : g.1.stackTraces = false) {x1 : Int32} {w : XW} : VE g cX0_takeOperand 3 RX0 none [] (rmL 3 0 0) 0 0 oV 0 0 0 [(0, .ref (g.2.1 + 138)), (1, .int x1)] [] w (f_X0_takeOperand x1 w) := by
  unfold f_X0_takeOperand
  refine v_aload_n dX0_takeOperand_0 rfl 0 rfl ?_
  refine v_getI fl_X0_18 tt_138 rfl dX0_takeOperand_1 ?_
  refine v_iconst (v := 3) dX0_takeOperand_4 (by decide) ?_
  refine v_imul dX0_takeOperand_5 ?_
  refine v_aload_n dX0_takeOperand_6 rfl 0 rfl ?_
  refine v_getI fl_X0_83 tt_138 rfl dX0_takeOperand_7 ?_
  refine v_iadd dX0_takeOperand_10 ?_
  refine v_istore_n dX0_takeOperand_11 rfl (Nat.le_of_ble_eq_true rfl) rfl ?_
  refine v_iload_n dX0_takeOperand_12 rfl 0 rfl ?_
  refine v_if_lt (tgt := 32) dX0_takeOperand_13 (by decide) ?_ ?_
  · refine v_aload_n dX0_takeOperand_32 rfl 1 rfl ?_
    refine v_dup dX0_takeOperand_33 rfl ?_
    refine v_getI fl_X0_83 tt_138 rfl dX0_takeOperand_34 ?_
    refine v_iconst (v := 1) dX0_takeOperand_37 (by decide) ?_
    refine v_iadd dX0_takeOperand_38 ?_
    refine v_putI fl_X0_83 tt_138 rfl (ty0 := .int) rfl rfl rfl dX0_takeOperand_39 ?_
    exact v_vret dX0_takeOperand_42 rfl rfl (by decide) (by decide)
  · refine v_iload_n dX0_takeOperand_16 rfl 0 rfl ?_
    refine v_aload_n dX0_takeOperand_17 rfl 1 rfl ?_
    refine v_getR fl_X0_15 tt_138 rfl dX0_takeOperand_18 ?_
    refine v_alen (v := 180) tt_140 (by decide) rfl dX0_takeOperand_21 ?_
    refine v_icmp_ge (tgt := 32) dX0_takeOperand_22 (by decide) ?_ ?_
    · refine v_aload_n dX0_takeOperand_32 rfl 1 rfl ?_
      refine v_dup dX0_takeOperand_33 rfl ?_
      refine v_getI fl_X0_83 tt_138 rfl dX0_takeOperand_34 ?_
      refine v_iconst (v := 1) dX0_takeOperand_37 (by decide) ?_
      refine v_iadd dX0_takeOperand_38 ?_
      refine v_putI fl_X0_83 tt_138 rfl (ty0 := .int) rfl rfl rfl dX0_takeOperand_39 ?_
      exact v_vret dX0_takeOperand_42 rfl rfl (by decide) (by decide)
    · refine v_aload_n dX0_takeOperand_25 rfl 1 rfl ?_
      refine v_getR fl_X0_15 tt_138 rfl dX0_takeOperand_26 ?_
      refine v_iload_n dX0_takeOperand_29 rfl 0 rfl ?_
      refine v_iload_n dX0_takeOperand_30 rfl 2 rfl ?_
      refine v_guard (fun h1 => ?_)
      refine v_iast tt_140 h1 dX0_takeOperand_31 ?_
      refine v_aload_n dX0_takeOperand_32 rfl 1 rfl ?_
      refine v_dup dX0_takeOperand_33 rfl ?_
      refine v_getI fl_X0_83 tt_138 rfl dX0_takeOperand_34 ?_
      refine v_iconst (v := 1) dX0_takeOperand_37 (by decide) ?_
      refine v_iadd dX0_takeOperand_38 ?_
      refine v_putI fl_X0_83 tt_138 rfl (ty0 := .int) rfl rfl rfl dX0_takeOperand_39 ?_
      exact v_vret dX0_takeOperand_42 rfl rfl (by decide) (by decide)
theorem S_X0_takeOperand {g : GC} (hl : g.1.stackTraces = false) {x1 : Int32} {w : XW} : ∀ q, f_X0_takeOperand x1 w = some q → MM g (.code yX0_takeOperand cX0_takeOperand 3 none) yX0_takeOperand (rmL 3 0 0) 0 0 [.ref (g.2.1 + 138), .int x1] w (oV q) := fun q hq => MM_of (own := RX0) hl (by decide) gw_1319 rfl (Nat.le_of_ble_eq_true rfl) (W_X0_takeOperand hl q hq) ⟨rfl, rfl⟩

theorem dX0_numberFrom_0 : decode cX0_numberFrom 0 = .ok (.aload_n 1, 1) := by decide +kernel
theorem dX0_numberFrom_1 : decode cX0_numberFrom 1 = .ok (.aload_n 0, 1) := by decide +kernel
theorem dX0_numberFrom_2 : decode cX0_numberFrom 2 = .ok (.getfield 29, 3) := by decide +kernel
theorem dX0_numberFrom_5 : decode cX0_numberFrom 5 = .ok (.invokevirtual 37, 3) := by decide +kernel
theorem dX0_numberFrom_8 : decode cX0_numberFrom 8 = .ok (.istore_n 3, 1) := by decide +kernel
theorem dX0_numberFrom_9 : decode cX0_numberFrom 9 = .ok (.iload_n 3, 1) := by decide +kernel
theorem dX0_numberFrom_10 : decode cX0_numberFrom 10 = .ok (.invokestatic 109, 3) := by decide +kernel
theorem dX0_numberFrom_13 : decode cX0_numberFrom 13 = .ok (.ifCond .ne 8, 3) := by decide +kernel
theorem dX0_numberFrom_16 : decode cX0_numberFrom 16 = .ok (.iload_n 2, 1) := by decide +kernel
theorem dX0_numberFrom_17 : decode cX0_numberFrom 17 = .ok (.bipush 48, 2) := by decide +kernel
theorem dX0_numberFrom_19 : decode cX0_numberFrom 19 = .ok (.isub, 1) := by decide +kernel
theorem dX0_numberFrom_20 : decode cX0_numberFrom 20 = .ok (.ireturn, 1) := by decide +kernel
theorem dX0_numberFrom_21 : decode cX0_numberFrom 21 = .ok (.aload_n 0, 1) := by decide +kernel
theorem dX0_numberFrom_22 : decode cX0_numberFrom 22 = .ok (.dup, 1) := by decide +kernel
theorem dX0_numberFrom_23 : decode cX0_numberFrom 23 = .ok (.getfield 29, 3) := by decide +kernel
theorem dX0_numberFrom_26 : decode cX0_numberFrom 26 = .ok (.iconst 1, 1) := by decide +kernel
theorem dX0_numberFrom_27 : decode cX0_numberFrom 27 = .ok (.iadd, 1) := by decide +kernel
theorem dX0_numberFrom_28 : decode cX0_numberFrom 28 = .ok (.putfield 29, 3) := by decide +kernel
theorem dX0_numberFrom_31 : decode cX0_numberFrom 31 = .ok (.iload_n 2, 1) := by decide +kernel
theorem dX0_numberFrom_32 : decode cX0_numberFrom 32 = .ok (.bipush 48, 2) := by decide +kernel
theorem dX0_numberFrom_34 : decode cX0_numberFrom 34 = .ok (.isub, 1) := by decide +kernel
theorem dX0_numberFrom_35 : decode cX0_numberFrom 35 = .ok (.bipush 10, 2) := by decide +kernel
theorem dX0_numberFrom_37 : decode cX0_numberFrom 37 = .ok (.imul, 1) := by decide +kernel
theorem dX0_numberFrom_38 : decode cX0_numberFrom 38 = .ok (.iload_n 3, 1) := by decide +kernel
theorem dX0_numberFrom_39 : decode cX0_numberFrom 39 = .ok (.bipush 48, 2) := by decide +kernel
theorem dX0_numberFrom_41 : decode cX0_numberFrom 41 = .ok (.isub, 1) := by decide +kernel
theorem dX0_numberFrom_42 : decode cX0_numberFrom 42 = .ok (.iadd, 1) := by decide +kernel
theorem dX0_numberFrom_43 : decode cX0_numberFrom 43 = .ok (.ireturn, 1) := by decide +kernel
def f_X0_numberFrom (x2 : Int32) (w : XW) : Option (Int32 × XW) := (bI (f_X6_at 132 (w.1 138 4) w) (fun r1 w1 => (bI (f_X0_isDigit r1 w1) (fun r2 w2 => (if r2 = 0 then (some ((x2 - 48), w2)) else (some ((((x2 - 48) * 10) + (r1 - 48)), (wset w2 138 4 ((w2.1 138 4) + 1)))))))))
set_option maxRecDepth 100000 in
theorem W_X0_numberFrom {g : GC} (hl : g.1.stackTraces = false) {x2 : Int32} {w : XW} : VE g cX0_numberFrom 4 RX0 (some .int) [] (rmL 4 0 0) 0 0 oI 0 0 0 [(0, .ref (g.2.1 + 138)), (1, .ref (g.2.1 + 132)), (2, .int x2)] [] w (f_X0_numberFrom x2 w) := by
  unfold f_X0_numberFrom
  refine v_aload_n dX0_numberFrom_0 rfl 1 rfl ?_
  refine v_aload_n dX0_numberFrom_1 rfl 0 rfl ?_
  refine v_getI fl_X0_29 tt_138 rfl dX0_numberFrom_2 ?_
  refine v_callVi (As := [.int (w.1 138 4)]) cv_X0_37 (S_X6_at hl is6_132) tt_132 rfl rfl rfl (Nat.le_of_ble_eq_true rfl) dX0_numberFrom_5 (CR_rm (by decide) (by decide) (by decide) (by decide)) (fun r1 w1 => ?_)
  refine v_istore_n dX0_numberFrom_8 rfl (Nat.le_of_ble_eq_true rfl) rfl ?_
  refine v_iload_n dX0_numberFrom_9 rfl 0 rfl ?_
  refine v_callSi (As := [.int r1]) cs_X0_109 (S_X0_isDigit hl) rfl rfl (Nat.le_of_ble_eq_true rfl) dX0_numberFrom_10 (CR_rm (by decide) (by decide) (by decide) (by decide)) (fun r2 w2 => ?_)
  refine v_if_ne (tgt := 21) dX0_numberFrom_13 (by decide) ?_ ?_
  · refine v_aload_n dX0_numberFrom_21 rfl 1 rfl ?_
    refine v_dup dX0_numberFrom_22 rfl ?_
    refine v_getI fl_X0_29 tt_138 rfl dX0_numberFrom_23 ?_
    refine v_iconst (v := 1) dX0_numberFrom_26 (by decide) ?_
    refine v_iadd dX0_numberFrom_27 ?_
    refine v_putI fl_X0_29 tt_138 rfl (ty0 := .int) rfl rfl rfl dX0_numberFrom_28 ?_
    refine v_iload_n dX0_numberFrom_31 rfl 3 rfl ?_
    refine v_bipush (v := 48) dX0_numberFrom_32 (by decide) ?_
    refine v_isub dX0_numberFrom_34 ?_
    refine v_bipush (v := 10) dX0_numberFrom_35 (by decide) ?_
    refine v_imul dX0_numberFrom_37 ?_
    refine v_iload_n dX0_numberFrom_38 rfl 0 rfl ?_
    refine v_bipush (v := 48) dX0_numberFrom_39 (by decide) ?_
    refine v_isub dX0_numberFrom_41 ?_
    refine v_iadd dX0_numberFrom_42 ?_
    exact v_iret dX0_numberFrom_43 rfl rfl (by decide) (by decide)
  · refine v_iload_n dX0_numberFrom_16 rfl 3 rfl ?_
    refine v_bipush (v := 48) dX0_numberFrom_17 (by decide) ?_
    refine v_isub dX0_numberFrom_19 ?_
    exact v_iret dX0_numberFrom_20 rfl rfl (by decide) (by decide)
theorem S_X0_numberFrom {g : GC} (hl : g.1.stackTraces = false) {x2 : Int32} {w : XW} : ∀ q, f_X0_numberFrom x2 w = some q → MM g (.code yX0_numberFrom cX0_numberFrom 4 (some .int)) yX0_numberFrom (rmL 4 0 0) 0 0 [.ref (g.2.1 + 138), .ref (g.2.1 + 132), .int x2] w (oI q) := fun q hq => MM_of (own := RX0) hl (by decide) gw_1323 rfl (Nat.le_of_ble_eq_true rfl) (W_X0_numberFrom hl q hq) ⟨rfl, rfl⟩

theorem dX0_followsSign_0 : decode cX0_followsSign 0 = .ok (.aload_n 1, 1) := by decide +kernel
theorem dX0_followsSign_1 : decode cX0_followsSign 1 = .ok (.aload_n 0, 1) := by decide +kernel
theorem dX0_followsSign_2 : decode cX0_followsSign 2 = .ok (.getfield 29, 3) := by decide +kernel
theorem dX0_followsSign_5 : decode cX0_followsSign 5 = .ok (.invokevirtual 37, 3) := by decide +kernel
theorem dX0_followsSign_8 : decode cX0_followsSign 8 = .ok (.istore_n 3, 1) := by decide +kernel
theorem dX0_followsSign_9 : decode cX0_followsSign 9 = .ok (.iload_n 3, 1) := by decide +kernel
theorem dX0_followsSign_10 : decode cX0_followsSign 10 = .ok (.iload_n 2, 1) := by decide +kernel
theorem dX0_followsSign_11 : decode cX0_followsSign 11 = .ok (.invokestatic 98, 3) := by decide +kernel
theorem dX0_followsSign_14 : decode cX0_followsSign 14 = .ok (.ifCond .ne 5, 3) := by decide +kernel
theorem dX0_followsSign_17 : decode cX0_followsSign 17 = .ok (.iconst 0, 1) := by decide +kernel
theorem dX0_followsSign_18 : decode cX0_followsSign 18 = .ok (.ireturn, 1) := by decide +kernel
theorem dX0_followsSign_19 : decode cX0_followsSign 19 = .ok (.aload_n 0, 1) := by decide +kernel
theorem dX0_followsSign_20 : decode cX0_followsSign 20 = .ok (.dup, 1) := by decide +kernel
theorem dX0_followsSign_21 : decode cX0_followsSign 21 = .ok (.getfield 29, 3) := by decide +kernel
theorem dX0_followsSign_24 : decode cX0_followsSign 24 = .ok (.iconst 1, 1) := by decide +kernel
theorem dX0_followsSign_25 : decode cX0_followsSign 25 = .ok (.iadd, 1) := by decide +kernel
theorem dX0_followsSign_26 : decode cX0_followsSign 26 = .ok (.putfield 29, 3) := by decide +kernel
theorem dX0_followsSign_29 : decode cX0_followsSign 29 = .ok (.iload_n 2, 1) := by decide +kernel
theorem dX0_followsSign_30 : decode cX0_followsSign 30 = .ok (.bipush 68, 2) := by decide +kernel
theorem dX0_followsSign_32 : decode cX0_followsSign 32 = .ok (.if_icmp .ne 14, 3) := by decide +kernel
theorem dX0_followsSign_35 : decode cX0_followsSign 35 = .ok (.aload_n 0, 1) := by decide +kernel
theorem dX0_followsSign_36 : decode cX0_followsSign 36 = .ok (.iload_n 3, 1) := by decide +kernel
theorem dX0_followsSign_37 : decode cX0_followsSign 37 = .ok (.bipush 48, 2) := by decide +kernel
theorem dX0_followsSign_39 : decode cX0_followsSign 39 = .ok (.isub, 1) := by decide +kernel
theorem dX0_followsSign_40 : decode cX0_followsSign 40 = .ok (.invokevirtual 102, 3) := by decide +kernel
theorem dX0_followsSign_43 : decode cX0_followsSign 43 = .ok (.goto 33, 3) := by decide +kernel
theorem dX0_followsSign_46 : decode cX0_followsSign 46 = .ok (.iload_n 2, 1) := by decide +kernel
theorem dX0_followsSign_47 : decode cX0_followsSign 47 = .ok (.bipush 84, 2) := by decide +kernel
theorem dX0_followsSign_49 : decode cX0_followsSign 49 = .ok (.if_icmp .ne 11, 3) := by decide +kernel
theorem dX0_followsSign_52 : decode cX0_followsSign 52 = .ok (.aload_n 0, 1) := by decide +kernel
theorem dX0_followsSign_53 : decode cX0_followsSign 53 = .ok (.iload_n 3, 1) := by decide +kernel
theorem dX0_followsSign_54 : decode cX0_followsSign 54 = .ok (.invokevirtual 102, 3) := by decide +kernel
theorem dX0_followsSign_57 : decode cX0_followsSign 57 = .ok (.goto 19, 3) := by decide +kernel
theorem dX0_followsSign_60 : decode cX0_followsSign 60 = .ok (.iload_n 2, 1) := by decide +kernel
theorem dX0_followsSign_61 : decode cX0_followsSign 61 = .ok (.bipush 78, 2) := by decide +kernel
theorem dX0_followsSign_63 : decode cX0_followsSign 63 = .ok (.if_icmp .ne 13, 3) := by decide +kernel
theorem dX0_followsSign_66 : decode cX0_followsSign 66 = .ok (.aload_n 0, 1) := by decide +kernel
theorem dX0_followsSign_67 : decode cX0_followsSign 67 = .ok (.aload_n 0, 1) := by decide +kernel
theorem dX0_followsSign_68 : decode cX0_followsSign 68 = .ok (.aload_n 1, 1) := by decide +kernel
theorem dX0_followsSign_69 : decode cX0_followsSign 69 = .ok (.iload_n 3, 1) := by decide +kernel
theorem dX0_followsSign_70 : decode cX0_followsSign 70 = .ok (.invokevirtual 105, 3) := by decide +kernel
theorem dX0_followsSign_73 : decode cX0_followsSign 73 = .ok (.invokevirtual 102, 3) := by decide +kernel
theorem dX0_followsSign_76 : decode cX0_followsSign 76 = .ok (.iconst 1, 1) := by decide +kernel
theorem dX0_followsSign_77 : decode cX0_followsSign 77 = .ok (.ireturn, 1) := by decide +kernel
def f_X0_followsSign (x2 : Int32) (w : XW) : Option (Int32 × XW) := (bI (f_X6_at 132 (w.1 138 4) w) (fun r1 w1 => (bI (f_X0_fits r1 x2 w1) (fun r2 w2 => (if r2 = 0 then (some (0, w2)) else (if x2 = 68 then (bV (f_X0_takeOperand (r1 - 48) (wset w2 138 4 ((w2.1 138 4) + 1))) (fun w6 => (some (1, w6)))) else (if x2 = 84 then (bV (f_X0_takeOperand r1 (wset w2 138 4 ((w2.1 138 4) + 1))) (fun w5 => (some (1, w5)))) else (if x2 = 78 then (bI (f_X0_numberFrom r1 (wset w2 138 4 ((w2.1 138 4) + 1))) (fun r3 w3 => (bV (f_X0_takeOperand r3 w3) (fun w4 => (some (1, w4)))))) else (some (1, (wset w2 138 4 ((w2.1 138 4) + 1))))))))))))
set_option maxRecDepth 100000 in
theorem W_X0_followsSign {g : GC} (hl : g.1.stackTraces = false) {x2 : Int32} {w : XW} : VE g cX0_followsSign 4 RX0 (some .boolean) [] (rmL 5 0 0) 0 0 oI 0 0 0 [(0, .ref (g.2.1 + 138)), (1, .ref (g.2.1 + 132)), (2, .int x2)] [] w (f_X0_followsSign x2 w) := by
  unfold f_X0_followsSign
  refine v_aload_n dX0_followsSign_0 rfl 1 rfl ?_
  refine v_aload_n dX0_followsSign_1 rfl 0 rfl ?_
  refine v_getI fl_X0_29 tt_138 rfl dX0_followsSign_2 ?_
  refine v_callVi (As := [.int (w.1 138 4)]) cv_X0_37 (S_X6_at hl is6_132) tt_132 rfl rfl rfl (Nat.le_of_ble_eq_true rfl) dX0_followsSign_5 (CR_rm (by decide) (by decide) (by decide) (by decide)) (fun r1 w1 => ?_)
  refine v_istore_n dX0_followsSign_8 rfl (Nat.le_of_ble_eq_true rfl) rfl ?_
  refine v_iload_n dX0_followsSign_9 rfl 0 rfl ?_
  refine v_iload_n dX0_followsSign_10 rfl 3 rfl ?_
  refine v_callSi (As := [.int r1, .int x2]) cs_X0_98 (S_X0_fits hl) rfl rfl (Nat.le_of_ble_eq_true rfl) dX0_followsSign_11 (CR_rm (by decide) (by decide) (by decide) (by decide)) (fun r2 w2 => ?_)
  refine v_if_ne (tgt := 19) dX0_followsSign_14 (by decide) ?_ ?_
  · refine v_aload_n dX0_followsSign_19 rfl 1 rfl ?_
    refine v_dup dX0_followsSign_20 rfl ?_
    refine v_getI fl_X0_29 tt_138 rfl dX0_followsSign_21 ?_
    refine v_iconst (v := 1) dX0_followsSign_24 (by decide) ?_
    refine v_iadd dX0_followsSign_25 ?_
    refine v_putI fl_X0_29 tt_138 rfl (ty0 := .int) rfl rfl rfl dX0_followsSign_26 ?_
    refine v_iload_n dX0_followsSign_29 rfl 3 rfl ?_
    refine v_bipush (v := 68) dX0_followsSign_30 (by decide) ?_
    refine v_icmp_ne (tgt := 46) dX0_followsSign_32 (by decide) ?_ ?_
    · refine v_iload_n dX0_followsSign_46 rfl 3 rfl ?_
      refine v_bipush (v := 84) dX0_followsSign_47 (by decide) ?_
      refine v_icmp_ne (tgt := 60) dX0_followsSign_49 (by decide) ?_ ?_
      · refine v_iload_n dX0_followsSign_60 rfl 3 rfl ?_
        refine v_bipush (v := 78) dX0_followsSign_61 (by decide) ?_
        refine v_icmp_ne (tgt := 76) dX0_followsSign_63 (by decide) ?_ ?_
        · refine v_iconst (v := 1) dX0_followsSign_76 (by decide) ?_
          exact v_zret dX0_followsSign_77 rfl rfl rfl (by decide) (by decide)
        · refine v_aload_n dX0_followsSign_66 rfl 1 rfl ?_
          refine v_aload_n dX0_followsSign_67 rfl 1 rfl ?_
          refine v_aload_n dX0_followsSign_68 rfl 2 rfl ?_
          refine v_iload_n dX0_followsSign_69 rfl 0 rfl ?_
          refine v_callVi (As := [.ref (g.2.1 + 132), .int r1]) cv_X0_105 (S_X0_numberFrom hl) tt_138 rfl rfl rfl (Nat.le_of_ble_eq_true rfl) dX0_followsSign_70 (CR_rm (by decide) (by decide) (by decide) (by decide)) (fun r3 w3 => ?_)
          refine v_callVv (As := [.int r3]) cv_X0_102 (S_X0_takeOperand hl) tt_138 rfl rfl rfl (Nat.le_of_ble_eq_true rfl) dX0_followsSign_73 (CR_rm (by decide) (by decide) (by decide) (by decide)) (fun w4 => ?_)
          refine v_iconst (v := 1) dX0_followsSign_76 (by decide) ?_
          exact v_zret dX0_followsSign_77 rfl rfl rfl (by decide) (by decide)
      · refine v_aload_n dX0_followsSign_52 rfl 1 rfl ?_
        refine v_iload_n dX0_followsSign_53 rfl 0 rfl ?_
        refine v_callVv (As := [.int r1]) cv_X0_102 (S_X0_takeOperand hl) tt_138 rfl rfl rfl (Nat.le_of_ble_eq_true rfl) dX0_followsSign_54 (CR_rm (by decide) (by decide) (by decide) (by decide)) (fun w5 => ?_)
        refine v_goto (tgt := 76) dX0_followsSign_57 (by decide) ?_
        refine v_iconst (v := 1) dX0_followsSign_76 (by decide) ?_
        exact v_zret dX0_followsSign_77 rfl rfl rfl (by decide) (by decide)
    · refine v_aload_n dX0_followsSign_35 rfl 1 rfl ?_
      refine v_iload_n dX0_followsSign_36 rfl 0 rfl ?_
      refine v_bipush (v := 48) dX0_followsSign_37 (by decide) ?_
      refine v_isub dX0_followsSign_39 ?_
      refine v_callVv (As := [.int (r1 - 48)]) cv_X0_102 (S_X0_takeOperand hl) tt_138 rfl rfl rfl (Nat.le_of_ble_eq_true rfl) dX0_followsSign_40 (CR_rm (by decide) (by decide) (by decide) (by decide)) (fun w6 => ?_)
      refine v_goto (tgt := 76) dX0_followsSign_43 (by decide) ?_
      refine v_iconst (v := 1) dX0_followsSign_76 (by decide) ?_
      exact v_zret dX0_followsSign_77 rfl rfl rfl (by decide) (by decide)
  · refine v_iconst (v := 0) dX0_followsSign_17 (by decide) ?_
    exact v_zret dX0_followsSign_18 rfl rfl rfl (by decide) (by decide)
theorem S_X0_followsSign {g : GC} (hl : g.1.stackTraces = false) {x2 : Int32} {w : XW} : ∀ q, f_X0_followsSign x2 w = some q → MM g (.code yX0_followsSign cX0_followsSign 4 (some .boolean)) yX0_followsSign (rmL 5 0 0) 0 0 [.ref (g.2.1 + 138), .ref (g.2.1 + 132), .int x2] w (oI q) := fun q hq => MM_of (own := RX0) hl (by decide) gw_1304 rfl (Nat.le_of_ble_eq_true rfl) (W_X0_followsSign hl q hq) ⟨rfl, rfl⟩

theorem dX0_follows_0 : decode cX0_follows 0 = .ok (.aload_n 0, 1) := by decide +kernel
theorem dX0_follows_1 : decode cX0_follows 1 = .ok (.iload_n 2, 1) := by decide +kernel
theorem dX0_follows_2 : decode cX0_follows 2 = .ok (.putfield 29, 3) := by decide +kernel
theorem dX0_follows_5 : decode cX0_follows 5 = .ok (.aload_n 0, 1) := by decide +kernel
theorem dX0_follows_6 : decode cX0_follows 6 = .ok (.iconst 0, 1) := by decide +kernel
theorem dX0_follows_7 : decode cX0_follows 7 = .ok (.putfield 83, 3) := by decide +kernel
theorem dX0_follows_10 : decode cX0_follows 10 = .ok (.iconst 0, 1) := by decide +kernel
theorem dX0_follows_11 : decode cX0_follows 11 = .ok (.istore 4, 2) := by decide +kernel
theorem dX0_follows_13 : decode cX0_follows 13 = .ok (.iload 4, 2) := by decide +kernel
theorem dX0_follows_15 : decode cX0_follows 15 = .ok (.aload_n 3, 1) := by decide +kernel
theorem dX0_follows_16 : decode cX0_follows 16 = .ok (.invokevirtual 86, 3) := by decide +kernel
theorem dX0_follows_19 : decode cX0_follows 19 = .ok (.if_icmp .ge 25, 3) := by decide +kernel
theorem dX0_follows_22 : decode cX0_follows 22 = .ok (.aload_n 0, 1) := by decide +kernel
theorem dX0_follows_23 : decode cX0_follows 23 = .ok (.aload_n 1, 1) := by decide +kernel
theorem dX0_follows_24 : decode cX0_follows 24 = .ok (.aload_n 3, 1) := by decide +kernel
theorem dX0_follows_25 : decode cX0_follows 25 = .ok (.iload 4, 2) := by decide +kernel
theorem dX0_follows_27 : decode cX0_follows 27 = .ok (.invokevirtual 91, 3) := by decide +kernel
theorem dX0_follows_30 : decode cX0_follows 30 = .ok (.invokevirtual 94, 3) := by decide +kernel
theorem dX0_follows_33 : decode cX0_follows 33 = .ok (.ifCond .ne 5, 3) := by decide +kernel
theorem dX0_follows_36 : decode cX0_follows 36 = .ok (.iconst 0, 1) := by decide +kernel
theorem dX0_follows_37 : decode cX0_follows 37 = .ok (.ireturn, 1) := by decide +kernel
theorem dX0_follows_38 : decode cX0_follows 38 = .ok (.iinc 4 1, 3) := by decide +kernel
theorem dX0_follows_41 : decode cX0_follows 41 = .ok (.goto (-28), 3) := by decide +kernel
theorem dX0_follows_44 : decode cX0_follows 44 = .ok (.iconst 1, 1) := by decide +kernel
theorem dX0_follows_45 : decode cX0_follows 45 = .ok (.ireturn, 1) := by decide +kernel
def f_X0_follows_13 (s3 : Nat) : Nat → Int32 → XW → Option (Int32 × XW)
  | 0, _, _ => none
  | n + 1, z4, w => (bI (f_strlen s3 w) (fun r1 w1 => (if r1 ≤ z4 then (some (1, w1)) else (bI (f_charAt s3 z4 w1) (fun r2 w2 => (bI (f_X0_followsSign r2 w2) (fun r3 w3 => (if r3 = 0 then (some (0, w3)) else (f_X0_follows_13 s3 n (z4 + 1) w3)))))))))
set_option maxRecDepth 100000 in
theorem S_X0_follows_13 {g : GC} (hl : g.1.stackTraces = false) {s3 : Nat} : ∀ (n : Nat) (z4 : Int32) (w : XW), VE g cX0_follows 5 RX0 (some .boolean) [] (rmL 6 0 0) 0 0 oI 0 0 13 [(0, .ref (g.2.1 + 138)), (1, .ref (g.2.1 + 132)), (3, .ref (g.2.2.2.2.1 s3)), (4, .int z4)] [] w (f_X0_follows_13 s3 n z4 w) := by
  intro n
  induction n with
  | zero => intro z4 w; exact v_none
  | succ n ih =>
    intro z4 w
    rw [f_X0_follows_13]
    refine v_iload dX0_follows_13 3 rfl ?_
    refine v_aload_n dX0_follows_15 rfl 2 rfl ?_
    refine v_call_length hl cv_X0_86 rfl (Nat.le_of_ble_eq_true rfl) dX0_follows_16 (CR_rm (by decide) (by decide) (by decide) (by decide)) (fun r1 w1 => ?_)
    refine v_icmp_ge (tgt := 44) dX0_follows_19 (by decide) ?_ ?_
    · refine v_iconst (v := 1) dX0_follows_44 (by decide) ?_
      exact v_zret dX0_follows_45 rfl rfl rfl (by decide) (by decide)
    · refine v_aload_n dX0_follows_22 rfl 0 rfl ?_
      refine v_aload_n dX0_follows_23 rfl 1 rfl ?_
      refine v_aload_n dX0_follows_24 rfl 2 rfl ?_
      refine v_iload dX0_follows_25 3 rfl ?_
      refine v_call_charAt hl cv_X0_91 rfl (Nat.le_of_ble_eq_true rfl) dX0_follows_27 (CR_rm (by decide) (by decide) (by decide) (by decide)) (fun r2 w2 => ?_)
      refine v_callVi (As := [.ref (g.2.1 + 132), .int r2]) cv_X0_94 (S_X0_followsSign hl) tt_138 rfl rfl rfl (Nat.le_of_ble_eq_true rfl) dX0_follows_30 (CR_rm (by decide) (by decide) (by decide) (by decide)) (fun r3 w3 => ?_)
      refine v_if_ne (tgt := 38) dX0_follows_33 (by decide) ?_ ?_
      · refine v_iinc (v := (z4 + 1)) dX0_follows_38 (q := 3) rfl rfl (Nat.le_of_ble_eq_true rfl) rfl ?_
        refine v_goto (tgt := 13) dX0_follows_41 (by decide) ?_
        refine v_sub [1, 2, 3, 0] rfl ?_
        exact ih _ _
      · refine v_iconst (v := 0) dX0_follows_36 (by decide) ?_
        exact v_zret dX0_follows_37 rfl rfl rfl (by decide) (by decide)
def f_X0_follows (x2 : Int32) (s3 : Nat) (w : XW) : Option (Int32 × XW) := (f_X0_follows_13 s3 1000 0 (wset (wset w 138 4 x2) 138 5 0))
set_option maxRecDepth 100000 in
theorem W_X0_follows {g : GC} (hl : g.1.stackTraces = false) {s3 : Nat} {x2 : Int32} {w : XW} : VE g cX0_follows 5 RX0 (some .boolean) [] (rmL 6 0 0) 0 0 oI 0 0 0 [(0, .ref (g.2.1 + 138)), (1, .ref (g.2.1 + 132)), (2, .int x2), (3, .ref (g.2.2.2.2.1 s3))] [] w (f_X0_follows x2 s3 w) := by
  unfold f_X0_follows
  refine v_aload_n dX0_follows_0 rfl 0 rfl ?_
  refine v_iload_n dX0_follows_1 rfl 2 rfl ?_
  refine v_putI fl_X0_29 tt_138 rfl (ty0 := .int) rfl rfl rfl dX0_follows_2 ?_
  refine v_aload_n dX0_follows_5 rfl 0 rfl ?_
  refine v_iconst (v := 0) dX0_follows_6 (by decide) ?_
  refine v_putI fl_X0_83 tt_138 rfl (ty0 := .int) rfl rfl rfl dX0_follows_7 ?_
  refine v_iconst (v := 0) dX0_follows_10 (by decide) ?_
  refine v_istore dX0_follows_11 (Nat.le_of_ble_eq_true rfl) rfl ?_
  refine v_sub [1, 2, 4, 0] rfl ?_
  exact S_X0_follows_13 hl  _ _ _
theorem S_X0_follows {g : GC} (hl : g.1.stackTraces = false) {s3 : Nat} {x2 : Int32} {w : XW} : ∀ q, f_X0_follows x2 s3 w = some q → MM g (.code yX0_follows cX0_follows 5 (some .boolean)) yX0_follows (rmL 6 0 0) 0 0 [.ref (g.2.1 + 138), .ref (g.2.1 + 132), .int x2, .ref (g.2.2.2.2.1 s3)] w (oI q) := fun q hq => MM_of (own := RX0) hl (by decide) gw_1298 rfl (Nat.le_of_ble_eq_true rfl) (W_X0_follows hl q hq) ⟨rfl, rfl⟩

theorem dX0_append_0 : decode cX0_append 0 = .ok (.aload_n 0, 1) := by decide +kernel
theorem dX0_append_1 : decode cX0_append 1 = .ok (.getfield 18, 3) := by decide +kernel
theorem dX0_append_4 : decode cX0_append 4 = .ok (.bipush 60, 2) := by decide +kernel
theorem dX0_append_6 : decode cX0_append 6 = .ok (.if_icmp .ge 23, 3) := by decide +kernel
theorem dX0_append_9 : decode cX0_append 9 = .ok (.aload_n 0, 1) := by decide +kernel
theorem dX0_append_10 : decode cX0_append 10 = .ok (.getfield 9, 3) := by decide +kernel
theorem dX0_append_13 : decode cX0_append 13 = .ok (.aload_n 0, 1) := by decide +kernel
theorem dX0_append_14 : decode cX0_append 14 = .ok (.getfield 18, 3) := by decide +kernel
theorem dX0_append_17 : decode cX0_append 17 = .ok (.iload_n 1, 1) := by decide +kernel
theorem dX0_append_18 : decode cX0_append 18 = .ok (.iastore, 1) := by decide +kernel
theorem dX0_append_19 : decode cX0_append 19 = .ok (.aload_n 0, 1) := by decide +kernel
theorem dX0_append_20 : decode cX0_append 20 = .ok (.dup, 1) := by decide +kernel
theorem dX0_append_21 : decode cX0_append 21 = .ok (.getfield 18, 3) := by decide +kernel
theorem dX0_append_24 : decode cX0_append 24 = .ok (.iconst 1, 1) := by decide +kernel
theorem dX0_append_25 : decode cX0_append 25 = .ok (.iadd, 1) := by decide +kernel
theorem dX0_append_26 : decode cX0_append 26 = .ok (.putfield 18, 3) := by decide +kernel
theorem dX0_append_29 : decode cX0_append 29 = .ok (.return_, 1) := by decide +kernel
def f_X0_append (x1 : Int32) (w : XW) : Option (XW) := (if 60 ≤ (w.1 138 2) then (some w) else (if inB (w.1 138 2) 60 then (some (wset (wset w 139 (Int32.toNatClampNeg (w.1 138 2)) x1) 138 2 (((wset w 139 (Int32.toNatClampNeg (w.1 138 2)) x1).1 138 2) + 1))) else none))
set_option maxRecDepth 100000 in
theorem W_X0_append {g : GC} (hl : g.1.stackTraces = false) {x1 : Int32} {w : XW} : VE g cX0_append 2 RX0 none [] (rmL 3 0 0) 0 0 oV 0 0 0 [(0, .ref (g.2.1 + 138)), (1, .int x1)] [] w (f_X0_append x1 w) := by
  unfold f_X0_append
  refine v_aload_n dX0_append_0 rfl 0 rfl ?_
  refine v_getI fl_X0_18 tt_138 rfl dX0_append_1 ?_
  refine v_bipush (v := 60) dX0_append_4 (by decide) ?_
  refine v_icmp_ge (tgt := 29) dX0_append_6 (by decide) ?_ ?_
  · exact v_vret dX0_append_29 rfl rfl (by decide) (by decide)
  · refine v_aload_n dX0_append_9 rfl 0 rfl ?_
    refine v_getR fl_X0_9 tt_138 rfl dX0_append_10 ?_
    refine v_aload_n dX0_append_13 rfl 0 rfl ?_
    refine v_getI fl_X0_18 tt_138 rfl dX0_append_14 ?_
    refine v_iload_n dX0_append_17 rfl 1 rfl ?_
    refine v_guard (fun h1 => ?_)
    refine v_iast tt_139 h1 dX0_append_18 ?_
    refine v_aload_n dX0_append_19 rfl 0 rfl ?_
    refine v_dup dX0_append_20 rfl ?_
    refine v_getI fl_X0_18 tt_138 rfl dX0_append_21 ?_
    refine v_iconst (v := 1) dX0_append_24 (by decide) ?_
    refine v_iadd dX0_append_25 ?_
    refine v_putI fl_X0_18 tt_138 rfl (ty0 := .int) rfl rfl rfl dX0_append_26 ?_
    exact v_vret dX0_append_29 rfl rfl (by decide) (by decide)
theorem S_X0_append {g : GC} (hl : g.1.stackTraces = false) {x1 : Int32} {w : XW} : ∀ q, f_X0_append x1 w = some q → MM g (.code yX0_append cX0_append 2 none) yX0_append (rmL 3 0 0) 0 0 [.ref (g.2.1 + 138), .int x1] w (oV q) := fun q hq => MM_of (own := RX0) hl (by decide) gw_1327 rfl (Nat.le_of_ble_eq_true rfl) (W_X0_append hl q hq) ⟨rfl, rfl⟩

theorem dX0_readCommand_0 : decode cX0_readCommand 0 = .ok (.iload_n 2, 1) := by decide +kernel
theorem dX0_readCommand_1 : decode cX0_readCommand 1 = .ok (.istore_n 3, 1) := by decide +kernel
theorem dX0_readCommand_2 : decode cX0_readCommand 2 = .ok (.iconst 0, 1) := by decide +kernel
theorem dX0_readCommand_3 : decode cX0_readCommand 3 = .ok (.istore 4, 2) := by decide +kernel
theorem dX0_readCommand_5 : decode cX0_readCommand 5 = .ok (.iload 4, 2) := by decide +kernel
theorem dX0_readCommand_7 : decode cX0_readCommand 7 = .ok (.bipush 12, 2) := by decide +kernel
theorem dX0_readCommand_9 : decode cX0_readCommand 9 = .ok (.if_icmp .ge 39, 3) := by decide +kernel
theorem dX0_readCommand_12 : decode cX0_readCommand 12 = .ok (.aload_n 0, 1) := by decide +kernel
theorem dX0_readCommand_13 : decode cX0_readCommand 13 = .ok (.aload_n 1, 1) := by decide +kernel
theorem dX0_readCommand_14 : decode cX0_readCommand 14 = .ok (.iload_n 2, 1) := by decide +kernel
theorem dX0_readCommand_15 : decode cX0_readCommand 15 = .ok (.iload 4, 2) := by decide +kernel
theorem dX0_readCommand_17 : decode cX0_readCommand 17 = .ok (.invokestatic 41, 3) := by decide +kernel
theorem dX0_readCommand_20 : decode cX0_readCommand 20 = .ok (.invokevirtual 45, 3) := by decide +kernel
theorem dX0_readCommand_23 : decode cX0_readCommand 23 = .ok (.ifCond .eq 10, 3) := by decide +kernel
theorem dX0_readCommand_26 : decode cX0_readCommand 26 = .ok (.aload_n 0, 1) := by decide +kernel
theorem dX0_readCommand_27 : decode cX0_readCommand 27 = .ok (.iload 4, 2) := by decide +kernel
theorem dX0_readCommand_29 : decode cX0_readCommand 29 = .ok (.invokevirtual 49, 3) := by decide +kernel
theorem dX0_readCommand_32 : decode cX0_readCommand 32 = .ok (.return_, 1) := by decide +kernel
theorem dX0_readCommand_33 : decode cX0_readCommand 33 = .ok (.iload_n 3, 1) := by decide +kernel
theorem dX0_readCommand_34 : decode cX0_readCommand 34 = .ok (.aload_n 0, 1) := by decide +kernel
theorem dX0_readCommand_35 : decode cX0_readCommand 35 = .ok (.getfield 29, 3) := by decide +kernel
theorem dX0_readCommand_38 : decode cX0_readCommand 38 = .ok (.invokestatic 53, 3) := by decide +kernel
theorem dX0_readCommand_41 : decode cX0_readCommand 41 = .ok (.istore_n 3, 1) := by decide +kernel
theorem dX0_readCommand_42 : decode cX0_readCommand 42 = .ok (.iinc 4 1, 3) := by decide +kernel
theorem dX0_readCommand_45 : decode cX0_readCommand 45 = .ok (.goto (-40), 3) := by decide +kernel
theorem dX0_readCommand_48 : decode cX0_readCommand 48 = .ok (.aload_n 0, 1) := by decide +kernel
theorem dX0_readCommand_49 : decode cX0_readCommand 49 = .ok (.iload_n 3, 1) := by decide +kernel
theorem dX0_readCommand_50 : decode cX0_readCommand 50 = .ok (.putfield 22, 3) := by decide +kernel
theorem dX0_readCommand_53 : decode cX0_readCommand 53 = .ok (.return_, 1) := by decide +kernel
def f_X0_readCommand_5 (y2 : Int32) : Nat → Int32 → Int32 → XW → Option (XW)
  | 0, _, _, _ => none
  | n + 1, z3, z4, w => (if 12 ≤ z4 then (some (wset w 138 3 z3)) else (bS (f_X0_shapeOf z4 w) (fun r1 w1 => (bI (f_X0_follows y2 r1 w1) (fun r2 w2 => (if r2 = 0 then (f_X0_readCommand_5 y2 n (if z3 < (w2.1 138 4) then (w2.1 138 4) else z3) (z4 + 1) w2) else (bV (f_X0_append z4 w2) (fun w3 => (some w3)))))))))
set_option maxRecDepth 100000 in
theorem S_X0_readCommand_5 {g : GC} (hl : g.1.stackTraces = false) {y2 : Int32} : ∀ (n : Nat) (z3 : Int32) (z4 : Int32) (w : XW), VE g cX0_readCommand 5 RX0 none [] (rmL 7 0 0) 0 0 oV 0 0 5 [(0, .ref (g.2.1 + 138)), (1, .ref (g.2.1 + 132)), (2, .int y2), (3, .int z3), (4, .int z4)] [] w (f_X0_readCommand_5 y2 n z3 z4 w) := by
  intro n
  induction n with
  | zero => intro z3 z4 w; exact v_none
  | succ n ih =>
    intro z3 z4 w
    rw [f_X0_readCommand_5]
    refine v_iload dX0_readCommand_5 4 rfl ?_
    refine v_bipush (v := 12) dX0_readCommand_7 (by decide) ?_
    refine v_icmp_ge (tgt := 48) dX0_readCommand_9 (by decide) ?_ ?_
    · refine v_aload_n dX0_readCommand_48 rfl 0 rfl ?_
      refine v_iload_n dX0_readCommand_49 rfl 3 rfl ?_
      refine v_putI fl_X0_22 tt_138 rfl (ty0 := .int) rfl rfl rfl dX0_readCommand_50 ?_
      exact v_vret dX0_readCommand_53 rfl rfl (by decide) (by decide)
    · refine v_aload_n dX0_readCommand_12 rfl 0 rfl ?_
      refine v_aload_n dX0_readCommand_13 rfl 1 rfl ?_
      refine v_iload_n dX0_readCommand_14 rfl 2 rfl ?_
      refine v_iload dX0_readCommand_15 4 rfl ?_
      refine v_callSs (As := [.int z4]) cs_X0_41 (S_X0_shapeOf hl) rfl rfl (Nat.le_of_ble_eq_true rfl) dX0_readCommand_17 (CR_rm (by decide) (by decide) (by decide) (by decide)) (fun r1 w1 => ?_)
      refine v_callVi (As := [.ref (g.2.1 + 132), .int y2, .ref (g.2.2.2.2.1 r1)]) cv_X0_45 (S_X0_follows hl) tt_138 rfl rfl rfl (Nat.le_of_ble_eq_true rfl) dX0_readCommand_20 (CR_rm (by decide) (by decide) (by decide) (by decide)) (fun r2 w2 => ?_)
      refine v_if_eq (tgt := 33) dX0_readCommand_23 (by decide) ?_ ?_
      · refine v_iload_n dX0_readCommand_33 rfl 3 rfl ?_
        refine v_aload_n dX0_readCommand_34 rfl 0 rfl ?_
        refine v_getI fl_X0_29 tt_138 rfl dX0_readCommand_35 ?_
        refine v_max gw_1328 gw_233 gw_54 gw_234 dX0_readCommand_38 (CR_f1 _ _ _) (CR_f2 (Nat.le_of_ble_eq_true rfl) _ _ _) (by decide) (by decide) ?_
        refine v_istore_n dX0_readCommand_41 rfl (Nat.le_of_ble_eq_true rfl) rfl ?_
        refine v_iinc (v := (z4 + 1)) dX0_readCommand_42 (q := 4) rfl rfl (Nat.le_of_ble_eq_true rfl) rfl ?_
        refine v_goto (tgt := 5) dX0_readCommand_45 (by decide) ?_
        refine v_sub [2, 3, 4, 1, 0] rfl ?_
        exact ih _ _ _
      · refine v_aload_n dX0_readCommand_26 rfl 0 rfl ?_
        refine v_iload dX0_readCommand_27 4 rfl ?_
        refine v_callVv (As := [.int z4]) cv_X0_49 (S_X0_append hl) tt_138 rfl rfl rfl (Nat.le_of_ble_eq_true rfl) dX0_readCommand_29 (CR_rm (by decide) (by decide) (by decide) (by decide)) (fun w3 => ?_)
        exact v_vret dX0_readCommand_32 rfl rfl (by decide) (by decide)
def f_X0_readCommand (x2 : Int32) (w : XW) : Option (XW) := (f_X0_readCommand_5 x2 1000 x2 0 w)
set_option maxRecDepth 100000 in
theorem W_X0_readCommand {g : GC} (hl : g.1.stackTraces = false) {x2 : Int32} {w : XW} : VE g cX0_readCommand 5 RX0 none [] (rmL 7 0 0) 0 0 oV 0 0 0 [(0, .ref (g.2.1 + 138)), (1, .ref (g.2.1 + 132)), (2, .int x2)] [] w (f_X0_readCommand x2 w) := by
  unfold f_X0_readCommand
  refine v_iload_n dX0_readCommand_0 rfl 2 rfl ?_
  refine v_istore_n dX0_readCommand_1 rfl (Nat.le_of_ble_eq_true rfl) rfl ?_
  refine v_iconst (v := 0) dX0_readCommand_2 (by decide) ?_
  refine v_istore dX0_readCommand_3 (Nat.le_of_ble_eq_true rfl) rfl ?_
  refine v_sub [2, 3, 4, 1, 0] rfl ?_
  exact S_X0_readCommand_5 hl  _ _ _ _
theorem S_X0_readCommand {g : GC} (hl : g.1.stackTraces = false) {x2 : Int32} {w : XW} : ∀ q, f_X0_readCommand x2 w = some q → MM g (.code yX0_readCommand cX0_readCommand 5 none) yX0_readCommand (rmL 7 0 0) 0 0 [.ref (g.2.1 + 138), .ref (g.2.1 + 132), .int x2] w (oV q) := fun q hq => MM_of (own := RX0) hl (by decide) gw_1279 rfl (Nat.le_of_ble_eq_true rfl) (W_X0_readCommand hl q hq) ⟨rfl, rfl⟩

theorem dX0_read_0 : decode cX0_read 0 = .ok (.aload_n 0, 1) := by decide +kernel
theorem dX0_read_1 : decode cX0_read 1 = .ok (.iconst 0, 1) := by decide +kernel
theorem dX0_read_2 : decode cX0_read 2 = .ok (.putfield 18, 3) := by decide +kernel
theorem dX0_read_5 : decode cX0_read 5 = .ok (.aload_n 0, 1) := by decide +kernel
theorem dX0_read_6 : decode cX0_read 6 = .ok (.iconst (-1), 1) := by decide +kernel
theorem dX0_read_7 : decode cX0_read 7 = .ok (.putfield 22, 3) := by decide +kernel
theorem dX0_read_10 : decode cX0_read 10 = .ok (.iconst 0, 1) := by decide +kernel
theorem dX0_read_11 : decode cX0_read 11 = .ok (.istore_n 2, 1) := by decide +kernel
theorem dX0_read_12 : decode cX0_read 12 = .ok (.iconst 0, 1) := by decide +kernel
theorem dX0_read_13 : decode cX0_read 13 = .ok (.istore_n 3, 1) := by decide +kernel
theorem dX0_read_14 : decode cX0_read 14 = .ok (.iload_n 3, 1) := by decide +kernel
theorem dX0_read_15 : decode cX0_read 15 = .ok (.bipush 60, 2) := by decide +kernel
theorem dX0_read_17 : decode cX0_read 17 = .ok (.if_icmp .ge 64, 3) := by decide +kernel
theorem dX0_read_20 : decode cX0_read 20 = .ok (.aload_n 0, 1) := by decide +kernel
theorem dX0_read_21 : decode cX0_read 21 = .ok (.aload_n 1, 1) := by decide +kernel
theorem dX0_read_22 : decode cX0_read 22 = .ok (.iload_n 2, 1) := by decide +kernel
theorem dX0_read_23 : decode cX0_read 23 = .ok (.invokevirtual 25, 3) := by decide +kernel
theorem dX0_read_26 : decode cX0_read 26 = .ok (.aload_n 0, 1) := by decide +kernel
theorem dX0_read_27 : decode cX0_read 27 = .ok (.getfield 22, 3) := by decide +kernel
theorem dX0_read_30 : decode cX0_read 30 = .ok (.iconst (-1), 1) := by decide +kernel
theorem dX0_read_31 : decode cX0_read 31 = .ok (.if_icmp .ne 14, 3) := by decide +kernel
theorem dX0_read_34 : decode cX0_read 34 = .ok (.aload_n 0, 1) := by decide +kernel
theorem dX0_read_35 : decode cX0_read 35 = .ok (.getfield 29, 3) := by decide +kernel
theorem dX0_read_38 : decode cX0_read 38 = .ok (.aload_n 1, 1) := by decide +kernel
theorem dX0_read_39 : decode cX0_read 39 = .ok (.getfield 32, 3) := by decide +kernel
theorem dX0_read_42 : decode cX0_read 42 = .ok (.if_icmp .lt 4, 3) := by decide +kernel
theorem dX0_read_45 : decode cX0_read 45 = .ok (.return_, 1) := by decide +kernel
theorem dX0_read_46 : decode cX0_read 46 = .ok (.aload_n 1, 1) := by decide +kernel
theorem dX0_read_47 : decode cX0_read 47 = .ok (.aload_n 0, 1) := by decide +kernel
theorem dX0_read_48 : decode cX0_read 48 = .ok (.getfield 29, 3) := by decide +kernel
theorem dX0_read_51 : decode cX0_read 51 = .ok (.invokevirtual 37, 3) := by decide +kernel
theorem dX0_read_54 : decode cX0_read 54 = .ok (.bipush 59, 2) := by decide +kernel
theorem dX0_read_56 : decode cX0_read 56 = .ok (.if_icmp .eq 12, 3) := by decide +kernel
theorem dX0_read_59 : decode cX0_read 59 = .ok (.aload_n 0, 1) := by decide +kernel
theorem dX0_read_60 : decode cX0_read 60 = .ok (.aload_n 0, 1) := by decide +kernel
theorem dX0_read_61 : decode cX0_read 61 = .ok (.getfield 29, 3) := by decide +kernel
theorem dX0_read_64 : decode cX0_read 64 = .ok (.putfield 22, 3) := by decide +kernel
theorem dX0_read_67 : decode cX0_read 67 = .ok (.return_, 1) := by decide +kernel
theorem dX0_read_68 : decode cX0_read 68 = .ok (.aload_n 0, 1) := by decide +kernel
theorem dX0_read_69 : decode cX0_read 69 = .ok (.getfield 29, 3) := by decide +kernel
theorem dX0_read_72 : decode cX0_read 72 = .ok (.iconst 1, 1) := by decide +kernel
theorem dX0_read_73 : decode cX0_read 73 = .ok (.iadd, 1) := by decide +kernel
theorem dX0_read_74 : decode cX0_read 74 = .ok (.istore_n 2, 1) := by decide +kernel
theorem dX0_read_75 : decode cX0_read 75 = .ok (.iinc 3 1, 3) := by decide +kernel
theorem dX0_read_78 : decode cX0_read 78 = .ok (.goto (-64), 3) := by decide +kernel
theorem dX0_read_81 : decode cX0_read 81 = .ok (.return_, 1) := by decide +kernel
def f_X0_read_14 : Nat → Int32 → Int32 → XW → Option (XW)
  | 0, _, _, _ => none
  | n + 1, z2, z3, w => (if 60 ≤ z3 then (some w) else (bV (f_X0_readCommand z2 w) (fun w1 => (if (w1.1 138 3) = (-1) then (if (w1.1 138 4) < (w1.1 132 1) then (bI (f_X6_at 132 (w1.1 138 4) w1) (fun r2 w2 => (if r2 = 59 then (f_X0_read_14 n ((w2.1 138 4) + 1) (z3 + 1) w2) else (some (wset w2 138 3 (w2.1 138 4)))))) else (some w1)) else (some w1)))))
set_option maxRecDepth 100000 in
theorem S_X0_read_14 {g : GC} (hl : g.1.stackTraces = false) : ∀ (n : Nat) (z2 : Int32) (z3 : Int32) (w : XW), VE g cX0_read 4 RX0 none [] (rmL 8 0 0) 0 0 oV 0 0 14 [(0, .ref (g.2.1 + 138)), (1, .ref (g.2.1 + 132)), (2, .int z2), (3, .int z3)] [] w (f_X0_read_14  n z2 z3 w) := by
  intro n
  induction n with
  | zero => intro z2 z3 w; exact v_none
  | succ n ih =>
    intro z2 z3 w
    rw [f_X0_read_14]
    refine v_iload_n dX0_read_14 rfl 3 rfl ?_
    refine v_bipush (v := 60) dX0_read_15 (by decide) ?_
    refine v_icmp_ge (tgt := 81) dX0_read_17 (by decide) ?_ ?_
    · exact v_vret dX0_read_81 rfl rfl (by decide) (by decide)
    · refine v_aload_n dX0_read_20 rfl 0 rfl ?_
      refine v_aload_n dX0_read_21 rfl 1 rfl ?_
      refine v_iload_n dX0_read_22 rfl 2 rfl ?_
      refine v_callVv (As := [.ref (g.2.1 + 132), .int z2]) cv_X0_25 (S_X0_readCommand hl) tt_138 rfl rfl rfl (Nat.le_of_ble_eq_true rfl) dX0_read_23 (CR_rm (by decide) (by decide) (by decide) (by decide)) (fun w1 => ?_)
      refine v_aload_n dX0_read_26 rfl 0 rfl ?_
      refine v_getI fl_X0_22 tt_138 rfl dX0_read_27 ?_
      refine v_iconst (v := (-1)) dX0_read_30 (by decide) ?_
      refine v_icmp_ne (tgt := 45) dX0_read_31 (by decide) ?_ ?_
      · exact v_vret dX0_read_45 rfl rfl (by decide) (by decide)
      · refine v_aload_n dX0_read_34 rfl 0 rfl ?_
        refine v_getI fl_X0_29 tt_138 rfl dX0_read_35 ?_
        refine v_aload_n dX0_read_38 rfl 1 rfl ?_
        refine v_getI fl_X0_32 tt_132 rfl dX0_read_39 ?_
        refine v_icmp_lt (tgt := 46) dX0_read_42 (by decide) ?_ ?_
        · refine v_aload_n dX0_read_46 rfl 1 rfl ?_
          refine v_aload_n dX0_read_47 rfl 0 rfl ?_
          refine v_getI fl_X0_29 tt_138 rfl dX0_read_48 ?_
          refine v_callVi (As := [.int (w1.1 138 4)]) cv_X0_37 (S_X6_at hl is6_132) tt_132 rfl rfl rfl (Nat.le_of_ble_eq_true rfl) dX0_read_51 (CR_rm (by decide) (by decide) (by decide) (by decide)) (fun r2 w2 => ?_)
          refine v_bipush (v := 59) dX0_read_54 (by decide) ?_
          refine v_icmp_eq (tgt := 68) dX0_read_56 (by decide) ?_ ?_
          · refine v_aload_n dX0_read_68 rfl 0 rfl ?_
            refine v_getI fl_X0_29 tt_138 rfl dX0_read_69 ?_
            refine v_iconst (v := 1) dX0_read_72 (by decide) ?_
            refine v_iadd dX0_read_73 ?_
            refine v_istore_n dX0_read_74 rfl (Nat.le_of_ble_eq_true rfl) rfl ?_
            refine v_iinc (v := (z3 + 1)) dX0_read_75 (q := 3) rfl rfl (Nat.le_of_ble_eq_true rfl) rfl ?_
            refine v_goto (tgt := 14) dX0_read_78 (by decide) ?_
            refine v_sub [2, 3, 1, 0] rfl ?_
            exact ih _ _ _
          · refine v_aload_n dX0_read_59 rfl 0 rfl ?_
            refine v_aload_n dX0_read_60 rfl 0 rfl ?_
            refine v_getI fl_X0_29 tt_138 rfl dX0_read_61 ?_
            refine v_putI fl_X0_22 tt_138 rfl (ty0 := .int) rfl rfl rfl dX0_read_64 ?_
            exact v_vret dX0_read_67 rfl rfl (by decide) (by decide)
        · exact v_vret dX0_read_45 rfl rfl (by decide) (by decide)
def f_X0_read (w : XW) : Option (XW) := (f_X0_read_14 1000 0 0 (wset (wset w 138 2 0) 138 3 (-1)))
set_option maxRecDepth 100000 in
theorem W_X0_read {g : GC} (hl : g.1.stackTraces = false) {w : XW} : VE g cX0_read 4 RX0 none [] (rmL 8 0 0) 0 0 oV 0 0 0 [(0, .ref (g.2.1 + 138)), (1, .ref (g.2.1 + 132))] [] w (f_X0_read  w) := by
  unfold f_X0_read
  refine v_aload_n dX0_read_0 rfl 0 rfl ?_
  refine v_iconst (v := 0) dX0_read_1 (by decide) ?_
  refine v_putI fl_X0_18 tt_138 rfl (ty0 := .int) rfl rfl rfl dX0_read_2 ?_
  refine v_aload_n dX0_read_5 rfl 0 rfl ?_
  refine v_iconst (v := (-1)) dX0_read_6 (by decide) ?_
  refine v_putI fl_X0_22 tt_138 rfl (ty0 := .int) rfl rfl rfl dX0_read_7 ?_
  refine v_iconst (v := 0) dX0_read_10 (by decide) ?_
  refine v_istore_n dX0_read_11 rfl (Nat.le_of_ble_eq_true rfl) rfl ?_
  refine v_iconst (v := 0) dX0_read_12 (by decide) ?_
  refine v_istore_n dX0_read_13 rfl (Nat.le_of_ble_eq_true rfl) rfl ?_
  refine v_sub [2, 3, 1, 0] rfl ?_
  exact S_X0_read_14 hl  _ _ _ _
theorem S_X0_read {g : GC} (hl : g.1.stackTraces = false) {w : XW} : ∀ q, f_X0_read  w = some q → MM g (.code yX0_read cX0_read 4 none) yX0_read (rmL 8 0 0) 0 0 [.ref (g.2.1 + 138), .ref (g.2.1 + 132)] w (oV q) := fun q hq => MM_of (own := RX0) hl (by decide) gw_1275 rfl (Nat.le_of_ble_eq_true rfl) (W_X0_read hl q hq) ⟨rfl, rfl⟩
