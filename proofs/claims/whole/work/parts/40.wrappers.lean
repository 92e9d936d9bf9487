theorem dL_addSection_0 : decode cL_addSection 0 = .ok (.aload_n 1, 1) := by decide +kernel
theorem dL_addSection_1 : decode cL_addSection 1 = .ok (.iconst 0, 1) := by decide +kernel
theorem dL_addSection_2 : decode cL_addSection 2 = .ok (.aload_n 0, 1) := by decide +kernel
theorem dL_addSection_3 : decode cL_addSection 3 = .ok (.invokevirtual 7, 3) := by decide +kernel
theorem dL_addSection_6 : decode cL_addSection 6 = .ok (.i2l, 1) := by decide +kernel
theorem dL_addSection_7 : decode cL_addSection 7 = .ok (.lastore, 1) := by decide +kernel
theorem dL_addSection_8 : decode cL_addSection 8 = .ok (.goto 6, 3) := by decide +kernel
theorem dL_addSection_11 : decode cL_addSection 11 = .ok (.astore_n 2, 1) := by decide +kernel
theorem dL_addSection_12 : decode cL_addSection 12 = .ok (.iconst 1, 1) := by decide +kernel
theorem dL_addSection_13 : decode cL_addSection 13 = .ok (.ireturn, 1) := by decide +kernel
theorem dL_addSection_14 : decode cL_addSection 14 = .ok (.iconst 0, 1) := by decide +kernel
theorem dL_addSection_15 : decode cL_addSection 15 = .ok (.ireturn, 1) := by decide +kernel
def f_L_addSection (w : XW) : Option (Int32 × XW) := (bCI (f_X10_addSection w) (fun r1 w1 => (some (0, (w1.1, (Int32.toInt64 r1), w1.2.2)))) (fun e1 w1 => (if e1 = "java/lang/UnsupportedOperationException" then (some (1, w1)) else none)))
set_option maxRecDepth 100000 in
theorem W_L_addSection {g : GC} (hl : g.1.stackTraces = false) {w : XW} : VE g cL_addSection 3 RL (some .int) [(0, 8, 11, 13)] (rmL 11 1 6) 1 6 oI 0 0 0 [(0, .ref (g.2.1 + 0)), (1, .ref (g.2.1 + 150))] [] w (f_L_addSection  w) := by
  unfold f_L_addSection
  refine v_aload_n dL_addSection_0 rfl 1 rfl ?_
  refine v_iconst (v := 0) dL_addSection_1 (by decide) ?_
  refine v_aload_n dL_addSection_2 rfl 0 rfl ?_
  refine v_callVic (As := []) cv_L_7 (S_X10_addSection hl) tt_0 rfl rfl rfl (Nat.le_of_ble_eq_true rfl) dL_addSection_3 (CR_rm (by decide) (by decide) (by decide) (by decide)) (fun r1 w1 => ?_) (fun e1 w1 => ?_)
  · refine v_i2l dL_addSection_6 ?_
    refine v_last0 dL_addSection_7 ?_
    refine v_goto (tgt := 14) dL_addSection_8 (by decide) ?_
    refine v_iconst (v := 0) dL_addSection_14 (by decide) ?_
    exact v_iret dL_addSection_15 rfl rfl (by decide) (by decide)
  · refine v_xsplit ?_ ?_
    · refine v_catch [] (0, 8, 11, 13) [] rfl (fun _ h => absurd h List.not_mem_nil) (by decide) (by decide) gw_544 (by decide) (fun q1 => ?_)
      refine v_astore_n dL_addSection_11 rfl (Nat.le_of_ble_eq_true rfl) rfl ?_
      refine v_iconst (v := 1) dL_addSection_12 (by decide) ?_
      exact v_iret dL_addSection_13 rfl rfl (by decide) (by decide)
    · exact v_xnone
theorem S_L_addSection {g : GC} (hl : g.1.stackTraces = false) {w : XW} : ∀ q, f_L_addSection  w = some q → MM g (.codeWith yL_addSection cL_addSection 3 (some .int) [(0, 8, 11, 13)]) yL_addSection (rmL 11 1 6) 1 6 [.ref (g.2.1 + 0), .ref (g.2.1 + 150)] w (oI q) := fun q hq => MM_ofH (own := RL) hl (by decide) gw_543 rfl (Nat.le_of_ble_eq_true rfl) (W_L_addSection hl q hq) ⟨rfl, rfl⟩

theorem dL_pour_0 : decode cL_pour 0 = .ok (.aload_n 3, 1) := by decide +kernel
theorem dL_pour_1 : decode cL_pour 1 = .ok (.iconst 0, 1) := by decide +kernel
theorem dL_pour_2 : decode cL_pour 2 = .ok (.aload_n 0, 1) := by decide +kernel
theorem dL_pour_3 : decode cL_pour 3 = .ok (.iload_n 1, 1) := by decide +kernel
theorem dL_pour_4 : decode cL_pour 4 = .ok (.iload_n 2, 1) := by decide +kernel
theorem dL_pour_5 : decode cL_pour 5 = .ok (.invokevirtual 15, 3) := by decide +kernel
theorem dL_pour_8 : decode cL_pour 8 = .ok (.i2l, 1) := by decide +kernel
theorem dL_pour_9 : decode cL_pour 9 = .ok (.lastore, 1) := by decide +kernel
theorem dL_pour_10 : decode cL_pour 10 = .ok (.goto 15, 3) := by decide +kernel
theorem dL_pour_13 : decode cL_pour 13 = .ok (.astore 4, 2) := by decide +kernel
theorem dL_pour_15 : decode cL_pour 15 = .ok (.iconst 1, 1) := by decide +kernel
theorem dL_pour_16 : decode cL_pour 16 = .ok (.ireturn, 1) := by decide +kernel
theorem dL_pour_17 : decode cL_pour 17 = .ok (.astore 4, 2) := by decide +kernel
theorem dL_pour_19 : decode cL_pour 19 = .ok (.iconst 2, 1) := by decide +kernel
theorem dL_pour_20 : decode cL_pour 20 = .ok (.ireturn, 1) := by decide +kernel
theorem dL_pour_21 : decode cL_pour 21 = .ok (.astore 4, 2) := by decide +kernel
theorem dL_pour_23 : decode cL_pour 23 = .ok (.iconst 3, 1) := by decide +kernel
theorem dL_pour_24 : decode cL_pour 24 = .ok (.ireturn, 1) := by decide +kernel
theorem dL_pour_25 : decode cL_pour 25 = .ok (.iconst 0, 1) := by decide +kernel
theorem dL_pour_26 : decode cL_pour 26 = .ok (.ireturn, 1) := by decide +kernel
def f_L_pour (x1 : Int32) (x2 : Int32) (w : XW) : Option (Int32 × XW) := (bCI (f_X10_pour x1 x2 w) (fun r1 w1 => (some (0, (w1.1, (Int32.toInt64 r1), w1.2.2)))) (fun e1 w1 => (if e1 = "java/lang/IndexOutOfBoundsException" then (some (1, w1)) else (if e1 = "java/lang/IllegalArgumentException" then (some (2, w1)) else (if e1 = "java/lang/UnsupportedOperationException" then (some (3, w1)) else none)))))
set_option maxRecDepth 100000 in
theorem W_L_pour {g : GC} (hl : g.1.stackTraces = false) {x1 : Int32} {x2 : Int32} {w : XW} : VE g cL_pour 5 RL (some .int) [(0, 10, 13, 19), (0, 10, 17, 21), (0, 10, 21, 13)] (rmL 11 1 6) 1 6 oI 0 0 0 [(0, .ref (g.2.1 + 0)), (1, .int x1), (2, .int x2), (3, .ref (g.2.1 + 150))] [] w (f_L_pour x1 x2 w) := by
  unfold f_L_pour
  refine v_aload_n dL_pour_0 rfl 3 rfl ?_
  refine v_iconst (v := 0) dL_pour_1 (by decide) ?_
  refine v_aload_n dL_pour_2 rfl 0 rfl ?_
  refine v_iload_n dL_pour_3 rfl 1 rfl ?_
  refine v_iload_n dL_pour_4 rfl 2 rfl ?_
  refine v_callVic (As := [.int x1, .int x2]) cv_L_15 (S_X10_pour hl) tt_0 rfl rfl rfl (Nat.le_of_ble_eq_true rfl) dL_pour_5 (CR_rm (by decide) (by decide) (by decide) (by decide)) (fun r1 w1 => ?_) (fun e1 w1 => ?_)
  · refine v_i2l dL_pour_8 ?_
    refine v_last0 dL_pour_9 ?_
    refine v_goto (tgt := 25) dL_pour_10 (by decide) ?_
    refine v_iconst (v := 0) dL_pour_25 (by decide) ?_
    exact v_iret dL_pour_26 rfl rfl (by decide) (by decide)
  · refine v_xsplit ?_ ?_
    · refine v_catch [] (0, 10, 13, 19) [(0, 10, 17, 21), (0, 10, 21, 13)] rfl (fun _ h => absurd h List.not_mem_nil) (by decide) (by decide) gw_857 (by decide) (fun q1 => ?_)
      refine v_astore dL_pour_13 (Nat.le_of_ble_eq_true rfl) rfl ?_
      refine v_iconst (v := 1) dL_pour_15 (by decide) ?_
      exact v_iret dL_pour_16 rfl rfl (by decide) (by decide)
    · refine v_xsplit ?_ ?_
      · refine v_catch [(0, 10, 13, 19)] (0, 10, 17, 21) [(0, 10, 21, 13)] rfl (List.forall_mem_cons.mpr ⟨⟨by decide, _, gw_857, by decide⟩, fun _ h => absurd h List.not_mem_nil⟩) (by decide) (by decide) gw_890 (by decide) (fun q1 => ?_)
        refine v_astore dL_pour_17 (Nat.le_of_ble_eq_true rfl) rfl ?_
        refine v_iconst (v := 2) dL_pour_19 (by decide) ?_
        exact v_iret dL_pour_20 rfl rfl (by decide) (by decide)
      · refine v_xsplit ?_ ?_
        · refine v_catch [(0, 10, 13, 19), (0, 10, 17, 21)] (0, 10, 21, 13) [] rfl (List.forall_mem_cons.mpr ⟨⟨by decide, _, gw_857, by decide⟩, List.forall_mem_cons.mpr ⟨⟨by decide, _, gw_890, by decide⟩, fun _ h => absurd h List.not_mem_nil⟩⟩) (by decide) (by decide) gw_544 (by decide) (fun q1 => ?_)
          refine v_astore dL_pour_21 (Nat.le_of_ble_eq_true rfl) rfl ?_
          refine v_iconst (v := 3) dL_pour_23 (by decide) ?_
          exact v_iret dL_pour_24 rfl rfl (by decide) (by decide)
        · exact v_xnone
theorem S_L_pour {g : GC} (hl : g.1.stackTraces = false) {x1 : Int32} {x2 : Int32} {w : XW} : ∀ q, f_L_pour x1 x2 w = some q → MM g (.codeWith yL_pour cL_pour 5 (some .int) [(0, 10, 13, 19), (0, 10, 17, 21), (0, 10, 21, 13)]) yL_pour (rmL 11 1 6) 1 6 [.ref (g.2.1 + 0), .int x1, .int x2, .ref (g.2.1 + 150)] w (oI q) := fun q hq => MM_ofH (own := RL) hl (by decide) gw_856 rfl (Nat.le_of_ble_eq_true rfl) (W_L_pour hl q hq) ⟨rfl, rfl⟩

theorem dL_tag_0 : decode cL_tag 0 = .ok (.aload_n 3, 1) := by decide +kernel
theorem dL_tag_1 : decode cL_tag 1 = .ok (.iconst 0, 1) := by decide +kernel
theorem dL_tag_2 : decode cL_tag 2 = .ok (.aload_n 0, 1) := by decide +kernel
theorem dL_tag_3 : decode cL_tag 3 = .ok (.iload_n 1, 1) := by decide +kernel
theorem dL_tag_4 : decode cL_tag 4 = .ok (.iload_n 2, 1) := by decide +kernel
theorem dL_tag_5 : decode cL_tag 5 = .ok (.invokevirtual 23, 3) := by decide +kernel
theorem dL_tag_8 : decode cL_tag 8 = .ok (.i2l, 1) := by decide +kernel
theorem dL_tag_9 : decode cL_tag 9 = .ok (.lastore, 1) := by decide +kernel
theorem dL_tag_10 : decode cL_tag 10 = .ok (.goto 15, 3) := by decide +kernel
theorem dL_tag_13 : decode cL_tag 13 = .ok (.astore 4, 2) := by decide +kernel
theorem dL_tag_15 : decode cL_tag 15 = .ok (.iconst 1, 1) := by decide +kernel
theorem dL_tag_16 : decode cL_tag 16 = .ok (.ireturn, 1) := by decide +kernel
theorem dL_tag_17 : decode cL_tag 17 = .ok (.astore 4, 2) := by decide +kernel
theorem dL_tag_19 : decode cL_tag 19 = .ok (.iconst 2, 1) := by decide +kernel
theorem dL_tag_20 : decode cL_tag 20 = .ok (.ireturn, 1) := by decide +kernel
theorem dL_tag_21 : decode cL_tag 21 = .ok (.astore 4, 2) := by decide +kernel
theorem dL_tag_23 : decode cL_tag 23 = .ok (.iconst 3, 1) := by decide +kernel
theorem dL_tag_24 : decode cL_tag 24 = .ok (.ireturn, 1) := by decide +kernel
theorem dL_tag_25 : decode cL_tag 25 = .ok (.iconst 0, 1) := by decide +kernel
theorem dL_tag_26 : decode cL_tag 26 = .ok (.ireturn, 1) := by decide +kernel
def f_L_tag (x1 : Int32) (x2 : Int32) (w : XW) : Option (Int32 × XW) := (bCI (f_X10_tag x1 x2 w) (fun r1 w1 => (some (0, (w1.1, (Int32.toInt64 r1), w1.2.2)))) (fun e1 w1 => (if e1 = "java/lang/IndexOutOfBoundsException" then (some (1, w1)) else (if e1 = "java/lang/IllegalArgumentException" then (some (2, w1)) else (if e1 = "java/lang/UnsupportedOperationException" then (some (3, w1)) else none)))))
set_option maxRecDepth 100000 in
theorem W_L_tag {g : GC} (hl : g.1.stackTraces = false) {x1 : Int32} {x2 : Int32} {w : XW} : VE g cL_tag 5 RL (some .int) [(0, 10, 13, 19), (0, 10, 17, 21), (0, 10, 21, 13)] (rmL 11 1 6) 1 6 oI 0 0 0 [(0, .ref (g.2.1 + 0)), (1, .int x1), (2, .int x2), (3, .ref (g.2.1 + 150))] [] w (f_L_tag x1 x2 w) := by
  unfold f_L_tag
  refine v_aload_n dL_tag_0 rfl 3 rfl ?_
  refine v_iconst (v := 0) dL_tag_1 (by decide) ?_
  refine v_aload_n dL_tag_2 rfl 0 rfl ?_
  refine v_iload_n dL_tag_3 rfl 1 rfl ?_
  refine v_iload_n dL_tag_4 rfl 2 rfl ?_
  refine v_callVic (As := [.int x1, .int x2]) cv_L_23 (S_X10_tag hl) tt_0 rfl rfl rfl (Nat.le_of_ble_eq_true rfl) dL_tag_5 (CR_rm (by decide) (by decide) (by decide) (by decide)) (fun r1 w1 => ?_) (fun e1 w1 => ?_)
  · refine v_i2l dL_tag_8 ?_
    refine v_last0 dL_tag_9 ?_
    refine v_goto (tgt := 25) dL_tag_10 (by decide) ?_
    refine v_iconst (v := 0) dL_tag_25 (by decide) ?_
    exact v_iret dL_tag_26 rfl rfl (by decide) (by decide)
  · refine v_xsplit ?_ ?_
    · refine v_catch [] (0, 10, 13, 19) [(0, 10, 17, 21), (0, 10, 21, 13)] rfl (fun _ h => absurd h List.not_mem_nil) (by decide) (by decide) gw_857 (by decide) (fun q1 => ?_)
      refine v_astore dL_tag_13 (Nat.le_of_ble_eq_true rfl) rfl ?_
      refine v_iconst (v := 1) dL_tag_15 (by decide) ?_
      exact v_iret dL_tag_16 rfl rfl (by decide) (by decide)
    · refine v_xsplit ?_ ?_
      · refine v_catch [(0, 10, 13, 19)] (0, 10, 17, 21) [(0, 10, 21, 13)] rfl (List.forall_mem_cons.mpr ⟨⟨by decide, _, gw_857, by decide⟩, fun _ h => absurd h List.not_mem_nil⟩) (by decide) (by decide) gw_890 (by decide) (fun q1 => ?_)
        refine v_astore dL_tag_17 (Nat.le_of_ble_eq_true rfl) rfl ?_
        refine v_iconst (v := 2) dL_tag_19 (by decide) ?_
        exact v_iret dL_tag_20 rfl rfl (by decide) (by decide)
      · refine v_xsplit ?_ ?_
        · refine v_catch [(0, 10, 13, 19), (0, 10, 17, 21)] (0, 10, 21, 13) [] rfl (List.forall_mem_cons.mpr ⟨⟨by decide, _, gw_857, by decide⟩, List.forall_mem_cons.mpr ⟨⟨by decide, _, gw_890, by decide⟩, fun _ h => absurd h List.not_mem_nil⟩⟩) (by decide) (by decide) gw_544 (by decide) (fun q1 => ?_)
          refine v_astore dL_tag_21 (Nat.le_of_ble_eq_true rfl) rfl ?_
          refine v_iconst (v := 3) dL_tag_23 (by decide) ?_
          exact v_iret dL_tag_24 rfl rfl (by decide) (by decide)
        · exact v_xnone
theorem S_L_tag {g : GC} (hl : g.1.stackTraces = false) {x1 : Int32} {x2 : Int32} {w : XW} : ∀ q, f_L_tag x1 x2 w = some q → MM g (.codeWith yL_tag cL_tag 5 (some .int) [(0, 10, 13, 19), (0, 10, 17, 21), (0, 10, 21, 13)]) yL_tag (rmL 11 1 6) 1 6 [.ref (g.2.1 + 0), .int x1, .int x2, .ref (g.2.1 + 150)] w (oI q) := fun q hq => MM_ofH (own := RL) hl (by decide) gw_897 rfl (Nat.le_of_ble_eq_true rfl) (W_L_tag hl q hq) ⟨rfl, rfl⟩

theorem dL_untag_0 : decode cL_untag 0 = .ok (.aload_n 3, 1) := by decide +kernel
theorem dL_untag_1 : decode cL_untag 1 = .ok (.iconst 0, 1) := by decide +kernel
theorem dL_untag_2 : decode cL_untag 2 = .ok (.aload_n 0, 1) := by decide +kernel
theorem dL_untag_3 : decode cL_untag 3 = .ok (.iload_n 1, 1) := by decide +kernel
theorem dL_untag_4 : decode cL_untag 4 = .ok (.iload_n 2, 1) := by decide +kernel
theorem dL_untag_5 : decode cL_untag 5 = .ok (.invokevirtual 27, 3) := by decide +kernel
theorem dL_untag_8 : decode cL_untag 8 = .ok (.i2l, 1) := by decide +kernel
theorem dL_untag_9 : decode cL_untag 9 = .ok (.lastore, 1) := by decide +kernel
theorem dL_untag_10 : decode cL_untag 10 = .ok (.goto 15, 3) := by decide +kernel
theorem dL_untag_13 : decode cL_untag 13 = .ok (.astore 4, 2) := by decide +kernel
theorem dL_untag_15 : decode cL_untag 15 = .ok (.iconst 1, 1) := by decide +kernel
theorem dL_untag_16 : decode cL_untag 16 = .ok (.ireturn, 1) := by decide +kernel
theorem dL_untag_17 : decode cL_untag 17 = .ok (.astore 4, 2) := by decide +kernel
theorem dL_untag_19 : decode cL_untag 19 = .ok (.iconst 2, 1) := by decide +kernel
theorem dL_untag_20 : decode cL_untag 20 = .ok (.ireturn, 1) := by decide +kernel
theorem dL_untag_21 : decode cL_untag 21 = .ok (.astore 4, 2) := by decide +kernel
theorem dL_untag_23 : decode cL_untag 23 = .ok (.iconst 3, 1) := by decide +kernel
theorem dL_untag_24 : decode cL_untag 24 = .ok (.ireturn, 1) := by decide +kernel
theorem dL_untag_25 : decode cL_untag 25 = .ok (.iconst 0, 1) := by decide +kernel
theorem dL_untag_26 : decode cL_untag 26 = .ok (.ireturn, 1) := by decide +kernel
def f_L_untag (x1 : Int32) (x2 : Int32) (w : XW) : Option (Int32 × XW) := (bCI (f_X10_untag x1 x2 w) (fun r1 w1 => (some (0, (w1.1, (Int32.toInt64 r1), w1.2.2)))) (fun e1 w1 => (if e1 = "java/lang/IndexOutOfBoundsException" then (some (1, w1)) else (if e1 = "java/lang/IllegalArgumentException" then (some (2, w1)) else (if e1 = "java/lang/UnsupportedOperationException" then (some (3, w1)) else none)))))
set_option maxRecDepth 100000 in
theorem W_L_untag {g : GC} (hl : g.1.stackTraces = false) {x1 : Int32} {x2 : Int32} {w : XW} : VE g cL_untag 5 RL (some .int) [(0, 10, 13, 19), (0, 10, 17, 21), (0, 10, 21, 13)] (rmL 11 1 6) 1 6 oI 0 0 0 [(0, .ref (g.2.1 + 0)), (1, .int x1), (2, .int x2), (3, .ref (g.2.1 + 150))] [] w (f_L_untag x1 x2 w) := by
  unfold f_L_untag
  refine v_aload_n dL_untag_0 rfl 3 rfl ?_
  refine v_iconst (v := 0) dL_untag_1 (by decide) ?_
  refine v_aload_n dL_untag_2 rfl 0 rfl ?_
  refine v_iload_n dL_untag_3 rfl 1 rfl ?_
  refine v_iload_n dL_untag_4 rfl 2 rfl ?_
  refine v_callVic (As := [.int x1, .int x2]) cv_L_27 (S_X10_untag hl) tt_0 rfl rfl rfl (Nat.le_of_ble_eq_true rfl) dL_untag_5 (CR_rm (by decide) (by decide) (by decide) (by decide)) (fun r1 w1 => ?_) (fun e1 w1 => ?_)
  · refine v_i2l dL_untag_8 ?_
    refine v_last0 dL_untag_9 ?_
    refine v_goto (tgt := 25) dL_untag_10 (by decide) ?_
    refine v_iconst (v := 0) dL_untag_25 (by decide) ?_
    exact v_iret dL_untag_26 rfl rfl (by decide) (by decide)
  · refine v_xsplit ?_ ?_
    · refine v_catch [] (0, 10, 13, 19) [(0, 10, 17, 21), (0, 10, 21, 13)] rfl (fun _ h => absurd h List.not_mem_nil) (by decide) (by decide) gw_857 (by decide) (fun q1 => ?_)
      refine v_astore dL_untag_13 (Nat.le_of_ble_eq_true rfl) rfl ?_
      refine v_iconst (v := 1) dL_untag_15 (by decide) ?_
      exact v_iret dL_untag_16 rfl rfl (by decide) (by decide)
    · refine v_xsplit ?_ ?_
      · refine v_catch [(0, 10, 13, 19)] (0, 10, 17, 21) [(0, 10, 21, 13)] rfl (List.forall_mem_cons.mpr ⟨⟨by decide, _, gw_857, by decide⟩, fun _ h => absurd h List.not_mem_nil⟩) (by decide) (by decide) gw_890 (by decide) (fun q1 => ?_)
        refine v_astore dL_untag_17 (Nat.le_of_ble_eq_true rfl) rfl ?_
        refine v_iconst (v := 2) dL_untag_19 (by decide) ?_
        exact v_iret dL_untag_20 rfl rfl (by decide) (by decide)
      · refine v_xsplit ?_ ?_
        · refine v_catch [(0, 10, 13, 19), (0, 10, 17, 21)] (0, 10, 21, 13) [] rfl (List.forall_mem_cons.mpr ⟨⟨by decide, _, gw_857, by decide⟩, List.forall_mem_cons.mpr ⟨⟨by decide, _, gw_890, by decide⟩, fun _ h => absurd h List.not_mem_nil⟩⟩) (by decide) (by decide) gw_544 (by decide) (fun q1 => ?_)
          refine v_astore dL_untag_21 (Nat.le_of_ble_eq_true rfl) rfl ?_
          refine v_iconst (v := 3) dL_untag_23 (by decide) ?_
          exact v_iret dL_untag_24 rfl rfl (by decide) (by decide)
        · exact v_xnone
theorem S_L_untag {g : GC} (hl : g.1.stackTraces = false) {x1 : Int32} {x2 : Int32} {w : XW} : ∀ q, f_L_untag x1 x2 w = some q → MM g (.codeWith yL_untag cL_untag 5 (some .int) [(0, 10, 13, 19), (0, 10, 17, 21), (0, 10, 21, 13)]) yL_untag (rmL 11 1 6) 1 6 [.ref (g.2.1 + 0), .int x1, .int x2, .ref (g.2.1 + 150)] w (oI q) := fun q hq => MM_ofH (own := RL) hl (by decide) gw_904 rfl (Nat.le_of_ble_eq_true rfl) (W_L_untag hl q hq) ⟨rfl, rfl⟩

theorem dL_water_0 : decode cL_water 0 = .ok (.aload_n 2, 1) := by decide +kernel
theorem dL_water_1 : decode cL_water 1 = .ok (.iconst 0, 1) := by decide +kernel
theorem dL_water_2 : decode cL_water 2 = .ok (.aload_n 0, 1) := by decide +kernel
theorem dL_water_3 : decode cL_water 3 = .ok (.iload_n 1, 1) := by decide +kernel
theorem dL_water_4 : decode cL_water 4 = .ok (.invokevirtual 30, 3) := by decide +kernel
theorem dL_water_7 : decode cL_water 7 = .ok (.i2l, 1) := by decide +kernel
theorem dL_water_8 : decode cL_water 8 = .ok (.lastore, 1) := by decide +kernel
theorem dL_water_9 : decode cL_water 9 = .ok (.goto 6, 3) := by decide +kernel
theorem dL_water_12 : decode cL_water 12 = .ok (.astore_n 3, 1) := by decide +kernel
theorem dL_water_13 : decode cL_water 13 = .ok (.iconst 1, 1) := by decide +kernel
theorem dL_water_14 : decode cL_water 14 = .ok (.ireturn, 1) := by decide +kernel
theorem dL_water_15 : decode cL_water 15 = .ok (.iconst 0, 1) := by decide +kernel
theorem dL_water_16 : decode cL_water 16 = .ok (.ireturn, 1) := by decide +kernel
def f_L_water (x1 : Int32) (w : XW) : Option (Int32 × XW) := (bCI (f_X10_water x1 w) (fun r1 w1 => (some (0, (w1.1, (Int32.toInt64 r1), w1.2.2)))) (fun e1 w1 => (if e1 = "java/lang/IndexOutOfBoundsException" then (some (1, w1)) else none)))
set_option maxRecDepth 100000 in
theorem W_L_water {g : GC} (hl : g.1.stackTraces = false) {x1 : Int32} {w : XW} : VE g cL_water 4 RL (some .int) [(0, 9, 12, 19)] (rmL 6 1 6) 1 6 oI 0 0 0 [(0, .ref (g.2.1 + 0)), (1, .int x1), (2, .ref (g.2.1 + 150))] [] w (f_L_water x1 w) := by
  unfold f_L_water
  refine v_aload_n dL_water_0 rfl 2 rfl ?_
  refine v_iconst (v := 0) dL_water_1 (by decide) ?_
  refine v_aload_n dL_water_2 rfl 0 rfl ?_
  refine v_iload_n dL_water_3 rfl 1 rfl ?_
  refine v_callVic (As := [.int x1]) cv_L_30 (S_X10_water hl) tt_0 rfl rfl rfl (Nat.le_of_ble_eq_true rfl) dL_water_4 (CR_rm (by decide) (by decide) (by decide) (by decide)) (fun r1 w1 => ?_) (fun e1 w1 => ?_)
  · refine v_i2l dL_water_7 ?_
    refine v_last0 dL_water_8 ?_
    refine v_goto (tgt := 15) dL_water_9 (by decide) ?_
    refine v_iconst (v := 0) dL_water_15 (by decide) ?_
    exact v_iret dL_water_16 rfl rfl (by decide) (by decide)
  · refine v_xsplit ?_ ?_
    · refine v_catch [] (0, 9, 12, 19) [] rfl (fun _ h => absurd h List.not_mem_nil) (by decide) (by decide) gw_857 (by decide) (fun q1 => ?_)
      refine v_astore_n dL_water_12 rfl (Nat.le_of_ble_eq_true rfl) rfl ?_
      refine v_iconst (v := 1) dL_water_13 (by decide) ?_
      exact v_iret dL_water_14 rfl rfl (by decide) (by decide)
    · exact v_xnone
theorem S_L_water {g : GC} (hl : g.1.stackTraces = false) {x1 : Int32} {w : XW} : ∀ q, f_L_water x1 w = some q → MM g (.codeWith yL_water cL_water 4 (some .int) [(0, 9, 12, 19)]) yL_water (rmL 6 1 6) 1 6 [.ref (g.2.1 + 0), .int x1, .ref (g.2.1 + 150)] w (oI q) := fun q hq => MM_ofH (own := RL) hl (by decide) gw_911 rfl (Nat.le_of_ble_eq_true rfl) (W_L_water hl q hq) ⟨rfl, rfl⟩

theorem dL_hasTerm_0 : decode cL_hasTerm 0 = .ok (.aload_n 3, 1) := by decide +kernel
theorem dL_hasTerm_1 : decode cL_hasTerm 1 = .ok (.iconst 0, 1) := by decide +kernel
theorem dL_hasTerm_2 : decode cL_hasTerm 2 = .ok (.aload_n 0, 1) := by decide +kernel
theorem dL_hasTerm_3 : decode cL_hasTerm 3 = .ok (.iload_n 1, 1) := by decide +kernel
theorem dL_hasTerm_4 : decode cL_hasTerm 4 = .ok (.iload_n 2, 1) := by decide +kernel
theorem dL_hasTerm_5 : decode cL_hasTerm 5 = .ok (.invokevirtual 34, 3) := by decide +kernel
theorem dL_hasTerm_8 : decode cL_hasTerm 8 = .ok (.ifCond .eq 7, 3) := by decide +kernel
theorem dL_hasTerm_11 : decode cL_hasTerm 11 = .ok (.lconst 1, 1) := by decide +kernel
theorem dL_hasTerm_12 : decode cL_hasTerm 12 = .ok (.goto 4, 3) := by decide +kernel
theorem dL_hasTerm_15 : decode cL_hasTerm 15 = .ok (.lconst 0, 1) := by decide +kernel
theorem dL_hasTerm_16 : decode cL_hasTerm 16 = .ok (.lastore, 1) := by decide +kernel
theorem dL_hasTerm_17 : decode cL_hasTerm 17 = .ok (.goto 11, 3) := by decide +kernel
theorem dL_hasTerm_20 : decode cL_hasTerm 20 = .ok (.astore 4, 2) := by decide +kernel
theorem dL_hasTerm_22 : decode cL_hasTerm 22 = .ok (.iconst 1, 1) := by decide +kernel
theorem dL_hasTerm_23 : decode cL_hasTerm 23 = .ok (.ireturn, 1) := by decide +kernel
theorem dL_hasTerm_24 : decode cL_hasTerm 24 = .ok (.astore 4, 2) := by decide +kernel
theorem dL_hasTerm_26 : decode cL_hasTerm 26 = .ok (.iconst 2, 1) := by decide +kernel
theorem dL_hasTerm_27 : decode cL_hasTerm 27 = .ok (.ireturn, 1) := by decide +kernel
theorem dL_hasTerm_28 : decode cL_hasTerm 28 = .ok (.iconst 0, 1) := by decide +kernel
theorem dL_hasTerm_29 : decode cL_hasTerm 29 = .ok (.ireturn, 1) := by decide +kernel
def f_L_hasTerm (x1 : Int32) (x2 : Int32) (w : XW) : Option (Int32 × XW) := (bCI (f_X10_hasTerm x1 x2 w) (fun r1 w1 => (if r1 = 0 then (some (0, (w1.1, 0, w1.2.2))) else (some (0, (w1.1, 1, w1.2.2))))) (fun e1 w1 => (if e1 = "java/lang/IndexOutOfBoundsException" then (some (1, w1)) else (if e1 = "java/lang/IllegalArgumentException" then (some (2, w1)) else none))))
set_option maxRecDepth 100000 in
theorem W_L_hasTerm {g : GC} (hl : g.1.stackTraces = false) {x1 : Int32} {x2 : Int32} {w : XW} : VE g cL_hasTerm 5 RL (some .int) [(0, 17, 20, 19), (0, 17, 24, 21)] (rmL 7 2 12) 2 12 oI 0 0 0 [(0, .ref (g.2.1 + 0)), (1, .int x1), (2, .int x2), (3, .ref (g.2.1 + 150))] [] w (f_L_hasTerm x1 x2 w) := by
  unfold f_L_hasTerm
  refine v_aload_n dL_hasTerm_0 rfl 3 rfl ?_
  refine v_iconst (v := 0) dL_hasTerm_1 (by decide) ?_
  refine v_aload_n dL_hasTerm_2 rfl 0 rfl ?_
  refine v_iload_n dL_hasTerm_3 rfl 1 rfl ?_
  refine v_iload_n dL_hasTerm_4 rfl 2 rfl ?_
  refine v_callVic (As := [.int x1, .int x2]) cv_L_34 (S_X10_hasTerm hl) tt_0 rfl rfl rfl (Nat.le_of_ble_eq_true rfl) dL_hasTerm_5 (CR_rm (by decide) (by decide) (by decide) (by decide)) (fun r1 w1 => ?_) (fun e1 w1 => ?_)
  · refine v_if_eq (tgt := 15) dL_hasTerm_8 (by decide) ?_ ?_
    · refine v_lconst (v := 0) dL_hasTerm_15 rfl ?_
      refine v_last0 dL_hasTerm_16 ?_
      refine v_goto (tgt := 28) dL_hasTerm_17 (by decide) ?_
      refine v_iconst (v := 0) dL_hasTerm_28 (by decide) ?_
      exact v_iret dL_hasTerm_29 rfl rfl (by decide) (by decide)
    · refine v_lconst (v := 1) dL_hasTerm_11 rfl ?_
      refine v_goto (tgt := 16) dL_hasTerm_12 (by decide) ?_
      refine v_last0 dL_hasTerm_16 ?_
      refine v_goto (tgt := 28) dL_hasTerm_17 (by decide) ?_
      refine v_iconst (v := 0) dL_hasTerm_28 (by decide) ?_
      exact v_iret dL_hasTerm_29 rfl rfl (by decide) (by decide)
  · refine v_xsplit ?_ ?_
    · refine v_catch [] (0, 17, 20, 19) [(0, 17, 24, 21)] rfl (fun _ h => absurd h List.not_mem_nil) (by decide) (by decide) gw_857 (by decide) (fun q1 => ?_)
      refine v_astore dL_hasTerm_20 (Nat.le_of_ble_eq_true rfl) rfl ?_
      refine v_iconst (v := 1) dL_hasTerm_22 (by decide) ?_
      exact v_iret dL_hasTerm_23 rfl rfl (by decide) (by decide)
    · refine v_xsplit ?_ ?_
      · refine v_catch [(0, 17, 20, 19)] (0, 17, 24, 21) [] rfl (List.forall_mem_cons.mpr ⟨⟨by decide, _, gw_857, by decide⟩, fun _ h => absurd h List.not_mem_nil⟩) (by decide) (by decide) gw_890 (by decide) (fun q1 => ?_)
        refine v_astore dL_hasTerm_24 (Nat.le_of_ble_eq_true rfl) rfl ?_
        refine v_iconst (v := 2) dL_hasTerm_26 (by decide) ?_
        exact v_iret dL_hasTerm_27 rfl rfl (by decide) (by decide)
      · exact v_xnone
theorem S_L_hasTerm {g : GC} (hl : g.1.stackTraces = false) {x1 : Int32} {x2 : Int32} {w : XW} : ∀ q, f_L_hasTerm x1 x2 w = some q → MM g (.codeWith yL_hasTerm cL_hasTerm 5 (some .int) [(0, 17, 20, 19), (0, 17, 24, 21)]) yL_hasTerm (rmL 7 2 12) 2 12 [.ref (g.2.1 + 0), .int x1, .int x2, .ref (g.2.1 + 150)] w (oI q) := fun q hq => MM_ofH (own := RL) hl (by decide) gw_924 rfl (Nat.le_of_ble_eq_true rfl) (W_L_hasTerm hl q hq) ⟨rfl, rfl⟩

theorem dL_sectionsWith_0 : decode cL_sectionsWith 0 = .ok (.aload_n 2, 1) := by decide +kernel
theorem dL_sectionsWith_1 : decode cL_sectionsWith 1 = .ok (.iconst 0, 1) := by decide +kernel
theorem dL_sectionsWith_2 : decode cL_sectionsWith 2 = .ok (.aload_n 0, 1) := by decide +kernel
theorem dL_sectionsWith_3 : decode cL_sectionsWith 3 = .ok (.iload_n 1, 1) := by decide +kernel
theorem dL_sectionsWith_4 : decode cL_sectionsWith 4 = .ok (.invokevirtual 38, 3) := by decide +kernel
theorem dL_sectionsWith_7 : decode cL_sectionsWith 7 = .ok (.i2l, 1) := by decide +kernel
theorem dL_sectionsWith_8 : decode cL_sectionsWith 8 = .ok (.lastore, 1) := by decide +kernel
theorem dL_sectionsWith_9 : decode cL_sectionsWith 9 = .ok (.goto 6, 3) := by decide +kernel
theorem dL_sectionsWith_12 : decode cL_sectionsWith 12 = .ok (.astore_n 3, 1) := by decide +kernel
theorem dL_sectionsWith_13 : decode cL_sectionsWith 13 = .ok (.iconst 1, 1) := by decide +kernel
theorem dL_sectionsWith_14 : decode cL_sectionsWith 14 = .ok (.ireturn, 1) := by decide +kernel
theorem dL_sectionsWith_15 : decode cL_sectionsWith 15 = .ok (.iconst 0, 1) := by decide +kernel
theorem dL_sectionsWith_16 : decode cL_sectionsWith 16 = .ok (.ireturn, 1) := by decide +kernel
def f_L_sectionsWith (x1 : Int32) (w : XW) : Option (Int32 × XW) := (bCI (f_X10_sectionsWith x1 w) (fun r1 w1 => (some (0, (w1.1, (Int32.toInt64 r1), w1.2.2)))) (fun e1 w1 => (if e1 = "java/lang/IllegalArgumentException" then (some (1, w1)) else none)))
set_option maxRecDepth 100000 in
theorem W_L_sectionsWith {g : GC} (hl : g.1.stackTraces = false) {x1 : Int32} {w : XW} : VE g cL_sectionsWith 4 RL (some .int) [(0, 9, 12, 21)] (rmL 8 1 6) 1 6 oI 0 0 0 [(0, .ref (g.2.1 + 0)), (1, .int x1), (2, .ref (g.2.1 + 150))] [] w (f_L_sectionsWith x1 w) := by
  unfold f_L_sectionsWith
  refine v_aload_n dL_sectionsWith_0 rfl 2 rfl ?_
  refine v_iconst (v := 0) dL_sectionsWith_1 (by decide) ?_
  refine v_aload_n dL_sectionsWith_2 rfl 0 rfl ?_
  refine v_iload_n dL_sectionsWith_3 rfl 1 rfl ?_
  refine v_callVic (As := [.int x1]) cv_L_38 (S_X10_sectionsWith hl) tt_0 rfl rfl rfl (Nat.le_of_ble_eq_true rfl) dL_sectionsWith_4 (CR_rm (by decide) (by decide) (by decide) (by decide)) (fun r1 w1 => ?_) (fun e1 w1 => ?_)
  · refine v_i2l dL_sectionsWith_7 ?_
    refine v_last0 dL_sectionsWith_8 ?_
    refine v_goto (tgt := 15) dL_sectionsWith_9 (by decide) ?_
    refine v_iconst (v := 0) dL_sectionsWith_15 (by decide) ?_
    exact v_iret dL_sectionsWith_16 rfl rfl (by decide) (by decide)
  · refine v_xsplit ?_ ?_
    · refine v_catch [] (0, 9, 12, 21) [] rfl (fun _ h => absurd h List.not_mem_nil) (by decide) (by decide) gw_890 (by decide) (fun q1 => ?_)
      refine v_astore_n dL_sectionsWith_12 rfl (Nat.le_of_ble_eq_true rfl) rfl ?_
      refine v_iconst (v := 1) dL_sectionsWith_13 (by decide) ?_
      exact v_iret dL_sectionsWith_14 rfl rfl (by decide) (by decide)
    · exact v_xnone
theorem S_L_sectionsWith {g : GC} (hl : g.1.stackTraces = false) {x1 : Int32} {w : XW} : ∀ q, f_L_sectionsWith x1 w = some q → MM g (.codeWith yL_sectionsWith cL_sectionsWith 4 (some .int) [(0, 9, 12, 21)]) yL_sectionsWith (rmL 8 1 6) 1 6 [.ref (g.2.1 + 0), .int x1, .ref (g.2.1 + 150)] w (oI q) := fun q hq => MM_ofH (own := RL) hl (by decide) gw_937 rfl (Nat.le_of_ble_eq_true rfl) (W_L_sectionsWith hl q hq) ⟨rfl, rfl⟩

theorem dL_sectionByWater_0 : decode cL_sectionByWater 0 = .ok (.aload_n 2, 1) := by decide +kernel
theorem dL_sectionByWater_1 : decode cL_sectionByWater 1 = .ok (.iconst 0, 1) := by decide +kernel
theorem dL_sectionByWater_2 : decode cL_sectionByWater 2 = .ok (.aload_n 0, 1) := by decide +kernel
theorem dL_sectionByWater_3 : decode cL_sectionByWater 3 = .ok (.iload_n 1, 1) := by decide +kernel
theorem dL_sectionByWater_4 : decode cL_sectionByWater 4 = .ok (.invokevirtual 42, 3) := by decide +kernel
theorem dL_sectionByWater_7 : decode cL_sectionByWater 7 = .ok (.i2l, 1) := by decide +kernel
theorem dL_sectionByWater_8 : decode cL_sectionByWater 8 = .ok (.lastore, 1) := by decide +kernel
theorem dL_sectionByWater_9 : decode cL_sectionByWater 9 = .ok (.goto 6, 3) := by decide +kernel
theorem dL_sectionByWater_12 : decode cL_sectionByWater 12 = .ok (.astore_n 3, 1) := by decide +kernel
theorem dL_sectionByWater_13 : decode cL_sectionByWater 13 = .ok (.iconst 1, 1) := by decide +kernel
theorem dL_sectionByWater_14 : decode cL_sectionByWater 14 = .ok (.ireturn, 1) := by decide +kernel
theorem dL_sectionByWater_15 : decode cL_sectionByWater 15 = .ok (.iconst 0, 1) := by decide +kernel
theorem dL_sectionByWater_16 : decode cL_sectionByWater 16 = .ok (.ireturn, 1) := by decide +kernel
def f_L_sectionByWater (x1 : Int32) (w : XW) : Option (Int32 × XW) := (bCI (f_X10_sectionByWater x1 w) (fun r1 w1 => (some (0, (w1.1, (Int32.toInt64 r1), w1.2.2)))) (fun e1 w1 => (if e1 = "java/util/NoSuchElementException" then (some (1, w1)) else none)))
set_option maxRecDepth 100000 in
theorem W_L_sectionByWater {g : GC} (hl : g.1.stackTraces = false) {x1 : Int32} {w : XW} : VE g cL_sectionByWater 4 RL (some .int) [(0, 9, 12, 45)] (rmL 9 1 6) 1 6 oI 0 0 0 [(0, .ref (g.2.1 + 0)), (1, .int x1), (2, .ref (g.2.1 + 150))] [] w (f_L_sectionByWater x1 w) := by
  unfold f_L_sectionByWater
  refine v_aload_n dL_sectionByWater_0 rfl 2 rfl ?_
  refine v_iconst (v := 0) dL_sectionByWater_1 (by decide) ?_
  refine v_aload_n dL_sectionByWater_2 rfl 0 rfl ?_
  refine v_iload_n dL_sectionByWater_3 rfl 1 rfl ?_
  refine v_callVic (As := [.int x1]) cv_L_42 (S_X10_sectionByWater hl) tt_0 rfl rfl rfl (Nat.le_of_ble_eq_true rfl) dL_sectionByWater_4 (CR_rm (by decide) (by decide) (by decide) (by decide)) (fun r1 w1 => ?_) (fun e1 w1 => ?_)
  · refine v_i2l dL_sectionByWater_7 ?_
    refine v_last0 dL_sectionByWater_8 ?_
    refine v_goto (tgt := 15) dL_sectionByWater_9 (by decide) ?_
    refine v_iconst (v := 0) dL_sectionByWater_15 (by decide) ?_
    exact v_iret dL_sectionByWater_16 rfl rfl (by decide) (by decide)
  · refine v_xsplit ?_ ?_
    · refine v_catch [] (0, 9, 12, 45) [] rfl (fun _ h => absurd h List.not_mem_nil) (by decide) (by decide) gw_951 (by decide) (fun q1 => ?_)
      refine v_astore_n dL_sectionByWater_12 rfl (Nat.le_of_ble_eq_true rfl) rfl ?_
      refine v_iconst (v := 1) dL_sectionByWater_13 (by decide) ?_
      exact v_iret dL_sectionByWater_14 rfl rfl (by decide) (by decide)
    · exact v_xnone
theorem S_L_sectionByWater {g : GC} (hl : g.1.stackTraces = false) {x1 : Int32} {w : XW} : ∀ q, f_L_sectionByWater x1 w = some q → MM g (.codeWith yL_sectionByWater cL_sectionByWater 4 (some .int) [(0, 9, 12, 45)]) yL_sectionByWater (rmL 9 1 6) 1 6 [.ref (g.2.1 + 0), .int x1, .ref (g.2.1 + 150)] w (oI q) := fun q hq => MM_ofH (own := RL) hl (by decide) gw_950 rfl (Nat.le_of_ble_eq_true rfl) (W_L_sectionByWater hl q hq) ⟨rfl, rfl⟩

theorem dL_fold_0 : decode cL_fold 0 = .ok (.aload_n 2, 1) := by decide +kernel
theorem dL_fold_1 : decode cL_fold 1 = .ok (.iconst 0, 1) := by decide +kernel
theorem dL_fold_2 : decode cL_fold 2 = .ok (.aload_n 0, 1) := by decide +kernel
theorem dL_fold_3 : decode cL_fold 3 = .ok (.iload_n 1, 1) := by decide +kernel
theorem dL_fold_4 : decode cL_fold 4 = .ok (.invokevirtual 47, 3) := by decide +kernel
theorem dL_fold_7 : decode cL_fold 7 = .ok (.i2l, 1) := by decide +kernel
theorem dL_fold_8 : decode cL_fold 8 = .ok (.lastore, 1) := by decide +kernel
theorem dL_fold_9 : decode cL_fold 9 = .ok (.goto 9, 3) := by decide +kernel
theorem dL_fold_12 : decode cL_fold 12 = .ok (.astore_n 3, 1) := by decide +kernel
theorem dL_fold_13 : decode cL_fold 13 = .ok (.iconst 1, 1) := by decide +kernel
theorem dL_fold_14 : decode cL_fold 14 = .ok (.ireturn, 1) := by decide +kernel
theorem dL_fold_15 : decode cL_fold 15 = .ok (.astore_n 3, 1) := by decide +kernel
theorem dL_fold_16 : decode cL_fold 16 = .ok (.iconst 2, 1) := by decide +kernel
theorem dL_fold_17 : decode cL_fold 17 = .ok (.ireturn, 1) := by decide +kernel
theorem dL_fold_18 : decode cL_fold 18 = .ok (.iconst 0, 1) := by decide +kernel
theorem dL_fold_19 : decode cL_fold 19 = .ok (.ireturn, 1) := by decide +kernel
def f_L_fold (x1 : Int32) (w : XW) : Option (Int32 × XW) := (bCI (f_X10_fold x1 w) (fun r1 w1 => (some (0, (w1.1, (Int32.toInt64 r1), w1.2.2)))) (fun e1 w1 => (if e1 = "java/lang/IndexOutOfBoundsException" then (some (1, w1)) else (if e1 = "java/lang/UnsupportedOperationException" then (some (2, w1)) else none))))
set_option maxRecDepth 100000 in
theorem W_L_fold {g : GC} (hl : g.1.stackTraces = false) {x1 : Int32} {w : XW} : VE g cL_fold 4 RL (some .int) [(0, 9, 12, 19), (0, 9, 15, 13)] (rmL 11 1 6) 1 6 oI 0 0 0 [(0, .ref (g.2.1 + 0)), (1, .int x1), (2, .ref (g.2.1 + 150))] [] w (f_L_fold x1 w) := by
  unfold f_L_fold
  refine v_aload_n dL_fold_0 rfl 2 rfl ?_
  refine v_iconst (v := 0) dL_fold_1 (by decide) ?_
  refine v_aload_n dL_fold_2 rfl 0 rfl ?_
  refine v_iload_n dL_fold_3 rfl 1 rfl ?_
  refine v_callVic (As := [.int x1]) cv_L_47 (S_X10_fold hl) tt_0 rfl rfl rfl (Nat.le_of_ble_eq_true rfl) dL_fold_4 (CR_rm (by decide) (by decide) (by decide) (by decide)) (fun r1 w1 => ?_) (fun e1 w1 => ?_)
  · refine v_i2l dL_fold_7 ?_
    refine v_last0 dL_fold_8 ?_
    refine v_goto (tgt := 18) dL_fold_9 (by decide) ?_
    refine v_iconst (v := 0) dL_fold_18 (by decide) ?_
    exact v_iret dL_fold_19 rfl rfl (by decide) (by decide)
  · refine v_xsplit ?_ ?_
    · refine v_catch [] (0, 9, 12, 19) [(0, 9, 15, 13)] rfl (fun _ h => absurd h List.not_mem_nil) (by decide) (by decide) gw_857 (by decide) (fun q1 => ?_)
      refine v_astore_n dL_fold_12 rfl (Nat.le_of_ble_eq_true rfl) rfl ?_
      refine v_iconst (v := 1) dL_fold_13 (by decide) ?_
      exact v_iret dL_fold_14 rfl rfl (by decide) (by decide)
    · refine v_xsplit ?_ ?_
      · refine v_catch [(0, 9, 12, 19)] (0, 9, 15, 13) [] rfl (List.forall_mem_cons.mpr ⟨⟨by decide, _, gw_857, by decide⟩, fun _ h => absurd h List.not_mem_nil⟩) (by decide) (by decide) gw_544 (by decide) (fun q1 => ?_)
        refine v_astore_n dL_fold_15 rfl (Nat.le_of_ble_eq_true rfl) rfl ?_
        refine v_iconst (v := 2) dL_fold_16 (by decide) ?_
        exact v_iret dL_fold_17 rfl rfl (by decide) (by decide)
      · exact v_xnone
theorem S_L_fold {g : GC} (hl : g.1.stackTraces = false) {x1 : Int32} {w : XW} : ∀ q, f_L_fold x1 w = some q → MM g (.codeWith yL_fold cL_fold 4 (some .int) [(0, 9, 12, 19), (0, 9, 15, 13)]) yL_fold (rmL 11 1 6) 1 6 [.ref (g.2.1 + 0), .int x1, .ref (g.2.1 + 150)] w (oI q) := fun q hq => MM_ofH (own := RL) hl (by decide) gw_985 rfl (Nat.le_of_ble_eq_true rfl) (W_L_fold hl q hq) ⟨rfl, rfl⟩

theorem dL_unfold_0 : decode cL_unfold 0 = .ok (.aload_n 1, 1) := by decide +kernel
theorem dL_unfold_1 : decode cL_unfold 1 = .ok (.iconst 0, 1) := by decide +kernel
theorem dL_unfold_2 : decode cL_unfold 2 = .ok (.aload_n 0, 1) := by decide +kernel
theorem dL_unfold_3 : decode cL_unfold 3 = .ok (.invokevirtual 50, 3) := by decide +kernel
theorem dL_unfold_6 : decode cL_unfold 6 = .ok (.i2l, 1) := by decide +kernel
theorem dL_unfold_7 : decode cL_unfold 7 = .ok (.lastore, 1) := by decide +kernel
theorem dL_unfold_8 : decode cL_unfold 8 = .ok (.goto 6, 3) := by decide +kernel
theorem dL_unfold_11 : decode cL_unfold 11 = .ok (.astore_n 2, 1) := by decide +kernel
theorem dL_unfold_12 : decode cL_unfold 12 = .ok (.iconst 1, 1) := by decide +kernel
theorem dL_unfold_13 : decode cL_unfold 13 = .ok (.ireturn, 1) := by decide +kernel
theorem dL_unfold_14 : decode cL_unfold 14 = .ok (.iconst 0, 1) := by decide +kernel
theorem dL_unfold_15 : decode cL_unfold 15 = .ok (.ireturn, 1) := by decide +kernel
def f_L_unfold (w : XW) : Option (Int32 × XW) := (bCI (f_X10_unfold w) (fun r1 w1 => (some (0, (w1.1, (Int32.toInt64 r1), w1.2.2)))) (fun e1 w1 => (if e1 = "java/lang/UnsupportedOperationException" then (some (1, w1)) else none)))
set_option maxRecDepth 100000 in
theorem W_L_unfold {g : GC} (hl : g.1.stackTraces = false) {w : XW} : VE g cL_unfold 3 RL (some .int) [(0, 8, 11, 13)] (rmL 11 1 6) 1 6 oI 0 0 0 [(0, .ref (g.2.1 + 0)), (1, .ref (g.2.1 + 150))] [] w (f_L_unfold  w) := by
  unfold f_L_unfold
  refine v_aload_n dL_unfold_0 rfl 1 rfl ?_
  refine v_iconst (v := 0) dL_unfold_1 (by decide) ?_
  refine v_aload_n dL_unfold_2 rfl 0 rfl ?_
  refine v_callVic (As := []) cv_L_50 (S_X10_unfold hl) tt_0 rfl rfl rfl (Nat.le_of_ble_eq_true rfl) dL_unfold_3 (CR_rm (by decide) (by decide) (by decide) (by decide)) (fun r1 w1 => ?_) (fun e1 w1 => ?_)
  · refine v_i2l dL_unfold_6 ?_
    refine v_last0 dL_unfold_7 ?_
    refine v_goto (tgt := 14) dL_unfold_8 (by decide) ?_
    refine v_iconst (v := 0) dL_unfold_14 (by decide) ?_
    exact v_iret dL_unfold_15 rfl rfl (by decide) (by decide)
  · refine v_xsplit ?_ ?_
    · refine v_catch [] (0, 8, 11, 13) [] rfl (fun _ h => absurd h List.not_mem_nil) (by decide) (by decide) gw_544 (by decide) (fun q1 => ?_)
      refine v_astore_n dL_unfold_11 rfl (Nat.le_of_ble_eq_true rfl) rfl ?_
      refine v_iconst (v := 1) dL_unfold_12 (by decide) ?_
      exact v_iret dL_unfold_13 rfl rfl (by decide) (by decide)
    · exact v_xnone
theorem S_L_unfold {g : GC} (hl : g.1.stackTraces = false) {w : XW} : ∀ q, f_L_unfold  w = some q → MM g (.codeWith yL_unfold cL_unfold 3 (some .int) [(0, 8, 11, 13)]) yL_unfold (rmL 11 1 6) 1 6 [.ref (g.2.1 + 0), .ref (g.2.1 + 150)] w (oI q) := fun q hq => MM_ofH (own := RL) hl (by decide) gw_992 rfl (Nat.le_of_ble_eq_true rfl) (W_L_unfold hl q hq) ⟨rfl, rfl⟩

theorem dL_layerOf_0 : decode cL_layerOf 0 = .ok (.aload_n 2, 1) := by decide +kernel
theorem dL_layerOf_1 : decode cL_layerOf 1 = .ok (.iconst 0, 1) := by decide +kernel
theorem dL_layerOf_2 : decode cL_layerOf 2 = .ok (.aload_n 0, 1) := by decide +kernel
theorem dL_layerOf_3 : decode cL_layerOf 3 = .ok (.iload_n 1, 1) := by decide +kernel
theorem dL_layerOf_4 : decode cL_layerOf 4 = .ok (.invokevirtual 53, 3) := by decide +kernel
theorem dL_layerOf_7 : decode cL_layerOf 7 = .ok (.i2l, 1) := by decide +kernel
theorem dL_layerOf_8 : decode cL_layerOf 8 = .ok (.lastore, 1) := by decide +kernel
theorem dL_layerOf_9 : decode cL_layerOf 9 = .ok (.goto 9, 3) := by decide +kernel
theorem dL_layerOf_12 : decode cL_layerOf 12 = .ok (.astore_n 3, 1) := by decide +kernel
theorem dL_layerOf_13 : decode cL_layerOf 13 = .ok (.iconst 1, 1) := by decide +kernel
theorem dL_layerOf_14 : decode cL_layerOf 14 = .ok (.ireturn, 1) := by decide +kernel
theorem dL_layerOf_15 : decode cL_layerOf 15 = .ok (.astore_n 3, 1) := by decide +kernel
theorem dL_layerOf_16 : decode cL_layerOf 16 = .ok (.iconst 2, 1) := by decide +kernel
theorem dL_layerOf_17 : decode cL_layerOf 17 = .ok (.ireturn, 1) := by decide +kernel
theorem dL_layerOf_18 : decode cL_layerOf 18 = .ok (.iconst 0, 1) := by decide +kernel
theorem dL_layerOf_19 : decode cL_layerOf 19 = .ok (.ireturn, 1) := by decide +kernel
def f_L_layerOf (x1 : Int32) (w : XW) : Option (Int32 × XW) := (bCI (f_X10_layerOf x1 w) (fun r1 w1 => (some (0, (w1.1, (Int32.toInt64 r1), w1.2.2)))) (fun e1 w1 => (if e1 = "java/lang/IndexOutOfBoundsException" then (some (1, w1)) else (if e1 = "java/util/NoSuchElementException" then (some (2, w1)) else none))))
set_option maxRecDepth 100000 in
theorem W_L_layerOf {g : GC} (hl : g.1.stackTraces = false) {x1 : Int32} {w : XW} : VE g cL_layerOf 4 RL (some .int) [(0, 9, 12, 19), (0, 9, 15, 45)] (rmL 6 2 12) 2 12 oI 0 0 0 [(0, .ref (g.2.1 + 0)), (1, .int x1), (2, .ref (g.2.1 + 150))] [] w (f_L_layerOf x1 w) := by
  unfold f_L_layerOf
  refine v_aload_n dL_layerOf_0 rfl 2 rfl ?_
  refine v_iconst (v := 0) dL_layerOf_1 (by decide) ?_
  refine v_aload_n dL_layerOf_2 rfl 0 rfl ?_
  refine v_iload_n dL_layerOf_3 rfl 1 rfl ?_
  refine v_callVic (As := [.int x1]) cv_L_53 (S_X10_layerOf hl) tt_0 rfl rfl rfl (Nat.le_of_ble_eq_true rfl) dL_layerOf_4 (CR_rm (by decide) (by decide) (by decide) (by decide)) (fun r1 w1 => ?_) (fun e1 w1 => ?_)
  · refine v_i2l dL_layerOf_7 ?_
    refine v_last0 dL_layerOf_8 ?_
    refine v_goto (tgt := 18) dL_layerOf_9 (by decide) ?_
    refine v_iconst (v := 0) dL_layerOf_18 (by decide) ?_
    exact v_iret dL_layerOf_19 rfl rfl (by decide) (by decide)
  · refine v_xsplit ?_ ?_
    · refine v_catch [] (0, 9, 12, 19) [(0, 9, 15, 45)] rfl (fun _ h => absurd h List.not_mem_nil) (by decide) (by decide) gw_857 (by decide) (fun q1 => ?_)
      refine v_astore_n dL_layerOf_12 rfl (Nat.le_of_ble_eq_true rfl) rfl ?_
      refine v_iconst (v := 1) dL_layerOf_13 (by decide) ?_
      exact v_iret dL_layerOf_14 rfl rfl (by decide) (by decide)
    · refine v_xsplit ?_ ?_
      · refine v_catch [(0, 9, 12, 19)] (0, 9, 15, 45) [] rfl (List.forall_mem_cons.mpr ⟨⟨by decide, _, gw_857, by decide⟩, fun _ h => absurd h List.not_mem_nil⟩) (by decide) (by decide) gw_951 (by decide) (fun q1 => ?_)
        refine v_astore_n dL_layerOf_15 rfl (Nat.le_of_ble_eq_true rfl) rfl ?_
        refine v_iconst (v := 2) dL_layerOf_16 (by decide) ?_
        exact v_iret dL_layerOf_17 rfl rfl (by decide) (by decide)
      · exact v_xnone
theorem S_L_layerOf {g : GC} (hl : g.1.stackTraces = false) {x1 : Int32} {w : XW} : ∀ q, f_L_layerOf x1 w = some q → MM g (.codeWith yL_layerOf cL_layerOf 4 (some .int) [(0, 9, 12, 19), (0, 9, 15, 45)]) yL_layerOf (rmL 6 2 12) 2 12 [.ref (g.2.1 + 0), .int x1, .ref (g.2.1 + 150)] w (oI q) := fun q hq => MM_ofH (own := RL) hl (by decide) gw_999 rfl (Nat.le_of_ble_eq_true rfl) (W_L_layerOf hl q hq) ⟨rfl, rfl⟩

theorem dL_sectionIn_0 : decode cL_sectionIn 0 = .ok (.aload_n 2, 1) := by decide +kernel
theorem dL_sectionIn_1 : decode cL_sectionIn 1 = .ok (.iconst 0, 1) := by decide +kernel
theorem dL_sectionIn_2 : decode cL_sectionIn 2 = .ok (.aload_n 0, 1) := by decide +kernel
theorem dL_sectionIn_3 : decode cL_sectionIn 3 = .ok (.iload_n 1, 1) := by decide +kernel
theorem dL_sectionIn_4 : decode cL_sectionIn 4 = .ok (.invokevirtual 56, 3) := by decide +kernel
theorem dL_sectionIn_7 : decode cL_sectionIn 7 = .ok (.i2l, 1) := by decide +kernel
theorem dL_sectionIn_8 : decode cL_sectionIn 8 = .ok (.lastore, 1) := by decide +kernel
theorem dL_sectionIn_9 : decode cL_sectionIn 9 = .ok (.goto 6, 3) := by decide +kernel
theorem dL_sectionIn_12 : decode cL_sectionIn 12 = .ok (.astore_n 3, 1) := by decide +kernel
theorem dL_sectionIn_13 : decode cL_sectionIn 13 = .ok (.iconst 1, 1) := by decide +kernel
theorem dL_sectionIn_14 : decode cL_sectionIn 14 = .ok (.ireturn, 1) := by decide +kernel
theorem dL_sectionIn_15 : decode cL_sectionIn 15 = .ok (.iconst 0, 1) := by decide +kernel
theorem dL_sectionIn_16 : decode cL_sectionIn 16 = .ok (.ireturn, 1) := by decide +kernel
def f_L_sectionIn (x1 : Int32) (w : XW) : Option (Int32 × XW) := (bCI (f_X10_sectionIn x1 w) (fun r1 w1 => (some (0, (w1.1, (Int32.toInt64 r1), w1.2.2)))) (fun e1 w1 => (if e1 = "java/lang/IndexOutOfBoundsException" then (some (1, w1)) else none)))
set_option maxRecDepth 100000 in
theorem W_L_sectionIn {g : GC} (hl : g.1.stackTraces = false) {x1 : Int32} {w : XW} : VE g cL_sectionIn 4 RL (some .int) [(0, 9, 12, 19)] (rmL 5 1 6) 1 6 oI 0 0 0 [(0, .ref (g.2.1 + 0)), (1, .int x1), (2, .ref (g.2.1 + 150))] [] w (f_L_sectionIn x1 w) := by
  unfold f_L_sectionIn
  refine v_aload_n dL_sectionIn_0 rfl 2 rfl ?_
  refine v_iconst (v := 0) dL_sectionIn_1 (by decide) ?_
  refine v_aload_n dL_sectionIn_2 rfl 0 rfl ?_
  refine v_iload_n dL_sectionIn_3 rfl 1 rfl ?_
  refine v_callVic (As := [.int x1]) cv_L_56 (S_X10_sectionIn hl) tt_0 rfl rfl rfl (Nat.le_of_ble_eq_true rfl) dL_sectionIn_4 (CR_rm (by decide) (by decide) (by decide) (by decide)) (fun r1 w1 => ?_) (fun e1 w1 => ?_)
  · refine v_i2l dL_sectionIn_7 ?_
    refine v_last0 dL_sectionIn_8 ?_
    refine v_goto (tgt := 15) dL_sectionIn_9 (by decide) ?_
    refine v_iconst (v := 0) dL_sectionIn_15 (by decide) ?_
    exact v_iret dL_sectionIn_16 rfl rfl (by decide) (by decide)
  · refine v_xsplit ?_ ?_
    · refine v_catch [] (0, 9, 12, 19) [] rfl (fun _ h => absurd h List.not_mem_nil) (by decide) (by decide) gw_857 (by decide) (fun q1 => ?_)
      refine v_astore_n dL_sectionIn_12 rfl (Nat.le_of_ble_eq_true rfl) rfl ?_
      refine v_iconst (v := 1) dL_sectionIn_13 (by decide) ?_
      exact v_iret dL_sectionIn_14 rfl rfl (by decide) (by decide)
    · exact v_xnone
theorem S_L_sectionIn {g : GC} (hl : g.1.stackTraces = false) {x1 : Int32} {w : XW} : ∀ q, f_L_sectionIn x1 w = some q → MM g (.codeWith yL_sectionIn cL_sectionIn 4 (some .int) [(0, 9, 12, 19)]) yL_sectionIn (rmL 5 1 6) 1 6 [.ref (g.2.1 + 0), .int x1, .ref (g.2.1 + 150)] w (oI q) := fun q hq => MM_ofH (own := RL) hl (by decide) gw_1007 rfl (Nat.le_of_ble_eq_true rfl) (W_L_sectionIn hl q hq) ⟨rfl, rfl⟩

theorem dL_canFold_0 : decode cL_canFold 0 = .ok (.aload_n 2, 1) := by decide +kernel
theorem dL_canFold_1 : decode cL_canFold 1 = .ok (.iconst 0, 1) := by decide +kernel
theorem dL_canFold_2 : decode cL_canFold 2 = .ok (.aload_n 0, 1) := by decide +kernel
theorem dL_canFold_3 : decode cL_canFold 3 = .ok (.iload_n 1, 1) := by decide +kernel
theorem dL_canFold_4 : decode cL_canFold 4 = .ok (.invokevirtual 59, 3) := by decide +kernel
theorem dL_canFold_7 : decode cL_canFold 7 = .ok (.ifCond .eq 7, 3) := by decide +kernel
theorem dL_canFold_10 : decode cL_canFold 10 = .ok (.lconst 1, 1) := by decide +kernel
theorem dL_canFold_11 : decode cL_canFold 11 = .ok (.goto 4, 3) := by decide +kernel
theorem dL_canFold_14 : decode cL_canFold 14 = .ok (.lconst 0, 1) := by decide +kernel
theorem dL_canFold_15 : decode cL_canFold 15 = .ok (.lastore, 1) := by decide +kernel
theorem dL_canFold_16 : decode cL_canFold 16 = .ok (.goto 6, 3) := by decide +kernel
theorem dL_canFold_19 : decode cL_canFold 19 = .ok (.astore_n 3, 1) := by decide +kernel
theorem dL_canFold_20 : decode cL_canFold 20 = .ok (.iconst 1, 1) := by decide +kernel
theorem dL_canFold_21 : decode cL_canFold 21 = .ok (.ireturn, 1) := by decide +kernel
theorem dL_canFold_22 : decode cL_canFold 22 = .ok (.iconst 0, 1) := by decide +kernel
theorem dL_canFold_23 : decode cL_canFold 23 = .ok (.ireturn, 1) := by decide +kernel
def f_L_canFold (x1 : Int32) (w : XW) : Option (Int32 × XW) := (bCI (f_X10_canFold x1 w) (fun r1 w1 => (if r1 = 0 then (some (0, (w1.1, 0, w1.2.2))) else (some (0, (w1.1, 1, w1.2.2))))) (fun e1 w1 => (if e1 = "java/lang/IndexOutOfBoundsException" then (some (1, w1)) else none)))
set_option maxRecDepth 100000 in
theorem W_L_canFold {g : GC} (hl : g.1.stackTraces = false) {x1 : Int32} {w : XW} : VE g cL_canFold 4 RL (some .int) [(0, 16, 19, 19)] (rmL 9 1 6) 1 6 oI 0 0 0 [(0, .ref (g.2.1 + 0)), (1, .int x1), (2, .ref (g.2.1 + 150))] [] w (f_L_canFold x1 w) := by
  unfold f_L_canFold
  refine v_aload_n dL_canFold_0 rfl 2 rfl ?_
  refine v_iconst (v := 0) dL_canFold_1 (by decide) ?_
  refine v_aload_n dL_canFold_2 rfl 0 rfl ?_
  refine v_iload_n dL_canFold_3 rfl 1 rfl ?_
  refine v_callVic (As := [.int x1]) cv_L_59 (S_X10_canFold hl) tt_0 rfl rfl rfl (Nat.le_of_ble_eq_true rfl) dL_canFold_4 (CR_rm (by decide) (by decide) (by decide) (by decide)) (fun r1 w1 => ?_) (fun e1 w1 => ?_)
  · refine v_if_eq (tgt := 14) dL_canFold_7 (by decide) ?_ ?_
    · refine v_lconst (v := 0) dL_canFold_14 rfl ?_
      refine v_last0 dL_canFold_15 ?_
      refine v_goto (tgt := 22) dL_canFold_16 (by decide) ?_
      refine v_iconst (v := 0) dL_canFold_22 (by decide) ?_
      exact v_iret dL_canFold_23 rfl rfl (by decide) (by decide)
    · refine v_lconst (v := 1) dL_canFold_10 rfl ?_
      refine v_goto (tgt := 15) dL_canFold_11 (by decide) ?_
      refine v_last0 dL_canFold_15 ?_
      refine v_goto (tgt := 22) dL_canFold_16 (by decide) ?_
      refine v_iconst (v := 0) dL_canFold_22 (by decide) ?_
      exact v_iret dL_canFold_23 rfl rfl (by decide) (by decide)
  · refine v_xsplit ?_ ?_
    · refine v_catch [] (0, 16, 19, 19) [] rfl (fun _ h => absurd h List.not_mem_nil) (by decide) (by decide) gw_857 (by decide) (fun q1 => ?_)
      refine v_astore_n dL_canFold_19 rfl (Nat.le_of_ble_eq_true rfl) rfl ?_
      refine v_iconst (v := 1) dL_canFold_20 (by decide) ?_
      exact v_iret dL_canFold_21 rfl rfl (by decide) (by decide)
    · exact v_xnone
theorem S_L_canFold {g : GC} (hl : g.1.stackTraces = false) {x1 : Int32} {w : XW} : ∀ q, f_L_canFold x1 w = some q → MM g (.codeWith yL_canFold cL_canFold 4 (some .int) [(0, 16, 19, 19)]) yL_canFold (rmL 9 1 6) 1 6 [.ref (g.2.1 + 0), .int x1, .ref (g.2.1 + 150)] w (oI q) := fun q hq => MM_ofH (own := RL) hl (by decide) gw_1014 rfl (Nat.le_of_ble_eq_true rfl) (W_L_canFold hl q hq) ⟨rfl, rfl⟩

theorem dL_layPipe_0 : decode cL_layPipe 0 = .ok (.aload 4, 2) := by decide +kernel
theorem dL_layPipe_2 : decode cL_layPipe 2 = .ok (.iconst 0, 1) := by decide +kernel
theorem dL_layPipe_3 : decode cL_layPipe 3 = .ok (.aload_n 0, 1) := by decide +kernel
theorem dL_layPipe_4 : decode cL_layPipe 4 = .ok (.iload_n 1, 1) := by decide +kernel
theorem dL_layPipe_5 : decode cL_layPipe 5 = .ok (.iload_n 2, 1) := by decide +kernel
theorem dL_layPipe_6 : decode cL_layPipe 6 = .ok (.iload_n 3, 1) := by decide +kernel
theorem dL_layPipe_7 : decode cL_layPipe 7 = .ok (.invokevirtual 63, 3) := by decide +kernel
theorem dL_layPipe_10 : decode cL_layPipe 10 = .ok (.i2l, 1) := by decide +kernel
theorem dL_layPipe_11 : decode cL_layPipe 11 = .ok (.lastore, 1) := by decide +kernel
theorem dL_layPipe_12 : decode cL_layPipe 12 = .ok (.goto 15, 3) := by decide +kernel
theorem dL_layPipe_15 : decode cL_layPipe 15 = .ok (.astore 5, 2) := by decide +kernel
theorem dL_layPipe_17 : decode cL_layPipe 17 = .ok (.iconst 1, 1) := by decide +kernel
theorem dL_layPipe_18 : decode cL_layPipe 18 = .ok (.ireturn, 1) := by decide +kernel
theorem dL_layPipe_19 : decode cL_layPipe 19 = .ok (.astore 5, 2) := by decide +kernel
theorem dL_layPipe_21 : decode cL_layPipe 21 = .ok (.iconst 2, 1) := by decide +kernel
theorem dL_layPipe_22 : decode cL_layPipe 22 = .ok (.ireturn, 1) := by decide +kernel
theorem dL_layPipe_23 : decode cL_layPipe 23 = .ok (.astore 5, 2) := by decide +kernel
theorem dL_layPipe_25 : decode cL_layPipe 25 = .ok (.iconst 3, 1) := by decide +kernel
theorem dL_layPipe_26 : decode cL_layPipe 26 = .ok (.ireturn, 1) := by decide +kernel
theorem dL_layPipe_27 : decode cL_layPipe 27 = .ok (.iconst 0, 1) := by decide +kernel
theorem dL_layPipe_28 : decode cL_layPipe 28 = .ok (.ireturn, 1) := by decide +kernel
def f_L_layPipe (x1 : Int32) (x2 : Int32) (x3 : Int32) (w : XW) : Option (Int32 × XW) := (bCI (f_X10_layPipe x1 x2 x3 w) (fun r1 w1 => (some (0, (w1.1, (Int32.toInt64 r1), w1.2.2)))) (fun e1 w1 => (if e1 = "java/lang/IndexOutOfBoundsException" then (some (1, w1)) else (if e1 = "java/lang/IllegalArgumentException" then (some (2, w1)) else (if e1 = "java/lang/UnsupportedOperationException" then (some (3, w1)) else none)))))
set_option maxRecDepth 100000 in
theorem W_L_layPipe {g : GC} (hl : g.1.stackTraces = false) {x1 : Int32} {x2 : Int32} {x3 : Int32} {w : XW} : VE g cL_layPipe 6 RL (some .int) [(0, 12, 15, 19), (0, 12, 19, 21), (0, 12, 23, 13)] (rmL 11 1 6) 1 6 oI 0 0 0 [(0, .ref (g.2.1 + 0)), (1, .int x1), (2, .int x2), (3, .int x3), (4, .ref (g.2.1 + 150))] [] w (f_L_layPipe x1 x2 x3 w) := by
  unfold f_L_layPipe
  refine v_aload dL_layPipe_0 4 rfl ?_
  refine v_iconst (v := 0) dL_layPipe_2 (by decide) ?_
  refine v_aload_n dL_layPipe_3 rfl 0 rfl ?_
  refine v_iload_n dL_layPipe_4 rfl 1 rfl ?_
  refine v_iload_n dL_layPipe_5 rfl 2 rfl ?_
  refine v_iload_n dL_layPipe_6 rfl 3 rfl ?_
  refine v_callVic (As := [.int x1, .int x2, .int x3]) cv_L_63 (S_X10_layPipe hl) tt_0 rfl rfl rfl (Nat.le_of_ble_eq_true rfl) dL_layPipe_7 (CR_rm (by decide) (by decide) (by decide) (by decide)) (fun r1 w1 => ?_) (fun e1 w1 => ?_)
  · refine v_i2l dL_layPipe_10 ?_
    refine v_last0 dL_layPipe_11 ?_
    refine v_goto (tgt := 27) dL_layPipe_12 (by decide) ?_
    refine v_iconst (v := 0) dL_layPipe_27 (by decide) ?_
    exact v_iret dL_layPipe_28 rfl rfl (by decide) (by decide)
  · refine v_xsplit ?_ ?_
    · refine v_catch [] (0, 12, 15, 19) [(0, 12, 19, 21), (0, 12, 23, 13)] rfl (fun _ h => absurd h List.not_mem_nil) (by decide) (by decide) gw_857 (by decide) (fun q1 => ?_)
      refine v_astore dL_layPipe_15 (Nat.le_of_ble_eq_true rfl) rfl ?_
      refine v_iconst (v := 1) dL_layPipe_17 (by decide) ?_
      exact v_iret dL_layPipe_18 rfl rfl (by decide) (by decide)
    · refine v_xsplit ?_ ?_
      · refine v_catch [(0, 12, 15, 19)] (0, 12, 19, 21) [(0, 12, 23, 13)] rfl (List.forall_mem_cons.mpr ⟨⟨by decide, _, gw_857, by decide⟩, fun _ h => absurd h List.not_mem_nil⟩) (by decide) (by decide) gw_890 (by decide) (fun q1 => ?_)
        refine v_astore dL_layPipe_19 (Nat.le_of_ble_eq_true rfl) rfl ?_
        refine v_iconst (v := 2) dL_layPipe_21 (by decide) ?_
        exact v_iret dL_layPipe_22 rfl rfl (by decide) (by decide)
      · refine v_xsplit ?_ ?_
        · refine v_catch [(0, 12, 15, 19), (0, 12, 19, 21)] (0, 12, 23, 13) [] rfl (List.forall_mem_cons.mpr ⟨⟨by decide, _, gw_857, by decide⟩, List.forall_mem_cons.mpr ⟨⟨by decide, _, gw_890, by decide⟩, fun _ h => absurd h List.not_mem_nil⟩⟩) (by decide) (by decide) gw_544 (by decide) (fun q1 => ?_)
          refine v_astore dL_layPipe_23 (Nat.le_of_ble_eq_true rfl) rfl ?_
          refine v_iconst (v := 3) dL_layPipe_25 (by decide) ?_
          exact v_iret dL_layPipe_26 rfl rfl (by decide) (by decide)
        · exact v_xnone
theorem S_L_layPipe {g : GC} (hl : g.1.stackTraces = false) {x1 : Int32} {x2 : Int32} {x3 : Int32} {w : XW} : ∀ q, f_L_layPipe x1 x2 x3 w = some q → MM g (.codeWith yL_layPipe cL_layPipe 6 (some .int) [(0, 12, 15, 19), (0, 12, 19, 21), (0, 12, 23, 13)]) yL_layPipe (rmL 11 1 6) 1 6 [.ref (g.2.1 + 0), .int x1, .int x2, .int x3, .ref (g.2.1 + 150)] w (oI q) := fun q hq => MM_ofH (own := RL) hl (by decide) gw_1022 rfl (Nat.le_of_ble_eq_true rfl) (W_L_layPipe hl q hq) ⟨rfl, rfl⟩

theorem dL_removePipe_0 : decode cL_removePipe 0 = .ok (.aload_n 2, 1) := by decide +kernel
theorem dL_removePipe_1 : decode cL_removePipe 1 = .ok (.iconst 0, 1) := by decide +kernel
theorem dL_removePipe_2 : decode cL_removePipe 2 = .ok (.aload_n 0, 1) := by decide +kernel
theorem dL_removePipe_3 : decode cL_removePipe 3 = .ok (.iload_n 1, 1) := by decide +kernel
theorem dL_removePipe_4 : decode cL_removePipe 4 = .ok (.invokevirtual 67, 3) := by decide +kernel
theorem dL_removePipe_7 : decode cL_removePipe 7 = .ok (.i2l, 1) := by decide +kernel
theorem dL_removePipe_8 : decode cL_removePipe 8 = .ok (.lastore, 1) := by decide +kernel
theorem dL_removePipe_9 : decode cL_removePipe 9 = .ok (.goto 6, 3) := by decide +kernel
theorem dL_removePipe_12 : decode cL_removePipe 12 = .ok (.astore_n 3, 1) := by decide +kernel
theorem dL_removePipe_13 : decode cL_removePipe 13 = .ok (.iconst 1, 1) := by decide +kernel
theorem dL_removePipe_14 : decode cL_removePipe 14 = .ok (.ireturn, 1) := by decide +kernel
theorem dL_removePipe_15 : decode cL_removePipe 15 = .ok (.iconst 0, 1) := by decide +kernel
theorem dL_removePipe_16 : decode cL_removePipe 16 = .ok (.ireturn, 1) := by decide +kernel
def f_L_removePipe (x1 : Int32) (w : XW) : Option (Int32 × XW) := (bCI (f_X10_removePipe x1 w) (fun r1 w1 => (some (0, (w1.1, (Int32.toInt64 r1), w1.2.2)))) (fun e1 w1 => (if e1 = "java/lang/IndexOutOfBoundsException" then (some (1, w1)) else none)))
set_option maxRecDepth 100000 in
theorem W_L_removePipe {g : GC} (hl : g.1.stackTraces = false) {x1 : Int32} {w : XW} : VE g cL_removePipe 4 RL (some .int) [(0, 9, 12, 19)] (rmL 11 1 6) 1 6 oI 0 0 0 [(0, .ref (g.2.1 + 0)), (1, .int x1), (2, .ref (g.2.1 + 150))] [] w (f_L_removePipe x1 w) := by
  unfold f_L_removePipe
  refine v_aload_n dL_removePipe_0 rfl 2 rfl ?_
  refine v_iconst (v := 0) dL_removePipe_1 (by decide) ?_
  refine v_aload_n dL_removePipe_2 rfl 0 rfl ?_
  refine v_iload_n dL_removePipe_3 rfl 1 rfl ?_
  refine v_callVic (As := [.int x1]) cv_L_67 (S_X10_removePipe hl) tt_0 rfl rfl rfl (Nat.le_of_ble_eq_true rfl) dL_removePipe_4 (CR_rm (by decide) (by decide) (by decide) (by decide)) (fun r1 w1 => ?_) (fun e1 w1 => ?_)
  · refine v_i2l dL_removePipe_7 ?_
    refine v_last0 dL_removePipe_8 ?_
    refine v_goto (tgt := 15) dL_removePipe_9 (by decide) ?_
    refine v_iconst (v := 0) dL_removePipe_15 (by decide) ?_
    exact v_iret dL_removePipe_16 rfl rfl (by decide) (by decide)
  · refine v_xsplit ?_ ?_
    · refine v_catch [] (0, 9, 12, 19) [] rfl (fun _ h => absurd h List.not_mem_nil) (by decide) (by decide) gw_857 (by decide) (fun q1 => ?_)
      refine v_astore_n dL_removePipe_12 rfl (Nat.le_of_ble_eq_true rfl) rfl ?_
      refine v_iconst (v := 1) dL_removePipe_13 (by decide) ?_
      exact v_iret dL_removePipe_14 rfl rfl (by decide) (by decide)
    · exact v_xnone
theorem S_L_removePipe {g : GC} (hl : g.1.stackTraces = false) {x1 : Int32} {w : XW} : ∀ q, f_L_removePipe x1 w = some q → MM g (.codeWith yL_removePipe cL_removePipe 4 (some .int) [(0, 9, 12, 19)]) yL_removePipe (rmL 11 1 6) 1 6 [.ref (g.2.1 + 0), .int x1, .ref (g.2.1 + 150)] w (oI q) := fun q hq => MM_ofH (own := RL) hl (by decide) gw_1029 rfl (Nat.le_of_ble_eq_true rfl) (W_L_removePipe hl q hq) ⟨rfl, rfl⟩

theorem dL_breakPipe_0 : decode cL_breakPipe 0 = .ok (.aload_n 2, 1) := by decide +kernel
theorem dL_breakPipe_1 : decode cL_breakPipe 1 = .ok (.iconst 0, 1) := by decide +kernel
theorem dL_breakPipe_2 : decode cL_breakPipe 2 = .ok (.aload_n 0, 1) := by decide +kernel
theorem dL_breakPipe_3 : decode cL_breakPipe 3 = .ok (.iload_n 1, 1) := by decide +kernel
theorem dL_breakPipe_4 : decode cL_breakPipe 4 = .ok (.invokevirtual 70, 3) := by decide +kernel
theorem dL_breakPipe_7 : decode cL_breakPipe 7 = .ok (.i2l, 1) := by decide +kernel
theorem dL_breakPipe_8 : decode cL_breakPipe 8 = .ok (.lastore, 1) := by decide +kernel
theorem dL_breakPipe_9 : decode cL_breakPipe 9 = .ok (.goto 9, 3) := by decide +kernel
theorem dL_breakPipe_12 : decode cL_breakPipe 12 = .ok (.astore_n 3, 1) := by decide +kernel
theorem dL_breakPipe_13 : decode cL_breakPipe 13 = .ok (.iconst 1, 1) := by decide +kernel
theorem dL_breakPipe_14 : decode cL_breakPipe 14 = .ok (.ireturn, 1) := by decide +kernel
theorem dL_breakPipe_15 : decode cL_breakPipe 15 = .ok (.astore_n 3, 1) := by decide +kernel
theorem dL_breakPipe_16 : decode cL_breakPipe 16 = .ok (.iconst 2, 1) := by decide +kernel
theorem dL_breakPipe_17 : decode cL_breakPipe 17 = .ok (.ireturn, 1) := by decide +kernel
theorem dL_breakPipe_18 : decode cL_breakPipe 18 = .ok (.iconst 0, 1) := by decide +kernel
theorem dL_breakPipe_19 : decode cL_breakPipe 19 = .ok (.ireturn, 1) := by decide +kernel
def f_L_breakPipe (x1 : Int32) (w : XW) : Option (Int32 × XW) := (bCI (f_X10_breakPipe x1 w) (fun r1 w1 => (some (0, (w1.1, (Int32.toInt64 r1), w1.2.2)))) (fun e1 w1 => (if e1 = "java/lang/IndexOutOfBoundsException" then (some (1, w1)) else (if e1 = "java/lang/UnsupportedOperationException" then (some (2, w1)) else none))))
set_option maxRecDepth 100000 in
theorem W_L_breakPipe {g : GC} (hl : g.1.stackTraces = false) {x1 : Int32} {w : XW} : VE g cL_breakPipe 4 RL (some .int) [(0, 9, 12, 19), (0, 9, 15, 13)] (rmL 11 1 6) 1 6 oI 0 0 0 [(0, .ref (g.2.1 + 0)), (1, .int x1), (2, .ref (g.2.1 + 150))] [] w (f_L_breakPipe x1 w) := by
  unfold f_L_breakPipe
  refine v_aload_n dL_breakPipe_0 rfl 2 rfl ?_
  refine v_iconst (v := 0) dL_breakPipe_1 (by decide) ?_
  refine v_aload_n dL_breakPipe_2 rfl 0 rfl ?_
  refine v_iload_n dL_breakPipe_3 rfl 1 rfl ?_
  refine v_callVic (As := [.int x1]) cv_L_70 (S_X10_breakPipe hl) tt_0 rfl rfl rfl (Nat.le_of_ble_eq_true rfl) dL_breakPipe_4 (CR_rm (by decide) (by decide) (by decide) (by decide)) (fun r1 w1 => ?_) (fun e1 w1 => ?_)
  · refine v_i2l dL_breakPipe_7 ?_
    refine v_last0 dL_breakPipe_8 ?_
    refine v_goto (tgt := 18) dL_breakPipe_9 (by decide) ?_
    refine v_iconst (v := 0) dL_breakPipe_18 (by decide) ?_
    exact v_iret dL_breakPipe_19 rfl rfl (by decide) (by decide)
  · refine v_xsplit ?_ ?_
    · refine v_catch [] (0, 9, 12, 19) [(0, 9, 15, 13)] rfl (fun _ h => absurd h List.not_mem_nil) (by decide) (by decide) gw_857 (by decide) (fun q1 => ?_)
      refine v_astore_n dL_breakPipe_12 rfl (Nat.le_of_ble_eq_true rfl) rfl ?_
      refine v_iconst (v := 1) dL_breakPipe_13 (by decide) ?_
      exact v_iret dL_breakPipe_14 rfl rfl (by decide) (by decide)
    · refine v_xsplit ?_ ?_
      · refine v_catch [(0, 9, 12, 19)] (0, 9, 15, 13) [] rfl (List.forall_mem_cons.mpr ⟨⟨by decide, _, gw_857, by decide⟩, fun _ h => absurd h List.not_mem_nil⟩) (by decide) (by decide) gw_544 (by decide) (fun q1 => ?_)
        refine v_astore_n dL_breakPipe_15 rfl (Nat.le_of_ble_eq_true rfl) rfl ?_
        refine v_iconst (v := 2) dL_breakPipe_16 (by decide) ?_
        exact v_iret dL_breakPipe_17 rfl rfl (by decide) (by decide)
      · exact v_xnone
theorem S_L_breakPipe {g : GC} (hl : g.1.stackTraces = false) {x1 : Int32} {w : XW} : ∀ q, f_L_breakPipe x1 w = some q → MM g (.codeWith yL_breakPipe cL_breakPipe 4 (some .int) [(0, 9, 12, 19), (0, 9, 15, 13)]) yL_breakPipe (rmL 11 1 6) 1 6 [.ref (g.2.1 + 0), .int x1, .ref (g.2.1 + 150)] w (oI q) := fun q hq => MM_ofH (own := RL) hl (by decide) gw_1036 rfl (Nat.le_of_ble_eq_true rfl) (W_L_breakPipe hl q hq) ⟨rfl, rfl⟩

theorem dL_mendPipe_0 : decode cL_mendPipe 0 = .ok (.aload_n 2, 1) := by decide +kernel
theorem dL_mendPipe_1 : decode cL_mendPipe 1 = .ok (.iconst 0, 1) := by decide +kernel
theorem dL_mendPipe_2 : decode cL_mendPipe 2 = .ok (.aload_n 0, 1) := by decide +kernel
theorem dL_mendPipe_3 : decode cL_mendPipe 3 = .ok (.iload_n 1, 1) := by decide +kernel
theorem dL_mendPipe_4 : decode cL_mendPipe 4 = .ok (.invokevirtual 73, 3) := by decide +kernel
theorem dL_mendPipe_7 : decode cL_mendPipe 7 = .ok (.i2l, 1) := by decide +kernel
theorem dL_mendPipe_8 : decode cL_mendPipe 8 = .ok (.lastore, 1) := by decide +kernel
theorem dL_mendPipe_9 : decode cL_mendPipe 9 = .ok (.goto 9, 3) := by decide +kernel
theorem dL_mendPipe_12 : decode cL_mendPipe 12 = .ok (.astore_n 3, 1) := by decide +kernel
theorem dL_mendPipe_13 : decode cL_mendPipe 13 = .ok (.iconst 1, 1) := by decide +kernel
theorem dL_mendPipe_14 : decode cL_mendPipe 14 = .ok (.ireturn, 1) := by decide +kernel
theorem dL_mendPipe_15 : decode cL_mendPipe 15 = .ok (.astore_n 3, 1) := by decide +kernel
theorem dL_mendPipe_16 : decode cL_mendPipe 16 = .ok (.iconst 2, 1) := by decide +kernel
theorem dL_mendPipe_17 : decode cL_mendPipe 17 = .ok (.ireturn, 1) := by decide +kernel
theorem dL_mendPipe_18 : decode cL_mendPipe 18 = .ok (.iconst 0, 1) := by decide +kernel
theorem dL_mendPipe_19 : decode cL_mendPipe 19 = .ok (.ireturn, 1) := by decide +kernel
def f_L_mendPipe (x1 : Int32) (w : XW) : Option (Int32 × XW) := (bCI (f_X10_mendPipe x1 w) (fun r1 w1 => (some (0, (w1.1, (Int32.toInt64 r1), w1.2.2)))) (fun e1 w1 => (if e1 = "java/lang/IndexOutOfBoundsException" then (some (1, w1)) else (if e1 = "java/lang/UnsupportedOperationException" then (some (2, w1)) else none))))
set_option maxRecDepth 100000 in
theorem W_L_mendPipe {g : GC} (hl : g.1.stackTraces = false) {x1 : Int32} {w : XW} : VE g cL_mendPipe 4 RL (some .int) [(0, 9, 12, 19), (0, 9, 15, 13)] (rmL 11 1 6) 1 6 oI 0 0 0 [(0, .ref (g.2.1 + 0)), (1, .int x1), (2, .ref (g.2.1 + 150))] [] w (f_L_mendPipe x1 w) := by
  unfold f_L_mendPipe
  refine v_aload_n dL_mendPipe_0 rfl 2 rfl ?_
  refine v_iconst (v := 0) dL_mendPipe_1 (by decide) ?_
  refine v_aload_n dL_mendPipe_2 rfl 0 rfl ?_
  refine v_iload_n dL_mendPipe_3 rfl 1 rfl ?_
  refine v_callVic (As := [.int x1]) cv_L_73 (S_X10_mendPipe hl) tt_0 rfl rfl rfl (Nat.le_of_ble_eq_true rfl) dL_mendPipe_4 (CR_rm (by decide) (by decide) (by decide) (by decide)) (fun r1 w1 => ?_) (fun e1 w1 => ?_)
  · refine v_i2l dL_mendPipe_7 ?_
    refine v_last0 dL_mendPipe_8 ?_
    refine v_goto (tgt := 18) dL_mendPipe_9 (by decide) ?_
    refine v_iconst (v := 0) dL_mendPipe_18 (by decide) ?_
    exact v_iret dL_mendPipe_19 rfl rfl (by decide) (by decide)
  · refine v_xsplit ?_ ?_
    · refine v_catch [] (0, 9, 12, 19) [(0, 9, 15, 13)] rfl (fun _ h => absurd h List.not_mem_nil) (by decide) (by decide) gw_857 (by decide) (fun q1 => ?_)
      refine v_astore_n dL_mendPipe_12 rfl (Nat.le_of_ble_eq_true rfl) rfl ?_
      refine v_iconst (v := 1) dL_mendPipe_13 (by decide) ?_
      exact v_iret dL_mendPipe_14 rfl rfl (by decide) (by decide)
    · refine v_xsplit ?_ ?_
      · refine v_catch [(0, 9, 12, 19)] (0, 9, 15, 13) [] rfl (List.forall_mem_cons.mpr ⟨⟨by decide, _, gw_857, by decide⟩, fun _ h => absurd h List.not_mem_nil⟩) (by decide) (by decide) gw_544 (by decide) (fun q1 => ?_)
        refine v_astore_n dL_mendPipe_15 rfl (Nat.le_of_ble_eq_true rfl) rfl ?_
        refine v_iconst (v := 2) dL_mendPipe_16 (by decide) ?_
        exact v_iret dL_mendPipe_17 rfl rfl (by decide) (by decide)
      · exact v_xnone
theorem S_L_mendPipe {g : GC} (hl : g.1.stackTraces = false) {x1 : Int32} {w : XW} : ∀ q, f_L_mendPipe x1 w = some q → MM g (.codeWith yL_mendPipe cL_mendPipe 4 (some .int) [(0, 9, 12, 19), (0, 9, 15, 13)]) yL_mendPipe (rmL 11 1 6) 1 6 [.ref (g.2.1 + 0), .int x1, .ref (g.2.1 + 150)] w (oI q) := fun q hq => MM_ofH (own := RL) hl (by decide) gw_1043 rfl (Nat.le_of_ble_eq_true rfl) (W_L_mendPipe hl q hq) ⟨rfl, rfl⟩

theorem dL_pipeFrom_0 : decode cL_pipeFrom 0 = .ok (.aload_n 2, 1) := by decide +kernel
theorem dL_pipeFrom_1 : decode cL_pipeFrom 1 = .ok (.iconst 0, 1) := by decide +kernel
theorem dL_pipeFrom_2 : decode cL_pipeFrom 2 = .ok (.aload_n 0, 1) := by decide +kernel
theorem dL_pipeFrom_3 : decode cL_pipeFrom 3 = .ok (.iload_n 1, 1) := by decide +kernel
theorem dL_pipeFrom_4 : decode cL_pipeFrom 4 = .ok (.invokevirtual 76, 3) := by decide +kernel
theorem dL_pipeFrom_7 : decode cL_pipeFrom 7 = .ok (.i2l, 1) := by decide +kernel
theorem dL_pipeFrom_8 : decode cL_pipeFrom 8 = .ok (.lastore, 1) := by decide +kernel
theorem dL_pipeFrom_9 : decode cL_pipeFrom 9 = .ok (.goto 6, 3) := by decide +kernel
theorem dL_pipeFrom_12 : decode cL_pipeFrom 12 = .ok (.astore_n 3, 1) := by decide +kernel
theorem dL_pipeFrom_13 : decode cL_pipeFrom 13 = .ok (.iconst 1, 1) := by decide +kernel
theorem dL_pipeFrom_14 : decode cL_pipeFrom 14 = .ok (.ireturn, 1) := by decide +kernel
theorem dL_pipeFrom_15 : decode cL_pipeFrom 15 = .ok (.iconst 0, 1) := by decide +kernel
theorem dL_pipeFrom_16 : decode cL_pipeFrom 16 = .ok (.ireturn, 1) := by decide +kernel
def f_L_pipeFrom (x1 : Int32) (w : XW) : Option (Int32 × XW) := (bCI (f_X10_pipeFrom x1 w) (fun r1 w1 => (some (0, (w1.1, (Int32.toInt64 r1), w1.2.2)))) (fun e1 w1 => (if e1 = "java/lang/IndexOutOfBoundsException" then (some (1, w1)) else none)))
set_option maxRecDepth 100000 in
theorem W_L_pipeFrom {g : GC} (hl : g.1.stackTraces = false) {x1 : Int32} {w : XW} : VE g cL_pipeFrom 4 RL (some .int) [(0, 9, 12, 19)] (rmL 6 1 6) 1 6 oI 0 0 0 [(0, .ref (g.2.1 + 0)), (1, .int x1), (2, .ref (g.2.1 + 150))] [] w (f_L_pipeFrom x1 w) := by
  unfold f_L_pipeFrom
  refine v_aload_n dL_pipeFrom_0 rfl 2 rfl ?_
  refine v_iconst (v := 0) dL_pipeFrom_1 (by decide) ?_
  refine v_aload_n dL_pipeFrom_2 rfl 0 rfl ?_
  refine v_iload_n dL_pipeFrom_3 rfl 1 rfl ?_
  refine v_callVic (As := [.int x1]) cv_L_76 (S_X10_pipeFrom hl) tt_0 rfl rfl rfl (Nat.le_of_ble_eq_true rfl) dL_pipeFrom_4 (CR_rm (by decide) (by decide) (by decide) (by decide)) (fun r1 w1 => ?_) (fun e1 w1 => ?_)
  · refine v_i2l dL_pipeFrom_7 ?_
    refine v_last0 dL_pipeFrom_8 ?_
    refine v_goto (tgt := 15) dL_pipeFrom_9 (by decide) ?_
    refine v_iconst (v := 0) dL_pipeFrom_15 (by decide) ?_
    exact v_iret dL_pipeFrom_16 rfl rfl (by decide) (by decide)
  · refine v_xsplit ?_ ?_
    · refine v_catch [] (0, 9, 12, 19) [] rfl (fun _ h => absurd h List.not_mem_nil) (by decide) (by decide) gw_857 (by decide) (fun q1 => ?_)
      refine v_astore_n dL_pipeFrom_12 rfl (Nat.le_of_ble_eq_true rfl) rfl ?_
      refine v_iconst (v := 1) dL_pipeFrom_13 (by decide) ?_
      exact v_iret dL_pipeFrom_14 rfl rfl (by decide) (by decide)
    · exact v_xnone
theorem S_L_pipeFrom {g : GC} (hl : g.1.stackTraces = false) {x1 : Int32} {w : XW} : ∀ q, f_L_pipeFrom x1 w = some q → MM g (.codeWith yL_pipeFrom cL_pipeFrom 4 (some .int) [(0, 9, 12, 19)]) yL_pipeFrom (rmL 6 1 6) 1 6 [.ref (g.2.1 + 0), .int x1, .ref (g.2.1 + 150)] w (oI q) := fun q hq => MM_ofH (own := RL) hl (by decide) gw_1050 rfl (Nat.le_of_ble_eq_true rfl) (W_L_pipeFrom hl q hq) ⟨rfl, rfl⟩

theorem dL_pipeTo_0 : decode cL_pipeTo 0 = .ok (.aload_n 2, 1) := by decide +kernel
theorem dL_pipeTo_1 : decode cL_pipeTo 1 = .ok (.iconst 0, 1) := by decide +kernel
theorem dL_pipeTo_2 : decode cL_pipeTo 2 = .ok (.aload_n 0, 1) := by decide +kernel
theorem dL_pipeTo_3 : decode cL_pipeTo 3 = .ok (.iload_n 1, 1) := by decide +kernel
theorem dL_pipeTo_4 : decode cL_pipeTo 4 = .ok (.invokevirtual 79, 3) := by decide +kernel
theorem dL_pipeTo_7 : decode cL_pipeTo 7 = .ok (.i2l, 1) := by decide +kernel
theorem dL_pipeTo_8 : decode cL_pipeTo 8 = .ok (.lastore, 1) := by decide +kernel
theorem dL_pipeTo_9 : decode cL_pipeTo 9 = .ok (.goto 6, 3) := by decide +kernel
theorem dL_pipeTo_12 : decode cL_pipeTo 12 = .ok (.astore_n 3, 1) := by decide +kernel
theorem dL_pipeTo_13 : decode cL_pipeTo 13 = .ok (.iconst 1, 1) := by decide +kernel
theorem dL_pipeTo_14 : decode cL_pipeTo 14 = .ok (.ireturn, 1) := by decide +kernel
theorem dL_pipeTo_15 : decode cL_pipeTo 15 = .ok (.iconst 0, 1) := by decide +kernel
theorem dL_pipeTo_16 : decode cL_pipeTo 16 = .ok (.ireturn, 1) := by decide +kernel
def f_L_pipeTo (x1 : Int32) (w : XW) : Option (Int32 × XW) := (bCI (f_X10_pipeTo x1 w) (fun r1 w1 => (some (0, (w1.1, (Int32.toInt64 r1), w1.2.2)))) (fun e1 w1 => (if e1 = "java/lang/IndexOutOfBoundsException" then (some (1, w1)) else none)))
set_option maxRecDepth 100000 in
theorem W_L_pipeTo {g : GC} (hl : g.1.stackTraces = false) {x1 : Int32} {w : XW} : VE g cL_pipeTo 4 RL (some .int) [(0, 9, 12, 19)] (rmL 6 1 6) 1 6 oI 0 0 0 [(0, .ref (g.2.1 + 0)), (1, .int x1), (2, .ref (g.2.1 + 150))] [] w (f_L_pipeTo x1 w) := by
  unfold f_L_pipeTo
  refine v_aload_n dL_pipeTo_0 rfl 2 rfl ?_
  refine v_iconst (v := 0) dL_pipeTo_1 (by decide) ?_
  refine v_aload_n dL_pipeTo_2 rfl 0 rfl ?_
  refine v_iload_n dL_pipeTo_3 rfl 1 rfl ?_
  refine v_callVic (As := [.int x1]) cv_L_79 (S_X10_pipeTo hl) tt_0 rfl rfl rfl (Nat.le_of_ble_eq_true rfl) dL_pipeTo_4 (CR_rm (by decide) (by decide) (by decide) (by decide)) (fun r1 w1 => ?_) (fun e1 w1 => ?_)
  · refine v_i2l dL_pipeTo_7 ?_
    refine v_last0 dL_pipeTo_8 ?_
    refine v_goto (tgt := 15) dL_pipeTo_9 (by decide) ?_
    refine v_iconst (v := 0) dL_pipeTo_15 (by decide) ?_
    exact v_iret dL_pipeTo_16 rfl rfl (by decide) (by decide)
  · refine v_xsplit ?_ ?_
    · refine v_catch [] (0, 9, 12, 19) [] rfl (fun _ h => absurd h List.not_mem_nil) (by decide) (by decide) gw_857 (by decide) (fun q1 => ?_)
      refine v_astore_n dL_pipeTo_12 rfl (Nat.le_of_ble_eq_true rfl) rfl ?_
      refine v_iconst (v := 1) dL_pipeTo_13 (by decide) ?_
      exact v_iret dL_pipeTo_14 rfl rfl (by decide) (by decide)
    · exact v_xnone
theorem S_L_pipeTo {g : GC} (hl : g.1.stackTraces = false) {x1 : Int32} {w : XW} : ∀ q, f_L_pipeTo x1 w = some q → MM g (.codeWith yL_pipeTo cL_pipeTo 4 (some .int) [(0, 9, 12, 19)]) yL_pipeTo (rmL 6 1 6) 1 6 [.ref (g.2.1 + 0), .int x1, .ref (g.2.1 + 150)] w (oI q) := fun q hq => MM_ofH (own := RL) hl (by decide) gw_1063 rfl (Nat.le_of_ble_eq_true rfl) (W_L_pipeTo hl q hq) ⟨rfl, rfl⟩

theorem dL_capacity_0 : decode cL_capacity 0 = .ok (.aload_n 2, 1) := by decide +kernel
theorem dL_capacity_1 : decode cL_capacity 1 = .ok (.iconst 0, 1) := by decide +kernel
theorem dL_capacity_2 : decode cL_capacity 2 = .ok (.aload_n 0, 1) := by decide +kernel
theorem dL_capacity_3 : decode cL_capacity 3 = .ok (.iload_n 1, 1) := by decide +kernel
theorem dL_capacity_4 : decode cL_capacity 4 = .ok (.invokevirtual 82, 3) := by decide +kernel
theorem dL_capacity_7 : decode cL_capacity 7 = .ok (.i2l, 1) := by decide +kernel
theorem dL_capacity_8 : decode cL_capacity 8 = .ok (.lastore, 1) := by decide +kernel
theorem dL_capacity_9 : decode cL_capacity 9 = .ok (.goto 6, 3) := by decide +kernel
theorem dL_capacity_12 : decode cL_capacity 12 = .ok (.astore_n 3, 1) := by decide +kernel
theorem dL_capacity_13 : decode cL_capacity 13 = .ok (.iconst 1, 1) := by decide +kernel
theorem dL_capacity_14 : decode cL_capacity 14 = .ok (.ireturn, 1) := by decide +kernel
theorem dL_capacity_15 : decode cL_capacity 15 = .ok (.iconst 0, 1) := by decide +kernel
theorem dL_capacity_16 : decode cL_capacity 16 = .ok (.ireturn, 1) := by decide +kernel
def f_L_capacity (x1 : Int32) (w : XW) : Option (Int32 × XW) := (bCI (f_X10_capacity x1 w) (fun r1 w1 => (some (0, (w1.1, (Int32.toInt64 r1), w1.2.2)))) (fun e1 w1 => (if e1 = "java/lang/IndexOutOfBoundsException" then (some (1, w1)) else none)))
set_option maxRecDepth 100000 in
theorem W_L_capacity {g : GC} (hl : g.1.stackTraces = false) {x1 : Int32} {w : XW} : VE g cL_capacity 4 RL (some .int) [(0, 9, 12, 19)] (rmL 6 1 6) 1 6 oI 0 0 0 [(0, .ref (g.2.1 + 0)), (1, .int x1), (2, .ref (g.2.1 + 150))] [] w (f_L_capacity x1 w) := by
  unfold f_L_capacity
  refine v_aload_n dL_capacity_0 rfl 2 rfl ?_
  refine v_iconst (v := 0) dL_capacity_1 (by decide) ?_
  refine v_aload_n dL_capacity_2 rfl 0 rfl ?_
  refine v_iload_n dL_capacity_3 rfl 1 rfl ?_
  refine v_callVic (As := [.int x1]) cv_L_82 (S_X10_capacity hl) tt_0 rfl rfl rfl (Nat.le_of_ble_eq_true rfl) dL_capacity_4 (CR_rm (by decide) (by decide) (by decide) (by decide)) (fun r1 w1 => ?_) (fun e1 w1 => ?_)
  · refine v_i2l dL_capacity_7 ?_
    refine v_last0 dL_capacity_8 ?_
    refine v_goto (tgt := 15) dL_capacity_9 (by decide) ?_
    refine v_iconst (v := 0) dL_capacity_15 (by decide) ?_
    exact v_iret dL_capacity_16 rfl rfl (by decide) (by decide)
  · refine v_xsplit ?_ ?_
    · refine v_catch [] (0, 9, 12, 19) [] rfl (fun _ h => absurd h List.not_mem_nil) (by decide) (by decide) gw_857 (by decide) (fun q1 => ?_)
      refine v_astore_n dL_capacity_12 rfl (Nat.le_of_ble_eq_true rfl) rfl ?_
      refine v_iconst (v := 1) dL_capacity_13 (by decide) ?_
      exact v_iret dL_capacity_14 rfl rfl (by decide) (by decide)
    · exact v_xnone
theorem S_L_capacity {g : GC} (hl : g.1.stackTraces = false) {x1 : Int32} {w : XW} : ∀ q, f_L_capacity x1 w = some q → MM g (.codeWith yL_capacity cL_capacity 4 (some .int) [(0, 9, 12, 19)]) yL_capacity (rmL 6 1 6) 1 6 [.ref (g.2.1 + 0), .int x1, .ref (g.2.1 + 150)] w (oI q) := fun q hq => MM_ofH (own := RL) hl (by decide) gw_1071 rfl (Nat.le_of_ble_eq_true rfl) (W_L_capacity hl q hq) ⟨rfl, rfl⟩

theorem dL_isBroken_0 : decode cL_isBroken 0 = .ok (.aload_n 2, 1) := by decide +kernel
theorem dL_isBroken_1 : decode cL_isBroken 1 = .ok (.iconst 0, 1) := by decide +kernel
theorem dL_isBroken_2 : decode cL_isBroken 2 = .ok (.aload_n 0, 1) := by decide +kernel
theorem dL_isBroken_3 : decode cL_isBroken 3 = .ok (.iload_n 1, 1) := by decide +kernel
theorem dL_isBroken_4 : decode cL_isBroken 4 = .ok (.invokevirtual 85, 3) := by decide +kernel
theorem dL_isBroken_7 : decode cL_isBroken 7 = .ok (.ifCond .eq 7, 3) := by decide +kernel
theorem dL_isBroken_10 : decode cL_isBroken 10 = .ok (.lconst 1, 1) := by decide +kernel
theorem dL_isBroken_11 : decode cL_isBroken 11 = .ok (.goto 4, 3) := by decide +kernel
theorem dL_isBroken_14 : decode cL_isBroken 14 = .ok (.lconst 0, 1) := by decide +kernel
theorem dL_isBroken_15 : decode cL_isBroken 15 = .ok (.lastore, 1) := by decide +kernel
theorem dL_isBroken_16 : decode cL_isBroken 16 = .ok (.goto 6, 3) := by decide +kernel
theorem dL_isBroken_19 : decode cL_isBroken 19 = .ok (.astore_n 3, 1) := by decide +kernel
theorem dL_isBroken_20 : decode cL_isBroken 20 = .ok (.iconst 1, 1) := by decide +kernel
theorem dL_isBroken_21 : decode cL_isBroken 21 = .ok (.ireturn, 1) := by decide +kernel
theorem dL_isBroken_22 : decode cL_isBroken 22 = .ok (.iconst 0, 1) := by decide +kernel
theorem dL_isBroken_23 : decode cL_isBroken 23 = .ok (.ireturn, 1) := by decide +kernel
def f_L_isBroken (x1 : Int32) (w : XW) : Option (Int32 × XW) := (bCI (f_X10_isBroken x1 w) (fun r1 w1 => (if r1 = 0 then (some (0, (w1.1, 0, w1.2.2))) else (some (0, (w1.1, 1, w1.2.2))))) (fun e1 w1 => (if e1 = "java/lang/IndexOutOfBoundsException" then (some (1, w1)) else none)))
set_option maxRecDepth 100000 in
theorem W_L_isBroken {g : GC} (hl : g.1.stackTraces = false) {x1 : Int32} {w : XW} : VE g cL_isBroken 4 RL (some .int) [(0, 16, 19, 19)] (rmL 6 1 6) 1 6 oI 0 0 0 [(0, .ref (g.2.1 + 0)), (1, .int x1), (2, .ref (g.2.1 + 150))] [] w (f_L_isBroken x1 w) := by
  unfold f_L_isBroken
  refine v_aload_n dL_isBroken_0 rfl 2 rfl ?_
  refine v_iconst (v := 0) dL_isBroken_1 (by decide) ?_
  refine v_aload_n dL_isBroken_2 rfl 0 rfl ?_
  refine v_iload_n dL_isBroken_3 rfl 1 rfl ?_
  refine v_callVic (As := [.int x1]) cv_L_85 (S_X10_isBroken hl) tt_0 rfl rfl rfl (Nat.le_of_ble_eq_true rfl) dL_isBroken_4 (CR_rm (by decide) (by decide) (by decide) (by decide)) (fun r1 w1 => ?_) (fun e1 w1 => ?_)
  · refine v_if_eq (tgt := 14) dL_isBroken_7 (by decide) ?_ ?_
    · refine v_lconst (v := 0) dL_isBroken_14 rfl ?_
      refine v_last0 dL_isBroken_15 ?_
      refine v_goto (tgt := 22) dL_isBroken_16 (by decide) ?_
      refine v_iconst (v := 0) dL_isBroken_22 (by decide) ?_
      exact v_iret dL_isBroken_23 rfl rfl (by decide) (by decide)
    · refine v_lconst (v := 1) dL_isBroken_10 rfl ?_
      refine v_goto (tgt := 15) dL_isBroken_11 (by decide) ?_
      refine v_last0 dL_isBroken_15 ?_
      refine v_goto (tgt := 22) dL_isBroken_16 (by decide) ?_
      refine v_iconst (v := 0) dL_isBroken_22 (by decide) ?_
      exact v_iret dL_isBroken_23 rfl rfl (by decide) (by decide)
  · refine v_xsplit ?_ ?_
    · refine v_catch [] (0, 16, 19, 19) [] rfl (fun _ h => absurd h List.not_mem_nil) (by decide) (by decide) gw_857 (by decide) (fun q1 => ?_)
      refine v_astore_n dL_isBroken_19 rfl (Nat.le_of_ble_eq_true rfl) rfl ?_
      refine v_iconst (v := 1) dL_isBroken_20 (by decide) ?_
      exact v_iret dL_isBroken_21 rfl rfl (by decide) (by decide)
    · exact v_xnone
theorem S_L_isBroken {g : GC} (hl : g.1.stackTraces = false) {x1 : Int32} {w : XW} : ∀ q, f_L_isBroken x1 w = some q → MM g (.codeWith yL_isBroken cL_isBroken 4 (some .int) [(0, 16, 19, 19)]) yL_isBroken (rmL 6 1 6) 1 6 [.ref (g.2.1 + 0), .int x1, .ref (g.2.1 + 150)] w (oI q) := fun q hq => MM_ofH (own := RL) hl (by decide) gw_1079 rfl (Nat.le_of_ble_eq_true rfl) (W_L_isBroken hl q hq) ⟨rfl, rfl⟩

theorem dL_greatestFlow_0 : decode cL_greatestFlow 0 = .ok (.aload_n 1, 1) := by decide +kernel
theorem dL_greatestFlow_1 : decode cL_greatestFlow 1 = .ok (.iconst 0, 1) := by decide +kernel
theorem dL_greatestFlow_2 : decode cL_greatestFlow 2 = .ok (.aload_n 0, 1) := by decide +kernel
theorem dL_greatestFlow_3 : decode cL_greatestFlow 3 = .ok (.invokevirtual 88, 3) := by decide +kernel
theorem dL_greatestFlow_6 : decode cL_greatestFlow 6 = .ok (.i2l, 1) := by decide +kernel
theorem dL_greatestFlow_7 : decode cL_greatestFlow 7 = .ok (.lastore, 1) := by decide +kernel
theorem dL_greatestFlow_8 : decode cL_greatestFlow 8 = .ok (.goto 6, 3) := by decide +kernel
theorem dL_greatestFlow_11 : decode cL_greatestFlow 11 = .ok (.astore_n 2, 1) := by decide +kernel
theorem dL_greatestFlow_12 : decode cL_greatestFlow 12 = .ok (.iconst 1, 1) := by decide +kernel
theorem dL_greatestFlow_13 : decode cL_greatestFlow 13 = .ok (.ireturn, 1) := by decide +kernel
theorem dL_greatestFlow_14 : decode cL_greatestFlow 14 = .ok (.iconst 0, 1) := by decide +kernel
theorem dL_greatestFlow_15 : decode cL_greatestFlow 15 = .ok (.ireturn, 1) := by decide +kernel
def f_L_greatestFlow (w : XW) : Option (Int32 × XW) := (bCI (f_X10_greatestFlow w) (fun r1 w1 => (some (0, (w1.1, (Int32.toInt64 r1), w1.2.2)))) (fun e1 w1 => (if e1 = "java/lang/UnsupportedOperationException" then (some (1, w1)) else none)))
set_option maxRecDepth 100000 in
theorem W_L_greatestFlow {g : GC} (hl : g.1.stackTraces = false) {w : XW} : VE g cL_greatestFlow 3 RL (some .int) [(0, 8, 11, 13)] (rmL 8 1 6) 1 6 oI 0 0 0 [(0, .ref (g.2.1 + 0)), (1, .ref (g.2.1 + 150))] [] w (f_L_greatestFlow  w) := by
  unfold f_L_greatestFlow
  refine v_aload_n dL_greatestFlow_0 rfl 1 rfl ?_
  refine v_iconst (v := 0) dL_greatestFlow_1 (by decide) ?_
  refine v_aload_n dL_greatestFlow_2 rfl 0 rfl ?_
  refine v_callVic (As := []) cv_L_88 (S_X10_greatestFlow hl) tt_0 rfl rfl rfl (Nat.le_of_ble_eq_true rfl) dL_greatestFlow_3 (CR_rm (by decide) (by decide) (by decide) (by decide)) (fun r1 w1 => ?_) (fun e1 w1 => ?_)
  · refine v_i2l dL_greatestFlow_6 ?_
    refine v_last0 dL_greatestFlow_7 ?_
    refine v_goto (tgt := 14) dL_greatestFlow_8 (by decide) ?_
    refine v_iconst (v := 0) dL_greatestFlow_14 (by decide) ?_
    exact v_iret dL_greatestFlow_15 rfl rfl (by decide) (by decide)
  · refine v_xsplit ?_ ?_
    · refine v_catch [] (0, 8, 11, 13) [] rfl (fun _ h => absurd h List.not_mem_nil) (by decide) (by decide) gw_544 (by decide) (fun q1 => ?_)
      refine v_astore_n dL_greatestFlow_11 rfl (Nat.le_of_ble_eq_true rfl) rfl ?_
      refine v_iconst (v := 1) dL_greatestFlow_12 (by decide) ?_
      exact v_iret dL_greatestFlow_13 rfl rfl (by decide) (by decide)
    · exact v_xnone
theorem S_L_greatestFlow {g : GC} (hl : g.1.stackTraces = false) {w : XW} : ∀ q, f_L_greatestFlow  w = some q → MM g (.codeWith yL_greatestFlow cL_greatestFlow 3 (some .int) [(0, 8, 11, 13)]) yL_greatestFlow (rmL 8 1 6) 1 6 [.ref (g.2.1 + 0), .ref (g.2.1 + 150)] w (oI q) := fun q hq => MM_ofH (own := RL) hl (by decide) gw_1087 rfl (Nat.le_of_ble_eq_true rfl) (W_L_greatestFlow hl q hq) ⟨rfl, rfl⟩

theorem dL_smallestCut_0 : decode cL_smallestCut 0 = .ok (.aload_n 1, 1) := by decide +kernel
theorem dL_smallestCut_1 : decode cL_smallestCut 1 = .ok (.iconst 0, 1) := by decide +kernel
theorem dL_smallestCut_2 : decode cL_smallestCut 2 = .ok (.aload_n 0, 1) := by decide +kernel
theorem dL_smallestCut_3 : decode cL_smallestCut 3 = .ok (.invokevirtual 91, 3) := by decide +kernel
theorem dL_smallestCut_6 : decode cL_smallestCut 6 = .ok (.i2l, 1) := by decide +kernel
theorem dL_smallestCut_7 : decode cL_smallestCut 7 = .ok (.lastore, 1) := by decide +kernel
theorem dL_smallestCut_8 : decode cL_smallestCut 8 = .ok (.goto 6, 3) := by decide +kernel
theorem dL_smallestCut_11 : decode cL_smallestCut 11 = .ok (.astore_n 2, 1) := by decide +kernel
theorem dL_smallestCut_12 : decode cL_smallestCut 12 = .ok (.iconst 1, 1) := by decide +kernel
theorem dL_smallestCut_13 : decode cL_smallestCut 13 = .ok (.ireturn, 1) := by decide +kernel
theorem dL_smallestCut_14 : decode cL_smallestCut 14 = .ok (.iconst 0, 1) := by decide +kernel
theorem dL_smallestCut_15 : decode cL_smallestCut 15 = .ok (.ireturn, 1) := by decide +kernel
def f_L_smallestCut (w : XW) : Option (Int32 × XW) := (bCI (f_X10_smallestCut w) (fun r1 w1 => (some (0, (w1.1, (Int32.toInt64 r1), w1.2.2)))) (fun e1 w1 => (if e1 = "java/lang/UnsupportedOperationException" then (some (1, w1)) else none)))
set_option maxRecDepth 100000 in
theorem W_L_smallestCut {g : GC} (hl : g.1.stackTraces = false) {w : XW} : VE g cL_smallestCut 3 RL (some .int) [(0, 8, 11, 13)] (rmL 8 1 6) 1 6 oI 0 0 0 [(0, .ref (g.2.1 + 0)), (1, .ref (g.2.1 + 150))] [] w (f_L_smallestCut  w) := by
  unfold f_L_smallestCut
  refine v_aload_n dL_smallestCut_0 rfl 1 rfl ?_
  refine v_iconst (v := 0) dL_smallestCut_1 (by decide) ?_
  refine v_aload_n dL_smallestCut_2 rfl 0 rfl ?_
  refine v_callVic (As := []) cv_L_91 (S_X10_smallestCut hl) tt_0 rfl rfl rfl (Nat.le_of_ble_eq_true rfl) dL_smallestCut_3 (CR_rm (by decide) (by decide) (by decide) (by decide)) (fun r1 w1 => ?_) (fun e1 w1 => ?_)
  · refine v_i2l dL_smallestCut_6 ?_
    refine v_last0 dL_smallestCut_7 ?_
    refine v_goto (tgt := 14) dL_smallestCut_8 (by decide) ?_
    refine v_iconst (v := 0) dL_smallestCut_14 (by decide) ?_
    exact v_iret dL_smallestCut_15 rfl rfl (by decide) (by decide)
  · refine v_xsplit ?_ ?_
    · refine v_catch [] (0, 8, 11, 13) [] rfl (fun _ h => absurd h List.not_mem_nil) (by decide) (by decide) gw_544 (by decide) (fun q1 => ?_)
      refine v_astore_n dL_smallestCut_11 rfl (Nat.le_of_ble_eq_true rfl) rfl ?_
      refine v_iconst (v := 1) dL_smallestCut_12 (by decide) ?_
      exact v_iret dL_smallestCut_13 rfl rfl (by decide) (by decide)
    · exact v_xnone
theorem S_L_smallestCut {g : GC} (hl : g.1.stackTraces = false) {w : XW} : ∀ q, f_L_smallestCut  w = some q → MM g (.codeWith yL_smallestCut cL_smallestCut 3 (some .int) [(0, 8, 11, 13)]) yL_smallestCut (rmL 8 1 6) 1 6 [.ref (g.2.1 + 0), .ref (g.2.1 + 150)] w (oI q) := fun q hq => MM_ofH (own := RL) hl (by decide) gw_1096 rfl (Nat.le_of_ble_eq_true rfl) (W_L_smallestCut hl q hq) ⟨rfl, rfl⟩

theorem dL_lossOf_0 : decode cL_lossOf 0 = .ok (.aload_n 2, 1) := by decide +kernel
theorem dL_lossOf_1 : decode cL_lossOf 1 = .ok (.iconst 0, 1) := by decide +kernel
theorem dL_lossOf_2 : decode cL_lossOf 2 = .ok (.aload_n 0, 1) := by decide +kernel
theorem dL_lossOf_3 : decode cL_lossOf 3 = .ok (.iload_n 1, 1) := by decide +kernel
theorem dL_lossOf_4 : decode cL_lossOf 4 = .ok (.invokevirtual 94, 3) := by decide +kernel
theorem dL_lossOf_7 : decode cL_lossOf 7 = .ok (.i2l, 1) := by decide +kernel
theorem dL_lossOf_8 : decode cL_lossOf 8 = .ok (.lastore, 1) := by decide +kernel
theorem dL_lossOf_9 : decode cL_lossOf 9 = .ok (.goto 6, 3) := by decide +kernel
theorem dL_lossOf_12 : decode cL_lossOf 12 = .ok (.astore_n 3, 1) := by decide +kernel
theorem dL_lossOf_13 : decode cL_lossOf 13 = .ok (.iconst 1, 1) := by decide +kernel
theorem dL_lossOf_14 : decode cL_lossOf 14 = .ok (.ireturn, 1) := by decide +kernel
theorem dL_lossOf_15 : decode cL_lossOf 15 = .ok (.iconst 0, 1) := by decide +kernel
theorem dL_lossOf_16 : decode cL_lossOf 16 = .ok (.ireturn, 1) := by decide +kernel
def f_L_lossOf (x1 : Int32) (w : XW) : Option (Int32 × XW) := (bCI (f_X10_lossOf x1 w) (fun r1 w1 => (some (0, (w1.1, (Int32.toInt64 r1), w1.2.2)))) (fun e1 w1 => (if e1 = "java/lang/IndexOutOfBoundsException" then (some (1, w1)) else none)))
set_option maxRecDepth 100000 in
theorem W_L_lossOf {g : GC} (hl : g.1.stackTraces = false) {x1 : Int32} {w : XW} : VE g cL_lossOf 4 RL (some .int) [(0, 9, 12, 19)] (rmL 8 1 6) 1 6 oI 0 0 0 [(0, .ref (g.2.1 + 0)), (1, .int x1), (2, .ref (g.2.1 + 150))] [] w (f_L_lossOf x1 w) := by
  unfold f_L_lossOf
  refine v_aload_n dL_lossOf_0 rfl 2 rfl ?_
  refine v_iconst (v := 0) dL_lossOf_1 (by decide) ?_
  refine v_aload_n dL_lossOf_2 rfl 0 rfl ?_
  refine v_iload_n dL_lossOf_3 rfl 1 rfl ?_
  refine v_callVic (As := [.int x1]) cv_L_94 (S_X10_lossOf hl) tt_0 rfl rfl rfl (Nat.le_of_ble_eq_true rfl) dL_lossOf_4 (CR_rm (by decide) (by decide) (by decide) (by decide)) (fun r1 w1 => ?_) (fun e1 w1 => ?_)
  · refine v_i2l dL_lossOf_7 ?_
    refine v_last0 dL_lossOf_8 ?_
    refine v_goto (tgt := 15) dL_lossOf_9 (by decide) ?_
    refine v_iconst (v := 0) dL_lossOf_15 (by decide) ?_
    exact v_iret dL_lossOf_16 rfl rfl (by decide) (by decide)
  · refine v_xsplit ?_ ?_
    · refine v_catch [] (0, 9, 12, 19) [] rfl (fun _ h => absurd h List.not_mem_nil) (by decide) (by decide) gw_857 (by decide) (fun q1 => ?_)
      refine v_astore_n dL_lossOf_12 rfl (Nat.le_of_ble_eq_true rfl) rfl ?_
      refine v_iconst (v := 1) dL_lossOf_13 (by decide) ?_
      exact v_iret dL_lossOf_14 rfl rfl (by decide) (by decide)
    · exact v_xnone
theorem S_L_lossOf {g : GC} (hl : g.1.stackTraces = false) {x1 : Int32} {w : XW} : ∀ q, f_L_lossOf x1 w = some q → MM g (.codeWith yL_lossOf cL_lossOf 4 (some .int) [(0, 9, 12, 19)]) yL_lossOf (rmL 8 1 6) 1 6 [.ref (g.2.1 + 0), .int x1, .ref (g.2.1 + 150)] w (oI q) := fun q hq => MM_ofH (own := RL) hl (by decide) gw_1113 rfl (Nat.le_of_ble_eq_true rfl) (W_L_lossOf hl q hq) ⟨rfl, rfl⟩

theorem dL_drain_0 : decode cL_drain 0 = .ok (.aload_n 1, 1) := by decide +kernel
theorem dL_drain_1 : decode cL_drain 1 = .ok (.iconst 0, 1) := by decide +kernel
theorem dL_drain_2 : decode cL_drain 2 = .ok (.aload_n 0, 1) := by decide +kernel
theorem dL_drain_3 : decode cL_drain 3 = .ok (.invokevirtual 97, 3) := by decide +kernel
theorem dL_drain_6 : decode cL_drain 6 = .ok (.i2l, 1) := by decide +kernel
theorem dL_drain_7 : decode cL_drain 7 = .ok (.lastore, 1) := by decide +kernel
theorem dL_drain_8 : decode cL_drain 8 = .ok (.goto 6, 3) := by decide +kernel
theorem dL_drain_11 : decode cL_drain 11 = .ok (.astore_n 2, 1) := by decide +kernel
theorem dL_drain_12 : decode cL_drain 12 = .ok (.iconst 1, 1) := by decide +kernel
theorem dL_drain_13 : decode cL_drain 13 = .ok (.ireturn, 1) := by decide +kernel
theorem dL_drain_14 : decode cL_drain 14 = .ok (.iconst 0, 1) := by decide +kernel
theorem dL_drain_15 : decode cL_drain 15 = .ok (.ireturn, 1) := by decide +kernel
def f_L_drain (w : XW) : Option (Int32 × XW) := (bCI (f_X10_drain w) (fun r1 w1 => (some (0, (w1.1, (Int32.toInt64 r1), w1.2.2)))) (fun e1 w1 => (if e1 = "java/lang/UnsupportedOperationException" then (some (1, w1)) else none)))
set_option maxRecDepth 100000 in
theorem W_L_drain {g : GC} (hl : g.1.stackTraces = false) {w : XW} : VE g cL_drain 3 RL (some .int) [(0, 8, 11, 13)] (rmL 11 1 6) 1 6 oI 0 0 0 [(0, .ref (g.2.1 + 0)), (1, .ref (g.2.1 + 150))] [] w (f_L_drain  w) := by
  unfold f_L_drain
  refine v_aload_n dL_drain_0 rfl 1 rfl ?_
  refine v_iconst (v := 0) dL_drain_1 (by decide) ?_
  refine v_aload_n dL_drain_2 rfl 0 rfl ?_
  refine v_callVic (As := []) cv_L_97 (S_X10_drain hl) tt_0 rfl rfl rfl (Nat.le_of_ble_eq_true rfl) dL_drain_3 (CR_rm (by decide) (by decide) (by decide) (by decide)) (fun r1 w1 => ?_) (fun e1 w1 => ?_)
  · refine v_i2l dL_drain_6 ?_
    refine v_last0 dL_drain_7 ?_
    refine v_goto (tgt := 14) dL_drain_8 (by decide) ?_
    refine v_iconst (v := 0) dL_drain_14 (by decide) ?_
    exact v_iret dL_drain_15 rfl rfl (by decide) (by decide)
  · refine v_xsplit ?_ ?_
    · refine v_catch [] (0, 8, 11, 13) [] rfl (fun _ h => absurd h List.not_mem_nil) (by decide) (by decide) gw_544 (by decide) (fun q1 => ?_)
      refine v_astore_n dL_drain_11 rfl (Nat.le_of_ble_eq_true rfl) rfl ?_
      refine v_iconst (v := 1) dL_drain_12 (by decide) ?_
      exact v_iret dL_drain_13 rfl rfl (by decide) (by decide)
    · exact v_xnone
theorem S_L_drain {g : GC} (hl : g.1.stackTraces = false) {w : XW} : ∀ q, f_L_drain  w = some q → MM g (.codeWith yL_drain cL_drain 3 (some .int) [(0, 8, 11, 13)]) yL_drain (rmL 11 1 6) 1 6 [.ref (g.2.1 + 0), .ref (g.2.1 + 150)] w (oI q) := fun q hq => MM_ofH (own := RL) hl (by decide) gw_1120 rfl (Nat.le_of_ble_eq_true rfl) (W_L_drain hl q hq) ⟨rfl, rfl⟩

theorem dL_seep_0 : decode cL_seep 0 = .ok (.aload_n 1, 1) := by decide +kernel
theorem dL_seep_1 : decode cL_seep 1 = .ok (.iconst 0, 1) := by decide +kernel
theorem dL_seep_2 : decode cL_seep 2 = .ok (.aload_n 0, 1) := by decide +kernel
theorem dL_seep_3 : decode cL_seep 3 = .ok (.invokevirtual 100, 3) := by decide +kernel
theorem dL_seep_6 : decode cL_seep 6 = .ok (.i2l, 1) := by decide +kernel
theorem dL_seep_7 : decode cL_seep 7 = .ok (.lastore, 1) := by decide +kernel
theorem dL_seep_8 : decode cL_seep 8 = .ok (.goto 6, 3) := by decide +kernel
theorem dL_seep_11 : decode cL_seep 11 = .ok (.astore_n 2, 1) := by decide +kernel
theorem dL_seep_12 : decode cL_seep 12 = .ok (.iconst 1, 1) := by decide +kernel
theorem dL_seep_13 : decode cL_seep 13 = .ok (.ireturn, 1) := by decide +kernel
theorem dL_seep_14 : decode cL_seep 14 = .ok (.iconst 0, 1) := by decide +kernel
theorem dL_seep_15 : decode cL_seep 15 = .ok (.ireturn, 1) := by decide +kernel
def f_L_seep (w : XW) : Option (Int32 × XW) := (bCI (f_X10_seep w) (fun r1 w1 => (some (0, (w1.1, (Int32.toInt64 r1), w1.2.2)))) (fun e1 w1 => (if e1 = "java/lang/UnsupportedOperationException" then (some (1, w1)) else none)))
set_option maxRecDepth 100000 in
theorem W_L_seep {g : GC} (hl : g.1.stackTraces = false) {w : XW} : VE g cL_seep 3 RL (some .int) [(0, 8, 11, 13)] (rmL 11 1 6) 1 6 oI 0 0 0 [(0, .ref (g.2.1 + 0)), (1, .ref (g.2.1 + 150))] [] w (f_L_seep  w) := by
  unfold f_L_seep
  refine v_aload_n dL_seep_0 rfl 1 rfl ?_
  refine v_iconst (v := 0) dL_seep_1 (by decide) ?_
  refine v_aload_n dL_seep_2 rfl 0 rfl ?_
  refine v_callVic (As := []) cv_L_100 (S_X10_seep hl) tt_0 rfl rfl rfl (Nat.le_of_ble_eq_true rfl) dL_seep_3 (CR_rm (by decide) (by decide) (by decide) (by decide)) (fun r1 w1 => ?_) (fun e1 w1 => ?_)
  · refine v_i2l dL_seep_6 ?_
    refine v_last0 dL_seep_7 ?_
    refine v_goto (tgt := 14) dL_seep_8 (by decide) ?_
    refine v_iconst (v := 0) dL_seep_14 (by decide) ?_
    exact v_iret dL_seep_15 rfl rfl (by decide) (by decide)
  · refine v_xsplit ?_ ?_
    · refine v_catch [] (0, 8, 11, 13) [] rfl (fun _ h => absurd h List.not_mem_nil) (by decide) (by decide) gw_544 (by decide) (fun q1 => ?_)
      refine v_astore_n dL_seep_11 rfl (Nat.le_of_ble_eq_true rfl) rfl ?_
      refine v_iconst (v := 1) dL_seep_12 (by decide) ?_
      exact v_iret dL_seep_13 rfl rfl (by decide) (by decide)
    · exact v_xnone
theorem S_L_seep {g : GC} (hl : g.1.stackTraces = false) {w : XW} : ∀ q, f_L_seep  w = some q → MM g (.codeWith yL_seep cL_seep 3 (some .int) [(0, 8, 11, 13)]) yL_seep (rmL 11 1 6) 1 6 [.ref (g.2.1 + 0), .ref (g.2.1 + 150)] w (oI q) := fun q hq => MM_ofH (own := RL) hl (by decide) gw_1127 rfl (Nat.le_of_ble_eq_true rfl) (W_L_seep hl q hq) ⟨rfl, rfl⟩

theorem dL_meanWater_0 : decode cL_meanWater 0 = .ok (.aload_n 1, 1) := by decide +kernel
theorem dL_meanWater_1 : decode cL_meanWater 1 = .ok (.iconst 0, 1) := by decide +kernel
theorem dL_meanWater_2 : decode cL_meanWater 2 = .ok (.aload_n 0, 1) := by decide +kernel
theorem dL_meanWater_3 : decode cL_meanWater 3 = .ok (.invokevirtual 103, 3) := by decide +kernel
theorem dL_meanWater_6 : decode cL_meanWater 6 = .ok (.dastore, 1) := by decide +kernel
theorem dL_meanWater_7 : decode cL_meanWater 7 = .ok (.goto 6, 3) := by decide +kernel
theorem dL_meanWater_10 : decode cL_meanWater 10 = .ok (.astore_n 2, 1) := by decide +kernel
theorem dL_meanWater_11 : decode cL_meanWater 11 = .ok (.iconst 1, 1) := by decide +kernel
theorem dL_meanWater_12 : decode cL_meanWater 12 = .ok (.ireturn, 1) := by decide +kernel
theorem dL_meanWater_13 : decode cL_meanWater 13 = .ok (.iconst 0, 1) := by decide +kernel
theorem dL_meanWater_14 : decode cL_meanWater 14 = .ok (.ireturn, 1) := by decide +kernel
def f_L_meanWater (w : XW) : Option (Int32 × XW) := (bCD (f_X10_meanWater w) (fun r1 w1 => (some (0, (w1.1, w1.2.1, r1)))) (fun e1 w1 => (if e1 = "java/lang/ArithmeticException" then (some (1, w1)) else none)))
set_option maxRecDepth 100000 in
theorem W_L_meanWater {g : GC} (hl : g.1.stackTraces = false) {w : XW} : VE g cL_meanWater 3 RL (some .int) [(0, 7, 10, 107)] (rmL 5 1 6) 1 6 oI 0 0 0 [(0, .ref (g.2.1 + 0)), (1, .ref (g.2.1 + 151))] [] w (f_L_meanWater  w) := by
  unfold f_L_meanWater
  refine v_aload_n dL_meanWater_0 rfl 1 rfl ?_
  refine v_iconst (v := 0) dL_meanWater_1 (by decide) ?_
  refine v_aload_n dL_meanWater_2 rfl 0 rfl ?_
  refine v_callVdc (As := []) cv_L_103 (S_X10_meanWater hl) tt_0 rfl rfl rfl (Nat.le_of_ble_eq_true rfl) dL_meanWater_3 (CR_rm (by decide) (by decide) (by decide) (by decide)) (fun r1 w1 => ?_) (fun e1 w1 => ?_)
  · refine v_dast0 dL_meanWater_6 ?_
    refine v_goto (tgt := 13) dL_meanWater_7 (by decide) ?_
    refine v_iconst (v := 0) dL_meanWater_13 (by decide) ?_
    exact v_iret dL_meanWater_14 rfl rfl (by decide) (by decide)
  · refine v_xsplit ?_ ?_
    · refine v_catch [] (0, 7, 10, 107) [] rfl (fun _ h => absurd h List.not_mem_nil) (by decide) (by decide) gw_1135 (by decide) (fun q1 => ?_)
      refine v_astore_n dL_meanWater_10 rfl (Nat.le_of_ble_eq_true rfl) rfl ?_
      refine v_iconst (v := 1) dL_meanWater_11 (by decide) ?_
      exact v_iret dL_meanWater_12 rfl rfl (by decide) (by decide)
    · exact v_xnone
theorem S_L_meanWater {g : GC} (hl : g.1.stackTraces = false) {w : XW} : ∀ q, f_L_meanWater  w = some q → MM g (.codeWith yL_meanWater cL_meanWater 3 (some .int) [(0, 7, 10, 107)]) yL_meanWater (rmL 5 1 6) 1 6 [.ref (g.2.1 + 0), .ref (g.2.1 + 151)] w (oI q) := fun q hq => MM_ofH (own := RL) hl (by decide) gw_1134 rfl (Nat.le_of_ble_eq_true rfl) (W_L_meanWater hl q hq) ⟨rfl, rfl⟩

theorem dL_leakedShare_0 : decode cL_leakedShare 0 = .ok (.aload_n 1, 1) := by decide +kernel
theorem dL_leakedShare_1 : decode cL_leakedShare 1 = .ok (.iconst 0, 1) := by decide +kernel
theorem dL_leakedShare_2 : decode cL_leakedShare 2 = .ok (.aload_n 0, 1) := by decide +kernel
theorem dL_leakedShare_3 : decode cL_leakedShare 3 = .ok (.invokevirtual 109, 3) := by decide +kernel
theorem dL_leakedShare_6 : decode cL_leakedShare 6 = .ok (.f2d, 1) := by decide +kernel
theorem dL_leakedShare_7 : decode cL_leakedShare 7 = .ok (.dastore, 1) := by decide +kernel
theorem dL_leakedShare_8 : decode cL_leakedShare 8 = .ok (.goto 6, 3) := by decide +kernel
theorem dL_leakedShare_11 : decode cL_leakedShare 11 = .ok (.astore_n 2, 1) := by decide +kernel
theorem dL_leakedShare_12 : decode cL_leakedShare 12 = .ok (.iconst 1, 1) := by decide +kernel
theorem dL_leakedShare_13 : decode cL_leakedShare 13 = .ok (.ireturn, 1) := by decide +kernel
theorem dL_leakedShare_14 : decode cL_leakedShare 14 = .ok (.iconst 0, 1) := by decide +kernel
theorem dL_leakedShare_15 : decode cL_leakedShare 15 = .ok (.ireturn, 1) := by decide +kernel
def f_L_leakedShare (w : XW) : Option (Int32 × XW) := (bCF (f_X10_leakedShare w) (fun r1 w1 => (if okF64 (FP.f2d r1) then (some (0, (w1.1, w1.2.1, (FP.f2d r1)))) else none)) (fun e1 w1 => (if e1 = "java/lang/ArithmeticException" then (some (1, w1)) else none)))
set_option maxRecDepth 100000 in
theorem W_L_leakedShare {g : GC} (hl : g.1.stackTraces = false) {w : XW} : VE g cL_leakedShare 3 RL (some .int) [(0, 8, 11, 107)] (rmL 4 1 6) 1 6 oI 0 0 0 [(0, .ref (g.2.1 + 0)), (1, .ref (g.2.1 + 151))] [] w (f_L_leakedShare  w) := by
  unfold f_L_leakedShare
  refine v_aload_n dL_leakedShare_0 rfl 1 rfl ?_
  refine v_iconst (v := 0) dL_leakedShare_1 (by decide) ?_
  refine v_aload_n dL_leakedShare_2 rfl 0 rfl ?_
  refine v_callVfc (As := []) cv_L_109 (S_X10_leakedShare hl) tt_0 rfl rfl rfl (Nat.le_of_ble_eq_true rfl) dL_leakedShare_3 (CR_rm (by decide) (by decide) (by decide) (by decide)) (fun r1 w1 => ?_) (fun e1 w1 => ?_)
  · refine v_guard (fun h2 => ?_)
    refine v_f2d dL_leakedShare_6 (okF64_ok h2) ?_
    refine v_dast0 dL_leakedShare_7 ?_
    refine v_goto (tgt := 14) dL_leakedShare_8 (by decide) ?_
    refine v_iconst (v := 0) dL_leakedShare_14 (by decide) ?_
    exact v_iret dL_leakedShare_15 rfl rfl (by decide) (by decide)
  · refine v_xsplit ?_ ?_
    · refine v_catch [] (0, 8, 11, 107) [] rfl (fun _ h => absurd h List.not_mem_nil) (by decide) (by decide) gw_1135 (by decide) (fun q1 => ?_)
      refine v_astore_n dL_leakedShare_11 rfl (Nat.le_of_ble_eq_true rfl) rfl ?_
      refine v_iconst (v := 1) dL_leakedShare_12 (by decide) ?_
      exact v_iret dL_leakedShare_13 rfl rfl (by decide) (by decide)
    · exact v_xnone
theorem S_L_leakedShare {g : GC} (hl : g.1.stackTraces = false) {w : XW} : ∀ q, f_L_leakedShare  w = some q → MM g (.codeWith yL_leakedShare cL_leakedShare 3 (some .int) [(0, 8, 11, 107)]) yL_leakedShare (rmL 4 1 6) 1 6 [.ref (g.2.1 + 0), .ref (g.2.1 + 151)] w (oI q) := fun q hq => MM_ofH (own := RL) hl (by decide) gw_1160 rfl (Nat.le_of_ble_eq_true rfl) (W_L_leakedShare hl q hq) ⟨rfl, rfl⟩

theorem dL_feed_0 : decode cL_feed 0 = .ok (.aload_n 2, 1) := by decide +kernel
theorem dL_feed_1 : decode cL_feed 1 = .ok (.iconst 0, 1) := by decide +kernel
theorem dL_feed_2 : decode cL_feed 2 = .ok (.aload_n 0, 1) := by decide +kernel
theorem dL_feed_3 : decode cL_feed 3 = .ok (.iload_n 1, 1) := by decide +kernel
theorem dL_feed_4 : decode cL_feed 4 = .ok (.invokevirtual 113, 3) := by decide +kernel
theorem dL_feed_7 : decode cL_feed 7 = .ok (.i2l, 1) := by decide +kernel
theorem dL_feed_8 : decode cL_feed 8 = .ok (.lastore, 1) := by decide +kernel
theorem dL_feed_9 : decode cL_feed 9 = .ok (.goto 6, 3) := by decide +kernel
theorem dL_feed_12 : decode cL_feed 12 = .ok (.astore_n 3, 1) := by decide +kernel
theorem dL_feed_13 : decode cL_feed 13 = .ok (.iconst 1, 1) := by decide +kernel
theorem dL_feed_14 : decode cL_feed 14 = .ok (.ireturn, 1) := by decide +kernel
theorem dL_feed_15 : decode cL_feed 15 = .ok (.iconst 0, 1) := by decide +kernel
theorem dL_feed_16 : decode cL_feed 16 = .ok (.ireturn, 1) := by decide +kernel
def f_L_feed (x1 : Int32) (w : XW) : Option (Int32 × XW) := (bCI (f_X10_feed x1 w) (fun r1 w1 => (some (0, (w1.1, (Int32.toInt64 r1), w1.2.2)))) (fun e1 w1 => (if e1 = "java/lang/IllegalStateException" then (some (1, w1)) else none)))
set_option maxRecDepth 100000 in
theorem W_L_feed {g : GC} (hl : g.1.stackTraces = false) {x1 : Int32} {w : XW} : VE g cL_feed 4 RL (some .int) [(0, 9, 12, 116)] (rmL 5 1 6) 1 6 oI 0 0 0 [(0, .ref (g.2.1 + 0)), (1, .int x1), (2, .ref (g.2.1 + 150))] [] w (f_L_feed x1 w) := by
  unfold f_L_feed
  refine v_aload_n dL_feed_0 rfl 2 rfl ?_
  refine v_iconst (v := 0) dL_feed_1 (by decide) ?_
  refine v_aload_n dL_feed_2 rfl 0 rfl ?_
  refine v_iload_n dL_feed_3 rfl 1 rfl ?_
  refine v_callVic (As := [.int x1]) cv_L_113 (S_X10_feed hl) tt_0 rfl rfl rfl (Nat.le_of_ble_eq_true rfl) dL_feed_4 (CR_rm (by decide) (by decide) (by decide) (by decide)) (fun r1 w1 => ?_) (fun e1 w1 => ?_)
  · refine v_i2l dL_feed_7 ?_
    refine v_last0 dL_feed_8 ?_
    refine v_goto (tgt := 15) dL_feed_9 (by decide) ?_
    refine v_iconst (v := 0) dL_feed_15 (by decide) ?_
    exact v_iret dL_feed_16 rfl rfl (by decide) (by decide)
  · refine v_xsplit ?_ ?_
    · refine v_catch [] (0, 9, 12, 116) [] rfl (fun _ h => absurd h List.not_mem_nil) (by decide) (by decide) gw_1168 (by decide) (fun q1 => ?_)
      refine v_astore_n dL_feed_12 rfl (Nat.le_of_ble_eq_true rfl) rfl ?_
      refine v_iconst (v := 1) dL_feed_13 (by decide) ?_
      exact v_iret dL_feed_14 rfl rfl (by decide) (by decide)
    · exact v_xnone
theorem S_L_feed {g : GC} (hl : g.1.stackTraces = false) {x1 : Int32} {w : XW} : ∀ q, f_L_feed x1 w = some q → MM g (.codeWith yL_feed cL_feed 4 (some .int) [(0, 9, 12, 116)]) yL_feed (rmL 5 1 6) 1 6 [.ref (g.2.1 + 0), .int x1, .ref (g.2.1 + 150)] w (oI q) := fun q hq => MM_ofH (own := RL) hl (by decide) gw_1167 rfl (Nat.le_of_ble_eq_true rfl) (W_L_feed hl q hq) ⟨rfl, rfl⟩

theorem dL_search_0 : decode cL_search 0 = .ok (.aload_n 1, 1) := by decide +kernel
theorem dL_search_1 : decode cL_search 1 = .ok (.iconst 0, 1) := by decide +kernel
theorem dL_search_2 : decode cL_search 2 = .ok (.aload_n 0, 1) := by decide +kernel
theorem dL_search_3 : decode cL_search 3 = .ok (.invokevirtual 118, 3) := by decide +kernel
theorem dL_search_6 : decode cL_search 6 = .ok (.i2l, 1) := by decide +kernel
theorem dL_search_7 : decode cL_search 7 = .ok (.lastore, 1) := by decide +kernel
theorem dL_search_8 : decode cL_search 8 = .ok (.goto 6, 3) := by decide +kernel
theorem dL_search_11 : decode cL_search 11 = .ok (.astore_n 2, 1) := by decide +kernel
theorem dL_search_12 : decode cL_search 12 = .ok (.iconst 1, 1) := by decide +kernel
theorem dL_search_13 : decode cL_search 13 = .ok (.ireturn, 1) := by decide +kernel
theorem dL_search_14 : decode cL_search 14 = .ok (.iconst 0, 1) := by decide +kernel
theorem dL_search_15 : decode cL_search 15 = .ok (.ireturn, 1) := by decide +kernel
def f_L_search (w : XW) : Option (Int32 × XW) := (bCI (f_X10_search w) (fun r1 w1 => (some (0, (w1.1, (Int32.toInt64 r1), w1.2.2)))) (fun e1 w1 => (if e1 = "java/lang/IllegalArgumentException" then (some (1, w1)) else none)))
set_option maxRecDepth 100000 in
theorem W_L_search {g : GC} (hl : g.1.stackTraces = false) {w : XW} : VE g cL_search 3 RL (some .int) [(0, 8, 11, 21)] (rmL 32 1 6) 1 6 oI 0 0 0 [(0, .ref (g.2.1 + 0)), (1, .ref (g.2.1 + 150))] [] w (f_L_search  w) := by
  unfold f_L_search
  refine v_aload_n dL_search_0 rfl 1 rfl ?_
  refine v_iconst (v := 0) dL_search_1 (by decide) ?_
  refine v_aload_n dL_search_2 rfl 0 rfl ?_
  refine v_callVic (As := []) cv_L_118 (S_X10_search hl) tt_0 rfl rfl rfl (Nat.le_of_ble_eq_true rfl) dL_search_3 (CR_rm (by decide) (by decide) (by decide) (by decide)) (fun r1 w1 => ?_) (fun e1 w1 => ?_)
  · refine v_i2l dL_search_6 ?_
    refine v_last0 dL_search_7 ?_
    refine v_goto (tgt := 14) dL_search_8 (by decide) ?_
    refine v_iconst (v := 0) dL_search_14 (by decide) ?_
    exact v_iret dL_search_15 rfl rfl (by decide) (by decide)
  · refine v_xsplit ?_ ?_
    · refine v_catch [] (0, 8, 11, 21) [] rfl (fun _ h => absurd h List.not_mem_nil) (by decide) (by decide) gw_890 (by decide) (fun q1 => ?_)
      refine v_astore_n dL_search_11 rfl (Nat.le_of_ble_eq_true rfl) rfl ?_
      refine v_iconst (v := 1) dL_search_12 (by decide) ?_
      exact v_iret dL_search_13 rfl rfl (by decide) (by decide)
    · exact v_xnone
theorem S_L_search {g : GC} (hl : g.1.stackTraces = false) {w : XW} : ∀ q, f_L_search  w = some q → MM g (.codeWith yL_search cL_search 3 (some .int) [(0, 8, 11, 21)]) yL_search (rmL 32 1 6) 1 6 [.ref (g.2.1 + 0), .ref (g.2.1 + 150)] w (oI q) := fun q hq => MM_ofH (own := RL) hl (by decide) gw_1195 rfl (Nat.le_of_ble_eq_true rfl) (W_L_search hl q hq) ⟨rfl, rfl⟩

theorem dL_matches_0 : decode cL_matches 0 = .ok (.aload_n 2, 1) := by decide +kernel
theorem dL_matches_1 : decode cL_matches 1 = .ok (.iconst 0, 1) := by decide +kernel
theorem dL_matches_2 : decode cL_matches 2 = .ok (.aload_n 0, 1) := by decide +kernel
theorem dL_matches_3 : decode cL_matches 3 = .ok (.iload_n 1, 1) := by decide +kernel
theorem dL_matches_4 : decode cL_matches 4 = .ok (.invokevirtual 121, 3) := by decide +kernel
theorem dL_matches_7 : decode cL_matches 7 = .ok (.ifCond .eq 7, 3) := by decide +kernel
theorem dL_matches_10 : decode cL_matches 10 = .ok (.lconst 1, 1) := by decide +kernel
theorem dL_matches_11 : decode cL_matches 11 = .ok (.goto 4, 3) := by decide +kernel
theorem dL_matches_14 : decode cL_matches 14 = .ok (.lconst 0, 1) := by decide +kernel
theorem dL_matches_15 : decode cL_matches 15 = .ok (.lastore, 1) := by decide +kernel
theorem dL_matches_16 : decode cL_matches 16 = .ok (.goto 9, 3) := by decide +kernel
theorem dL_matches_19 : decode cL_matches 19 = .ok (.astore_n 3, 1) := by decide +kernel
theorem dL_matches_20 : decode cL_matches 20 = .ok (.iconst 1, 1) := by decide +kernel
theorem dL_matches_21 : decode cL_matches 21 = .ok (.ireturn, 1) := by decide +kernel
theorem dL_matches_22 : decode cL_matches 22 = .ok (.astore_n 3, 1) := by decide +kernel
theorem dL_matches_23 : decode cL_matches 23 = .ok (.iconst 2, 1) := by decide +kernel
theorem dL_matches_24 : decode cL_matches 24 = .ok (.ireturn, 1) := by decide +kernel
theorem dL_matches_25 : decode cL_matches 25 = .ok (.iconst 0, 1) := by decide +kernel
theorem dL_matches_26 : decode cL_matches 26 = .ok (.ireturn, 1) := by decide +kernel
def f_L_matches (x1 : Int32) (w : XW) : Option (Int32 × XW) := (bCI (f_X10_matches x1 w) (fun r1 w1 => (if r1 = 0 then (some (0, (w1.1, 0, w1.2.2))) else (some (0, (w1.1, 1, w1.2.2))))) (fun e1 w1 => (if e1 = "java/lang/IndexOutOfBoundsException" then (some (1, w1)) else (if e1 = "java/lang/IllegalArgumentException" then (some (2, w1)) else none))))
set_option maxRecDepth 100000 in
theorem W_L_matches {g : GC} (hl : g.1.stackTraces = false) {x1 : Int32} {w : XW} : VE g cL_matches 4 RL (some .int) [(0, 16, 19, 19), (0, 16, 22, 21)] (rmL 32 2 12) 2 12 oI 0 0 0 [(0, .ref (g.2.1 + 0)), (1, .int x1), (2, .ref (g.2.1 + 150))] [] w (f_L_matches x1 w) := by
  unfold f_L_matches
  refine v_aload_n dL_matches_0 rfl 2 rfl ?_
  refine v_iconst (v := 0) dL_matches_1 (by decide) ?_
  refine v_aload_n dL_matches_2 rfl 0 rfl ?_
  refine v_iload_n dL_matches_3 rfl 1 rfl ?_
  refine v_callVic (As := [.int x1]) cv_L_121 (S_X10_matches hl) tt_0 rfl rfl rfl (Nat.le_of_ble_eq_true rfl) dL_matches_4 (CR_rm (by decide) (by decide) (by decide) (by decide)) (fun r1 w1 => ?_) (fun e1 w1 => ?_)
  · refine v_if_eq (tgt := 14) dL_matches_7 (by decide) ?_ ?_
    · refine v_lconst (v := 0) dL_matches_14 rfl ?_
      refine v_last0 dL_matches_15 ?_
      refine v_goto (tgt := 25) dL_matches_16 (by decide) ?_
      refine v_iconst (v := 0) dL_matches_25 (by decide) ?_
      exact v_iret dL_matches_26 rfl rfl (by decide) (by decide)
    · refine v_lconst (v := 1) dL_matches_10 rfl ?_
      refine v_goto (tgt := 15) dL_matches_11 (by decide) ?_
      refine v_last0 dL_matches_15 ?_
      refine v_goto (tgt := 25) dL_matches_16 (by decide) ?_
      refine v_iconst (v := 0) dL_matches_25 (by decide) ?_
      exact v_iret dL_matches_26 rfl rfl (by decide) (by decide)
  · refine v_xsplit ?_ ?_
    · refine v_catch [] (0, 16, 19, 19) [(0, 16, 22, 21)] rfl (fun _ h => absurd h List.not_mem_nil) (by decide) (by decide) gw_857 (by decide) (fun q1 => ?_)
      refine v_astore_n dL_matches_19 rfl (Nat.le_of_ble_eq_true rfl) rfl ?_
      refine v_iconst (v := 1) dL_matches_20 (by decide) ?_
      exact v_iret dL_matches_21 rfl rfl (by decide) (by decide)
    · refine v_xsplit ?_ ?_
      · refine v_catch [(0, 16, 19, 19)] (0, 16, 22, 21) [] rfl (List.forall_mem_cons.mpr ⟨⟨by decide, _, gw_857, by decide⟩, fun _ h => absurd h List.not_mem_nil⟩) (by decide) (by decide) gw_890 (by decide) (fun q1 => ?_)
        refine v_astore_n dL_matches_22 rfl (Nat.le_of_ble_eq_true rfl) rfl ?_
        refine v_iconst (v := 2) dL_matches_23 (by decide) ?_
        exact v_iret dL_matches_24 rfl rfl (by decide) (by decide)
      · exact v_xnone
theorem S_L_matches {g : GC} (hl : g.1.stackTraces = false) {x1 : Int32} {w : XW} : ∀ q, f_L_matches x1 w = some q → MM g (.codeWith yL_matches cL_matches 4 (some .int) [(0, 16, 19, 19), (0, 16, 22, 21)]) yL_matches (rmL 32 2 12) 2 12 [.ref (g.2.1 + 0), .int x1, .ref (g.2.1 + 150)] w (oI q) := fun q hq => MM_ofH (own := RL) hl (by decide) gw_1243 rfl (Nat.le_of_ble_eq_true rfl) (W_L_matches hl q hq) ⟨rfl, rfl⟩

theorem dL_execute_0 : decode cL_execute 0 = .ok (.aload_n 1, 1) := by decide +kernel
theorem dL_execute_1 : decode cL_execute 1 = .ok (.iconst 0, 1) := by decide +kernel
theorem dL_execute_2 : decode cL_execute 2 = .ok (.aload_n 0, 1) := by decide +kernel
theorem dL_execute_3 : decode cL_execute 3 = .ok (.invokevirtual 124, 3) := by decide +kernel
theorem dL_execute_6 : decode cL_execute 6 = .ok (.i2l, 1) := by decide +kernel
theorem dL_execute_7 : decode cL_execute 7 = .ok (.lastore, 1) := by decide +kernel
theorem dL_execute_8 : decode cL_execute 8 = .ok (.goto 9, 3) := by decide +kernel
theorem dL_execute_11 : decode cL_execute 11 = .ok (.astore_n 2, 1) := by decide +kernel
theorem dL_execute_12 : decode cL_execute 12 = .ok (.iconst 1, 1) := by decide +kernel
theorem dL_execute_13 : decode cL_execute 13 = .ok (.ireturn, 1) := by decide +kernel
theorem dL_execute_14 : decode cL_execute 14 = .ok (.astore_n 2, 1) := by decide +kernel
theorem dL_execute_15 : decode cL_execute 15 = .ok (.iconst 2, 1) := by decide +kernel
theorem dL_execute_16 : decode cL_execute 16 = .ok (.ireturn, 1) := by decide +kernel
theorem dL_execute_17 : decode cL_execute 17 = .ok (.iconst 0, 1) := by decide +kernel
theorem dL_execute_18 : decode cL_execute 18 = .ok (.ireturn, 1) := by decide +kernel
def f_L_execute (w : XW) : Option (Int32 × XW) := (bCI (f_X10_execute w) (fun r1 w1 => (some (0, (w1.1, (Int32.toInt64 r1), w1.2.2)))) (fun e1 w1 => (if e1 = "java/lang/IllegalArgumentException" then (some (1, w1)) else (if e1 = "java/lang/UnsupportedOperationException" then (some (2, w1)) else none))))
set_option maxRecDepth 100000 in
theorem W_L_execute {g : GC} (hl : g.1.stackTraces = false) {w : XW} : VE g cL_execute 3 RL (some .int) [(0, 8, 11, 21), (0, 8, 14, 13)] (rmL 11 2 12) 2 12 oI 0 0 0 [(0, .ref (g.2.1 + 0)), (1, .ref (g.2.1 + 150))] [] w (f_L_execute  w) := by
  unfold f_L_execute
  refine v_aload_n dL_execute_0 rfl 1 rfl ?_
  refine v_iconst (v := 0) dL_execute_1 (by decide) ?_
  refine v_aload_n dL_execute_2 rfl 0 rfl ?_
  refine v_callVic (As := []) cv_L_124 (S_X10_execute hl) tt_0 rfl rfl rfl (Nat.le_of_ble_eq_true rfl) dL_execute_3 (CR_rm (by decide) (by decide) (by decide) (by decide)) (fun r1 w1 => ?_) (fun e1 w1 => ?_)
  · refine v_i2l dL_execute_6 ?_
    refine v_last0 dL_execute_7 ?_
    refine v_goto (tgt := 17) dL_execute_8 (by decide) ?_
    refine v_iconst (v := 0) dL_execute_17 (by decide) ?_
    exact v_iret dL_execute_18 rfl rfl (by decide) (by decide)
  · refine v_xsplit ?_ ?_
    · refine v_catch [] (0, 8, 11, 21) [(0, 8, 14, 13)] rfl (fun _ h => absurd h List.not_mem_nil) (by decide) (by decide) gw_890 (by decide) (fun q1 => ?_)
      refine v_astore_n dL_execute_11 rfl (Nat.le_of_ble_eq_true rfl) rfl ?_
      refine v_iconst (v := 1) dL_execute_12 (by decide) ?_
      exact v_iret dL_execute_13 rfl rfl (by decide) (by decide)
    · refine v_xsplit ?_ ?_
      · refine v_catch [(0, 8, 11, 21)] (0, 8, 14, 13) [] rfl (List.forall_mem_cons.mpr ⟨⟨by decide, _, gw_890, by decide⟩, fun _ h => absurd h List.not_mem_nil⟩) (by decide) (by decide) gw_544 (by decide) (fun q1 => ?_)
        refine v_astore_n dL_execute_14 rfl (Nat.le_of_ble_eq_true rfl) rfl ?_
        refine v_iconst (v := 2) dL_execute_15 (by decide) ?_
        exact v_iret dL_execute_16 rfl rfl (by decide) (by decide)
      · exact v_xnone
theorem S_L_execute {g : GC} (hl : g.1.stackTraces = false) {w : XW} : ∀ q, f_L_execute  w = some q → MM g (.codeWith yL_execute cL_execute 3 (some .int) [(0, 8, 11, 21), (0, 8, 14, 13)]) yL_execute (rmL 11 2 12) 2 12 [.ref (g.2.1 + 0), .ref (g.2.1 + 150)] w (oI q) := fun q hq => MM_ofH (own := RL) hl (by decide) gw_1255 rfl (Nat.le_of_ble_eq_true rfl) (W_L_execute hl q hq) ⟨rfl, rfl⟩

theorem dL_faultPosition_0 : decode cL_faultPosition 0 = .ok (.aload_n 1, 1) := by decide +kernel
theorem dL_faultPosition_1 : decode cL_faultPosition 1 = .ok (.iconst 0, 1) := by decide +kernel
theorem dL_faultPosition_2 : decode cL_faultPosition 2 = .ok (.aload_n 0, 1) := by decide +kernel
theorem dL_faultPosition_3 : decode cL_faultPosition 3 = .ok (.invokevirtual 127, 3) := by decide +kernel
theorem dL_faultPosition_6 : decode cL_faultPosition 6 = .ok (.i2l, 1) := by decide +kernel
theorem dL_faultPosition_7 : decode cL_faultPosition 7 = .ok (.lastore, 1) := by decide +kernel
theorem dL_faultPosition_8 : decode cL_faultPosition 8 = .ok (.goto 6, 3) := by decide +kernel
theorem dL_faultPosition_11 : decode cL_faultPosition 11 = .ok (.astore_n 2, 1) := by decide +kernel
theorem dL_faultPosition_12 : decode cL_faultPosition 12 = .ok (.iconst 1, 1) := by decide +kernel
theorem dL_faultPosition_13 : decode cL_faultPosition 13 = .ok (.ireturn, 1) := by decide +kernel
theorem dL_faultPosition_14 : decode cL_faultPosition 14 = .ok (.iconst 0, 1) := by decide +kernel
theorem dL_faultPosition_15 : decode cL_faultPosition 15 = .ok (.ireturn, 1) := by decide +kernel
def f_L_faultPosition (w : XW) : Option (Int32 × XW) := (bCI (f_X10_faultPosition w) (fun r1 w1 => (some (0, (w1.1, (Int32.toInt64 r1), w1.2.2)))) (fun e1 w1 => (if e1 = "java/util/NoSuchElementException" then (some (1, w1)) else none)))
set_option maxRecDepth 100000 in
theorem W_L_faultPosition {g : GC} (hl : g.1.stackTraces = false) {w : XW} : VE g cL_faultPosition 3 RL (some .int) [(0, 8, 11, 45)] (rmL 4 1 6) 1 6 oI 0 0 0 [(0, .ref (g.2.1 + 0)), (1, .ref (g.2.1 + 150))] [] w (f_L_faultPosition  w) := by
  unfold f_L_faultPosition
  refine v_aload_n dL_faultPosition_0 rfl 1 rfl ?_
  refine v_iconst (v := 0) dL_faultPosition_1 (by decide) ?_
  refine v_aload_n dL_faultPosition_2 rfl 0 rfl ?_
  refine v_callVic (As := []) cv_L_127 (S_X10_faultPosition hl) tt_0 rfl rfl rfl (Nat.le_of_ble_eq_true rfl) dL_faultPosition_3 (CR_rm (by decide) (by decide) (by decide) (by decide)) (fun r1 w1 => ?_) (fun e1 w1 => ?_)
  · refine v_i2l dL_faultPosition_6 ?_
    refine v_last0 dL_faultPosition_7 ?_
    refine v_goto (tgt := 14) dL_faultPosition_8 (by decide) ?_
    refine v_iconst (v := 0) dL_faultPosition_14 (by decide) ?_
    exact v_iret dL_faultPosition_15 rfl rfl (by decide) (by decide)
  · refine v_xsplit ?_ ?_
    · refine v_catch [] (0, 8, 11, 45) [] rfl (fun _ h => absurd h List.not_mem_nil) (by decide) (by decide) gw_951 (by decide) (fun q1 => ?_)
      refine v_astore_n dL_faultPosition_11 rfl (Nat.le_of_ble_eq_true rfl) rfl ?_
      refine v_iconst (v := 1) dL_faultPosition_12 (by decide) ?_
      exact v_iret dL_faultPosition_13 rfl rfl (by decide) (by decide)
    · exact v_xnone
theorem S_L_faultPosition {g : GC} (hl : g.1.stackTraces = false) {w : XW} : ∀ q, f_L_faultPosition  w = some q → MM g (.codeWith yL_faultPosition cL_faultPosition 3 (some .int) [(0, 8, 11, 45)]) yL_faultPosition (rmL 4 1 6) 1 6 [.ref (g.2.1 + 0), .ref (g.2.1 + 150)] w (oI q) := fun q hq => MM_ofH (own := RL) hl (by decide) gw_1377 rfl (Nat.le_of_ble_eq_true rfl) (W_L_faultPosition hl q hq) ⟨rfl, rfl⟩

theorem dL_writeSection_0 : decode cL_writeSection 0 = .ok (.aload_n 2, 1) := by decide +kernel
theorem dL_writeSection_1 : decode cL_writeSection 1 = .ok (.iconst 0, 1) := by decide +kernel
theorem dL_writeSection_2 : decode cL_writeSection 2 = .ok (.aload_n 0, 1) := by decide +kernel
theorem dL_writeSection_3 : decode cL_writeSection 3 = .ok (.iload_n 1, 1) := by decide +kernel
theorem dL_writeSection_4 : decode cL_writeSection 4 = .ok (.invokevirtual 130, 3) := by decide +kernel
theorem dL_writeSection_7 : decode cL_writeSection 7 = .ok (.i2l, 1) := by decide +kernel
theorem dL_writeSection_8 : decode cL_writeSection 8 = .ok (.lastore, 1) := by decide +kernel
theorem dL_writeSection_9 : decode cL_writeSection 9 = .ok (.goto 6, 3) := by decide +kernel
theorem dL_writeSection_12 : decode cL_writeSection 12 = .ok (.astore_n 3, 1) := by decide +kernel
theorem dL_writeSection_13 : decode cL_writeSection 13 = .ok (.iconst 1, 1) := by decide +kernel
theorem dL_writeSection_14 : decode cL_writeSection 14 = .ok (.ireturn, 1) := by decide +kernel
theorem dL_writeSection_15 : decode cL_writeSection 15 = .ok (.iconst 0, 1) := by decide +kernel
theorem dL_writeSection_16 : decode cL_writeSection 16 = .ok (.ireturn, 1) := by decide +kernel
def f_L_writeSection (x1 : Int32) (w : XW) : Option (Int32 × XW) := (bCI (f_X10_writeSection x1 w) (fun r1 w1 => (some (0, (w1.1, (Int32.toInt64 r1), w1.2.2)))) (fun e1 w1 => (if e1 = "java/lang/IndexOutOfBoundsException" then (some (1, w1)) else none)))
set_option maxRecDepth 100000 in
theorem W_L_writeSection {g : GC} (hl : g.1.stackTraces = false) {x1 : Int32} {w : XW} : VE g cL_writeSection 4 RL (some .int) [(0, 9, 12, 19)] (rmL 7 1 6) 1 6 oI 0 0 0 [(0, .ref (g.2.1 + 0)), (1, .int x1), (2, .ref (g.2.1 + 150))] [] w (f_L_writeSection x1 w) := by
  unfold f_L_writeSection
  refine v_aload_n dL_writeSection_0 rfl 2 rfl ?_
  refine v_iconst (v := 0) dL_writeSection_1 (by decide) ?_
  refine v_aload_n dL_writeSection_2 rfl 0 rfl ?_
  refine v_iload_n dL_writeSection_3 rfl 1 rfl ?_
  refine v_callVic (As := [.int x1]) cv_L_130 (S_X10_writeSection hl) tt_0 rfl rfl rfl (Nat.le_of_ble_eq_true rfl) dL_writeSection_4 (CR_rm (by decide) (by decide) (by decide) (by decide)) (fun r1 w1 => ?_) (fun e1 w1 => ?_)
  · refine v_i2l dL_writeSection_7 ?_
    refine v_last0 dL_writeSection_8 ?_
    refine v_goto (tgt := 15) dL_writeSection_9 (by decide) ?_
    refine v_iconst (v := 0) dL_writeSection_15 (by decide) ?_
    exact v_iret dL_writeSection_16 rfl rfl (by decide) (by decide)
  · refine v_xsplit ?_ ?_
    · refine v_catch [] (0, 9, 12, 19) [] rfl (fun _ h => absurd h List.not_mem_nil) (by decide) (by decide) gw_857 (by decide) (fun q1 => ?_)
      refine v_astore_n dL_writeSection_12 rfl (Nat.le_of_ble_eq_true rfl) rfl ?_
      refine v_iconst (v := 1) dL_writeSection_13 (by decide) ?_
      exact v_iret dL_writeSection_14 rfl rfl (by decide) (by decide)
    · exact v_xnone
theorem S_L_writeSection {g : GC} (hl : g.1.stackTraces = false) {x1 : Int32} {w : XW} : ∀ q, f_L_writeSection x1 w = some q → MM g (.codeWith yL_writeSection cL_writeSection 4 (some .int) [(0, 9, 12, 19)]) yL_writeSection (rmL 7 1 6) 1 6 [.ref (g.2.1 + 0), .int x1, .ref (g.2.1 + 150)] w (oI q) := fun q hq => MM_ofH (own := RL) hl (by decide) gw_1384 rfl (Nat.le_of_ble_eq_true rfl) (W_L_writeSection hl q hq) ⟨rfl, rfl⟩

theorem dL_lineCharacter_0 : decode cL_lineCharacter 0 = .ok (.aload_n 2, 1) := by decide +kernel
theorem dL_lineCharacter_1 : decode cL_lineCharacter 1 = .ok (.iconst 0, 1) := by decide +kernel
theorem dL_lineCharacter_2 : decode cL_lineCharacter 2 = .ok (.aload_n 0, 1) := by decide +kernel
theorem dL_lineCharacter_3 : decode cL_lineCharacter 3 = .ok (.iload_n 1, 1) := by decide +kernel
theorem dL_lineCharacter_4 : decode cL_lineCharacter 4 = .ok (.invokevirtual 133, 3) := by decide +kernel
theorem dL_lineCharacter_7 : decode cL_lineCharacter 7 = .ok (.i2l, 1) := by decide +kernel
theorem dL_lineCharacter_8 : decode cL_lineCharacter 8 = .ok (.lastore, 1) := by decide +kernel
theorem dL_lineCharacter_9 : decode cL_lineCharacter 9 = .ok (.goto 6, 3) := by decide +kernel
theorem dL_lineCharacter_12 : decode cL_lineCharacter 12 = .ok (.astore_n 3, 1) := by decide +kernel
theorem dL_lineCharacter_13 : decode cL_lineCharacter 13 = .ok (.iconst 1, 1) := by decide +kernel
theorem dL_lineCharacter_14 : decode cL_lineCharacter 14 = .ok (.ireturn, 1) := by decide +kernel
theorem dL_lineCharacter_15 : decode cL_lineCharacter 15 = .ok (.iconst 0, 1) := by decide +kernel
theorem dL_lineCharacter_16 : decode cL_lineCharacter 16 = .ok (.ireturn, 1) := by decide +kernel
def f_L_lineCharacter (x1 : Int32) (w : XW) : Option (Int32 × XW) := (bCI (f_X10_lineCharacter x1 w) (fun r1 w1 => (some (0, (w1.1, (Int32.toInt64 r1), w1.2.2)))) (fun e1 w1 => (if e1 = "java/lang/IndexOutOfBoundsException" then (some (1, w1)) else none)))
set_option maxRecDepth 100000 in
theorem W_L_lineCharacter {g : GC} (hl : g.1.stackTraces = false) {x1 : Int32} {w : XW} : VE g cL_lineCharacter 4 RL (some .int) [(0, 9, 12, 19)] (rmL 5 1 6) 1 6 oI 0 0 0 [(0, .ref (g.2.1 + 0)), (1, .int x1), (2, .ref (g.2.1 + 150))] [] w (f_L_lineCharacter x1 w) := by
  unfold f_L_lineCharacter
  refine v_aload_n dL_lineCharacter_0 rfl 2 rfl ?_
  refine v_iconst (v := 0) dL_lineCharacter_1 (by decide) ?_
  refine v_aload_n dL_lineCharacter_2 rfl 0 rfl ?_
  refine v_iload_n dL_lineCharacter_3 rfl 1 rfl ?_
  refine v_callVic (As := [.int x1]) cv_L_133 (S_X10_lineCharacter hl) tt_0 rfl rfl rfl (Nat.le_of_ble_eq_true rfl) dL_lineCharacter_4 (CR_rm (by decide) (by decide) (by decide) (by decide)) (fun r1 w1 => ?_) (fun e1 w1 => ?_)
  · refine v_i2l dL_lineCharacter_7 ?_
    refine v_last0 dL_lineCharacter_8 ?_
    refine v_goto (tgt := 15) dL_lineCharacter_9 (by decide) ?_
    refine v_iconst (v := 0) dL_lineCharacter_15 (by decide) ?_
    exact v_iret dL_lineCharacter_16 rfl rfl (by decide) (by decide)
  · refine v_xsplit ?_ ?_
    · refine v_catch [] (0, 9, 12, 19) [] rfl (fun _ h => absurd h List.not_mem_nil) (by decide) (by decide) gw_857 (by decide) (fun q1 => ?_)
      refine v_astore_n dL_lineCharacter_12 rfl (Nat.le_of_ble_eq_true rfl) rfl ?_
      refine v_iconst (v := 1) dL_lineCharacter_13 (by decide) ?_
      exact v_iret dL_lineCharacter_14 rfl rfl (by decide) (by decide)
    · exact v_xnone
theorem S_L_lineCharacter {g : GC} (hl : g.1.stackTraces = false) {x1 : Int32} {w : XW} : ∀ q, f_L_lineCharacter x1 w = some q → MM g (.codeWith yL_lineCharacter cL_lineCharacter 4 (some .int) [(0, 9, 12, 19)]) yL_lineCharacter (rmL 5 1 6) 1 6 [.ref (g.2.1 + 0), .int x1, .ref (g.2.1 + 150)] w (oI q) := fun q hq => MM_ofH (own := RL) hl (by decide) gw_1391 rfl (Nat.le_of_ble_eq_true rfl) (W_L_lineCharacter hl q hq) ⟨rfl, rfl⟩

theorem dL_denial_0 : decode cL_denial 0 = .ok (.aload_n 1, 1) := by decide +kernel
theorem dL_denial_1 : decode cL_denial 1 = .ok (.iconst 0, 1) := by decide +kernel
theorem dL_denial_2 : decode cL_denial 2 = .ok (.aload_n 0, 1) := by decide +kernel
theorem dL_denial_3 : decode cL_denial 3 = .ok (.invokevirtual 137, 3) := by decide +kernel
theorem dL_denial_6 : decode cL_denial 6 = .ok (.i2l, 1) := by decide +kernel
theorem dL_denial_7 : decode cL_denial 7 = .ok (.lastore, 1) := by decide +kernel
theorem dL_denial_8 : decode cL_denial 8 = .ok (.goto 6, 3) := by decide +kernel
theorem dL_denial_11 : decode cL_denial 11 = .ok (.astore_n 2, 1) := by decide +kernel
theorem dL_denial_12 : decode cL_denial 12 = .ok (.iconst 1, 1) := by decide +kernel
theorem dL_denial_13 : decode cL_denial 13 = .ok (.ireturn, 1) := by decide +kernel
theorem dL_denial_14 : decode cL_denial 14 = .ok (.iconst 0, 1) := by decide +kernel
theorem dL_denial_15 : decode cL_denial 15 = .ok (.ireturn, 1) := by decide +kernel
def f_L_denial (w : XW) : Option (Int32 × XW) := (bCI (f_X10_denial w) (fun r1 w1 => (some (0, (w1.1, (Int32.toInt64 r1), w1.2.2)))) (fun e1 w1 => (if e1 = "java/util/NoSuchElementException" then (some (1, w1)) else none)))
set_option maxRecDepth 100000 in
theorem W_L_denial {g : GC} (hl : g.1.stackTraces = false) {w : XW} : VE g cL_denial 3 RL (some .int) [(0, 8, 11, 45)] (rmL 4 1 6) 1 6 oI 0 0 0 [(0, .ref (g.2.1 + 0)), (1, .ref (g.2.1 + 150))] [] w (f_L_denial  w) := by
  unfold f_L_denial
  refine v_aload_n dL_denial_0 rfl 1 rfl ?_
  refine v_iconst (v := 0) dL_denial_1 (by decide) ?_
  refine v_aload_n dL_denial_2 rfl 0 rfl ?_
  refine v_callVic (As := []) cv_L_137 (S_X10_denial hl) tt_0 rfl rfl rfl (Nat.le_of_ble_eq_true rfl) dL_denial_3 (CR_rm (by decide) (by decide) (by decide) (by decide)) (fun r1 w1 => ?_) (fun e1 w1 => ?_)
  · refine v_i2l dL_denial_6 ?_
    refine v_last0 dL_denial_7 ?_
    refine v_goto (tgt := 14) dL_denial_8 (by decide) ?_
    refine v_iconst (v := 0) dL_denial_14 (by decide) ?_
    exact v_iret dL_denial_15 rfl rfl (by decide) (by decide)
  · refine v_xsplit ?_ ?_
    · refine v_catch [] (0, 8, 11, 45) [] rfl (fun _ h => absurd h List.not_mem_nil) (by decide) (by decide) gw_951 (by decide) (fun q1 => ?_)
      refine v_astore_n dL_denial_11 rfl (Nat.le_of_ble_eq_true rfl) rfl ?_
      refine v_iconst (v := 1) dL_denial_12 (by decide) ?_
      exact v_iret dL_denial_13 rfl rfl (by decide) (by decide)
    · exact v_xnone
theorem S_L_denial {g : GC} (hl : g.1.stackTraces = false) {w : XW} : ∀ q, f_L_denial  w = some q → MM g (.codeWith yL_denial cL_denial 3 (some .int) [(0, 8, 11, 45)]) yL_denial (rmL 4 1 6) 1 6 [.ref (g.2.1 + 0), .ref (g.2.1 + 150)] w (oI q) := fun q hq => MM_ofH (own := RL) hl (by decide) gw_1399 rfl (Nat.le_of_ble_eq_true rfl) (W_L_denial hl q hq) ⟨rfl, rfl⟩

theorem dL_denialDetail_0 : decode cL_denialDetail 0 = .ok (.aload_n 1, 1) := by decide +kernel
theorem dL_denialDetail_1 : decode cL_denialDetail 1 = .ok (.iconst 0, 1) := by decide +kernel
theorem dL_denialDetail_2 : decode cL_denialDetail 2 = .ok (.aload_n 0, 1) := by decide +kernel
theorem dL_denialDetail_3 : decode cL_denialDetail 3 = .ok (.invokevirtual 140, 3) := by decide +kernel
theorem dL_denialDetail_6 : decode cL_denialDetail 6 = .ok (.i2l, 1) := by decide +kernel
theorem dL_denialDetail_7 : decode cL_denialDetail 7 = .ok (.lastore, 1) := by decide +kernel
theorem dL_denialDetail_8 : decode cL_denialDetail 8 = .ok (.goto 6, 3) := by decide +kernel
theorem dL_denialDetail_11 : decode cL_denialDetail 11 = .ok (.astore_n 2, 1) := by decide +kernel
theorem dL_denialDetail_12 : decode cL_denialDetail 12 = .ok (.iconst 1, 1) := by decide +kernel
theorem dL_denialDetail_13 : decode cL_denialDetail 13 = .ok (.ireturn, 1) := by decide +kernel
theorem dL_denialDetail_14 : decode cL_denialDetail 14 = .ok (.iconst 0, 1) := by decide +kernel
theorem dL_denialDetail_15 : decode cL_denialDetail 15 = .ok (.ireturn, 1) := by decide +kernel
def f_L_denialDetail (w : XW) : Option (Int32 × XW) := (bCI (f_X10_denialDetail w) (fun r1 w1 => (some (0, (w1.1, (Int32.toInt64 r1), w1.2.2)))) (fun e1 w1 => (if e1 = "java/util/NoSuchElementException" then (some (1, w1)) else none)))
set_option maxRecDepth 100000 in
theorem W_L_denialDetail {g : GC} (hl : g.1.stackTraces = false) {w : XW} : VE g cL_denialDetail 3 RL (some .int) [(0, 8, 11, 45)] (rmL 4 1 6) 1 6 oI 0 0 0 [(0, .ref (g.2.1 + 0)), (1, .ref (g.2.1 + 150))] [] w (f_L_denialDetail  w) := by
  unfold f_L_denialDetail
  refine v_aload_n dL_denialDetail_0 rfl 1 rfl ?_
  refine v_iconst (v := 0) dL_denialDetail_1 (by decide) ?_
  refine v_aload_n dL_denialDetail_2 rfl 0 rfl ?_
  refine v_callVic (As := []) cv_L_140 (S_X10_denialDetail hl) tt_0 rfl rfl rfl (Nat.le_of_ble_eq_true rfl) dL_denialDetail_3 (CR_rm (by decide) (by decide) (by decide) (by decide)) (fun r1 w1 => ?_) (fun e1 w1 => ?_)
  · refine v_i2l dL_denialDetail_6 ?_
    refine v_last0 dL_denialDetail_7 ?_
    refine v_goto (tgt := 14) dL_denialDetail_8 (by decide) ?_
    refine v_iconst (v := 0) dL_denialDetail_14 (by decide) ?_
    exact v_iret dL_denialDetail_15 rfl rfl (by decide) (by decide)
  · refine v_xsplit ?_ ?_
    · refine v_catch [] (0, 8, 11, 45) [] rfl (fun _ h => absurd h List.not_mem_nil) (by decide) (by decide) gw_951 (by decide) (fun q1 => ?_)
      refine v_astore_n dL_denialDetail_11 rfl (Nat.le_of_ble_eq_true rfl) rfl ?_
      refine v_iconst (v := 1) dL_denialDetail_12 (by decide) ?_
      exact v_iret dL_denialDetail_13 rfl rfl (by decide) (by decide)
    · exact v_xnone
theorem S_L_denialDetail {g : GC} (hl : g.1.stackTraces = false) {w : XW} : ∀ q, f_L_denialDetail  w = some q → MM g (.codeWith yL_denialDetail cL_denialDetail 3 (some .int) [(0, 8, 11, 45)]) yL_denialDetail (rmL 4 1 6) 1 6 [.ref (g.2.1 + 0), .ref (g.2.1 + 150)] w (oI q) := fun q hq => MM_ofH (own := RL) hl (by decide) gw_1406 rfl (Nat.le_of_ble_eq_true rfl) (W_L_denialDetail hl q hq) ⟨rfl, rfl⟩

theorem dL_denialCause_0 : decode cL_denialCause 0 = .ok (.aload_n 1, 1) := by decide +kernel
theorem dL_denialCause_1 : decode cL_denialCause 1 = .ok (.iconst 0, 1) := by decide +kernel
theorem dL_denialCause_2 : decode cL_denialCause 2 = .ok (.aload_n 0, 1) := by decide +kernel
theorem dL_denialCause_3 : decode cL_denialCause 3 = .ok (.invokevirtual 143, 3) := by decide +kernel
theorem dL_denialCause_6 : decode cL_denialCause 6 = .ok (.i2l, 1) := by decide +kernel
theorem dL_denialCause_7 : decode cL_denialCause 7 = .ok (.lastore, 1) := by decide +kernel
theorem dL_denialCause_8 : decode cL_denialCause 8 = .ok (.goto 6, 3) := by decide +kernel
theorem dL_denialCause_11 : decode cL_denialCause 11 = .ok (.astore_n 2, 1) := by decide +kernel
theorem dL_denialCause_12 : decode cL_denialCause 12 = .ok (.iconst 1, 1) := by decide +kernel
theorem dL_denialCause_13 : decode cL_denialCause 13 = .ok (.ireturn, 1) := by decide +kernel
theorem dL_denialCause_14 : decode cL_denialCause 14 = .ok (.iconst 0, 1) := by decide +kernel
theorem dL_denialCause_15 : decode cL_denialCause 15 = .ok (.ireturn, 1) := by decide +kernel
def f_L_denialCause (w : XW) : Option (Int32 × XW) := (bCI (f_X10_denialCause w) (fun r1 w1 => (some (0, (w1.1, (Int32.toInt64 r1), w1.2.2)))) (fun e1 w1 => (if e1 = "java/util/NoSuchElementException" then (some (1, w1)) else none)))
set_option maxRecDepth 100000 in
theorem W_L_denialCause {g : GC} (hl : g.1.stackTraces = false) {w : XW} : VE g cL_denialCause 3 RL (some .int) [(0, 8, 11, 45)] (rmL 4 1 6) 1 6 oI 0 0 0 [(0, .ref (g.2.1 + 0)), (1, .ref (g.2.1 + 150))] [] w (f_L_denialCause  w) := by
  unfold f_L_denialCause
  refine v_aload_n dL_denialCause_0 rfl 1 rfl ?_
  refine v_iconst (v := 0) dL_denialCause_1 (by decide) ?_
  refine v_aload_n dL_denialCause_2 rfl 0 rfl ?_
  refine v_callVic (As := []) cv_L_143 (S_X10_denialCause hl) tt_0 rfl rfl rfl (Nat.le_of_ble_eq_true rfl) dL_denialCause_3 (CR_rm (by decide) (by decide) (by decide) (by decide)) (fun r1 w1 => ?_) (fun e1 w1 => ?_)
  · refine v_i2l dL_denialCause_6 ?_
    refine v_last0 dL_denialCause_7 ?_
    refine v_goto (tgt := 14) dL_denialCause_8 (by decide) ?_
    refine v_iconst (v := 0) dL_denialCause_14 (by decide) ?_
    exact v_iret dL_denialCause_15 rfl rfl (by decide) (by decide)
  · refine v_xsplit ?_ ?_
    · refine v_catch [] (0, 8, 11, 45) [] rfl (fun _ h => absurd h List.not_mem_nil) (by decide) (by decide) gw_951 (by decide) (fun q1 => ?_)
      refine v_astore_n dL_denialCause_11 rfl (Nat.le_of_ble_eq_true rfl) rfl ?_
      refine v_iconst (v := 1) dL_denialCause_12 (by decide) ?_
      exact v_iret dL_denialCause_13 rfl rfl (by decide) (by decide)
    · exact v_xnone
theorem S_L_denialCause {g : GC} (hl : g.1.stackTraces = false) {w : XW} : ∀ q, f_L_denialCause  w = some q → MM g (.codeWith yL_denialCause cL_denialCause 3 (some .int) [(0, 8, 11, 45)]) yL_denialCause (rmL 4 1 6) 1 6 [.ref (g.2.1 + 0), .ref (g.2.1 + 150)] w (oI q) := fun q hq => MM_ofH (own := RL) hl (by decide) gw_1413 rfl (Nat.le_of_ble_eq_true rfl) (W_L_denialCause hl q hq) ⟨rfl, rfl⟩

theorem dL_undo_0 : decode cL_undo 0 = .ok (.aload_n 1, 1) := by decide +kernel
theorem dL_undo_1 : decode cL_undo 1 = .ok (.iconst 0, 1) := by decide +kernel
theorem dL_undo_2 : decode cL_undo 2 = .ok (.aload_n 0, 1) := by decide +kernel
theorem dL_undo_3 : decode cL_undo 3 = .ok (.invokevirtual 146, 3) := by decide +kernel
theorem dL_undo_6 : decode cL_undo 6 = .ok (.i2l, 1) := by decide +kernel
theorem dL_undo_7 : decode cL_undo 7 = .ok (.lastore, 1) := by decide +kernel
theorem dL_undo_8 : decode cL_undo 8 = .ok (.goto 6, 3) := by decide +kernel
theorem dL_undo_11 : decode cL_undo 11 = .ok (.astore_n 2, 1) := by decide +kernel
theorem dL_undo_12 : decode cL_undo 12 = .ok (.iconst 1, 1) := by decide +kernel
theorem dL_undo_13 : decode cL_undo 13 = .ok (.ireturn, 1) := by decide +kernel
theorem dL_undo_14 : decode cL_undo 14 = .ok (.iconst 0, 1) := by decide +kernel
theorem dL_undo_15 : decode cL_undo 15 = .ok (.ireturn, 1) := by decide +kernel
def f_L_undo (w : XW) : Option (Int32 × XW) := (bCI (f_X10_undo w) (fun r1 w1 => (some (0, (w1.1, (Int32.toInt64 r1), w1.2.2)))) (fun e1 w1 => (if e1 = "java/lang/IllegalStateException" then (some (1, w1)) else none)))
set_option maxRecDepth 100000 in
theorem W_L_undo {g : GC} (hl : g.1.stackTraces = false) {w : XW} : VE g cL_undo 3 RL (some .int) [(0, 8, 11, 116)] (rmL 9 1 6) 1 6 oI 0 0 0 [(0, .ref (g.2.1 + 0)), (1, .ref (g.2.1 + 150))] [] w (f_L_undo  w) := by
  unfold f_L_undo
  refine v_aload_n dL_undo_0 rfl 1 rfl ?_
  refine v_iconst (v := 0) dL_undo_1 (by decide) ?_
  refine v_aload_n dL_undo_2 rfl 0 rfl ?_
  refine v_callVic (As := []) cv_L_146 (S_X10_undo hl) tt_0 rfl rfl rfl (Nat.le_of_ble_eq_true rfl) dL_undo_3 (CR_rm (by decide) (by decide) (by decide) (by decide)) (fun r1 w1 => ?_) (fun e1 w1 => ?_)
  · refine v_i2l dL_undo_6 ?_
    refine v_last0 dL_undo_7 ?_
    refine v_goto (tgt := 14) dL_undo_8 (by decide) ?_
    refine v_iconst (v := 0) dL_undo_14 (by decide) ?_
    exact v_iret dL_undo_15 rfl rfl (by decide) (by decide)
  · refine v_xsplit ?_ ?_
    · refine v_catch [] (0, 8, 11, 116) [] rfl (fun _ h => absurd h List.not_mem_nil) (by decide) (by decide) gw_1168 (by decide) (fun q1 => ?_)
      refine v_astore_n dL_undo_11 rfl (Nat.le_of_ble_eq_true rfl) rfl ?_
      refine v_iconst (v := 1) dL_undo_12 (by decide) ?_
      exact v_iret dL_undo_13 rfl rfl (by decide) (by decide)
    · exact v_xnone
theorem S_L_undo {g : GC} (hl : g.1.stackTraces = false) {w : XW} : ∀ q, f_L_undo  w = some q → MM g (.codeWith yL_undo cL_undo 3 (some .int) [(0, 8, 11, 116)]) yL_undo (rmL 9 1 6) 1 6 [.ref (g.2.1 + 0), .ref (g.2.1 + 150)] w (oI q) := fun q hq => MM_ofH (own := RL) hl (by decide) gw_1420 rfl (Nat.le_of_ble_eq_true rfl) (W_L_undo hl q hq) ⟨rfl, rfl⟩

theorem dL_restoreSnapshot_0 : decode cL_restoreSnapshot 0 = .ok (.aload_n 1, 1) := by decide +kernel
theorem dL_restoreSnapshot_1 : decode cL_restoreSnapshot 1 = .ok (.iconst 0, 1) := by decide +kernel
theorem dL_restoreSnapshot_2 : decode cL_restoreSnapshot 2 = .ok (.aload_n 0, 1) := by decide +kernel
theorem dL_restoreSnapshot_3 : decode cL_restoreSnapshot 3 = .ok (.invokevirtual 149, 3) := by decide +kernel
theorem dL_restoreSnapshot_6 : decode cL_restoreSnapshot 6 = .ok (.i2l, 1) := by decide +kernel
theorem dL_restoreSnapshot_7 : decode cL_restoreSnapshot 7 = .ok (.lastore, 1) := by decide +kernel
theorem dL_restoreSnapshot_8 : decode cL_restoreSnapshot 8 = .ok (.goto 6, 3) := by decide +kernel
theorem dL_restoreSnapshot_11 : decode cL_restoreSnapshot 11 = .ok (.astore_n 2, 1) := by decide +kernel
theorem dL_restoreSnapshot_12 : decode cL_restoreSnapshot 12 = .ok (.iconst 1, 1) := by decide +kernel
theorem dL_restoreSnapshot_13 : decode cL_restoreSnapshot 13 = .ok (.ireturn, 1) := by decide +kernel
theorem dL_restoreSnapshot_14 : decode cL_restoreSnapshot 14 = .ok (.iconst 0, 1) := by decide +kernel
theorem dL_restoreSnapshot_15 : decode cL_restoreSnapshot 15 = .ok (.ireturn, 1) := by decide +kernel
def f_L_restoreSnapshot (w : XW) : Option (Int32 × XW) := (bCI (f_X10_restoreSnapshot w) (fun r1 w1 => (some (0, (w1.1, (Int32.toInt64 r1), w1.2.2)))) (fun e1 w1 => (if e1 = "java/lang/IllegalStateException" then (some (1, w1)) else none)))
set_option maxRecDepth 100000 in
theorem W_L_restoreSnapshot {g : GC} (hl : g.1.stackTraces = false) {w : XW} : VE g cL_restoreSnapshot 3 RL (some .int) [(0, 8, 11, 116)] (rmL 8 1 6) 1 6 oI 0 0 0 [(0, .ref (g.2.1 + 0)), (1, .ref (g.2.1 + 150))] [] w (f_L_restoreSnapshot  w) := by
  unfold f_L_restoreSnapshot
  refine v_aload_n dL_restoreSnapshot_0 rfl 1 rfl ?_
  refine v_iconst (v := 0) dL_restoreSnapshot_1 (by decide) ?_
  refine v_aload_n dL_restoreSnapshot_2 rfl 0 rfl ?_
  refine v_callVic (As := []) cv_L_149 (S_X10_restoreSnapshot hl) tt_0 rfl rfl rfl (Nat.le_of_ble_eq_true rfl) dL_restoreSnapshot_3 (CR_rm (by decide) (by decide) (by decide) (by decide)) (fun r1 w1 => ?_) (fun e1 w1 => ?_)
  · refine v_i2l dL_restoreSnapshot_6 ?_
    refine v_last0 dL_restoreSnapshot_7 ?_
    refine v_goto (tgt := 14) dL_restoreSnapshot_8 (by decide) ?_
    refine v_iconst (v := 0) dL_restoreSnapshot_14 (by decide) ?_
    exact v_iret dL_restoreSnapshot_15 rfl rfl (by decide) (by decide)
  · refine v_xsplit ?_ ?_
    · refine v_catch [] (0, 8, 11, 116) [] rfl (fun _ h => absurd h List.not_mem_nil) (by decide) (by decide) gw_1168 (by decide) (fun q1 => ?_)
      refine v_astore_n dL_restoreSnapshot_11 rfl (Nat.le_of_ble_eq_true rfl) rfl ?_
      refine v_iconst (v := 1) dL_restoreSnapshot_12 (by decide) ?_
      exact v_iret dL_restoreSnapshot_13 rfl rfl (by decide) (by decide)
    · exact v_xnone
theorem S_L_restoreSnapshot {g : GC} (hl : g.1.stackTraces = false) {w : XW} : ∀ q, f_L_restoreSnapshot  w = some q → MM g (.codeWith yL_restoreSnapshot cL_restoreSnapshot 3 (some .int) [(0, 8, 11, 116)]) yL_restoreSnapshot (rmL 8 1 6) 1 6 [.ref (g.2.1 + 0), .ref (g.2.1 + 150)] w (oI q) := fun q hq => MM_ofH (own := RL) hl (by decide) gw_1431 rfl (Nat.le_of_ble_eq_true rfl) (W_L_restoreSnapshot hl q hq) ⟨rfl, rfl⟩
