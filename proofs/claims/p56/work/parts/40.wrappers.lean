theorem dL_addSection_0 : decode cL_addSection 0 = .ok (.aload_n 0, 1) := by decide +kernel
theorem dL_addSection_1 : decode cL_addSection 1 = .ok (.invokevirtual 14, 3) := by decide +kernel
theorem dL_addSection_4 : decode cL_addSection 4 = .ok (.ireturn, 1) := by decide +kernel
theorem dL_addSection_5 : decode cL_addSection 5 = .ok (.astore_n 1, 1) := by decide +kernel
theorem dL_addSection_6 : decode cL_addSection 6 = .ok (.bipush (-76), 2) := by decide +kernel
theorem dL_addSection_8 : decode cL_addSection 8 = .ok (.ireturn, 1) := by decide +kernel
def f_L_addSection (w : XW) : Option (Int32 × XW) := (bCI (f_X10_addSection w) (fun r1 w1 => (some (r1, w1))) (fun e1 w1 => (if e1 = "java/lang/UnsupportedOperationException" then (some ((-76), w1)) else none)))
set_option maxRecDepth 100000 in
theorem W_L_addSection {g : GC} (hl : g.1.stackTraces = false) {w : XW} : VE g cL_addSection 2 RL (some .int) [(0, 4, 5, 20)] (rmL 11 1 6) 1 6 oI 0 0 0 [(0, .ref (g.2.1 + 0))] [] w (f_L_addSection  w) := by
  unfold f_L_addSection
  refine v_aload_n dL_addSection_0 rfl 0 rfl ?_
  refine v_callVic (As := []) cv_L_14 (S_X10_addSection hl) tt_0 rfl rfl rfl (Nat.le_of_ble_eq_true rfl) dL_addSection_1 (CR_rm (by decide) (by decide) (by decide) (by decide)) (fun r1 w1 => ?_) (fun e1 w1 => ?_)
  · exact v_iret dL_addSection_4 rfl rfl (by decide) (by decide)
  · refine v_xsplit ?_ ?_
    · refine v_catch [] (0, 4, 5, 20) [] rfl (fun _ h => absurd h List.not_mem_nil) (by decide) (by decide) gw_589 (by decide) (fun q1 => ?_)
      refine v_astore_n dL_addSection_5 rfl (Nat.le_of_ble_eq_true rfl) rfl ?_
      refine v_bipush (v := (-76)) dL_addSection_6 (by decide) ?_
      exact v_iret dL_addSection_8 rfl rfl (by decide) (by decide)
    · exact v_xnone
theorem S_L_addSection {g : GC} (hl : g.1.stackTraces = false) {w : XW} : ∀ q, f_L_addSection  w = some q → MM g (.codeWith yL_addSection cL_addSection 2 (some .int) [(0, 4, 5, 20)]) yL_addSection (rmL 11 1 6) 1 6 [.ref (g.2.1 + 0)] w (oI q) := fun q hq => MM_ofH (own := RL) hl (by decide) gw_708 rfl (Nat.le_of_ble_eq_true rfl) (W_L_addSection hl q hq) ⟨rfl, rfl⟩

theorem dL_pour_0 : decode cL_pour 0 = .ok (.aload_n 0, 1) := by decide +kernel
theorem dL_pour_1 : decode cL_pour 1 = .ok (.iload_n 1, 1) := by decide +kernel
theorem dL_pour_2 : decode cL_pour 2 = .ok (.iload_n 2, 1) := by decide +kernel
theorem dL_pour_3 : decode cL_pour 3 = .ok (.invokevirtual 22, 3) := by decide +kernel
theorem dL_pour_6 : decode cL_pour 6 = .ok (.ireturn, 1) := by decide +kernel
theorem dL_pour_7 : decode cL_pour 7 = .ok (.astore_n 3, 1) := by decide +kernel
theorem dL_pour_8 : decode cL_pour 8 = .ok (.bipush (-77), 2) := by decide +kernel
theorem dL_pour_10 : decode cL_pour 10 = .ok (.ireturn, 1) := by decide +kernel
theorem dL_pour_11 : decode cL_pour 11 = .ok (.astore_n 3, 1) := by decide +kernel
theorem dL_pour_12 : decode cL_pour 12 = .ok (.bipush (-78), 2) := by decide +kernel
theorem dL_pour_14 : decode cL_pour 14 = .ok (.ireturn, 1) := by decide +kernel
theorem dL_pour_15 : decode cL_pour 15 = .ok (.astore_n 3, 1) := by decide +kernel
theorem dL_pour_16 : decode cL_pour 16 = .ok (.bipush (-76), 2) := by decide +kernel
theorem dL_pour_18 : decode cL_pour 18 = .ok (.ireturn, 1) := by decide +kernel
def f_L_pour (x1 : Int32) (x2 : Int32) (w : XW) : Option (Int32 × XW) := (bCI (f_X10_pour x1 x2 w) (fun r1 w1 => (some (r1, w1))) (fun e1 w1 => (if e1 = "java/lang/IndexOutOfBoundsException" then (some ((-77), w1)) else (if e1 = "java/lang/IllegalArgumentException" then (some ((-78), w1)) else (if e1 = "java/lang/UnsupportedOperationException" then (some ((-76), w1)) else none)))))
set_option maxRecDepth 100000 in
theorem W_L_pour {g : GC} (hl : g.1.stackTraces = false) {x1 : Int32} {x2 : Int32} {w : XW} : VE g cL_pour 4 RL (some .int) [(0, 6, 7, 26), (0, 6, 11, 28), (0, 6, 15, 20)] (rmL 11 1 6) 1 6 oI 0 0 0 [(0, .ref (g.2.1 + 0)), (1, .int x1), (2, .int x2)] [] w (f_L_pour x1 x2 w) := by
  unfold f_L_pour
  refine v_aload_n dL_pour_0 rfl 0 rfl ?_
  refine v_iload_n dL_pour_1 rfl 1 rfl ?_
  refine v_iload_n dL_pour_2 rfl 2 rfl ?_
  refine v_callVic (As := [.int x1, .int x2]) cv_L_22 (S_X10_pour hl) tt_0 rfl rfl rfl (Nat.le_of_ble_eq_true rfl) dL_pour_3 (CR_rm (by decide) (by decide) (by decide) (by decide)) (fun r1 w1 => ?_) (fun e1 w1 => ?_)
  · exact v_iret dL_pour_6 rfl rfl (by decide) (by decide)
  · refine v_xsplit ?_ ?_
    · refine v_catch [] (0, 6, 7, 26) [(0, 6, 11, 28), (0, 6, 15, 20)] rfl (fun _ h => absurd h List.not_mem_nil) (by decide) (by decide) gw_369 (by decide) (fun q1 => ?_)
      refine v_astore_n dL_pour_7 rfl (Nat.le_of_ble_eq_true rfl) rfl ?_
      refine v_bipush (v := (-77)) dL_pour_8 (by decide) ?_
      exact v_iret dL_pour_10 rfl rfl (by decide) (by decide)
    · refine v_xsplit ?_ ?_
      · refine v_catch [(0, 6, 7, 26)] (0, 6, 11, 28) [(0, 6, 15, 20)] rfl (List.forall_mem_cons.mpr ⟨⟨by decide, _, gw_369, by decide⟩, fun _ h => absurd h List.not_mem_nil⟩) (by decide) (by decide) gw_873 (by decide) (fun q1 => ?_)
        refine v_astore_n dL_pour_11 rfl (Nat.le_of_ble_eq_true rfl) rfl ?_
        refine v_bipush (v := (-78)) dL_pour_12 (by decide) ?_
        exact v_iret dL_pour_14 rfl rfl (by decide) (by decide)
      · refine v_xsplit ?_ ?_
        · refine v_catch [(0, 6, 7, 26), (0, 6, 11, 28)] (0, 6, 15, 20) [] rfl (List.forall_mem_cons.mpr ⟨⟨by decide, _, gw_369, by decide⟩, List.forall_mem_cons.mpr ⟨⟨by decide, _, gw_873, by decide⟩, fun _ h => absurd h List.not_mem_nil⟩⟩) (by decide) (by decide) gw_589 (by decide) (fun q1 => ?_)
          refine v_astore_n dL_pour_15 rfl (Nat.le_of_ble_eq_true rfl) rfl ?_
          refine v_bipush (v := (-76)) dL_pour_16 (by decide) ?_
          exact v_iret dL_pour_18 rfl rfl (by decide) (by decide)
        · exact v_xnone
theorem S_L_pour {g : GC} (hl : g.1.stackTraces = false) {x1 : Int32} {x2 : Int32} {w : XW} : ∀ q, f_L_pour x1 x2 w = some q → MM g (.codeWith yL_pour cL_pour 4 (some .int) [(0, 6, 7, 26), (0, 6, 11, 28), (0, 6, 15, 20)]) yL_pour (rmL 11 1 6) 1 6 [.ref (g.2.1 + 0), .int x1, .int x2] w (oI q) := fun q hq => MM_ofH (own := RL) hl (by decide) gw_872 rfl (Nat.le_of_ble_eq_true rfl) (W_L_pour hl q hq) ⟨rfl, rfl⟩

theorem dL_tag_0 : decode cL_tag 0 = .ok (.aload_n 0, 1) := by decide +kernel
theorem dL_tag_1 : decode cL_tag 1 = .ok (.iload_n 1, 1) := by decide +kernel
theorem dL_tag_2 : decode cL_tag 2 = .ok (.iload_n 2, 1) := by decide +kernel
theorem dL_tag_3 : decode cL_tag 3 = .ok (.invokevirtual 30, 3) := by decide +kernel
theorem dL_tag_6 : decode cL_tag 6 = .ok (.ireturn, 1) := by decide +kernel
theorem dL_tag_7 : decode cL_tag 7 = .ok (.astore_n 3, 1) := by decide +kernel
theorem dL_tag_8 : decode cL_tag 8 = .ok (.bipush (-77), 2) := by decide +kernel
theorem dL_tag_10 : decode cL_tag 10 = .ok (.ireturn, 1) := by decide +kernel
theorem dL_tag_11 : decode cL_tag 11 = .ok (.astore_n 3, 1) := by decide +kernel
theorem dL_tag_12 : decode cL_tag 12 = .ok (.bipush (-78), 2) := by decide +kernel
theorem dL_tag_14 : decode cL_tag 14 = .ok (.ireturn, 1) := by decide +kernel
theorem dL_tag_15 : decode cL_tag 15 = .ok (.astore_n 3, 1) := by decide +kernel
theorem dL_tag_16 : decode cL_tag 16 = .ok (.bipush (-76), 2) := by decide +kernel
theorem dL_tag_18 : decode cL_tag 18 = .ok (.ireturn, 1) := by decide +kernel
def f_L_tag (x1 : Int32) (x2 : Int32) (w : XW) : Option (Int32 × XW) := (bCI (f_X10_tag x1 x2 w) (fun r1 w1 => (some (r1, w1))) (fun e1 w1 => (if e1 = "java/lang/IndexOutOfBoundsException" then (some ((-77), w1)) else (if e1 = "java/lang/IllegalArgumentException" then (some ((-78), w1)) else (if e1 = "java/lang/UnsupportedOperationException" then (some ((-76), w1)) else none)))))
set_option maxRecDepth 100000 in
theorem W_L_tag {g : GC} (hl : g.1.stackTraces = false) {x1 : Int32} {x2 : Int32} {w : XW} : VE g cL_tag 4 RL (some .int) [(0, 6, 7, 26), (0, 6, 11, 28), (0, 6, 15, 20)] (rmL 11 1 6) 1 6 oI 0 0 0 [(0, .ref (g.2.1 + 0)), (1, .int x1), (2, .int x2)] [] w (f_L_tag x1 x2 w) := by
  unfold f_L_tag
  refine v_aload_n dL_tag_0 rfl 0 rfl ?_
  refine v_iload_n dL_tag_1 rfl 1 rfl ?_
  refine v_iload_n dL_tag_2 rfl 2 rfl ?_
  refine v_callVic (As := [.int x1, .int x2]) cv_L_30 (S_X10_tag hl) tt_0 rfl rfl rfl (Nat.le_of_ble_eq_true rfl) dL_tag_3 (CR_rm (by decide) (by decide) (by decide) (by decide)) (fun r1 w1 => ?_) (fun e1 w1 => ?_)
  · exact v_iret dL_tag_6 rfl rfl (by decide) (by decide)
  · refine v_xsplit ?_ ?_
    · refine v_catch [] (0, 6, 7, 26) [(0, 6, 11, 28), (0, 6, 15, 20)] rfl (fun _ h => absurd h List.not_mem_nil) (by decide) (by decide) gw_369 (by decide) (fun q1 => ?_)
      refine v_astore_n dL_tag_7 rfl (Nat.le_of_ble_eq_true rfl) rfl ?_
      refine v_bipush (v := (-77)) dL_tag_8 (by decide) ?_
      exact v_iret dL_tag_10 rfl rfl (by decide) (by decide)
    · refine v_xsplit ?_ ?_
      · refine v_catch [(0, 6, 7, 26)] (0, 6, 11, 28) [(0, 6, 15, 20)] rfl (List.forall_mem_cons.mpr ⟨⟨by decide, _, gw_369, by decide⟩, fun _ h => absurd h List.not_mem_nil⟩) (by decide) (by decide) gw_873 (by decide) (fun q1 => ?_)
        refine v_astore_n dL_tag_11 rfl (Nat.le_of_ble_eq_true rfl) rfl ?_
        refine v_bipush (v := (-78)) dL_tag_12 (by decide) ?_
        exact v_iret dL_tag_14 rfl rfl (by decide) (by decide)
      · refine v_xsplit ?_ ?_
        · refine v_catch [(0, 6, 7, 26), (0, 6, 11, 28)] (0, 6, 15, 20) [] rfl (List.forall_mem_cons.mpr ⟨⟨by decide, _, gw_369, by decide⟩, List.forall_mem_cons.mpr ⟨⟨by decide, _, gw_873, by decide⟩, fun _ h => absurd h List.not_mem_nil⟩⟩) (by decide) (by decide) gw_589 (by decide) (fun q1 => ?_)
          refine v_astore_n dL_tag_15 rfl (Nat.le_of_ble_eq_true rfl) rfl ?_
          refine v_bipush (v := (-76)) dL_tag_16 (by decide) ?_
          exact v_iret dL_tag_18 rfl rfl (by decide) (by decide)
        · exact v_xnone
theorem S_L_tag {g : GC} (hl : g.1.stackTraces = false) {x1 : Int32} {x2 : Int32} {w : XW} : ∀ q, f_L_tag x1 x2 w = some q → MM g (.codeWith yL_tag cL_tag 4 (some .int) [(0, 6, 7, 26), (0, 6, 11, 28), (0, 6, 15, 20)]) yL_tag (rmL 11 1 6) 1 6 [.ref (g.2.1 + 0), .int x1, .int x2] w (oI q) := fun q hq => MM_ofH (own := RL) hl (by decide) gw_880 rfl (Nat.le_of_ble_eq_true rfl) (W_L_tag hl q hq) ⟨rfl, rfl⟩

theorem dL_untag_0 : decode cL_untag 0 = .ok (.aload_n 0, 1) := by decide +kernel
theorem dL_untag_1 : decode cL_untag 1 = .ok (.iload_n 1, 1) := by decide +kernel
theorem dL_untag_2 : decode cL_untag 2 = .ok (.iload_n 2, 1) := by decide +kernel
theorem dL_untag_3 : decode cL_untag 3 = .ok (.invokevirtual 34, 3) := by decide +kernel
theorem dL_untag_6 : decode cL_untag 6 = .ok (.ireturn, 1) := by decide +kernel
theorem dL_untag_7 : decode cL_untag 7 = .ok (.astore_n 3, 1) := by decide +kernel
theorem dL_untag_8 : decode cL_untag 8 = .ok (.bipush (-77), 2) := by decide +kernel
theorem dL_untag_10 : decode cL_untag 10 = .ok (.ireturn, 1) := by decide +kernel
theorem dL_untag_11 : decode cL_untag 11 = .ok (.astore_n 3, 1) := by decide +kernel
theorem dL_untag_12 : decode cL_untag 12 = .ok (.bipush (-78), 2) := by decide +kernel
theorem dL_untag_14 : decode cL_untag 14 = .ok (.ireturn, 1) := by decide +kernel
theorem dL_untag_15 : decode cL_untag 15 = .ok (.astore_n 3, 1) := by decide +kernel
theorem dL_untag_16 : decode cL_untag 16 = .ok (.bipush (-76), 2) := by decide +kernel
theorem dL_untag_18 : decode cL_untag 18 = .ok (.ireturn, 1) := by decide +kernel
def f_L_untag (x1 : Int32) (x2 : Int32) (w : XW) : Option (Int32 × XW) := (bCI (f_X10_untag x1 x2 w) (fun r1 w1 => (some (r1, w1))) (fun e1 w1 => (if e1 = "java/lang/IndexOutOfBoundsException" then (some ((-77), w1)) else (if e1 = "java/lang/IllegalArgumentException" then (some ((-78), w1)) else (if e1 = "java/lang/UnsupportedOperationException" then (some ((-76), w1)) else none)))))
set_option maxRecDepth 100000 in
theorem W_L_untag {g : GC} (hl : g.1.stackTraces = false) {x1 : Int32} {x2 : Int32} {w : XW} : VE g cL_untag 4 RL (some .int) [(0, 6, 7, 26), (0, 6, 11, 28), (0, 6, 15, 20)] (rmL 11 1 6) 1 6 oI 0 0 0 [(0, .ref (g.2.1 + 0)), (1, .int x1), (2, .int x2)] [] w (f_L_untag x1 x2 w) := by
  unfold f_L_untag
  refine v_aload_n dL_untag_0 rfl 0 rfl ?_
  refine v_iload_n dL_untag_1 rfl 1 rfl ?_
  refine v_iload_n dL_untag_2 rfl 2 rfl ?_
  refine v_callVic (As := [.int x1, .int x2]) cv_L_34 (S_X10_untag hl) tt_0 rfl rfl rfl (Nat.le_of_ble_eq_true rfl) dL_untag_3 (CR_rm (by decide) (by decide) (by decide) (by decide)) (fun r1 w1 => ?_) (fun e1 w1 => ?_)
  · exact v_iret dL_untag_6 rfl rfl (by decide) (by decide)
  · refine v_xsplit ?_ ?_
    · refine v_catch [] (0, 6, 7, 26) [(0, 6, 11, 28), (0, 6, 15, 20)] rfl (fun _ h => absurd h List.not_mem_nil) (by decide) (by decide) gw_369 (by decide) (fun q1 => ?_)
      refine v_astore_n dL_untag_7 rfl (Nat.le_of_ble_eq_true rfl) rfl ?_
      refine v_bipush (v := (-77)) dL_untag_8 (by decide) ?_
      exact v_iret dL_untag_10 rfl rfl (by decide) (by decide)
    · refine v_xsplit ?_ ?_
      · refine v_catch [(0, 6, 7, 26)] (0, 6, 11, 28) [(0, 6, 15, 20)] rfl (List.forall_mem_cons.mpr ⟨⟨by decide, _, gw_369, by decide⟩, fun _ h => absurd h List.not_mem_nil⟩) (by decide) (by decide) gw_873 (by decide) (fun q1 => ?_)
        refine v_astore_n dL_untag_11 rfl (Nat.le_of_ble_eq_true rfl) rfl ?_
        refine v_bipush (v := (-78)) dL_untag_12 (by decide) ?_
        exact v_iret dL_untag_14 rfl rfl (by decide) (by decide)
      · refine v_xsplit ?_ ?_
        · refine v_catch [(0, 6, 7, 26), (0, 6, 11, 28)] (0, 6, 15, 20) [] rfl (List.forall_mem_cons.mpr ⟨⟨by decide, _, gw_369, by decide⟩, List.forall_mem_cons.mpr ⟨⟨by decide, _, gw_873, by decide⟩, fun _ h => absurd h List.not_mem_nil⟩⟩) (by decide) (by decide) gw_589 (by decide) (fun q1 => ?_)
          refine v_astore_n dL_untag_15 rfl (Nat.le_of_ble_eq_true rfl) rfl ?_
          refine v_bipush (v := (-76)) dL_untag_16 (by decide) ?_
          exact v_iret dL_untag_18 rfl rfl (by decide) (by decide)
        · exact v_xnone
theorem S_L_untag {g : GC} (hl : g.1.stackTraces = false) {x1 : Int32} {x2 : Int32} {w : XW} : ∀ q, f_L_untag x1 x2 w = some q → MM g (.codeWith yL_untag cL_untag 4 (some .int) [(0, 6, 7, 26), (0, 6, 11, 28), (0, 6, 15, 20)]) yL_untag (rmL 11 1 6) 1 6 [.ref (g.2.1 + 0), .int x1, .int x2] w (oI q) := fun q hq => MM_ofH (own := RL) hl (by decide) gw_887 rfl (Nat.le_of_ble_eq_true rfl) (W_L_untag hl q hq) ⟨rfl, rfl⟩

theorem dL_water_0 : decode cL_water 0 = .ok (.aload_n 0, 1) := by decide +kernel
theorem dL_water_1 : decode cL_water 1 = .ok (.iload_n 1, 1) := by decide +kernel
theorem dL_water_2 : decode cL_water 2 = .ok (.invokevirtual 37, 3) := by decide +kernel
theorem dL_water_5 : decode cL_water 5 = .ok (.ireturn, 1) := by decide +kernel
theorem dL_water_6 : decode cL_water 6 = .ok (.astore_n 2, 1) := by decide +kernel
theorem dL_water_7 : decode cL_water 7 = .ok (.bipush (-77), 2) := by decide +kernel
theorem dL_water_9 : decode cL_water 9 = .ok (.ireturn, 1) := by decide +kernel
def f_L_water (x1 : Int32) (w : XW) : Option (Int32 × XW) := (bCI (f_X10_water x1 w) (fun r1 w1 => (some (r1, w1))) (fun e1 w1 => (if e1 = "java/lang/IndexOutOfBoundsException" then (some ((-77), w1)) else none)))
set_option maxRecDepth 100000 in
theorem W_L_water {g : GC} (hl : g.1.stackTraces = false) {x1 : Int32} {w : XW} : VE g cL_water 3 RL (some .int) [(0, 5, 6, 26)] (rmL 6 1 6) 1 6 oI 0 0 0 [(0, .ref (g.2.1 + 0)), (1, .int x1)] [] w (f_L_water x1 w) := by
  unfold f_L_water
  refine v_aload_n dL_water_0 rfl 0 rfl ?_
  refine v_iload_n dL_water_1 rfl 1 rfl ?_
  refine v_callVic (As := [.int x1]) cv_L_37 (S_X10_water hl) tt_0 rfl rfl rfl (Nat.le_of_ble_eq_true rfl) dL_water_2 (CR_rm (by decide) (by decide) (by decide) (by decide)) (fun r1 w1 => ?_) (fun e1 w1 => ?_)
  · exact v_iret dL_water_5 rfl rfl (by decide) (by decide)
  · refine v_xsplit ?_ ?_
    · refine v_catch [] (0, 5, 6, 26) [] rfl (fun _ h => absurd h List.not_mem_nil) (by decide) (by decide) gw_369 (by decide) (fun q1 => ?_)
      refine v_astore_n dL_water_6 rfl (Nat.le_of_ble_eq_true rfl) rfl ?_
      refine v_bipush (v := (-77)) dL_water_7 (by decide) ?_
      exact v_iret dL_water_9 rfl rfl (by decide) (by decide)
    · exact v_xnone
theorem S_L_water {g : GC} (hl : g.1.stackTraces = false) {x1 : Int32} {w : XW} : ∀ q, f_L_water x1 w = some q → MM g (.codeWith yL_water cL_water 3 (some .int) [(0, 5, 6, 26)]) yL_water (rmL 6 1 6) 1 6 [.ref (g.2.1 + 0), .int x1] w (oI q) := fun q hq => MM_ofH (own := RL) hl (by decide) gw_368 rfl (Nat.le_of_ble_eq_true rfl) (W_L_water hl q hq) ⟨rfl, rfl⟩

theorem dL_hasTerm_0 : decode cL_hasTerm 0 = .ok (.aload_n 0, 1) := by decide +kernel
theorem dL_hasTerm_1 : decode cL_hasTerm 1 = .ok (.iload_n 1, 1) := by decide +kernel
theorem dL_hasTerm_2 : decode cL_hasTerm 2 = .ok (.iload_n 2, 1) := by decide +kernel
theorem dL_hasTerm_3 : decode cL_hasTerm 3 = .ok (.invokevirtual 41, 3) := by decide +kernel
theorem dL_hasTerm_6 : decode cL_hasTerm 6 = .ok (.ifCond .eq 7, 3) := by decide +kernel
theorem dL_hasTerm_9 : decode cL_hasTerm 9 = .ok (.iconst 1, 1) := by decide +kernel
theorem dL_hasTerm_10 : decode cL_hasTerm 10 = .ok (.goto 4, 3) := by decide +kernel
theorem dL_hasTerm_13 : decode cL_hasTerm 13 = .ok (.iconst 0, 1) := by decide +kernel
theorem dL_hasTerm_14 : decode cL_hasTerm 14 = .ok (.ireturn, 1) := by decide +kernel
theorem dL_hasTerm_15 : decode cL_hasTerm 15 = .ok (.astore_n 3, 1) := by decide +kernel
theorem dL_hasTerm_16 : decode cL_hasTerm 16 = .ok (.bipush (-77), 2) := by decide +kernel
theorem dL_hasTerm_18 : decode cL_hasTerm 18 = .ok (.ireturn, 1) := by decide +kernel
theorem dL_hasTerm_19 : decode cL_hasTerm 19 = .ok (.astore_n 3, 1) := by decide +kernel
theorem dL_hasTerm_20 : decode cL_hasTerm 20 = .ok (.bipush (-78), 2) := by decide +kernel
theorem dL_hasTerm_22 : decode cL_hasTerm 22 = .ok (.ireturn, 1) := by decide +kernel
def f_L_hasTerm (x1 : Int32) (x2 : Int32) (w : XW) : Option (Int32 × XW) := (bCI (f_X10_hasTerm x1 x2 w) (fun r1 w1 => (if r1 = 0 then (some (0, w1)) else (some (1, w1)))) (fun e1 w1 => (if e1 = "java/lang/IndexOutOfBoundsException" then (some ((-77), w1)) else (if e1 = "java/lang/IllegalArgumentException" then (some ((-78), w1)) else none))))
set_option maxRecDepth 100000 in
theorem W_L_hasTerm {g : GC} (hl : g.1.stackTraces = false) {x1 : Int32} {x2 : Int32} {w : XW} : VE g cL_hasTerm 4 RL (some .int) [(0, 14, 15, 26), (0, 14, 19, 28)] (rmL 7 2 12) 2 12 oI 0 0 0 [(0, .ref (g.2.1 + 0)), (1, .int x1), (2, .int x2)] [] w (f_L_hasTerm x1 x2 w) := by
  unfold f_L_hasTerm
  refine v_aload_n dL_hasTerm_0 rfl 0 rfl ?_
  refine v_iload_n dL_hasTerm_1 rfl 1 rfl ?_
  refine v_iload_n dL_hasTerm_2 rfl 2 rfl ?_
  refine v_callVic (As := [.int x1, .int x2]) cv_L_41 (S_X10_hasTerm hl) tt_0 rfl rfl rfl (Nat.le_of_ble_eq_true rfl) dL_hasTerm_3 (CR_rm (by decide) (by decide) (by decide) (by decide)) (fun r1 w1 => ?_) (fun e1 w1 => ?_)
  · refine v_if_eq (tgt := 13) dL_hasTerm_6 (by decide) ?_ ?_
    · refine v_iconst (v := 0) dL_hasTerm_13 (by decide) ?_
      exact v_iret dL_hasTerm_14 rfl rfl (by decide) (by decide)
    · refine v_iconst (v := 1) dL_hasTerm_9 (by decide) ?_
      refine v_goto (tgt := 14) dL_hasTerm_10 (by decide) ?_
      exact v_iret dL_hasTerm_14 rfl rfl (by decide) (by decide)
  · refine v_xsplit ?_ ?_
    · refine v_catch [] (0, 14, 15, 26) [(0, 14, 19, 28)] rfl (fun _ h => absurd h List.not_mem_nil) (by decide) (by decide) gw_369 (by decide) (fun q1 => ?_)
      refine v_astore_n dL_hasTerm_15 rfl (Nat.le_of_ble_eq_true rfl) rfl ?_
      refine v_bipush (v := (-77)) dL_hasTerm_16 (by decide) ?_
      exact v_iret dL_hasTerm_18 rfl rfl (by decide) (by decide)
    · refine v_xsplit ?_ ?_
      · refine v_catch [(0, 14, 15, 26)] (0, 14, 19, 28) [] rfl (List.forall_mem_cons.mpr ⟨⟨by decide, _, gw_369, by decide⟩, fun _ h => absurd h List.not_mem_nil⟩) (by decide) (by decide) gw_873 (by decide) (fun q1 => ?_)
        refine v_astore_n dL_hasTerm_19 rfl (Nat.le_of_ble_eq_true rfl) rfl ?_
        refine v_bipush (v := (-78)) dL_hasTerm_20 (by decide) ?_
        exact v_iret dL_hasTerm_22 rfl rfl (by decide) (by decide)
      · exact v_xnone
theorem S_L_hasTerm {g : GC} (hl : g.1.stackTraces = false) {x1 : Int32} {x2 : Int32} {w : XW} : ∀ q, f_L_hasTerm x1 x2 w = some q → MM g (.codeWith yL_hasTerm cL_hasTerm 4 (some .int) [(0, 14, 15, 26), (0, 14, 19, 28)]) yL_hasTerm (rmL 7 2 12) 2 12 [.ref (g.2.1 + 0), .int x1, .int x2] w (oI q) := fun q hq => MM_ofH (own := RL) hl (by decide) gw_1365 rfl (Nat.le_of_ble_eq_true rfl) (W_L_hasTerm hl q hq) ⟨rfl, rfl⟩

theorem dL_sectionsWith_0 : decode cL_sectionsWith 0 = .ok (.aload_n 0, 1) := by decide +kernel
theorem dL_sectionsWith_1 : decode cL_sectionsWith 1 = .ok (.iload_n 1, 1) := by decide +kernel
theorem dL_sectionsWith_2 : decode cL_sectionsWith 2 = .ok (.invokevirtual 45, 3) := by decide +kernel
theorem dL_sectionsWith_5 : decode cL_sectionsWith 5 = .ok (.ireturn, 1) := by decide +kernel
theorem dL_sectionsWith_6 : decode cL_sectionsWith 6 = .ok (.astore_n 2, 1) := by decide +kernel
theorem dL_sectionsWith_7 : decode cL_sectionsWith 7 = .ok (.bipush (-78), 2) := by decide +kernel
theorem dL_sectionsWith_9 : decode cL_sectionsWith 9 = .ok (.ireturn, 1) := by decide +kernel
def f_L_sectionsWith (x1 : Int32) (w : XW) : Option (Int32 × XW) := (bCI (f_X10_sectionsWith x1 w) (fun r1 w1 => (some (r1, w1))) (fun e1 w1 => (if e1 = "java/lang/IllegalArgumentException" then (some ((-78), w1)) else none)))
set_option maxRecDepth 100000 in
theorem W_L_sectionsWith {g : GC} (hl : g.1.stackTraces = false) {x1 : Int32} {w : XW} : VE g cL_sectionsWith 3 RL (some .int) [(0, 5, 6, 28)] (rmL 8 1 6) 1 6 oI 0 0 0 [(0, .ref (g.2.1 + 0)), (1, .int x1)] [] w (f_L_sectionsWith x1 w) := by
  unfold f_L_sectionsWith
  refine v_aload_n dL_sectionsWith_0 rfl 0 rfl ?_
  refine v_iload_n dL_sectionsWith_1 rfl 1 rfl ?_
  refine v_callVic (As := [.int x1]) cv_L_45 (S_X10_sectionsWith hl) tt_0 rfl rfl rfl (Nat.le_of_ble_eq_true rfl) dL_sectionsWith_2 (CR_rm (by decide) (by decide) (by decide) (by decide)) (fun r1 w1 => ?_) (fun e1 w1 => ?_)
  · exact v_iret dL_sectionsWith_5 rfl rfl (by decide) (by decide)
  · refine v_xsplit ?_ ?_
    · refine v_catch [] (0, 5, 6, 28) [] rfl (fun _ h => absurd h List.not_mem_nil) (by decide) (by decide) gw_873 (by decide) (fun q1 => ?_)
      refine v_astore_n dL_sectionsWith_6 rfl (Nat.le_of_ble_eq_true rfl) rfl ?_
      refine v_bipush (v := (-78)) dL_sectionsWith_7 (by decide) ?_
      exact v_iret dL_sectionsWith_9 rfl rfl (by decide) (by decide)
    · exact v_xnone
theorem S_L_sectionsWith {g : GC} (hl : g.1.stackTraces = false) {x1 : Int32} {w : XW} : ∀ q, f_L_sectionsWith x1 w = some q → MM g (.codeWith yL_sectionsWith cL_sectionsWith 3 (some .int) [(0, 5, 6, 28)]) yL_sectionsWith (rmL 8 1 6) 1 6 [.ref (g.2.1 + 0), .int x1] w (oI q) := fun q hq => MM_ofH (own := RL) hl (by decide) gw_1543 rfl (Nat.le_of_ble_eq_true rfl) (W_L_sectionsWith hl q hq) ⟨rfl, rfl⟩

theorem dL_sectionByWater_0 : decode cL_sectionByWater 0 = .ok (.aload_n 0, 1) := by decide +kernel
theorem dL_sectionByWater_1 : decode cL_sectionByWater 1 = .ok (.iload_n 1, 1) := by decide +kernel
theorem dL_sectionByWater_2 : decode cL_sectionByWater 2 = .ok (.invokevirtual 49, 3) := by decide +kernel
theorem dL_sectionByWater_5 : decode cL_sectionByWater 5 = .ok (.ireturn, 1) := by decide +kernel
theorem dL_sectionByWater_6 : decode cL_sectionByWater 6 = .ok (.astore_n 2, 1) := by decide +kernel
theorem dL_sectionByWater_7 : decode cL_sectionByWater 7 = .ok (.bipush (-75), 2) := by decide +kernel
theorem dL_sectionByWater_9 : decode cL_sectionByWater 9 = .ok (.ireturn, 1) := by decide +kernel
def f_L_sectionByWater (x1 : Int32) (w : XW) : Option (Int32 × XW) := (bCI (f_X10_sectionByWater x1 w) (fun r1 w1 => (some (r1, w1))) (fun e1 w1 => (if e1 = "java/util/NoSuchElementException" then (some ((-75), w1)) else none)))
set_option maxRecDepth 100000 in
theorem W_L_sectionByWater {g : GC} (hl : g.1.stackTraces = false) {x1 : Int32} {w : XW} : VE g cL_sectionByWater 3 RL (some .int) [(0, 5, 6, 52)] (rmL 9 1 6) 1 6 oI 0 0 0 [(0, .ref (g.2.1 + 0)), (1, .int x1)] [] w (f_L_sectionByWater x1 w) := by
  unfold f_L_sectionByWater
  refine v_aload_n dL_sectionByWater_0 rfl 0 rfl ?_
  refine v_iload_n dL_sectionByWater_1 rfl 1 rfl ?_
  refine v_callVic (As := [.int x1]) cv_L_49 (S_X10_sectionByWater hl) tt_0 rfl rfl rfl (Nat.le_of_ble_eq_true rfl) dL_sectionByWater_2 (CR_rm (by decide) (by decide) (by decide) (by decide)) (fun r1 w1 => ?_) (fun e1 w1 => ?_)
  · exact v_iret dL_sectionByWater_5 rfl rfl (by decide) (by decide)
  · refine v_xsplit ?_ ?_
    · refine v_catch [] (0, 5, 6, 52) [] rfl (fun _ h => absurd h List.not_mem_nil) (by decide) (by decide) gw_490 (by decide) (fun q1 => ?_)
      refine v_astore_n dL_sectionByWater_6 rfl (Nat.le_of_ble_eq_true rfl) rfl ?_
      refine v_bipush (v := (-75)) dL_sectionByWater_7 (by decide) ?_
      exact v_iret dL_sectionByWater_9 rfl rfl (by decide) (by decide)
    · exact v_xnone
theorem S_L_sectionByWater {g : GC} (hl : g.1.stackTraces = false) {x1 : Int32} {w : XW} : ∀ q, f_L_sectionByWater x1 w = some q → MM g (.codeWith yL_sectionByWater cL_sectionByWater 3 (some .int) [(0, 5, 6, 52)]) yL_sectionByWater (rmL 9 1 6) 1 6 [.ref (g.2.1 + 0), .int x1] w (oI q) := fun q hq => MM_ofH (own := RL) hl (by decide) gw_1399 rfl (Nat.le_of_ble_eq_true rfl) (W_L_sectionByWater hl q hq) ⟨rfl, rfl⟩

theorem dL_fold_0 : decode cL_fold 0 = .ok (.aload_n 0, 1) := by decide +kernel
theorem dL_fold_1 : decode cL_fold 1 = .ok (.iload_n 1, 1) := by decide +kernel
theorem dL_fold_2 : decode cL_fold 2 = .ok (.invokevirtual 54, 3) := by decide +kernel
theorem dL_fold_5 : decode cL_fold 5 = .ok (.ireturn, 1) := by decide +kernel
theorem dL_fold_6 : decode cL_fold 6 = .ok (.astore_n 2, 1) := by decide +kernel
theorem dL_fold_7 : decode cL_fold 7 = .ok (.bipush (-77), 2) := by decide +kernel
theorem dL_fold_9 : decode cL_fold 9 = .ok (.ireturn, 1) := by decide +kernel
theorem dL_fold_10 : decode cL_fold 10 = .ok (.astore_n 2, 1) := by decide +kernel
theorem dL_fold_11 : decode cL_fold 11 = .ok (.bipush (-76), 2) := by decide +kernel
theorem dL_fold_13 : decode cL_fold 13 = .ok (.ireturn, 1) := by decide +kernel
def f_L_fold (x1 : Int32) (w : XW) : Option (Int32 × XW) := (bCI (f_X10_fold x1 w) (fun r1 w1 => (some (r1, w1))) (fun e1 w1 => (if e1 = "java/lang/IndexOutOfBoundsException" then (some ((-77), w1)) else (if e1 = "java/lang/UnsupportedOperationException" then (some ((-76), w1)) else none))))
set_option maxRecDepth 100000 in
theorem W_L_fold {g : GC} (hl : g.1.stackTraces = false) {x1 : Int32} {w : XW} : VE g cL_fold 3 RL (some .int) [(0, 5, 6, 26), (0, 5, 10, 20)] (rmL 11 1 6) 1 6 oI 0 0 0 [(0, .ref (g.2.1 + 0)), (1, .int x1)] [] w (f_L_fold x1 w) := by
  unfold f_L_fold
  refine v_aload_n dL_fold_0 rfl 0 rfl ?_
  refine v_iload_n dL_fold_1 rfl 1 rfl ?_
  refine v_callVic (As := [.int x1]) cv_L_54 (S_X10_fold hl) tt_0 rfl rfl rfl (Nat.le_of_ble_eq_true rfl) dL_fold_2 (CR_rm (by decide) (by decide) (by decide) (by decide)) (fun r1 w1 => ?_) (fun e1 w1 => ?_)
  · exact v_iret dL_fold_5 rfl rfl (by decide) (by decide)
  · refine v_xsplit ?_ ?_
    · refine v_catch [] (0, 5, 6, 26) [(0, 5, 10, 20)] rfl (fun _ h => absurd h List.not_mem_nil) (by decide) (by decide) gw_369 (by decide) (fun q1 => ?_)
      refine v_astore_n dL_fold_6 rfl (Nat.le_of_ble_eq_true rfl) rfl ?_
      refine v_bipush (v := (-77)) dL_fold_7 (by decide) ?_
      exact v_iret dL_fold_9 rfl rfl (by decide) (by decide)
    · refine v_xsplit ?_ ?_
      · refine v_catch [(0, 5, 6, 26)] (0, 5, 10, 20) [] rfl (List.forall_mem_cons.mpr ⟨⟨by decide, _, gw_369, by decide⟩, fun _ h => absurd h List.not_mem_nil⟩) (by decide) (by decide) gw_589 (by decide) (fun q1 => ?_)
        refine v_astore_n dL_fold_10 rfl (Nat.le_of_ble_eq_true rfl) rfl ?_
        refine v_bipush (v := (-76)) dL_fold_11 (by decide) ?_
        exact v_iret dL_fold_13 rfl rfl (by decide) (by decide)
      · exact v_xnone
theorem S_L_fold {g : GC} (hl : g.1.stackTraces = false) {x1 : Int32} {w : XW} : ∀ q, f_L_fold x1 w = some q → MM g (.codeWith yL_fold cL_fold 3 (some .int) [(0, 5, 6, 26), (0, 5, 10, 20)]) yL_fold (rmL 11 1 6) 1 6 [.ref (g.2.1 + 0), .int x1] w (oI q) := fun q hq => MM_ofH (own := RL) hl (by decide) gw_894 rfl (Nat.le_of_ble_eq_true rfl) (W_L_fold hl q hq) ⟨rfl, rfl⟩

theorem dL_unfold_0 : decode cL_unfold 0 = .ok (.aload_n 0, 1) := by decide +kernel
theorem dL_unfold_1 : decode cL_unfold 1 = .ok (.invokevirtual 57, 3) := by decide +kernel
theorem dL_unfold_4 : decode cL_unfold 4 = .ok (.ireturn, 1) := by decide +kernel
theorem dL_unfold_5 : decode cL_unfold 5 = .ok (.astore_n 1, 1) := by decide +kernel
theorem dL_unfold_6 : decode cL_unfold 6 = .ok (.bipush (-76), 2) := by decide +kernel
theorem dL_unfold_8 : decode cL_unfold 8 = .ok (.ireturn, 1) := by decide +kernel
def f_L_unfold (w : XW) : Option (Int32 × XW) := (bCI (f_X10_unfold w) (fun r1 w1 => (some (r1, w1))) (fun e1 w1 => (if e1 = "java/lang/UnsupportedOperationException" then (some ((-76), w1)) else none)))
set_option maxRecDepth 100000 in
theorem W_L_unfold {g : GC} (hl : g.1.stackTraces = false) {w : XW} : VE g cL_unfold 2 RL (some .int) [(0, 4, 5, 20)] (rmL 11 1 6) 1 6 oI 0 0 0 [(0, .ref (g.2.1 + 0))] [] w (f_L_unfold  w) := by
  unfold f_L_unfold
  refine v_aload_n dL_unfold_0 rfl 0 rfl ?_
  refine v_callVic (As := []) cv_L_57 (S_X10_unfold hl) tt_0 rfl rfl rfl (Nat.le_of_ble_eq_true rfl) dL_unfold_1 (CR_rm (by decide) (by decide) (by decide) (by decide)) (fun r1 w1 => ?_) (fun e1 w1 => ?_)
  · exact v_iret dL_unfold_4 rfl rfl (by decide) (by decide)
  · refine v_xsplit ?_ ?_
    · refine v_catch [] (0, 4, 5, 20) [] rfl (fun _ h => absurd h List.not_mem_nil) (by decide) (by decide) gw_589 (by decide) (fun q1 => ?_)
      refine v_astore_n dL_unfold_5 rfl (Nat.le_of_ble_eq_true rfl) rfl ?_
      refine v_bipush (v := (-76)) dL_unfold_6 (by decide) ?_
      exact v_iret dL_unfold_8 rfl rfl (by decide) (by decide)
    · exact v_xnone
theorem S_L_unfold {g : GC} (hl : g.1.stackTraces = false) {w : XW} : ∀ q, f_L_unfold  w = some q → MM g (.codeWith yL_unfold cL_unfold 2 (some .int) [(0, 4, 5, 20)]) yL_unfold (rmL 11 1 6) 1 6 [.ref (g.2.1 + 0)] w (oI q) := fun q hq => MM_ofH (own := RL) hl (by decide) gw_901 rfl (Nat.le_of_ble_eq_true rfl) (W_L_unfold hl q hq) ⟨rfl, rfl⟩

theorem dL_layerOf_0 : decode cL_layerOf 0 = .ok (.aload_n 0, 1) := by decide +kernel
theorem dL_layerOf_1 : decode cL_layerOf 1 = .ok (.iload_n 1, 1) := by decide +kernel
theorem dL_layerOf_2 : decode cL_layerOf 2 = .ok (.invokevirtual 60, 3) := by decide +kernel
theorem dL_layerOf_5 : decode cL_layerOf 5 = .ok (.ireturn, 1) := by decide +kernel
theorem dL_layerOf_6 : decode cL_layerOf 6 = .ok (.astore_n 2, 1) := by decide +kernel
theorem dL_layerOf_7 : decode cL_layerOf 7 = .ok (.bipush (-77), 2) := by decide +kernel
theorem dL_layerOf_9 : decode cL_layerOf 9 = .ok (.ireturn, 1) := by decide +kernel
theorem dL_layerOf_10 : decode cL_layerOf 10 = .ok (.astore_n 2, 1) := by decide +kernel
theorem dL_layerOf_11 : decode cL_layerOf 11 = .ok (.bipush (-75), 2) := by decide +kernel
theorem dL_layerOf_13 : decode cL_layerOf 13 = .ok (.ireturn, 1) := by decide +kernel
def f_L_layerOf (x1 : Int32) (w : XW) : Option (Int32 × XW) := (bCI (f_X10_layerOf x1 w) (fun r1 w1 => (some (r1, w1))) (fun e1 w1 => (if e1 = "java/lang/IndexOutOfBoundsException" then (some ((-77), w1)) else (if e1 = "java/util/NoSuchElementException" then (some ((-75), w1)) else none))))
set_option maxRecDepth 100000 in
theorem W_L_layerOf {g : GC} (hl : g.1.stackTraces = false) {x1 : Int32} {w : XW} : VE g cL_layerOf 3 RL (some .int) [(0, 5, 6, 26), (0, 5, 10, 52)] (rmL 6 2 12) 2 12 oI 0 0 0 [(0, .ref (g.2.1 + 0)), (1, .int x1)] [] w (f_L_layerOf x1 w) := by
  unfold f_L_layerOf
  refine v_aload_n dL_layerOf_0 rfl 0 rfl ?_
  refine v_iload_n dL_layerOf_1 rfl 1 rfl ?_
  refine v_callVic (As := [.int x1]) cv_L_60 (S_X10_layerOf hl) tt_0 rfl rfl rfl (Nat.le_of_ble_eq_true rfl) dL_layerOf_2 (CR_rm (by decide) (by decide) (by decide) (by decide)) (fun r1 w1 => ?_) (fun e1 w1 => ?_)
  · exact v_iret dL_layerOf_5 rfl rfl (by decide) (by decide)
  · refine v_xsplit ?_ ?_
    · refine v_catch [] (0, 5, 6, 26) [(0, 5, 10, 52)] rfl (fun _ h => absurd h List.not_mem_nil) (by decide) (by decide) gw_369 (by decide) (fun q1 => ?_)
      refine v_astore_n dL_layerOf_6 rfl (Nat.le_of_ble_eq_true rfl) rfl ?_
      refine v_bipush (v := (-77)) dL_layerOf_7 (by decide) ?_
      exact v_iret dL_layerOf_9 rfl rfl (by decide) (by decide)
    · refine v_xsplit ?_ ?_
      · refine v_catch [(0, 5, 6, 26)] (0, 5, 10, 52) [] rfl (List.forall_mem_cons.mpr ⟨⟨by decide, _, gw_369, by decide⟩, fun _ h => absurd h List.not_mem_nil⟩) (by decide) (by decide) gw_490 (by decide) (fun q1 => ?_)
        refine v_astore_n dL_layerOf_10 rfl (Nat.le_of_ble_eq_true rfl) rfl ?_
        refine v_bipush (v := (-75)) dL_layerOf_11 (by decide) ?_
        exact v_iret dL_layerOf_13 rfl rfl (by decide) (by decide)
      · exact v_xnone
theorem S_L_layerOf {g : GC} (hl : g.1.stackTraces = false) {x1 : Int32} {w : XW} : ∀ q, f_L_layerOf x1 w = some q → MM g (.codeWith yL_layerOf cL_layerOf 3 (some .int) [(0, 5, 6, 26), (0, 5, 10, 52)]) yL_layerOf (rmL 6 2 12) 2 12 [.ref (g.2.1 + 0), .int x1] w (oI q) := fun q hq => MM_ofH (own := RL) hl (by decide) gw_489 rfl (Nat.le_of_ble_eq_true rfl) (W_L_layerOf hl q hq) ⟨rfl, rfl⟩

theorem dL_sectionIn_0 : decode cL_sectionIn 0 = .ok (.aload_n 0, 1) := by decide +kernel
theorem dL_sectionIn_1 : decode cL_sectionIn 1 = .ok (.iload_n 1, 1) := by decide +kernel
theorem dL_sectionIn_2 : decode cL_sectionIn 2 = .ok (.invokevirtual 63, 3) := by decide +kernel
theorem dL_sectionIn_5 : decode cL_sectionIn 5 = .ok (.ireturn, 1) := by decide +kernel
theorem dL_sectionIn_6 : decode cL_sectionIn 6 = .ok (.astore_n 2, 1) := by decide +kernel
theorem dL_sectionIn_7 : decode cL_sectionIn 7 = .ok (.bipush (-77), 2) := by decide +kernel
theorem dL_sectionIn_9 : decode cL_sectionIn 9 = .ok (.ireturn, 1) := by decide +kernel
def f_L_sectionIn (x1 : Int32) (w : XW) : Option (Int32 × XW) := (bCI (f_X10_sectionIn x1 w) (fun r1 w1 => (some (r1, w1))) (fun e1 w1 => (if e1 = "java/lang/IndexOutOfBoundsException" then (some ((-77), w1)) else none)))
set_option maxRecDepth 100000 in
theorem W_L_sectionIn {g : GC} (hl : g.1.stackTraces = false) {x1 : Int32} {w : XW} : VE g cL_sectionIn 3 RL (some .int) [(0, 5, 6, 26)] (rmL 5 1 6) 1 6 oI 0 0 0 [(0, .ref (g.2.1 + 0)), (1, .int x1)] [] w (f_L_sectionIn x1 w) := by
  unfold f_L_sectionIn
  refine v_aload_n dL_sectionIn_0 rfl 0 rfl ?_
  refine v_iload_n dL_sectionIn_1 rfl 1 rfl ?_
  refine v_callVic (As := [.int x1]) cv_L_63 (S_X10_sectionIn hl) tt_0 rfl rfl rfl (Nat.le_of_ble_eq_true rfl) dL_sectionIn_2 (CR_rm (by decide) (by decide) (by decide) (by decide)) (fun r1 w1 => ?_) (fun e1 w1 => ?_)
  · exact v_iret dL_sectionIn_5 rfl rfl (by decide) (by decide)
  · refine v_xsplit ?_ ?_
    · refine v_catch [] (0, 5, 6, 26) [] rfl (fun _ h => absurd h List.not_mem_nil) (by decide) (by decide) gw_369 (by decide) (fun q1 => ?_)
      refine v_astore_n dL_sectionIn_6 rfl (Nat.le_of_ble_eq_true rfl) rfl ?_
      refine v_bipush (v := (-77)) dL_sectionIn_7 (by decide) ?_
      exact v_iret dL_sectionIn_9 rfl rfl (by decide) (by decide)
    · exact v_xnone
theorem S_L_sectionIn {g : GC} (hl : g.1.stackTraces = false) {x1 : Int32} {w : XW} : ∀ q, f_L_sectionIn x1 w = some q → MM g (.codeWith yL_sectionIn cL_sectionIn 3 (some .int) [(0, 5, 6, 26)]) yL_sectionIn (rmL 5 1 6) 1 6 [.ref (g.2.1 + 0), .int x1] w (oI q) := fun q hq => MM_ofH (own := RL) hl (by decide) gw_516 rfl (Nat.le_of_ble_eq_true rfl) (W_L_sectionIn hl q hq) ⟨rfl, rfl⟩

theorem dL_canFold_0 : decode cL_canFold 0 = .ok (.aload_n 0, 1) := by decide +kernel
theorem dL_canFold_1 : decode cL_canFold 1 = .ok (.iload_n 1, 1) := by decide +kernel
theorem dL_canFold_2 : decode cL_canFold 2 = .ok (.invokevirtual 66, 3) := by decide +kernel
theorem dL_canFold_5 : decode cL_canFold 5 = .ok (.ifCond .eq 7, 3) := by decide +kernel
theorem dL_canFold_8 : decode cL_canFold 8 = .ok (.iconst 1, 1) := by decide +kernel
theorem dL_canFold_9 : decode cL_canFold 9 = .ok (.goto 4, 3) := by decide +kernel
theorem dL_canFold_12 : decode cL_canFold 12 = .ok (.iconst 0, 1) := by decide +kernel
theorem dL_canFold_13 : decode cL_canFold 13 = .ok (.ireturn, 1) := by decide +kernel
theorem dL_canFold_14 : decode cL_canFold 14 = .ok (.astore_n 2, 1) := by decide +kernel
theorem dL_canFold_15 : decode cL_canFold 15 = .ok (.bipush (-77), 2) := by decide +kernel
theorem dL_canFold_17 : decode cL_canFold 17 = .ok (.ireturn, 1) := by decide +kernel
def f_L_canFold (x1 : Int32) (w : XW) : Option (Int32 × XW) := (bCI (f_X10_canFold x1 w) (fun r1 w1 => (if r1 = 0 then (some (0, w1)) else (some (1, w1)))) (fun e1 w1 => (if e1 = "java/lang/IndexOutOfBoundsException" then (some ((-77), w1)) else none)))
set_option maxRecDepth 100000 in
theorem W_L_canFold {g : GC} (hl : g.1.stackTraces = false) {x1 : Int32} {w : XW} : VE g cL_canFold 3 RL (some .int) [(0, 13, 14, 26)] (rmL 9 1 6) 1 6 oI 0 0 0 [(0, .ref (g.2.1 + 0)), (1, .int x1)] [] w (f_L_canFold x1 w) := by
  unfold f_L_canFold
  refine v_aload_n dL_canFold_0 rfl 0 rfl ?_
  refine v_iload_n dL_canFold_1 rfl 1 rfl ?_
  refine v_callVic (As := [.int x1]) cv_L_66 (S_X10_canFold hl) tt_0 rfl rfl rfl (Nat.le_of_ble_eq_true rfl) dL_canFold_2 (CR_rm (by decide) (by decide) (by decide) (by decide)) (fun r1 w1 => ?_) (fun e1 w1 => ?_)
  · refine v_if_eq (tgt := 12) dL_canFold_5 (by decide) ?_ ?_
    · refine v_iconst (v := 0) dL_canFold_12 (by decide) ?_
      exact v_iret dL_canFold_13 rfl rfl (by decide) (by decide)
    · refine v_iconst (v := 1) dL_canFold_8 (by decide) ?_
      refine v_goto (tgt := 13) dL_canFold_9 (by decide) ?_
      exact v_iret dL_canFold_13 rfl rfl (by decide) (by decide)
  · refine v_xsplit ?_ ?_
    · refine v_catch [] (0, 13, 14, 26) [] rfl (fun _ h => absurd h List.not_mem_nil) (by decide) (by decide) gw_369 (by decide) (fun q1 => ?_)
      refine v_astore_n dL_canFold_14 rfl (Nat.le_of_ble_eq_true rfl) rfl ?_
      refine v_bipush (v := (-77)) dL_canFold_15 (by decide) ?_
      exact v_iret dL_canFold_17 rfl rfl (by decide) (by decide)
    · exact v_xnone
theorem S_L_canFold {g : GC} (hl : g.1.stackTraces = false) {x1 : Int32} {w : XW} : ∀ q, f_L_canFold x1 w = some q → MM g (.codeWith yL_canFold cL_canFold 3 (some .int) [(0, 13, 14, 26)]) yL_canFold (rmL 9 1 6) 1 6 [.ref (g.2.1 + 0), .int x1] w (oI q) := fun q hq => MM_ofH (own := RL) hl (by decide) gw_527 rfl (Nat.le_of_ble_eq_true rfl) (W_L_canFold hl q hq) ⟨rfl, rfl⟩

theorem dL_layPipe_0 : decode cL_layPipe 0 = .ok (.aload_n 0, 1) := by decide +kernel
theorem dL_layPipe_1 : decode cL_layPipe 1 = .ok (.iload_n 1, 1) := by decide +kernel
theorem dL_layPipe_2 : decode cL_layPipe 2 = .ok (.iload_n 2, 1) := by decide +kernel
theorem dL_layPipe_3 : decode cL_layPipe 3 = .ok (.iload_n 3, 1) := by decide +kernel
theorem dL_layPipe_4 : decode cL_layPipe 4 = .ok (.invokevirtual 70, 3) := by decide +kernel
theorem dL_layPipe_7 : decode cL_layPipe 7 = .ok (.ireturn, 1) := by decide +kernel
theorem dL_layPipe_8 : decode cL_layPipe 8 = .ok (.astore 4, 2) := by decide +kernel
theorem dL_layPipe_10 : decode cL_layPipe 10 = .ok (.bipush (-77), 2) := by decide +kernel
theorem dL_layPipe_12 : decode cL_layPipe 12 = .ok (.ireturn, 1) := by decide +kernel
theorem dL_layPipe_13 : decode cL_layPipe 13 = .ok (.astore 4, 2) := by decide +kernel
theorem dL_layPipe_15 : decode cL_layPipe 15 = .ok (.bipush (-78), 2) := by decide +kernel
theorem dL_layPipe_17 : decode cL_layPipe 17 = .ok (.ireturn, 1) := by decide +kernel
theorem dL_layPipe_18 : decode cL_layPipe 18 = .ok (.astore 4, 2) := by decide +kernel
theorem dL_layPipe_20 : decode cL_layPipe 20 = .ok (.bipush (-76), 2) := by decide +kernel
theorem dL_layPipe_22 : decode cL_layPipe 22 = .ok (.ireturn, 1) := by decide +kernel
def f_L_layPipe (x1 : Int32) (x2 : Int32) (x3 : Int32) (w : XW) : Option (Int32 × XW) := (bCI (f_X10_layPipe x1 x2 x3 w) (fun r1 w1 => (some (r1, w1))) (fun e1 w1 => (if e1 = "java/lang/IndexOutOfBoundsException" then (some ((-77), w1)) else (if e1 = "java/lang/IllegalArgumentException" then (some ((-78), w1)) else (if e1 = "java/lang/UnsupportedOperationException" then (some ((-76), w1)) else none)))))
set_option maxRecDepth 100000 in
theorem W_L_layPipe {g : GC} (hl : g.1.stackTraces = false) {x1 : Int32} {x2 : Int32} {x3 : Int32} {w : XW} : VE g cL_layPipe 5 RL (some .int) [(0, 7, 8, 26), (0, 7, 13, 28), (0, 7, 18, 20)] (rmL 11 1 6) 1 6 oI 0 0 0 [(0, .ref (g.2.1 + 0)), (1, .int x1), (2, .int x2), (3, .int x3)] [] w (f_L_layPipe x1 x2 x3 w) := by
  unfold f_L_layPipe
  refine v_aload_n dL_layPipe_0 rfl 0 rfl ?_
  refine v_iload_n dL_layPipe_1 rfl 1 rfl ?_
  refine v_iload_n dL_layPipe_2 rfl 2 rfl ?_
  refine v_iload_n dL_layPipe_3 rfl 3 rfl ?_
  refine v_callVic (As := [.int x1, .int x2, .int x3]) cv_L_70 (S_X10_layPipe hl) tt_0 rfl rfl rfl (Nat.le_of_ble_eq_true rfl) dL_layPipe_4 (CR_rm (by decide) (by decide) (by decide) (by decide)) (fun r1 w1 => ?_) (fun e1 w1 => ?_)
  · exact v_iret dL_layPipe_7 rfl rfl (by decide) (by decide)
  · refine v_xsplit ?_ ?_
    · refine v_catch [] (0, 7, 8, 26) [(0, 7, 13, 28), (0, 7, 18, 20)] rfl (fun _ h => absurd h List.not_mem_nil) (by decide) (by decide) gw_369 (by decide) (fun q1 => ?_)
      refine v_astore dL_layPipe_8 (Nat.le_of_ble_eq_true rfl) rfl ?_
      refine v_bipush (v := (-77)) dL_layPipe_10 (by decide) ?_
      exact v_iret dL_layPipe_12 rfl rfl (by decide) (by decide)
    · refine v_xsplit ?_ ?_
      · refine v_catch [(0, 7, 8, 26)] (0, 7, 13, 28) [(0, 7, 18, 20)] rfl (List.forall_mem_cons.mpr ⟨⟨by decide, _, gw_369, by decide⟩, fun _ h => absurd h List.not_mem_nil⟩) (by decide) (by decide) gw_873 (by decide) (fun q1 => ?_)
        refine v_astore dL_layPipe_13 (Nat.le_of_ble_eq_true rfl) rfl ?_
        refine v_bipush (v := (-78)) dL_layPipe_15 (by decide) ?_
        exact v_iret dL_layPipe_17 rfl rfl (by decide) (by decide)
      · refine v_xsplit ?_ ?_
        · refine v_catch [(0, 7, 8, 26), (0, 7, 13, 28)] (0, 7, 18, 20) [] rfl (List.forall_mem_cons.mpr ⟨⟨by decide, _, gw_369, by decide⟩, List.forall_mem_cons.mpr ⟨⟨by decide, _, gw_873, by decide⟩, fun _ h => absurd h List.not_mem_nil⟩⟩) (by decide) (by decide) gw_589 (by decide) (fun q1 => ?_)
          refine v_astore dL_layPipe_18 (Nat.le_of_ble_eq_true rfl) rfl ?_
          refine v_bipush (v := (-76)) dL_layPipe_20 (by decide) ?_
          exact v_iret dL_layPipe_22 rfl rfl (by decide) (by decide)
        · exact v_xnone
theorem S_L_layPipe {g : GC} (hl : g.1.stackTraces = false) {x1 : Int32} {x2 : Int32} {x3 : Int32} {w : XW} : ∀ q, f_L_layPipe x1 x2 x3 w = some q → MM g (.codeWith yL_layPipe cL_layPipe 5 (some .int) [(0, 7, 8, 26), (0, 7, 13, 28), (0, 7, 18, 20)]) yL_layPipe (rmL 11 1 6) 1 6 [.ref (g.2.1 + 0), .int x1, .int x2, .int x3] w (oI q) := fun q hq => MM_ofH (own := RL) hl (by decide) gw_908 rfl (Nat.le_of_ble_eq_true rfl) (W_L_layPipe hl q hq) ⟨rfl, rfl⟩

theorem dL_removePipe_0 : decode cL_removePipe 0 = .ok (.aload_n 0, 1) := by decide +kernel
theorem dL_removePipe_1 : decode cL_removePipe 1 = .ok (.iload_n 1, 1) := by decide +kernel
theorem dL_removePipe_2 : decode cL_removePipe 2 = .ok (.invokevirtual 74, 3) := by decide +kernel
theorem dL_removePipe_5 : decode cL_removePipe 5 = .ok (.ireturn, 1) := by decide +kernel
theorem dL_removePipe_6 : decode cL_removePipe 6 = .ok (.astore_n 2, 1) := by decide +kernel
theorem dL_removePipe_7 : decode cL_removePipe 7 = .ok (.bipush (-77), 2) := by decide +kernel
theorem dL_removePipe_9 : decode cL_removePipe 9 = .ok (.ireturn, 1) := by decide +kernel
def f_L_removePipe (x1 : Int32) (w : XW) : Option (Int32 × XW) := (bCI (f_X10_removePipe x1 w) (fun r1 w1 => (some (r1, w1))) (fun e1 w1 => (if e1 = "java/lang/IndexOutOfBoundsException" then (some ((-77), w1)) else none)))
set_option maxRecDepth 100000 in
theorem W_L_removePipe {g : GC} (hl : g.1.stackTraces = false) {x1 : Int32} {w : XW} : VE g cL_removePipe 3 RL (some .int) [(0, 5, 6, 26)] (rmL 11 1 6) 1 6 oI 0 0 0 [(0, .ref (g.2.1 + 0)), (1, .int x1)] [] w (f_L_removePipe x1 w) := by
  unfold f_L_removePipe
  refine v_aload_n dL_removePipe_0 rfl 0 rfl ?_
  refine v_iload_n dL_removePipe_1 rfl 1 rfl ?_
  refine v_callVic (As := [.int x1]) cv_L_74 (S_X10_removePipe hl) tt_0 rfl rfl rfl (Nat.le_of_ble_eq_true rfl) dL_removePipe_2 (CR_rm (by decide) (by decide) (by decide) (by decide)) (fun r1 w1 => ?_) (fun e1 w1 => ?_)
  · exact v_iret dL_removePipe_5 rfl rfl (by decide) (by decide)
  · refine v_xsplit ?_ ?_
    · refine v_catch [] (0, 5, 6, 26) [] rfl (fun _ h => absurd h List.not_mem_nil) (by decide) (by decide) gw_369 (by decide) (fun q1 => ?_)
      refine v_astore_n dL_removePipe_6 rfl (Nat.le_of_ble_eq_true rfl) rfl ?_
      refine v_bipush (v := (-77)) dL_removePipe_7 (by decide) ?_
      exact v_iret dL_removePipe_9 rfl rfl (by decide) (by decide)
    · exact v_xnone
theorem S_L_removePipe {g : GC} (hl : g.1.stackTraces = false) {x1 : Int32} {w : XW} : ∀ q, f_L_removePipe x1 w = some q → MM g (.codeWith yL_removePipe cL_removePipe 3 (some .int) [(0, 5, 6, 26)]) yL_removePipe (rmL 11 1 6) 1 6 [.ref (g.2.1 + 0), .int x1] w (oI q) := fun q hq => MM_ofH (own := RL) hl (by decide) gw_915 rfl (Nat.le_of_ble_eq_true rfl) (W_L_removePipe hl q hq) ⟨rfl, rfl⟩

theorem dL_breakPipe_0 : decode cL_breakPipe 0 = .ok (.aload_n 0, 1) := by decide +kernel
theorem dL_breakPipe_1 : decode cL_breakPipe 1 = .ok (.iload_n 1, 1) := by decide +kernel
theorem dL_breakPipe_2 : decode cL_breakPipe 2 = .ok (.invokevirtual 77, 3) := by decide +kernel
theorem dL_breakPipe_5 : decode cL_breakPipe 5 = .ok (.ireturn, 1) := by decide +kernel
theorem dL_breakPipe_6 : decode cL_breakPipe 6 = .ok (.astore_n 2, 1) := by decide +kernel
theorem dL_breakPipe_7 : decode cL_breakPipe 7 = .ok (.bipush (-77), 2) := by decide +kernel
theorem dL_breakPipe_9 : decode cL_breakPipe 9 = .ok (.ireturn, 1) := by decide +kernel
theorem dL_breakPipe_10 : decode cL_breakPipe 10 = .ok (.astore_n 2, 1) := by decide +kernel
theorem dL_breakPipe_11 : decode cL_breakPipe 11 = .ok (.bipush (-76), 2) := by decide +kernel
theorem dL_breakPipe_13 : decode cL_breakPipe 13 = .ok (.ireturn, 1) := by decide +kernel
def f_L_breakPipe (x1 : Int32) (w : XW) : Option (Int32 × XW) := (bCI (f_X10_breakPipe x1 w) (fun r1 w1 => (some (r1, w1))) (fun e1 w1 => (if e1 = "java/lang/IndexOutOfBoundsException" then (some ((-77), w1)) else (if e1 = "java/lang/UnsupportedOperationException" then (some ((-76), w1)) else none))))
set_option maxRecDepth 100000 in
theorem W_L_breakPipe {g : GC} (hl : g.1.stackTraces = false) {x1 : Int32} {w : XW} : VE g cL_breakPipe 3 RL (some .int) [(0, 5, 6, 26), (0, 5, 10, 20)] (rmL 11 1 6) 1 6 oI 0 0 0 [(0, .ref (g.2.1 + 0)), (1, .int x1)] [] w (f_L_breakPipe x1 w) := by
  unfold f_L_breakPipe
  refine v_aload_n dL_breakPipe_0 rfl 0 rfl ?_
  refine v_iload_n dL_breakPipe_1 rfl 1 rfl ?_
  refine v_callVic (As := [.int x1]) cv_L_77 (S_X10_breakPipe hl) tt_0 rfl rfl rfl (Nat.le_of_ble_eq_true rfl) dL_breakPipe_2 (CR_rm (by decide) (by decide) (by decide) (by decide)) (fun r1 w1 => ?_) (fun e1 w1 => ?_)
  · exact v_iret dL_breakPipe_5 rfl rfl (by decide) (by decide)
  · refine v_xsplit ?_ ?_
    · refine v_catch [] (0, 5, 6, 26) [(0, 5, 10, 20)] rfl (fun _ h => absurd h List.not_mem_nil) (by decide) (by decide) gw_369 (by decide) (fun q1 => ?_)
      refine v_astore_n dL_breakPipe_6 rfl (Nat.le_of_ble_eq_true rfl) rfl ?_
      refine v_bipush (v := (-77)) dL_breakPipe_7 (by decide) ?_
      exact v_iret dL_breakPipe_9 rfl rfl (by decide) (by decide)
    · refine v_xsplit ?_ ?_
      · refine v_catch [(0, 5, 6, 26)] (0, 5, 10, 20) [] rfl (List.forall_mem_cons.mpr ⟨⟨by decide, _, gw_369, by decide⟩, fun _ h => absurd h List.not_mem_nil⟩) (by decide) (by decide) gw_589 (by decide) (fun q1 => ?_)
        refine v_astore_n dL_breakPipe_10 rfl (Nat.le_of_ble_eq_true rfl) rfl ?_
        refine v_bipush (v := (-76)) dL_breakPipe_11 (by decide) ?_
        exact v_iret dL_breakPipe_13 rfl rfl (by decide) (by decide)
      · exact v_xnone
theorem S_L_breakPipe {g : GC} (hl : g.1.stackTraces = false) {x1 : Int32} {w : XW} : ∀ q, f_L_breakPipe x1 w = some q → MM g (.codeWith yL_breakPipe cL_breakPipe 3 (some .int) [(0, 5, 6, 26), (0, 5, 10, 20)]) yL_breakPipe (rmL 11 1 6) 1 6 [.ref (g.2.1 + 0), .int x1] w (oI q) := fun q hq => MM_ofH (own := RL) hl (by decide) gw_922 rfl (Nat.le_of_ble_eq_true rfl) (W_L_breakPipe hl q hq) ⟨rfl, rfl⟩

theorem dL_mendPipe_0 : decode cL_mendPipe 0 = .ok (.aload_n 0, 1) := by decide +kernel
theorem dL_mendPipe_1 : decode cL_mendPipe 1 = .ok (.iload_n 1, 1) := by decide +kernel
theorem dL_mendPipe_2 : decode cL_mendPipe 2 = .ok (.invokevirtual 80, 3) := by decide +kernel
theorem dL_mendPipe_5 : decode cL_mendPipe 5 = .ok (.ireturn, 1) := by decide +kernel
theorem dL_mendPipe_6 : decode cL_mendPipe 6 = .ok (.astore_n 2, 1) := by decide +kernel
theorem dL_mendPipe_7 : decode cL_mendPipe 7 = .ok (.bipush (-77), 2) := by decide +kernel
theorem dL_mendPipe_9 : decode cL_mendPipe 9 = .ok (.ireturn, 1) := by decide +kernel
theorem dL_mendPipe_10 : decode cL_mendPipe 10 = .ok (.astore_n 2, 1) := by decide +kernel
theorem dL_mendPipe_11 : decode cL_mendPipe 11 = .ok (.bipush (-76), 2) := by decide +kernel
theorem dL_mendPipe_13 : decode cL_mendPipe 13 = .ok (.ireturn, 1) := by decide +kernel
def f_L_mendPipe (x1 : Int32) (w : XW) : Option (Int32 × XW) := (bCI (f_X10_mendPipe x1 w) (fun r1 w1 => (some (r1, w1))) (fun e1 w1 => (if e1 = "java/lang/IndexOutOfBoundsException" then (some ((-77), w1)) else (if e1 = "java/lang/UnsupportedOperationException" then (some ((-76), w1)) else none))))
set_option maxRecDepth 100000 in
theorem W_L_mendPipe {g : GC} (hl : g.1.stackTraces = false) {x1 : Int32} {w : XW} : VE g cL_mendPipe 3 RL (some .int) [(0, 5, 6, 26), (0, 5, 10, 20)] (rmL 11 1 6) 1 6 oI 0 0 0 [(0, .ref (g.2.1 + 0)), (1, .int x1)] [] w (f_L_mendPipe x1 w) := by
  unfold f_L_mendPipe
  refine v_aload_n dL_mendPipe_0 rfl 0 rfl ?_
  refine v_iload_n dL_mendPipe_1 rfl 1 rfl ?_
  refine v_callVic (As := [.int x1]) cv_L_80 (S_X10_mendPipe hl) tt_0 rfl rfl rfl (Nat.le_of_ble_eq_true rfl) dL_mendPipe_2 (CR_rm (by decide) (by decide) (by decide) (by decide)) (fun r1 w1 => ?_) (fun e1 w1 => ?_)
  · exact v_iret dL_mendPipe_5 rfl rfl (by decide) (by decide)
  · refine v_xsplit ?_ ?_
    · refine v_catch [] (0, 5, 6, 26) [(0, 5, 10, 20)] rfl (fun _ h => absurd h List.not_mem_nil) (by decide) (by decide) gw_369 (by decide) (fun q1 => ?_)
      refine v_astore_n dL_mendPipe_6 rfl (Nat.le_of_ble_eq_true rfl) rfl ?_
      refine v_bipush (v := (-77)) dL_mendPipe_7 (by decide) ?_
      exact v_iret dL_mendPipe_9 rfl rfl (by decide) (by decide)
    · refine v_xsplit ?_ ?_
      · refine v_catch [(0, 5, 6, 26)] (0, 5, 10, 20) [] rfl (List.forall_mem_cons.mpr ⟨⟨by decide, _, gw_369, by decide⟩, fun _ h => absurd h List.not_mem_nil⟩) (by decide) (by decide) gw_589 (by decide) (fun q1 => ?_)
        refine v_astore_n dL_mendPipe_10 rfl (Nat.le_of_ble_eq_true rfl) rfl ?_
        refine v_bipush (v := (-76)) dL_mendPipe_11 (by decide) ?_
        exact v_iret dL_mendPipe_13 rfl rfl (by decide) (by decide)
      · exact v_xnone
theorem S_L_mendPipe {g : GC} (hl : g.1.stackTraces = false) {x1 : Int32} {w : XW} : ∀ q, f_L_mendPipe x1 w = some q → MM g (.codeWith yL_mendPipe cL_mendPipe 3 (some .int) [(0, 5, 6, 26), (0, 5, 10, 20)]) yL_mendPipe (rmL 11 1 6) 1 6 [.ref (g.2.1 + 0), .int x1] w (oI q) := fun q hq => MM_ofH (own := RL) hl (by decide) gw_929 rfl (Nat.le_of_ble_eq_true rfl) (W_L_mendPipe hl q hq) ⟨rfl, rfl⟩

theorem dL_pipeFrom_0 : decode cL_pipeFrom 0 = .ok (.aload_n 0, 1) := by decide +kernel
theorem dL_pipeFrom_1 : decode cL_pipeFrom 1 = .ok (.iload_n 1, 1) := by decide +kernel
theorem dL_pipeFrom_2 : decode cL_pipeFrom 2 = .ok (.invokevirtual 83, 3) := by decide +kernel
theorem dL_pipeFrom_5 : decode cL_pipeFrom 5 = .ok (.ireturn, 1) := by decide +kernel
theorem dL_pipeFrom_6 : decode cL_pipeFrom 6 = .ok (.astore_n 2, 1) := by decide +kernel
theorem dL_pipeFrom_7 : decode cL_pipeFrom 7 = .ok (.bipush (-77), 2) := by decide +kernel
theorem dL_pipeFrom_9 : decode cL_pipeFrom 9 = .ok (.ireturn, 1) := by decide +kernel
def f_L_pipeFrom (x1 : Int32) (w : XW) : Option (Int32 × XW) := (bCI (f_X10_pipeFrom x1 w) (fun r1 w1 => (some (r1, w1))) (fun e1 w1 => (if e1 = "java/lang/IndexOutOfBoundsException" then (some ((-77), w1)) else none)))
set_option maxRecDepth 100000 in
theorem W_L_pipeFrom {g : GC} (hl : g.1.stackTraces = false) {x1 : Int32} {w : XW} : VE g cL_pipeFrom 3 RL (some .int) [(0, 5, 6, 26)] (rmL 6 1 6) 1 6 oI 0 0 0 [(0, .ref (g.2.1 + 0)), (1, .int x1)] [] w (f_L_pipeFrom x1 w) := by
  unfold f_L_pipeFrom
  refine v_aload_n dL_pipeFrom_0 rfl 0 rfl ?_
  refine v_iload_n dL_pipeFrom_1 rfl 1 rfl ?_
  refine v_callVic (As := [.int x1]) cv_L_83 (S_X10_pipeFrom hl) tt_0 rfl rfl rfl (Nat.le_of_ble_eq_true rfl) dL_pipeFrom_2 (CR_rm (by decide) (by decide) (by decide) (by decide)) (fun r1 w1 => ?_) (fun e1 w1 => ?_)
  · exact v_iret dL_pipeFrom_5 rfl rfl (by decide) (by decide)
  · refine v_xsplit ?_ ?_
    · refine v_catch [] (0, 5, 6, 26) [] rfl (fun _ h => absurd h List.not_mem_nil) (by decide) (by decide) gw_369 (by decide) (fun q1 => ?_)
      refine v_astore_n dL_pipeFrom_6 rfl (Nat.le_of_ble_eq_true rfl) rfl ?_
      refine v_bipush (v := (-77)) dL_pipeFrom_7 (by decide) ?_
      exact v_iret dL_pipeFrom_9 rfl rfl (by decide) (by decide)
    · exact v_xnone
theorem S_L_pipeFrom {g : GC} (hl : g.1.stackTraces = false) {x1 : Int32} {w : XW} : ∀ q, f_L_pipeFrom x1 w = some q → MM g (.codeWith yL_pipeFrom cL_pipeFrom 3 (some .int) [(0, 5, 6, 26)]) yL_pipeFrom (rmL 6 1 6) 1 6 [.ref (g.2.1 + 0), .int x1] w (oI q) := fun q hq => MM_ofH (own := RL) hl (by decide) gw_1379 rfl (Nat.le_of_ble_eq_true rfl) (W_L_pipeFrom hl q hq) ⟨rfl, rfl⟩

theorem dL_pipeTo_0 : decode cL_pipeTo 0 = .ok (.aload_n 0, 1) := by decide +kernel
theorem dL_pipeTo_1 : decode cL_pipeTo 1 = .ok (.iload_n 1, 1) := by decide +kernel
theorem dL_pipeTo_2 : decode cL_pipeTo 2 = .ok (.invokevirtual 86, 3) := by decide +kernel
theorem dL_pipeTo_5 : decode cL_pipeTo 5 = .ok (.ireturn, 1) := by decide +kernel
theorem dL_pipeTo_6 : decode cL_pipeTo 6 = .ok (.astore_n 2, 1) := by decide +kernel
theorem dL_pipeTo_7 : decode cL_pipeTo 7 = .ok (.bipush (-77), 2) := by decide +kernel
theorem dL_pipeTo_9 : decode cL_pipeTo 9 = .ok (.ireturn, 1) := by decide +kernel
def f_L_pipeTo (x1 : Int32) (w : XW) : Option (Int32 × XW) := (bCI (f_X10_pipeTo x1 w) (fun r1 w1 => (some (r1, w1))) (fun e1 w1 => (if e1 = "java/lang/IndexOutOfBoundsException" then (some ((-77), w1)) else none)))
set_option maxRecDepth 100000 in
theorem W_L_pipeTo {g : GC} (hl : g.1.stackTraces = false) {x1 : Int32} {w : XW} : VE g cL_pipeTo 3 RL (some .int) [(0, 5, 6, 26)] (rmL 6 1 6) 1 6 oI 0 0 0 [(0, .ref (g.2.1 + 0)), (1, .int x1)] [] w (f_L_pipeTo x1 w) := by
  unfold f_L_pipeTo
  refine v_aload_n dL_pipeTo_0 rfl 0 rfl ?_
  refine v_iload_n dL_pipeTo_1 rfl 1 rfl ?_
  refine v_callVic (As := [.int x1]) cv_L_86 (S_X10_pipeTo hl) tt_0 rfl rfl rfl (Nat.le_of_ble_eq_true rfl) dL_pipeTo_2 (CR_rm (by decide) (by decide) (by decide) (by decide)) (fun r1 w1 => ?_) (fun e1 w1 => ?_)
  · exact v_iret dL_pipeTo_5 rfl rfl (by decide) (by decide)
  · refine v_xsplit ?_ ?_
    · refine v_catch [] (0, 5, 6, 26) [] rfl (fun _ h => absurd h List.not_mem_nil) (by decide) (by decide) gw_369 (by decide) (fun q1 => ?_)
      refine v_astore_n dL_pipeTo_6 rfl (Nat.le_of_ble_eq_true rfl) rfl ?_
      refine v_bipush (v := (-77)) dL_pipeTo_7 (by decide) ?_
      exact v_iret dL_pipeTo_9 rfl rfl (by decide) (by decide)
    · exact v_xnone
theorem S_L_pipeTo {g : GC} (hl : g.1.stackTraces = false) {x1 : Int32} {w : XW} : ∀ q, f_L_pipeTo x1 w = some q → MM g (.codeWith yL_pipeTo cL_pipeTo 3 (some .int) [(0, 5, 6, 26)]) yL_pipeTo (rmL 6 1 6) 1 6 [.ref (g.2.1 + 0), .int x1] w (oI q) := fun q hq => MM_ofH (own := RL) hl (by decide) gw_1388 rfl (Nat.le_of_ble_eq_true rfl) (W_L_pipeTo hl q hq) ⟨rfl, rfl⟩

theorem dL_capacity_0 : decode cL_capacity 0 = .ok (.aload_n 0, 1) := by decide +kernel
theorem dL_capacity_1 : decode cL_capacity 1 = .ok (.iload_n 1, 1) := by decide +kernel
theorem dL_capacity_2 : decode cL_capacity 2 = .ok (.invokevirtual 89, 3) := by decide +kernel
theorem dL_capacity_5 : decode cL_capacity 5 = .ok (.ireturn, 1) := by decide +kernel
theorem dL_capacity_6 : decode cL_capacity 6 = .ok (.astore_n 2, 1) := by decide +kernel
theorem dL_capacity_7 : decode cL_capacity 7 = .ok (.bipush (-77), 2) := by decide +kernel
theorem dL_capacity_9 : decode cL_capacity 9 = .ok (.ireturn, 1) := by decide +kernel
def f_L_capacity (x1 : Int32) (w : XW) : Option (Int32 × XW) := (bCI (f_X10_capacity x1 w) (fun r1 w1 => (some (r1, w1))) (fun e1 w1 => (if e1 = "java/lang/IndexOutOfBoundsException" then (some ((-77), w1)) else none)))
set_option maxRecDepth 100000 in
theorem W_L_capacity {g : GC} (hl : g.1.stackTraces = false) {x1 : Int32} {w : XW} : VE g cL_capacity 3 RL (some .int) [(0, 5, 6, 26)] (rmL 6 1 6) 1 6 oI 0 0 0 [(0, .ref (g.2.1 + 0)), (1, .int x1)] [] w (f_L_capacity x1 w) := by
  unfold f_L_capacity
  refine v_aload_n dL_capacity_0 rfl 0 rfl ?_
  refine v_iload_n dL_capacity_1 rfl 1 rfl ?_
  refine v_callVic (As := [.int x1]) cv_L_89 (S_X10_capacity hl) tt_0 rfl rfl rfl (Nat.le_of_ble_eq_true rfl) dL_capacity_2 (CR_rm (by decide) (by decide) (by decide) (by decide)) (fun r1 w1 => ?_) (fun e1 w1 => ?_)
  · exact v_iret dL_capacity_5 rfl rfl (by decide) (by decide)
  · refine v_xsplit ?_ ?_
    · refine v_catch [] (0, 5, 6, 26) [] rfl (fun _ h => absurd h List.not_mem_nil) (by decide) (by decide) gw_369 (by decide) (fun q1 => ?_)
      refine v_astore_n dL_capacity_6 rfl (Nat.le_of_ble_eq_true rfl) rfl ?_
      refine v_bipush (v := (-77)) dL_capacity_7 (by decide) ?_
      exact v_iret dL_capacity_9 rfl rfl (by decide) (by decide)
    · exact v_xnone
theorem S_L_capacity {g : GC} (hl : g.1.stackTraces = false) {x1 : Int32} {w : XW} : ∀ q, f_L_capacity x1 w = some q → MM g (.codeWith yL_capacity cL_capacity 3 (some .int) [(0, 5, 6, 26)]) yL_capacity (rmL 6 1 6) 1 6 [.ref (g.2.1 + 0), .int x1] w (oI q) := fun q hq => MM_ofH (own := RL) hl (by decide) gw_557 rfl (Nat.le_of_ble_eq_true rfl) (W_L_capacity hl q hq) ⟨rfl, rfl⟩

theorem dL_isBroken_0 : decode cL_isBroken 0 = .ok (.aload_n 0, 1) := by decide +kernel
theorem dL_isBroken_1 : decode cL_isBroken 1 = .ok (.iload_n 1, 1) := by decide +kernel
theorem dL_isBroken_2 : decode cL_isBroken 2 = .ok (.invokevirtual 92, 3) := by decide +kernel
theorem dL_isBroken_5 : decode cL_isBroken 5 = .ok (.ifCond .eq 7, 3) := by decide +kernel
theorem dL_isBroken_8 : decode cL_isBroken 8 = .ok (.iconst 1, 1) := by decide +kernel
theorem dL_isBroken_9 : decode cL_isBroken 9 = .ok (.goto 4, 3) := by decide +kernel
theorem dL_isBroken_12 : decode cL_isBroken 12 = .ok (.iconst 0, 1) := by decide +kernel
theorem dL_isBroken_13 : decode cL_isBroken 13 = .ok (.ireturn, 1) := by decide +kernel
theorem dL_isBroken_14 : decode cL_isBroken 14 = .ok (.astore_n 2, 1) := by decide +kernel
theorem dL_isBroken_15 : decode cL_isBroken 15 = .ok (.bipush (-77), 2) := by decide +kernel
theorem dL_isBroken_17 : decode cL_isBroken 17 = .ok (.ireturn, 1) := by decide +kernel
def f_L_isBroken (x1 : Int32) (w : XW) : Option (Int32 × XW) := (bCI (f_X10_isBroken x1 w) (fun r1 w1 => (if r1 = 0 then (some (0, w1)) else (some (1, w1)))) (fun e1 w1 => (if e1 = "java/lang/IndexOutOfBoundsException" then (some ((-77), w1)) else none)))
set_option maxRecDepth 100000 in
theorem W_L_isBroken {g : GC} (hl : g.1.stackTraces = false) {x1 : Int32} {w : XW} : VE g cL_isBroken 3 RL (some .int) [(0, 13, 14, 26)] (rmL 6 1 6) 1 6 oI 0 0 0 [(0, .ref (g.2.1 + 0)), (1, .int x1)] [] w (f_L_isBroken x1 w) := by
  unfold f_L_isBroken
  refine v_aload_n dL_isBroken_0 rfl 0 rfl ?_
  refine v_iload_n dL_isBroken_1 rfl 1 rfl ?_
  refine v_callVic (As := [.int x1]) cv_L_92 (S_X10_isBroken hl) tt_0 rfl rfl rfl (Nat.le_of_ble_eq_true rfl) dL_isBroken_2 (CR_rm (by decide) (by decide) (by decide) (by decide)) (fun r1 w1 => ?_) (fun e1 w1 => ?_)
  · refine v_if_eq (tgt := 12) dL_isBroken_5 (by decide) ?_ ?_
    · refine v_iconst (v := 0) dL_isBroken_12 (by decide) ?_
      exact v_iret dL_isBroken_13 rfl rfl (by decide) (by decide)
    · refine v_iconst (v := 1) dL_isBroken_8 (by decide) ?_
      refine v_goto (tgt := 13) dL_isBroken_9 (by decide) ?_
      exact v_iret dL_isBroken_13 rfl rfl (by decide) (by decide)
  · refine v_xsplit ?_ ?_
    · refine v_catch [] (0, 13, 14, 26) [] rfl (fun _ h => absurd h List.not_mem_nil) (by decide) (by decide) gw_369 (by decide) (fun q1 => ?_)
      refine v_astore_n dL_isBroken_14 rfl (Nat.le_of_ble_eq_true rfl) rfl ?_
      refine v_bipush (v := (-77)) dL_isBroken_15 (by decide) ?_
      exact v_iret dL_isBroken_17 rfl rfl (by decide) (by decide)
    · exact v_xnone
theorem S_L_isBroken {g : GC} (hl : g.1.stackTraces = false) {x1 : Int32} {w : XW} : ∀ q, f_L_isBroken x1 w = some q → MM g (.codeWith yL_isBroken cL_isBroken 3 (some .int) [(0, 13, 14, 26)]) yL_isBroken (rmL 6 1 6) 1 6 [.ref (g.2.1 + 0), .int x1] w (oI q) := fun q hq => MM_ofH (own := RL) hl (by decide) gw_577 rfl (Nat.le_of_ble_eq_true rfl) (W_L_isBroken hl q hq) ⟨rfl, rfl⟩

theorem dL_greatestFlow_0 : decode cL_greatestFlow 0 = .ok (.aload_n 0, 1) := by decide +kernel
theorem dL_greatestFlow_1 : decode cL_greatestFlow 1 = .ok (.invokevirtual 95, 3) := by decide +kernel
theorem dL_greatestFlow_4 : decode cL_greatestFlow 4 = .ok (.ireturn, 1) := by decide +kernel
theorem dL_greatestFlow_5 : decode cL_greatestFlow 5 = .ok (.astore_n 1, 1) := by decide +kernel
theorem dL_greatestFlow_6 : decode cL_greatestFlow 6 = .ok (.bipush (-76), 2) := by decide +kernel
theorem dL_greatestFlow_8 : decode cL_greatestFlow 8 = .ok (.ireturn, 1) := by decide +kernel
def f_L_greatestFlow (w : XW) : Option (Int32 × XW) := (bCI (f_X10_greatestFlow w) (fun r1 w1 => (some (r1, w1))) (fun e1 w1 => (if e1 = "java/lang/UnsupportedOperationException" then (some ((-76), w1)) else none)))
set_option maxRecDepth 100000 in
theorem W_L_greatestFlow {g : GC} (hl : g.1.stackTraces = false) {w : XW} : VE g cL_greatestFlow 2 RL (some .int) [(0, 4, 5, 20)] (rmL 8 1 6) 1 6 oI 0 0 0 [(0, .ref (g.2.1 + 0))] [] w (f_L_greatestFlow  w) := by
  unfold f_L_greatestFlow
  refine v_aload_n dL_greatestFlow_0 rfl 0 rfl ?_
  refine v_callVic (As := []) cv_L_95 (S_X10_greatestFlow hl) tt_0 rfl rfl rfl (Nat.le_of_ble_eq_true rfl) dL_greatestFlow_1 (CR_rm (by decide) (by decide) (by decide) (by decide)) (fun r1 w1 => ?_) (fun e1 w1 => ?_)
  · exact v_iret dL_greatestFlow_4 rfl rfl (by decide) (by decide)
  · refine v_xsplit ?_ ?_
    · refine v_catch [] (0, 4, 5, 20) [] rfl (fun _ h => absurd h List.not_mem_nil) (by decide) (by decide) gw_589 (by decide) (fun q1 => ?_)
      refine v_astore_n dL_greatestFlow_5 rfl (Nat.le_of_ble_eq_true rfl) rfl ?_
      refine v_bipush (v := (-76)) dL_greatestFlow_6 (by decide) ?_
      exact v_iret dL_greatestFlow_8 rfl rfl (by decide) (by decide)
    · exact v_xnone
theorem S_L_greatestFlow {g : GC} (hl : g.1.stackTraces = false) {w : XW} : ∀ q, f_L_greatestFlow  w = some q → MM g (.codeWith yL_greatestFlow cL_greatestFlow 2 (some .int) [(0, 4, 5, 20)]) yL_greatestFlow (rmL 8 1 6) 1 6 [.ref (g.2.1 + 0)] w (oI q) := fun q hq => MM_ofH (own := RL) hl (by decide) gw_588 rfl (Nat.le_of_ble_eq_true rfl) (W_L_greatestFlow hl q hq) ⟨rfl, rfl⟩

theorem dL_smallestCut_0 : decode cL_smallestCut 0 = .ok (.aload_n 0, 1) := by decide +kernel
theorem dL_smallestCut_1 : decode cL_smallestCut 1 = .ok (.invokevirtual 98, 3) := by decide +kernel
theorem dL_smallestCut_4 : decode cL_smallestCut 4 = .ok (.ireturn, 1) := by decide +kernel
theorem dL_smallestCut_5 : decode cL_smallestCut 5 = .ok (.astore_n 1, 1) := by decide +kernel
theorem dL_smallestCut_6 : decode cL_smallestCut 6 = .ok (.bipush (-76), 2) := by decide +kernel
theorem dL_smallestCut_8 : decode cL_smallestCut 8 = .ok (.ireturn, 1) := by decide +kernel
def f_L_smallestCut (w : XW) : Option (Int32 × XW) := (bCI (f_X10_smallestCut w) (fun r1 w1 => (some (r1, w1))) (fun e1 w1 => (if e1 = "java/lang/UnsupportedOperationException" then (some ((-76), w1)) else none)))
set_option maxRecDepth 100000 in
theorem W_L_smallestCut {g : GC} (hl : g.1.stackTraces = false) {w : XW} : VE g cL_smallestCut 2 RL (some .int) [(0, 4, 5, 20)] (rmL 8 1 6) 1 6 oI 0 0 0 [(0, .ref (g.2.1 + 0))] [] w (f_L_smallestCut  w) := by
  unfold f_L_smallestCut
  refine v_aload_n dL_smallestCut_0 rfl 0 rfl ?_
  refine v_callVic (As := []) cv_L_98 (S_X10_smallestCut hl) tt_0 rfl rfl rfl (Nat.le_of_ble_eq_true rfl) dL_smallestCut_1 (CR_rm (by decide) (by decide) (by decide) (by decide)) (fun r1 w1 => ?_) (fun e1 w1 => ?_)
  · exact v_iret dL_smallestCut_4 rfl rfl (by decide) (by decide)
  · refine v_xsplit ?_ ?_
    · refine v_catch [] (0, 4, 5, 20) [] rfl (fun _ h => absurd h List.not_mem_nil) (by decide) (by decide) gw_589 (by decide) (fun q1 => ?_)
      refine v_astore_n dL_smallestCut_5 rfl (Nat.le_of_ble_eq_true rfl) rfl ?_
      refine v_bipush (v := (-76)) dL_smallestCut_6 (by decide) ?_
      exact v_iret dL_smallestCut_8 rfl rfl (by decide) (by decide)
    · exact v_xnone
theorem S_L_smallestCut {g : GC} (hl : g.1.stackTraces = false) {w : XW} : ∀ q, f_L_smallestCut  w = some q → MM g (.codeWith yL_smallestCut cL_smallestCut 2 (some .int) [(0, 4, 5, 20)]) yL_smallestCut (rmL 8 1 6) 1 6 [.ref (g.2.1 + 0)] w (oI q) := fun q hq => MM_ofH (own := RL) hl (by decide) gw_1419 rfl (Nat.le_of_ble_eq_true rfl) (W_L_smallestCut hl q hq) ⟨rfl, rfl⟩

theorem dL_lossOf_0 : decode cL_lossOf 0 = .ok (.aload_n 0, 1) := by decide +kernel
theorem dL_lossOf_1 : decode cL_lossOf 1 = .ok (.iload_n 1, 1) := by decide +kernel
theorem dL_lossOf_2 : decode cL_lossOf 2 = .ok (.invokevirtual 101, 3) := by decide +kernel
theorem dL_lossOf_5 : decode cL_lossOf 5 = .ok (.ireturn, 1) := by decide +kernel
theorem dL_lossOf_6 : decode cL_lossOf 6 = .ok (.astore_n 2, 1) := by decide +kernel
theorem dL_lossOf_7 : decode cL_lossOf 7 = .ok (.bipush (-77), 2) := by decide +kernel
theorem dL_lossOf_9 : decode cL_lossOf 9 = .ok (.ireturn, 1) := by decide +kernel
def f_L_lossOf (x1 : Int32) (w : XW) : Option (Int32 × XW) := (bCI (f_X10_lossOf x1 w) (fun r1 w1 => (some (r1, w1))) (fun e1 w1 => (if e1 = "java/lang/IndexOutOfBoundsException" then (some ((-77), w1)) else none)))
set_option maxRecDepth 100000 in
theorem W_L_lossOf {g : GC} (hl : g.1.stackTraces = false) {x1 : Int32} {w : XW} : VE g cL_lossOf 3 RL (some .int) [(0, 5, 6, 26)] (rmL 8 1 6) 1 6 oI 0 0 0 [(0, .ref (g.2.1 + 0)), (1, .int x1)] [] w (f_L_lossOf x1 w) := by
  unfold f_L_lossOf
  refine v_aload_n dL_lossOf_0 rfl 0 rfl ?_
  refine v_iload_n dL_lossOf_1 rfl 1 rfl ?_
  refine v_callVic (As := [.int x1]) cv_L_101 (S_X10_lossOf hl) tt_0 rfl rfl rfl (Nat.le_of_ble_eq_true rfl) dL_lossOf_2 (CR_rm (by decide) (by decide) (by decide) (by decide)) (fun r1 w1 => ?_) (fun e1 w1 => ?_)
  · exact v_iret dL_lossOf_5 rfl rfl (by decide) (by decide)
  · refine v_xsplit ?_ ?_
    · refine v_catch [] (0, 5, 6, 26) [] rfl (fun _ h => absurd h List.not_mem_nil) (by decide) (by decide) gw_369 (by decide) (fun q1 => ?_)
      refine v_astore_n dL_lossOf_6 rfl (Nat.le_of_ble_eq_true rfl) rfl ?_
      refine v_bipush (v := (-77)) dL_lossOf_7 (by decide) ?_
      exact v_iret dL_lossOf_9 rfl rfl (by decide) (by decide)
    · exact v_xnone
theorem S_L_lossOf {g : GC} (hl : g.1.stackTraces = false) {x1 : Int32} {w : XW} : ∀ q, f_L_lossOf x1 w = some q → MM g (.codeWith yL_lossOf cL_lossOf 3 (some .int) [(0, 5, 6, 26)]) yL_lossOf (rmL 8 1 6) 1 6 [.ref (g.2.1 + 0), .int x1] w (oI q) := fun q hq => MM_ofH (own := RL) hl (by decide) gw_680 rfl (Nat.le_of_ble_eq_true rfl) (W_L_lossOf hl q hq) ⟨rfl, rfl⟩

theorem dL_drain_0 : decode cL_drain 0 = .ok (.aload_n 0, 1) := by decide +kernel
theorem dL_drain_1 : decode cL_drain 1 = .ok (.invokevirtual 104, 3) := by decide +kernel
theorem dL_drain_4 : decode cL_drain 4 = .ok (.ireturn, 1) := by decide +kernel
theorem dL_drain_5 : decode cL_drain 5 = .ok (.astore_n 1, 1) := by decide +kernel
theorem dL_drain_6 : decode cL_drain 6 = .ok (.bipush (-76), 2) := by decide +kernel
theorem dL_drain_8 : decode cL_drain 8 = .ok (.ireturn, 1) := by decide +kernel
def f_L_drain (w : XW) : Option (Int32 × XW) := (bCI (f_X10_drain w) (fun r1 w1 => (some (r1, w1))) (fun e1 w1 => (if e1 = "java/lang/UnsupportedOperationException" then (some ((-76), w1)) else none)))
set_option maxRecDepth 100000 in
theorem W_L_drain {g : GC} (hl : g.1.stackTraces = false) {w : XW} : VE g cL_drain 2 RL (some .int) [(0, 4, 5, 20)] (rmL 11 1 6) 1 6 oI 0 0 0 [(0, .ref (g.2.1 + 0))] [] w (f_L_drain  w) := by
  unfold f_L_drain
  refine v_aload_n dL_drain_0 rfl 0 rfl ?_
  refine v_callVic (As := []) cv_L_104 (S_X10_drain hl) tt_0 rfl rfl rfl (Nat.le_of_ble_eq_true rfl) dL_drain_1 (CR_rm (by decide) (by decide) (by decide) (by decide)) (fun r1 w1 => ?_) (fun e1 w1 => ?_)
  · exact v_iret dL_drain_4 rfl rfl (by decide) (by decide)
  · refine v_xsplit ?_ ?_
    · refine v_catch [] (0, 4, 5, 20) [] rfl (fun _ h => absurd h List.not_mem_nil) (by decide) (by decide) gw_589 (by decide) (fun q1 => ?_)
      refine v_astore_n dL_drain_5 rfl (Nat.le_of_ble_eq_true rfl) rfl ?_
      refine v_bipush (v := (-76)) dL_drain_6 (by decide) ?_
      exact v_iret dL_drain_8 rfl rfl (by decide) (by decide)
    · exact v_xnone
theorem S_L_drain {g : GC} (hl : g.1.stackTraces = false) {w : XW} : ∀ q, f_L_drain  w = some q → MM g (.codeWith yL_drain cL_drain 2 (some .int) [(0, 4, 5, 20)]) yL_drain (rmL 11 1 6) 1 6 [.ref (g.2.1 + 0)] w (oI q) := fun q hq => MM_ofH (own := RL) hl (by decide) gw_936 rfl (Nat.le_of_ble_eq_true rfl) (W_L_drain hl q hq) ⟨rfl, rfl⟩

theorem dL_seep_0 : decode cL_seep 0 = .ok (.aload_n 0, 1) := by decide +kernel
theorem dL_seep_1 : decode cL_seep 1 = .ok (.invokevirtual 107, 3) := by decide +kernel
theorem dL_seep_4 : decode cL_seep 4 = .ok (.ireturn, 1) := by decide +kernel
theorem dL_seep_5 : decode cL_seep 5 = .ok (.astore_n 1, 1) := by decide +kernel
theorem dL_seep_6 : decode cL_seep 6 = .ok (.bipush (-76), 2) := by decide +kernel
theorem dL_seep_8 : decode cL_seep 8 = .ok (.ireturn, 1) := by decide +kernel
def f_L_seep (w : XW) : Option (Int32 × XW) := (bCI (f_X10_seep w) (fun r1 w1 => (some (r1, w1))) (fun e1 w1 => (if e1 = "java/lang/UnsupportedOperationException" then (some ((-76), w1)) else none)))
set_option maxRecDepth 100000 in
theorem W_L_seep {g : GC} (hl : g.1.stackTraces = false) {w : XW} : VE g cL_seep 2 RL (some .int) [(0, 4, 5, 20)] (rmL 11 1 6) 1 6 oI 0 0 0 [(0, .ref (g.2.1 + 0))] [] w (f_L_seep  w) := by
  unfold f_L_seep
  refine v_aload_n dL_seep_0 rfl 0 rfl ?_
  refine v_callVic (As := []) cv_L_107 (S_X10_seep hl) tt_0 rfl rfl rfl (Nat.le_of_ble_eq_true rfl) dL_seep_1 (CR_rm (by decide) (by decide) (by decide) (by decide)) (fun r1 w1 => ?_) (fun e1 w1 => ?_)
  · exact v_iret dL_seep_4 rfl rfl (by decide) (by decide)
  · refine v_xsplit ?_ ?_
    · refine v_catch [] (0, 4, 5, 20) [] rfl (fun _ h => absurd h List.not_mem_nil) (by decide) (by decide) gw_589 (by decide) (fun q1 => ?_)
      refine v_astore_n dL_seep_5 rfl (Nat.le_of_ble_eq_true rfl) rfl ?_
      refine v_bipush (v := (-76)) dL_seep_6 (by decide) ?_
      exact v_iret dL_seep_8 rfl rfl (by decide) (by decide)
    · exact v_xnone
theorem S_L_seep {g : GC} (hl : g.1.stackTraces = false) {w : XW} : ∀ q, f_L_seep  w = some q → MM g (.codeWith yL_seep cL_seep 2 (some .int) [(0, 4, 5, 20)]) yL_seep (rmL 11 1 6) 1 6 [.ref (g.2.1 + 0)] w (oI q) := fun q hq => MM_ofH (own := RL) hl (by decide) gw_943 rfl (Nat.le_of_ble_eq_true rfl) (W_L_seep hl q hq) ⟨rfl, rfl⟩

theorem dL_meanWater_0 : decode cL_meanWater 0 = .ok (.aload_n 0, 1) := by decide +kernel
theorem dL_meanWater_1 : decode cL_meanWater 1 = .ok (.invokevirtual 110, 3) := by decide +kernel
theorem dL_meanWater_4 : decode cL_meanWater 4 = .ok (.dreturn, 1) := by decide +kernel
theorem dL_meanWater_5 : decode cL_meanWater 5 = .ok (.astore_n 1, 1) := by decide +kernel
theorem dL_meanWater_6 : decode cL_meanWater 6 = .ok (.ldc2_w 116, 3) := by decide +kernel
theorem dL_meanWater_9 : decode cL_meanWater 9 = .ok (.dreturn, 1) := by decide +kernel
def f_L_meanWater (w : XW) : Option (UInt64 × XW) := (bCD (f_X10_meanWater w) (fun r1 w1 => (some (r1, w1))) (fun e1 w1 => (if e1 = "java/lang/ArithmeticException" then (some (13858279740860792832, w1)) else none)))
set_option maxRecDepth 100000 in
theorem W_L_meanWater {g : GC} (hl : g.1.stackTraces = false) {w : XW} : VE g cL_meanWater 2 RL (some .double) [(0, 4, 5, 114)] (rmL 5 1 6) 1 6 oD 0 0 0 [(0, .ref (g.2.1 + 0))] [] w (f_L_meanWater  w) := by
  unfold f_L_meanWater
  refine v_aload_n dL_meanWater_0 rfl 0 rfl ?_
  refine v_callVdc (As := []) cv_L_110 (S_X10_meanWater hl) tt_0 rfl rfl rfl (Nat.le_of_ble_eq_true rfl) dL_meanWater_1 (CR_rm (by decide) (by decide) (by decide) (by decide)) (fun r1 w1 => ?_) (fun e1 w1 => ?_)
  · exact v_dret dL_meanWater_4 rfl rfl (by decide) (by decide)
  · refine v_xsplit ?_ ?_
    · refine v_catch [] (0, 4, 5, 114) [] rfl (fun _ h => absurd h List.not_mem_nil) (by decide) (by decide) gw_1449 (by decide) (fun q1 => ?_)
      refine v_astore_n dL_meanWater_5 rfl (Nat.le_of_ble_eq_true rfl) rfl ?_
      refine v_ldc2d gw_1472 dL_meanWater_6 ?_
      exact v_dret dL_meanWater_9 rfl rfl (by decide) (by decide)
    · exact v_xnone
theorem S_L_meanWater {g : GC} (hl : g.1.stackTraces = false) {w : XW} : ∀ q, f_L_meanWater  w = some q → MM g (.codeWith yL_meanWater cL_meanWater 2 (some .double) [(0, 4, 5, 114)]) yL_meanWater (rmL 5 1 6) 1 6 [.ref (g.2.1 + 0)] w (oD q) := fun q hq => MM_ofH (own := RL) hl (by decide) gw_1448 rfl (Nat.le_of_ble_eq_true rfl) (W_L_meanWater hl q hq) ⟨rfl, rfl⟩

theorem dL_leakedShare_0 : decode cL_leakedShare 0 = .ok (.aload_n 0, 1) := by decide +kernel
theorem dL_leakedShare_1 : decode cL_leakedShare 1 = .ok (.invokevirtual 118, 3) := by decide +kernel
theorem dL_leakedShare_4 : decode cL_leakedShare 4 = .ok (.freturn, 1) := by decide +kernel
theorem dL_leakedShare_5 : decode cL_leakedShare 5 = .ok (.astore_n 1, 1) := by decide +kernel
theorem dL_leakedShare_6 : decode cL_leakedShare 6 = .ok (.ldc 122, 2) := by decide +kernel
theorem dL_leakedShare_8 : decode cL_leakedShare 8 = .ok (.freturn, 1) := by decide +kernel
def f_L_leakedShare (w : XW) : Option (UInt32 × XW) := (bCF (f_X10_leakedShare w) (fun r1 w1 => (some (r1, w1))) (fun e1 w1 => (if e1 = "java/lang/ArithmeticException" then (some (3264479232, w1)) else none)))
set_option maxRecDepth 100000 in
theorem W_L_leakedShare {g : GC} (hl : g.1.stackTraces = false) {w : XW} : VE g cL_leakedShare 2 RL (some .float) [(0, 4, 5, 114)] (rmL 4 1 6) 1 6 oF 0 0 0 [(0, .ref (g.2.1 + 0))] [] w (f_L_leakedShare  w) := by
  unfold f_L_leakedShare
  refine v_aload_n dL_leakedShare_0 rfl 0 rfl ?_
  refine v_callVfc (As := []) cv_L_118 (S_X10_leakedShare hl) tt_0 rfl rfl rfl (Nat.le_of_ble_eq_true rfl) dL_leakedShare_1 (CR_rm (by decide) (by decide) (by decide) (by decide)) (fun r1 w1 => ?_) (fun e1 w1 => ?_)
  · exact v_fret dL_leakedShare_4 rfl rfl (by decide) (by decide)
  · refine v_xsplit ?_ ?_
    · refine v_catch [] (0, 4, 5, 114) [] rfl (fun _ h => absurd h List.not_mem_nil) (by decide) (by decide) gw_1449 (by decide) (fun q1 => ?_)
      refine v_astore_n dL_leakedShare_5 rfl (Nat.le_of_ble_eq_true rfl) rfl ?_
      refine v_ldcf gw_1480 dL_leakedShare_6 ?_
      exact v_fret dL_leakedShare_8 rfl rfl (by decide) (by decide)
    · exact v_xnone
theorem S_L_leakedShare {g : GC} (hl : g.1.stackTraces = false) {w : XW} : ∀ q, f_L_leakedShare  w = some q → MM g (.codeWith yL_leakedShare cL_leakedShare 2 (some .float) [(0, 4, 5, 114)]) yL_leakedShare (rmL 4 1 6) 1 6 [.ref (g.2.1 + 0)] w (oF q) := fun q hq => MM_ofH (own := RL) hl (by decide) gw_1475 rfl (Nat.le_of_ble_eq_true rfl) (W_L_leakedShare hl q hq) ⟨rfl, rfl⟩

theorem dL_feed_0 : decode cL_feed 0 = .ok (.aload_n 0, 1) := by decide +kernel
theorem dL_feed_1 : decode cL_feed 1 = .ok (.iload_n 1, 1) := by decide +kernel
theorem dL_feed_2 : decode cL_feed 2 = .ok (.invokevirtual 123, 3) := by decide +kernel
theorem dL_feed_5 : decode cL_feed 5 = .ok (.ireturn, 1) := by decide +kernel
theorem dL_feed_6 : decode cL_feed 6 = .ok (.astore_n 2, 1) := by decide +kernel
theorem dL_feed_7 : decode cL_feed 7 = .ok (.bipush (-79), 2) := by decide +kernel
theorem dL_feed_9 : decode cL_feed 9 = .ok (.ireturn, 1) := by decide +kernel
def f_L_feed (x1 : Int32) (w : XW) : Option (Int32 × XW) := (bCI (f_X10_feed x1 w) (fun r1 w1 => (some (r1, w1))) (fun e1 w1 => (if e1 = "java/lang/IllegalStateException" then (some ((-79), w1)) else none)))
set_option maxRecDepth 100000 in
theorem W_L_feed {g : GC} (hl : g.1.stackTraces = false) {x1 : Int32} {w : XW} : VE g cL_feed 3 RL (some .int) [(0, 5, 6, 126)] (rmL 5 1 6) 1 6 oI 0 0 0 [(0, .ref (g.2.1 + 0)), (1, .int x1)] [] w (f_L_feed x1 w) := by
  unfold f_L_feed
  refine v_aload_n dL_feed_0 rfl 0 rfl ?_
  refine v_iload_n dL_feed_1 rfl 1 rfl ?_
  refine v_callVic (As := [.int x1]) cv_L_123 (S_X10_feed hl) tt_0 rfl rfl rfl (Nat.le_of_ble_eq_true rfl) dL_feed_2 (CR_rm (by decide) (by decide) (by decide) (by decide)) (fun r1 w1 => ?_) (fun e1 w1 => ?_)
  · exact v_iret dL_feed_5 rfl rfl (by decide) (by decide)
  · refine v_xsplit ?_ ?_
    · refine v_catch [] (0, 5, 6, 126) [] rfl (fun _ h => absurd h List.not_mem_nil) (by decide) (by decide) gw_1237 (by decide) (fun q1 => ?_)
      refine v_astore_n dL_feed_6 rfl (Nat.le_of_ble_eq_true rfl) rfl ?_
      refine v_bipush (v := (-79)) dL_feed_7 (by decide) ?_
      exact v_iret dL_feed_9 rfl rfl (by decide) (by decide)
    · exact v_xnone
theorem S_L_feed {g : GC} (hl : g.1.stackTraces = false) {x1 : Int32} {w : XW} : ∀ q, f_L_feed x1 w = some q → MM g (.codeWith yL_feed cL_feed 3 (some .int) [(0, 5, 6, 126)]) yL_feed (rmL 5 1 6) 1 6 [.ref (g.2.1 + 0), .int x1] w (oI q) := fun q hq => MM_ofH (own := RL) hl (by decide) gw_1236 rfl (Nat.le_of_ble_eq_true rfl) (W_L_feed hl q hq) ⟨rfl, rfl⟩

theorem dL_search_0 : decode cL_search 0 = .ok (.aload_n 0, 1) := by decide +kernel
theorem dL_search_1 : decode cL_search 1 = .ok (.invokevirtual 128, 3) := by decide +kernel
theorem dL_search_4 : decode cL_search 4 = .ok (.ireturn, 1) := by decide +kernel
theorem dL_search_5 : decode cL_search 5 = .ok (.astore_n 1, 1) := by decide +kernel
theorem dL_search_6 : decode cL_search 6 = .ok (.bipush (-78), 2) := by decide +kernel
theorem dL_search_8 : decode cL_search 8 = .ok (.ireturn, 1) := by decide +kernel
def f_L_search (w : XW) : Option (Int32 × XW) := (bCI (f_X10_search w) (fun r1 w1 => (some (r1, w1))) (fun e1 w1 => (if e1 = "java/lang/IllegalArgumentException" then (some ((-78), w1)) else none)))
set_option maxRecDepth 100000 in
theorem W_L_search {g : GC} (hl : g.1.stackTraces = false) {w : XW} : VE g cL_search 2 RL (some .int) [(0, 4, 5, 28)] (rmL 32 1 6) 1 6 oI 0 0 0 [(0, .ref (g.2.1 + 0))] [] w (f_L_search  w) := by
  unfold f_L_search
  refine v_aload_n dL_search_0 rfl 0 rfl ?_
  refine v_callVic (As := []) cv_L_128 (S_X10_search hl) tt_0 rfl rfl rfl (Nat.le_of_ble_eq_true rfl) dL_search_1 (CR_rm (by decide) (by decide) (by decide) (by decide)) (fun r1 w1 => ?_) (fun e1 w1 => ?_)
  · exact v_iret dL_search_4 rfl rfl (by decide) (by decide)
  · refine v_xsplit ?_ ?_
    · refine v_catch [] (0, 4, 5, 28) [] rfl (fun _ h => absurd h List.not_mem_nil) (by decide) (by decide) gw_873 (by decide) (fun q1 => ?_)
      refine v_astore_n dL_search_5 rfl (Nat.le_of_ble_eq_true rfl) rfl ?_
      refine v_bipush (v := (-78)) dL_search_6 (by decide) ?_
      exact v_iret dL_search_8 rfl rfl (by decide) (by decide)
    · exact v_xnone
theorem S_L_search {g : GC} (hl : g.1.stackTraces = false) {w : XW} : ∀ q, f_L_search  w = some q → MM g (.codeWith yL_search cL_search 2 (some .int) [(0, 4, 5, 28)]) yL_search (rmL 32 1 6) 1 6 [.ref (g.2.1 + 0)] w (oI q) := fun q hq => MM_ofH (own := RL) hl (by decide) gw_1493 rfl (Nat.le_of_ble_eq_true rfl) (W_L_search hl q hq) ⟨rfl, rfl⟩

theorem dL_matches_0 : decode cL_matches 0 = .ok (.aload_n 0, 1) := by decide +kernel
theorem dL_matches_1 : decode cL_matches 1 = .ok (.iload_n 1, 1) := by decide +kernel
theorem dL_matches_2 : decode cL_matches 2 = .ok (.invokevirtual 131, 3) := by decide +kernel
theorem dL_matches_5 : decode cL_matches 5 = .ok (.ifCond .eq 7, 3) := by decide +kernel
theorem dL_matches_8 : decode cL_matches 8 = .ok (.iconst 1, 1) := by decide +kernel
theorem dL_matches_9 : decode cL_matches 9 = .ok (.goto 4, 3) := by decide +kernel
theorem dL_matches_12 : decode cL_matches 12 = .ok (.iconst 0, 1) := by decide +kernel
theorem dL_matches_13 : decode cL_matches 13 = .ok (.ireturn, 1) := by decide +kernel
theorem dL_matches_14 : decode cL_matches 14 = .ok (.astore_n 2, 1) := by decide +kernel
theorem dL_matches_15 : decode cL_matches 15 = .ok (.bipush (-77), 2) := by decide +kernel
theorem dL_matches_17 : decode cL_matches 17 = .ok (.ireturn, 1) := by decide +kernel
theorem dL_matches_18 : decode cL_matches 18 = .ok (.astore_n 2, 1) := by decide +kernel
theorem dL_matches_19 : decode cL_matches 19 = .ok (.bipush (-78), 2) := by decide +kernel
theorem dL_matches_21 : decode cL_matches 21 = .ok (.ireturn, 1) := by decide +kernel
def f_L_matches (x1 : Int32) (w : XW) : Option (Int32 × XW) := (bCI (f_X10_matches x1 w) (fun r1 w1 => (if r1 = 0 then (some (0, w1)) else (some (1, w1)))) (fun e1 w1 => (if e1 = "java/lang/IndexOutOfBoundsException" then (some ((-77), w1)) else (if e1 = "java/lang/IllegalArgumentException" then (some ((-78), w1)) else none))))
set_option maxRecDepth 100000 in
theorem W_L_matches {g : GC} (hl : g.1.stackTraces = false) {x1 : Int32} {w : XW} : VE g cL_matches 3 RL (some .int) [(0, 13, 14, 26), (0, 13, 18, 28)] (rmL 32 2 12) 2 12 oI 0 0 0 [(0, .ref (g.2.1 + 0)), (1, .int x1)] [] w (f_L_matches x1 w) := by
  unfold f_L_matches
  refine v_aload_n dL_matches_0 rfl 0 rfl ?_
  refine v_iload_n dL_matches_1 rfl 1 rfl ?_
  refine v_callVic (As := [.int x1]) cv_L_131 (S_X10_matches hl) tt_0 rfl rfl rfl (Nat.le_of_ble_eq_true rfl) dL_matches_2 (CR_rm (by decide) (by decide) (by decide) (by decide)) (fun r1 w1 => ?_) (fun e1 w1 => ?_)
  · refine v_if_eq (tgt := 12) dL_matches_5 (by decide) ?_ ?_
    · refine v_iconst (v := 0) dL_matches_12 (by decide) ?_
      exact v_iret dL_matches_13 rfl rfl (by decide) (by decide)
    · refine v_iconst (v := 1) dL_matches_8 (by decide) ?_
      refine v_goto (tgt := 13) dL_matches_9 (by decide) ?_
      exact v_iret dL_matches_13 rfl rfl (by decide) (by decide)
  · refine v_xsplit ?_ ?_
    · refine v_catch [] (0, 13, 14, 26) [(0, 13, 18, 28)] rfl (fun _ h => absurd h List.not_mem_nil) (by decide) (by decide) gw_369 (by decide) (fun q1 => ?_)
      refine v_astore_n dL_matches_14 rfl (Nat.le_of_ble_eq_true rfl) rfl ?_
      refine v_bipush (v := (-77)) dL_matches_15 (by decide) ?_
      exact v_iret dL_matches_17 rfl rfl (by decide) (by decide)
    · refine v_xsplit ?_ ?_
      · refine v_catch [(0, 13, 14, 26)] (0, 13, 18, 28) [] rfl (List.forall_mem_cons.mpr ⟨⟨by decide, _, gw_369, by decide⟩, fun _ h => absurd h List.not_mem_nil⟩) (by decide) (by decide) gw_873 (by decide) (fun q1 => ?_)
        refine v_astore_n dL_matches_18 rfl (Nat.le_of_ble_eq_true rfl) rfl ?_
        refine v_bipush (v := (-78)) dL_matches_19 (by decide) ?_
        exact v_iret dL_matches_21 rfl rfl (by decide) (by decide)
      · exact v_xnone
theorem S_L_matches {g : GC} (hl : g.1.stackTraces = false) {x1 : Int32} {w : XW} : ∀ q, f_L_matches x1 w = some q → MM g (.codeWith yL_matches cL_matches 3 (some .int) [(0, 13, 14, 26), (0, 13, 18, 28)]) yL_matches (rmL 32 2 12) 2 12 [.ref (g.2.1 + 0), .int x1] w (oI q) := fun q hq => MM_ofH (own := RL) hl (by decide) gw_1557 rfl (Nat.le_of_ble_eq_true rfl) (W_L_matches hl q hq) ⟨rfl, rfl⟩

theorem dL_execute_0 : decode cL_execute 0 = .ok (.aload_n 0, 1) := by decide +kernel
theorem dL_execute_1 : decode cL_execute 1 = .ok (.invokevirtual 134, 3) := by decide +kernel
theorem dL_execute_4 : decode cL_execute 4 = .ok (.ireturn, 1) := by decide +kernel
theorem dL_execute_5 : decode cL_execute 5 = .ok (.astore_n 1, 1) := by decide +kernel
theorem dL_execute_6 : decode cL_execute 6 = .ok (.bipush (-78), 2) := by decide +kernel
theorem dL_execute_8 : decode cL_execute 8 = .ok (.ireturn, 1) := by decide +kernel
theorem dL_execute_9 : decode cL_execute 9 = .ok (.astore_n 1, 1) := by decide +kernel
theorem dL_execute_10 : decode cL_execute 10 = .ok (.bipush (-76), 2) := by decide +kernel
theorem dL_execute_12 : decode cL_execute 12 = .ok (.ireturn, 1) := by decide +kernel
def f_L_execute (w : XW) : Option (Int32 × XW) := (bCI (f_X10_execute w) (fun r1 w1 => (some (r1, w1))) (fun e1 w1 => (if e1 = "java/lang/IllegalArgumentException" then (some ((-78), w1)) else (if e1 = "java/lang/UnsupportedOperationException" then (some ((-76), w1)) else none))))
set_option maxRecDepth 100000 in
theorem W_L_execute {g : GC} (hl : g.1.stackTraces = false) {w : XW} : VE g cL_execute 2 RL (some .int) [(0, 4, 5, 28), (0, 4, 9, 20)] (rmL 11 2 12) 2 12 oI 0 0 0 [(0, .ref (g.2.1 + 0))] [] w (f_L_execute  w) := by
  unfold f_L_execute
  refine v_aload_n dL_execute_0 rfl 0 rfl ?_
  refine v_callVic (As := []) cv_L_134 (S_X10_execute hl) tt_0 rfl rfl rfl (Nat.le_of_ble_eq_true rfl) dL_execute_1 (CR_rm (by decide) (by decide) (by decide) (by decide)) (fun r1 w1 => ?_) (fun e1 w1 => ?_)
  · exact v_iret dL_execute_4 rfl rfl (by decide) (by decide)
  · refine v_xsplit ?_ ?_
    · refine v_catch [] (0, 4, 5, 28) [(0, 4, 9, 20)] rfl (fun _ h => absurd h List.not_mem_nil) (by decide) (by decide) gw_873 (by decide) (fun q1 => ?_)
      refine v_astore_n dL_execute_5 rfl (Nat.le_of_ble_eq_true rfl) rfl ?_
      refine v_bipush (v := (-78)) dL_execute_6 (by decide) ?_
      exact v_iret dL_execute_8 rfl rfl (by decide) (by decide)
    · refine v_xsplit ?_ ?_
      · refine v_catch [(0, 4, 5, 28)] (0, 4, 9, 20) [] rfl (List.forall_mem_cons.mpr ⟨⟨by decide, _, gw_873, by decide⟩, fun _ h => absurd h List.not_mem_nil⟩) (by decide) (by decide) gw_589 (by decide) (fun q1 => ?_)
        refine v_astore_n dL_execute_9 rfl (Nat.le_of_ble_eq_true rfl) rfl ?_
        refine v_bipush (v := (-76)) dL_execute_10 (by decide) ?_
        exact v_iret dL_execute_12 rfl rfl (by decide) (by decide)
      · exact v_xnone
theorem S_L_execute {g : GC} (hl : g.1.stackTraces = false) {w : XW} : ∀ q, f_L_execute  w = some q → MM g (.codeWith yL_execute cL_execute 2 (some .int) [(0, 4, 5, 28), (0, 4, 9, 20)]) yL_execute (rmL 11 2 12) 2 12 [.ref (g.2.1 + 0)] w (oI q) := fun q hq => MM_ofH (own := RL) hl (by decide) gw_1267 rfl (Nat.le_of_ble_eq_true rfl) (W_L_execute hl q hq) ⟨rfl, rfl⟩

theorem dL_denial_0 : decode cL_denial 0 = .ok (.aload_n 0, 1) := by decide +kernel
theorem dL_denial_1 : decode cL_denial 1 = .ok (.invokevirtual 147, 3) := by decide +kernel
theorem dL_denial_4 : decode cL_denial 4 = .ok (.ireturn, 1) := by decide +kernel
theorem dL_denial_5 : decode cL_denial 5 = .ok (.astore_n 1, 1) := by decide +kernel
theorem dL_denial_6 : decode cL_denial 6 = .ok (.bipush (-75), 2) := by decide +kernel
theorem dL_denial_8 : decode cL_denial 8 = .ok (.ireturn, 1) := by decide +kernel
def f_L_denial (w : XW) : Option (Int32 × XW) := (bCI (f_X10_denial w) (fun r1 w1 => (some (r1, w1))) (fun e1 w1 => (if e1 = "java/util/NoSuchElementException" then (some ((-75), w1)) else none)))
set_option maxRecDepth 100000 in
theorem W_L_denial {g : GC} (hl : g.1.stackTraces = false) {w : XW} : VE g cL_denial 2 RL (some .int) [(0, 4, 5, 52)] (rmL 4 1 6) 1 6 oI 0 0 0 [(0, .ref (g.2.1 + 0))] [] w (f_L_denial  w) := by
  unfold f_L_denial
  refine v_aload_n dL_denial_0 rfl 0 rfl ?_
  refine v_callVic (As := []) cv_L_147 (S_X10_denial hl) tt_0 rfl rfl rfl (Nat.le_of_ble_eq_true rfl) dL_denial_1 (CR_rm (by decide) (by decide) (by decide) (by decide)) (fun r1 w1 => ?_) (fun e1 w1 => ?_)
  · exact v_iret dL_denial_4 rfl rfl (by decide) (by decide)
  · refine v_xsplit ?_ ?_
    · refine v_catch [] (0, 4, 5, 52) [] rfl (fun _ h => absurd h List.not_mem_nil) (by decide) (by decide) gw_490 (by decide) (fun q1 => ?_)
      refine v_astore_n dL_denial_5 rfl (Nat.le_of_ble_eq_true rfl) rfl ?_
      refine v_bipush (v := (-75)) dL_denial_6 (by decide) ?_
      exact v_iret dL_denial_8 rfl rfl (by decide) (by decide)
    · exact v_xnone
theorem S_L_denial {g : GC} (hl : g.1.stackTraces = false) {w : XW} : ∀ q, f_L_denial  w = some q → MM g (.codeWith yL_denial cL_denial 2 (some .int) [(0, 4, 5, 52)]) yL_denial (rmL 4 1 6) 1 6 [.ref (g.2.1 + 0)] w (oI q) := fun q hq => MM_ofH (own := RL) hl (by decide) gw_687 rfl (Nat.le_of_ble_eq_true rfl) (W_L_denial hl q hq) ⟨rfl, rfl⟩

theorem dL_denialDetail_0 : decode cL_denialDetail 0 = .ok (.aload_n 0, 1) := by decide +kernel
theorem dL_denialDetail_1 : decode cL_denialDetail 1 = .ok (.invokevirtual 150, 3) := by decide +kernel
theorem dL_denialDetail_4 : decode cL_denialDetail 4 = .ok (.ireturn, 1) := by decide +kernel
theorem dL_denialDetail_5 : decode cL_denialDetail 5 = .ok (.astore_n 1, 1) := by decide +kernel
theorem dL_denialDetail_6 : decode cL_denialDetail 6 = .ok (.bipush (-75), 2) := by decide +kernel
theorem dL_denialDetail_8 : decode cL_denialDetail 8 = .ok (.ireturn, 1) := by decide +kernel
def f_L_denialDetail (w : XW) : Option (Int32 × XW) := (bCI (f_X10_denialDetail w) (fun r1 w1 => (some (r1, w1))) (fun e1 w1 => (if e1 = "java/util/NoSuchElementException" then (some ((-75), w1)) else none)))
set_option maxRecDepth 100000 in
theorem W_L_denialDetail {g : GC} (hl : g.1.stackTraces = false) {w : XW} : VE g cL_denialDetail 2 RL (some .int) [(0, 4, 5, 52)] (rmL 4 1 6) 1 6 oI 0 0 0 [(0, .ref (g.2.1 + 0))] [] w (f_L_denialDetail  w) := by
  unfold f_L_denialDetail
  refine v_aload_n dL_denialDetail_0 rfl 0 rfl ?_
  refine v_callVic (As := []) cv_L_150 (S_X10_denialDetail hl) tt_0 rfl rfl rfl (Nat.le_of_ble_eq_true rfl) dL_denialDetail_1 (CR_rm (by decide) (by decide) (by decide) (by decide)) (fun r1 w1 => ?_) (fun e1 w1 => ?_)
  · exact v_iret dL_denialDetail_4 rfl rfl (by decide) (by decide)
  · refine v_xsplit ?_ ?_
    · refine v_catch [] (0, 4, 5, 52) [] rfl (fun _ h => absurd h List.not_mem_nil) (by decide) (by decide) gw_490 (by decide) (fun q1 => ?_)
      refine v_astore_n dL_denialDetail_5 rfl (Nat.le_of_ble_eq_true rfl) rfl ?_
      refine v_bipush (v := (-75)) dL_denialDetail_6 (by decide) ?_
      exact v_iret dL_denialDetail_8 rfl rfl (by decide) (by decide)
    · exact v_xnone
theorem S_L_denialDetail {g : GC} (hl : g.1.stackTraces = false) {w : XW} : ∀ q, f_L_denialDetail  w = some q → MM g (.codeWith yL_denialDetail cL_denialDetail 2 (some .int) [(0, 4, 5, 52)]) yL_denialDetail (rmL 4 1 6) 1 6 [.ref (g.2.1 + 0)] w (oI q) := fun q hq => MM_ofH (own := RL) hl (by decide) gw_694 rfl (Nat.le_of_ble_eq_true rfl) (W_L_denialDetail hl q hq) ⟨rfl, rfl⟩

theorem dL_undo_0 : decode cL_undo 0 = .ok (.aload_n 0, 1) := by decide +kernel
theorem dL_undo_1 : decode cL_undo 1 = .ok (.invokevirtual 156, 3) := by decide +kernel
theorem dL_undo_4 : decode cL_undo 4 = .ok (.ireturn, 1) := by decide +kernel
theorem dL_undo_5 : decode cL_undo 5 = .ok (.astore_n 1, 1) := by decide +kernel
theorem dL_undo_6 : decode cL_undo 6 = .ok (.bipush (-79), 2) := by decide +kernel
theorem dL_undo_8 : decode cL_undo 8 = .ok (.ireturn, 1) := by decide +kernel
def f_L_undo (w : XW) : Option (Int32 × XW) := (bCI (f_X10_undo w) (fun r1 w1 => (some (r1, w1))) (fun e1 w1 => (if e1 = "java/lang/IllegalStateException" then (some ((-79), w1)) else none)))
set_option maxRecDepth 100000 in
theorem W_L_undo {g : GC} (hl : g.1.stackTraces = false) {w : XW} : VE g cL_undo 2 RL (some .int) [(0, 4, 5, 126)] (rmL 9 1 6) 1 6 oI 0 0 0 [(0, .ref (g.2.1 + 0))] [] w (f_L_undo  w) := by
  unfold f_L_undo
  refine v_aload_n dL_undo_0 rfl 0 rfl ?_
  refine v_callVic (As := []) cv_L_156 (S_X10_undo hl) tt_0 rfl rfl rfl (Nat.le_of_ble_eq_true rfl) dL_undo_1 (CR_rm (by decide) (by decide) (by decide) (by decide)) (fun r1 w1 => ?_) (fun e1 w1 => ?_)
  · exact v_iret dL_undo_4 rfl rfl (by decide) (by decide)
  · refine v_xsplit ?_ ?_
    · refine v_catch [] (0, 4, 5, 126) [] rfl (fun _ h => absurd h List.not_mem_nil) (by decide) (by decide) gw_1237 (by decide) (fun q1 => ?_)
      refine v_astore_n dL_undo_5 rfl (Nat.le_of_ble_eq_true rfl) rfl ?_
      refine v_bipush (v := (-79)) dL_undo_6 (by decide) ?_
      exact v_iret dL_undo_8 rfl rfl (by decide) (by decide)
    · exact v_xnone
theorem S_L_undo {g : GC} (hl : g.1.stackTraces = false) {w : XW} : ∀ q, f_L_undo  w = some q → MM g (.codeWith yL_undo cL_undo 2 (some .int) [(0, 4, 5, 126)]) yL_undo (rmL 9 1 6) 1 6 [.ref (g.2.1 + 0)] w (oI q) := fun q hq => MM_ofH (own := RL) hl (by decide) gw_1576 rfl (Nat.le_of_ble_eq_true rfl) (W_L_undo hl q hq) ⟨rfl, rfl⟩

theorem dL_restoreSnapshot_0 : decode cL_restoreSnapshot 0 = .ok (.aload_n 0, 1) := by decide +kernel
theorem dL_restoreSnapshot_1 : decode cL_restoreSnapshot 1 = .ok (.invokevirtual 159, 3) := by decide +kernel
theorem dL_restoreSnapshot_4 : decode cL_restoreSnapshot 4 = .ok (.ireturn, 1) := by decide +kernel
theorem dL_restoreSnapshot_5 : decode cL_restoreSnapshot 5 = .ok (.astore_n 1, 1) := by decide +kernel
theorem dL_restoreSnapshot_6 : decode cL_restoreSnapshot 6 = .ok (.bipush (-79), 2) := by decide +kernel
theorem dL_restoreSnapshot_8 : decode cL_restoreSnapshot 8 = .ok (.ireturn, 1) := by decide +kernel
def f_L_restoreSnapshot (w : XW) : Option (Int32 × XW) := (bCI (f_X10_restoreSnapshot w) (fun r1 w1 => (some (r1, w1))) (fun e1 w1 => (if e1 = "java/lang/IllegalStateException" then (some ((-79), w1)) else none)))
set_option maxRecDepth 100000 in
theorem W_L_restoreSnapshot {g : GC} (hl : g.1.stackTraces = false) {w : XW} : VE g cL_restoreSnapshot 2 RL (some .int) [(0, 4, 5, 126)] (rmL 8 1 6) 1 6 oI 0 0 0 [(0, .ref (g.2.1 + 0))] [] w (f_L_restoreSnapshot  w) := by
  unfold f_L_restoreSnapshot
  refine v_aload_n dL_restoreSnapshot_0 rfl 0 rfl ?_
  refine v_callVic (As := []) cv_L_159 (S_X10_restoreSnapshot hl) tt_0 rfl rfl rfl (Nat.le_of_ble_eq_true rfl) dL_restoreSnapshot_1 (CR_rm (by decide) (by decide) (by decide) (by decide)) (fun r1 w1 => ?_) (fun e1 w1 => ?_)
  · exact v_iret dL_restoreSnapshot_4 rfl rfl (by decide) (by decide)
  · refine v_xsplit ?_ ?_
    · refine v_catch [] (0, 4, 5, 126) [] rfl (fun _ h => absurd h List.not_mem_nil) (by decide) (by decide) gw_1237 (by decide) (fun q1 => ?_)
      refine v_astore_n dL_restoreSnapshot_5 rfl (Nat.le_of_ble_eq_true rfl) rfl ?_
      refine v_bipush (v := (-79)) dL_restoreSnapshot_6 (by decide) ?_
      exact v_iret dL_restoreSnapshot_8 rfl rfl (by decide) (by decide)
    · exact v_xnone
theorem S_L_restoreSnapshot {g : GC} (hl : g.1.stackTraces = false) {w : XW} : ∀ q, f_L_restoreSnapshot  w = some q → MM g (.codeWith yL_restoreSnapshot cL_restoreSnapshot 2 (some .int) [(0, 4, 5, 126)]) yL_restoreSnapshot (rmL 8 1 6) 1 6 [.ref (g.2.1 + 0)] w (oI q) := fun q hq => MM_ofH (own := RL) hl (by decide) gw_1587 rfl (Nat.le_of_ble_eq_true rfl) (W_L_restoreSnapshot hl q hq) ⟨rfl, rfl⟩
