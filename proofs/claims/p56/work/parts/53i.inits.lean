/-! the constructors -/
def a_I (g : GC) (n : Nat) : va_E := .inl (g.2.2.1 0, n, .inl (fun _ => 0))
def a_Z (g : GC) (n : Nat) : va_E := .inl (g.2.2.1 1, n, .inl (fun _ => 0))
def a_C (g : GC) (n : Nat) : va_E := .inl (g.2.2.1 2, n, .inl (fun _ => 0))
/-- History's row while it is filled: i of its States stand -/
def hrf (g : GC) (n i : Nat) : Nat → Option Nat := fun j => if j < i then some (g.2.1 + (n + (2 + 11 * j))) else none
def hrow (g : GC) (n i : Nat) : va_E := .inl (g.2.2.1 4, 8, .inr (.inr (.inr (.inr (hrf g n i)))))
theorem hrow_0 (g : GC) (n : Nat) : hrow g n 0 = .inl (g.2.2.1 4, 8, .inr (.inr (.inr (.inr (fun _ => none))))) := by
  unfold hrow
  congr 6
theorem hrf_up {g : GC} {n : Nat} (i : Nat) {x : Int32} {k : Nat} (hx : x.toNatClampNeg = i) (hk : 2 + 11 * i = k) : va_up (hrf g n i) x.toNatClampNeg (some (g.2.1 + (n + k))) = hrf g n (i + 1) := by
  subst hk
  rw [hx]
  funext j
  unfold va_up hrf
  by_cases h : j = i
  · subst h
    rw [if_pos rfl, if_pos (by omega)]
  · rw [if_neg h]
    by_cases h1 : j < i
    · rw [if_pos h1, if_pos (by omega)]
    · rw [if_neg h1, if_neg (by omega)]
def bkX9 (g : GC) (n : Nat) : List va_E := .inr (9, [.int 0, .int 0, .int 0, .ref (g.2.1 + (n + 1)), .ref (g.2.1 + (n + 2))]) :: (([] ++ [a_I g 7]) ++ [a_I g 7])
theorem len_X9 (g : GC) (n : Nat) : (bkX9 g n).length = 3 := rfl
set_option maxRecDepth 100000 in
theorem I_X9 {g : GC} (C : List va_E) : MMc g (.code yX9_init cX9_init 1 none) yX9_init (rmL 0 2 14) 2 14 [.ref (g.2.1 + C.length)] (C ++ [.inr (9, [.int 0, .int 0, .int 0, .null, .null])]) (C ++ bkX9 g C.length) := by
  refine MMc_of (own := RX9) (by decide) gw_96 rfl rfl (Nat.le_of_ble_eq_true rfl) ?_ ⟨rfl, rfl⟩
  refine n_aload_n dX9_init_0 rfl 0 rfl ?_
  refine n_objInit gw_97 gw_84 gw_85 dX9_init_1 (Nat.le_of_ble_eq_true rfl) (Nat.le_of_ble_eq_true rfl) ?_
  refine n_aload_n dX9_init_4 rfl 0 rfl ?_
  refine n_bipush (v := 7) dX9_init_5 (by decide) ?_
  refine a_newa (atype := .int) (i := 0) (ty := .int) (N := 7) (a0 := (7, .inl (fun _ => 0))) (k := 1) (r1 := ([] ++ [a_I g 7])) (by simp only [List.length_append, List.length_cons, List.length_nil]) rfl gw_119 rfl (fun _ => rfl) (fun _ _ h => h) (fun _ => rfl) (by decide) (by decide) (Nat.le_of_ble_eq_true rfl) (Nat.le_of_ble_eq_true rfl) (Nat.le_of_ble_eq_true rfl) dX9_init_7 ?_
  refine a_putF (k := 3) (v := .ref (g.2.1 + (C.length + 1))) (ty := .array .int) (fs1 := [.int 0, .int 0, .int 0, .ref (g.2.1 + (C.length + 1)), .null]) tyX9 tyX9_ok nmX9 inG_X9 rfl (by decide) gw_106 rfl rfl rfl (by decide +kernel) rfl rfl (by show 3 < 5; omega) rfl dX9_init_9 ?_
  refine n_aload_n dX9_init_12 rfl 0 rfl ?_
  refine n_bipush (v := 7) dX9_init_13 (by decide) ?_
  refine a_newa (atype := .int) (i := 0) (ty := .int) (N := 7) (a0 := (7, .inl (fun _ => 0))) (k := 2) (r1 := (([] ++ [a_I g 7]) ++ [a_I g 7])) (by simp only [List.length_append, List.length_cons, List.length_nil]) rfl gw_119 rfl (fun _ => rfl) (fun _ _ h => h) (fun _ => rfl) (by decide) (by decide) (Nat.le_of_ble_eq_true rfl) (Nat.le_of_ble_eq_true rfl) (Nat.le_of_ble_eq_true rfl) dX9_init_15 ?_
  refine a_putF (k := 4) (v := .ref (g.2.1 + (C.length + 2))) (ty := .array .int) (fs1 := [.int 0, .int 0, .int 0, .ref (g.2.1 + (C.length + 1)), .ref (g.2.1 + (C.length + 2))]) tyX9 tyX9_ok nmX9 inG_X9 rfl (by decide) gw_107 rfl rfl rfl (by decide +kernel) rfl rfl (by show 4 < 5; omega) rfl dX9_init_17 ?_
  exact n_vret dX9_init_20 (Nat.le_of_ble_eq_true rfl) (Nat.le_of_ble_eq_true rfl) rfl
def bkX4 (g : GC) (n : Nat) : List va_E := .inr (4, [.int 0, .ref (g.2.1 + (n + 1))]) :: ([] ++ [a_I g 7])
theorem len_X4 (g : GC) (n : Nat) : (bkX4 g n).length = 2 := rfl
set_option maxRecDepth 100000 in
theorem I_X4 {g : GC} (C : List va_E) : MMc g (.code yX4_init cX4_init 1 none) yX4_init (rmL 0 1 7) 1 7 [.ref (g.2.1 + C.length)] (C ++ [.inr (4, [.int 0, .null])]) (C ++ bkX4 g C.length) := by
  refine MMc_of (own := RX4) (by decide) gw_124 rfl rfl (Nat.le_of_ble_eq_true rfl) ?_ ⟨rfl, rfl⟩
  refine n_aload_n dX4_init_0 rfl 0 rfl ?_
  refine n_objInit gw_125 gw_84 gw_85 dX4_init_1 (Nat.le_of_ble_eq_true rfl) (Nat.le_of_ble_eq_true rfl) ?_
  refine n_aload_n dX4_init_4 rfl 0 rfl ?_
  refine n_bipush (v := 7) dX4_init_5 (by decide) ?_
  refine a_newa (atype := .int) (i := 0) (ty := .int) (N := 7) (a0 := (7, .inl (fun _ => 0))) (k := 1) (r1 := ([] ++ [a_I g 7])) (by simp only [List.length_append, List.length_cons, List.length_nil, len_X9]) rfl gw_119 rfl (fun _ => rfl) (fun _ _ h => h) (fun _ => rfl) (by decide) (by decide) (Nat.le_of_ble_eq_true rfl) (Nat.le_of_ble_eq_true rfl) (Nat.le_of_ble_eq_true rfl) dX4_init_7 ?_
  refine a_putF (k := 1) (v := .ref (g.2.1 + (C.length + 1))) (ty := .array .int) (fs1 := [.int 0, .ref (g.2.1 + (C.length + 1))]) tyX4 tyX4_ok nmX4 inG_X4 rfl (by decide) gw_130 rfl rfl rfl (by decide +kernel) rfl rfl (by show 1 < 2; omega) rfl dX4_init_9 ?_
  exact n_vret dX4_init_12 (Nat.le_of_ble_eq_true rfl) (Nat.le_of_ble_eq_true rfl) rfl
def bkX5 (g : GC) (n : Nat) : List va_E := .inr (5, [.int 0, .ref (g.2.1 + (n + 1)), .ref (g.2.1 + (n + 2)), .ref (g.2.1 + (n + 3)), .ref (g.2.1 + (n + 4))]) :: (((([] ++ [a_I g 10]) ++ [a_I g 10]) ++ [a_I g 10]) ++ [a_Z g 10])
theorem len_X5 (g : GC) (n : Nat) : (bkX5 g n).length = 5 := rfl
set_option maxRecDepth 100000 in
theorem I_X5 {g : GC} (C : List va_E) : MMc g (.code yX5_init cX5_init 1 none) yX5_init (rmL 0 4 40) 4 40 [.ref (g.2.1 + C.length)] (C ++ [.inr (5, [.int 0, .null, .null, .null, .null])]) (C ++ bkX5 g C.length) := by
  refine MMc_of (own := RX5) (by decide) gw_140 rfl rfl (Nat.le_of_ble_eq_true rfl) ?_ ⟨rfl, rfl⟩
  refine n_aload_n dX5_init_0 rfl 0 rfl ?_
  refine n_objInit gw_141 gw_84 gw_85 dX5_init_1 (Nat.le_of_ble_eq_true rfl) (Nat.le_of_ble_eq_true rfl) ?_
  refine n_aload_n dX5_init_4 rfl 0 rfl ?_
  refine n_bipush (v := 10) dX5_init_5 (by decide) ?_
  refine a_newa (atype := .int) (i := 0) (ty := .int) (N := 10) (a0 := (10, .inl (fun _ => 0))) (k := 1) (r1 := ([] ++ [a_I g 10])) (by simp only [List.length_append, List.length_cons, List.length_nil, len_X9, len_X4]) rfl gw_119 rfl (fun _ => rfl) (fun _ _ h => h) (fun _ => rfl) (by decide) (by decide) (Nat.le_of_ble_eq_true rfl) (Nat.le_of_ble_eq_true rfl) (Nat.le_of_ble_eq_true rfl) dX5_init_7 ?_
  refine a_putF (k := 1) (v := .ref (g.2.1 + (C.length + 1))) (ty := .array .int) (fs1 := [.int 0, .ref (g.2.1 + (C.length + 1)), .null, .null, .null]) tyX5 tyX5_ok nmX5 inG_X5 rfl (by decide) gw_146 rfl rfl rfl (by decide +kernel) rfl rfl (by show 1 < 5; omega) rfl dX5_init_9 ?_
  refine n_aload_n dX5_init_12 rfl 0 rfl ?_
  refine n_bipush (v := 10) dX5_init_13 (by decide) ?_
  refine a_newa (atype := .int) (i := 0) (ty := .int) (N := 10) (a0 := (10, .inl (fun _ => 0))) (k := 2) (r1 := (([] ++ [a_I g 10]) ++ [a_I g 10])) (by simp only [List.length_append, List.length_cons, List.length_nil, len_X9, len_X4]) rfl gw_119 rfl (fun _ => rfl) (fun _ _ h => h) (fun _ => rfl) (by decide) (by decide) (Nat.le_of_ble_eq_true rfl) (Nat.le_of_ble_eq_true rfl) (Nat.le_of_ble_eq_true rfl) dX5_init_15 ?_
  refine a_putF (k := 2) (v := .ref (g.2.1 + (C.length + 2))) (ty := .array .int) (fs1 := [.int 0, .ref (g.2.1 + (C.length + 1)), .ref (g.2.1 + (C.length + 2)), .null, .null]) tyX5 tyX5_ok nmX5 inG_X5 rfl (by decide) gw_147 rfl rfl rfl (by decide +kernel) rfl rfl (by show 2 < 5; omega) rfl dX5_init_17 ?_
  refine n_aload_n dX5_init_20 rfl 0 rfl ?_
  refine n_bipush (v := 10) dX5_init_21 (by decide) ?_
  refine a_newa (atype := .int) (i := 0) (ty := .int) (N := 10) (a0 := (10, .inl (fun _ => 0))) (k := 3) (r1 := ((([] ++ [a_I g 10]) ++ [a_I g 10]) ++ [a_I g 10])) (by simp only [List.length_append, List.length_cons, List.length_nil, len_X9, len_X4]) rfl gw_119 rfl (fun _ => rfl) (fun _ _ h => h) (fun _ => rfl) (by decide) (by decide) (Nat.le_of_ble_eq_true rfl) (Nat.le_of_ble_eq_true rfl) (Nat.le_of_ble_eq_true rfl) dX5_init_23 ?_
  refine a_putF (k := 3) (v := .ref (g.2.1 + (C.length + 3))) (ty := .array .int) (fs1 := [.int 0, .ref (g.2.1 + (C.length + 1)), .ref (g.2.1 + (C.length + 2)), .ref (g.2.1 + (C.length + 3)), .null]) tyX5 tyX5_ok nmX5 inG_X5 rfl (by decide) gw_148 rfl rfl rfl (by decide +kernel) rfl rfl (by show 3 < 5; omega) rfl dX5_init_25 ?_
  refine n_aload_n dX5_init_28 rfl 0 rfl ?_
  refine n_bipush (v := 10) dX5_init_29 (by decide) ?_
  refine a_newa (atype := .boolean) (i := 1) (ty := .boolean) (N := 10) (a0 := (10, .inl (fun _ => 0))) (k := 4) (r1 := (((([] ++ [a_I g 10]) ++ [a_I g 10]) ++ [a_I g 10]) ++ [a_Z g 10])) (by simp only [List.length_append, List.length_cons, List.length_nil, len_X9, len_X4]) rfl gw_161 rfl (fun _ => rfl) (fun _ _ h => h) (fun _ => rfl) (by decide) (by decide) (Nat.le_of_ble_eq_true rfl) (Nat.le_of_ble_eq_true rfl) (Nat.le_of_ble_eq_true rfl) dX5_init_31 ?_
  refine a_putF (k := 4) (v := .ref (g.2.1 + (C.length + 4))) (ty := .array .boolean) (fs1 := [.int 0, .ref (g.2.1 + (C.length + 1)), .ref (g.2.1 + (C.length + 2)), .ref (g.2.1 + (C.length + 3)), .ref (g.2.1 + (C.length + 4))]) tyX5 tyX5_ok nmX5 inG_X5 rfl (by decide) gw_149 rfl rfl rfl (by decide +kernel) rfl rfl (by show 4 < 5; omega) rfl dX5_init_33 ?_
  exact n_vret dX5_init_36 (Nat.le_of_ble_eq_true rfl) (Nat.le_of_ble_eq_true rfl) rfl
def bkX8 (g : GC) (n : Nat) : List va_E := .inr (8, [.ref (g.2.1 + (n + 1)), .ref (g.2.1 + (n + 4)), .ref (g.2.1 + (n + 6))]) :: ((([] ++ bkX9 g (n + 1)) ++ bkX4 g (n + 4)) ++ bkX5 g (n + 6))
theorem len_X8 (g : GC) (n : Nat) : (bkX8 g n).length = 11 := by simp only [bkX8, List.length_append, List.length_cons, List.length_nil, len_X9, len_X4, len_X5]
set_option maxRecDepth 100000 in
theorem I_X8 {g : GC} (C : List va_E) : MMc g (.code yX8_init cX8_init 1 none) yX8_init (rmL 1 10 73) 10 73 [.ref (g.2.1 + C.length)] (C ++ [.inr (8, [.null, .null, .null])]) (C ++ bkX8 g C.length) := by
  refine MMc_of (own := RX8) (by decide) gw_90 rfl rfl (Nat.le_of_ble_eq_true rfl) ?_ ⟨rfl, rfl⟩
  refine n_aload_n dX8_init_0 rfl 0 rfl ?_
  refine n_objInit gw_91 gw_84 gw_85 dX8_init_1 (Nat.le_of_ble_eq_true rfl) (Nat.le_of_ble_eq_true rfl) ?_
  refine n_aload_n dX8_init_4 rfl 0 rfl ?_
  refine a_new (ci := 9) (k := 1) (r1 := ([] ++ [.inr (9, [.int 0, .int 0, .int 0, .null, .null])])) (fs := [.int 0, .int 0, .int 0, .null, .null]) (by simp only [List.length_append, List.length_cons, List.length_nil, len_X9, len_X4, len_X5]) rfl tyX9 tyX9_ok inG_X9 rfl gw_92 gw_93 gw_47 def_X9 (Nat.le_of_ble_eq_true rfl) (Nat.le_of_ble_eq_true rfl) dX8_init_5 ?_
  refine n_dup dX8_init_8 rfl ?_
  refine a_init (n := 0) (k := 1) (As := []) (bk := bkX9 g) (r := []) (r1 := ([] ++ bkX9 g (C.length + 1))) (by simp only [List.length_append, List.length_cons, List.length_nil, len_X9, len_X4, len_X5]) rfl rfl rfl gw_94 gw_95 gw_47 gw_96 (by decide +kernel) (by decide +kernel) (I_X9) rfl rfl (Nat.le_of_ble_eq_true rfl) dX8_init_9 ⟨⟨rfl, rfl, Nat.le_of_ble_eq_true rfl, Nat.le_of_ble_eq_true rfl⟩, Nat.le_of_ble_eq_true rfl, Nat.le_of_ble_eq_true rfl⟩ ?_
  refine a_putF (k := 0) (v := .ref (g.2.1 + (C.length + 1))) (ty := .object "FoldedArchive$Strip") (fs1 := [.ref (g.2.1 + (C.length + 1)), .null, .null]) tyX8 tyX8_ok nmX8 inG_X8 rfl (by decide) gw_162 rfl rfl rfl (by decide +kernel) rfl rfl (by show 0 < 3; omega) rfl dX8_init_12 ?_
  refine n_aload_n dX8_init_15 rfl 0 rfl ?_
  refine a_new (ci := 4) (k := 4) (r1 := (([] ++ bkX9 g (C.length + 1)) ++ [.inr (4, [.int 0, .null])])) (fs := [.int 0, .null]) (by simp only [List.length_append, List.length_cons, List.length_nil, len_X9, len_X4, len_X5]) rfl tyX4 tyX4_ok inG_X4 rfl gw_120 gw_121 gw_48 def_X4 (Nat.le_of_ble_eq_true rfl) (Nat.le_of_ble_eq_true rfl) dX8_init_16 ?_
  refine n_dup dX8_init_19 rfl ?_
  refine a_init (n := 0) (k := 4) (As := []) (bk := bkX4 g) (r := ([] ++ bkX9 g (C.length + 1))) (r1 := (([] ++ bkX9 g (C.length + 1)) ++ bkX4 g (C.length + 4))) (by simp only [List.length_append, List.length_cons, List.length_nil, len_X9, len_X4, len_X5]) rfl rfl rfl gw_122 gw_123 gw_48 gw_124 (by decide +kernel) (by decide +kernel) (I_X4) rfl rfl (Nat.le_of_ble_eq_true rfl) dX8_init_20 ⟨⟨rfl, rfl, Nat.le_of_ble_eq_true rfl, Nat.le_of_ble_eq_true rfl⟩, Nat.le_of_ble_eq_true rfl, Nat.le_of_ble_eq_true rfl⟩ ?_
  refine a_putF (k := 1) (v := .ref (g.2.1 + (C.length + 4))) (ty := .object "FoldedArchive$Pile") (fs1 := [.ref (g.2.1 + (C.length + 1)), .ref (g.2.1 + (C.length + 4)), .null]) tyX8 tyX8_ok nmX8 inG_X8 rfl (by decide) gw_164 rfl rfl rfl (by decide +kernel) rfl rfl (by show 1 < 3; omega) rfl dX8_init_23 ?_
  refine n_aload_n dX8_init_26 rfl 0 rfl ?_
  refine a_new (ci := 5) (k := 6) (r1 := ((([] ++ bkX9 g (C.length + 1)) ++ bkX4 g (C.length + 4)) ++ [.inr (5, [.int 0, .null, .null, .null, .null])])) (fs := [.int 0, .null, .null, .null, .null]) (by simp only [List.length_append, List.length_cons, List.length_nil, len_X9, len_X4, len_X5]) rfl tyX5 tyX5_ok inG_X5 rfl gw_136 gw_137 gw_49 def_X5 (Nat.le_of_ble_eq_true rfl) (Nat.le_of_ble_eq_true rfl) dX8_init_27 ?_
  refine n_dup dX8_init_30 rfl ?_
  refine a_init (n := 0) (k := 6) (As := []) (bk := bkX5 g) (r := (([] ++ bkX9 g (C.length + 1)) ++ bkX4 g (C.length + 4))) (r1 := ((([] ++ bkX9 g (C.length + 1)) ++ bkX4 g (C.length + 4)) ++ bkX5 g (C.length + 6))) (by simp only [List.length_append, List.length_cons, List.length_nil, len_X9, len_X4, len_X5]) rfl rfl rfl gw_138 gw_139 gw_49 gw_140 (by decide +kernel) (by decide +kernel) (I_X5) rfl rfl (Nat.le_of_ble_eq_true rfl) dX8_init_31 ⟨⟨rfl, rfl, Nat.le_of_ble_eq_true rfl, Nat.le_of_ble_eq_true rfl⟩, Nat.le_of_ble_eq_true rfl, Nat.le_of_ble_eq_true rfl⟩ ?_
  refine a_putF (k := 2) (v := .ref (g.2.1 + (C.length + 6))) (ty := .object "FoldedArchive$Pipes") (fs1 := [.ref (g.2.1 + (C.length + 1)), .ref (g.2.1 + (C.length + 4)), .ref (g.2.1 + (C.length + 6))]) tyX8 tyX8_ok nmX8 inG_X8 rfl (by decide) gw_166 rfl rfl rfl (by decide +kernel) rfl rfl (by show 2 < 3; omega) rfl dX8_init_34 ?_
  exact n_vret dX8_init_37 (Nat.le_of_ble_eq_true rfl) (Nat.le_of_ble_eq_true rfl) rfl
def bkX1 (g : GC) (n : Nat) : List va_E := .inr (1, [.ref (g.2.1 + (n + 1)), .ref (g.2.1 + (n + 2)), .ref (g.2.1 + (n + 3))]) :: ((([] ++ [a_I g 49]) ++ [a_I g 7]) ++ [a_I g 7])
theorem len_X1 (g : GC) (n : Nat) : (bkX1 g n).length = 4 := rfl
set_option maxRecDepth 100000 in
theorem I_X1 {g : GC} (C : List va_E) : MMc g (.code yX1_init cX1_init 1 none) yX1_init (rmL 0 3 63) 3 63 [.ref (g.2.1 + C.length)] (C ++ [.inr (1, [.null, .null, .null])]) (C ++ bkX1 g C.length) := by
  refine MMc_of (own := RX1) (by decide) gw_199 rfl rfl (Nat.le_of_ble_eq_true rfl) ?_ ⟨rfl, rfl⟩
  refine n_aload_n dX1_init_0 rfl 0 rfl ?_
  refine n_objInit gw_200 gw_84 gw_85 dX1_init_1 (Nat.le_of_ble_eq_true rfl) (Nat.le_of_ble_eq_true rfl) ?_
  refine n_aload_n dX1_init_4 rfl 0 rfl ?_
  refine n_bipush (v := 49) dX1_init_5 (by decide) ?_
  refine a_newa (atype := .int) (i := 0) (ty := .int) (N := 49) (a0 := (49, .inl (fun _ => 0))) (k := 1) (r1 := ([] ++ [a_I g 49])) (by simp only [List.length_append, List.length_cons, List.length_nil, len_X9, len_X4, len_X5, len_X8]) rfl gw_119 rfl (fun _ => rfl) (fun _ _ h => h) (fun _ => rfl) (by decide) (by decide) (Nat.le_of_ble_eq_true rfl) (Nat.le_of_ble_eq_true rfl) (Nat.le_of_ble_eq_true rfl) dX1_init_7 ?_
  refine a_putF (k := 0) (v := .ref (g.2.1 + (C.length + 1))) (ty := .array .int) (fs1 := [.ref (g.2.1 + (C.length + 1)), .null, .null]) tyX1 tyX1_ok nmX1 inG_X1 rfl (by decide) gw_201 rfl rfl rfl (by decide +kernel) rfl rfl (by show 0 < 3; omega) rfl dX1_init_9 ?_
  refine n_aload_n dX1_init_12 rfl 0 rfl ?_
  refine n_bipush (v := 7) dX1_init_13 (by decide) ?_
  refine a_newa (atype := .int) (i := 0) (ty := .int) (N := 7) (a0 := (7, .inl (fun _ => 0))) (k := 2) (r1 := (([] ++ [a_I g 49]) ++ [a_I g 7])) (by simp only [List.length_append, List.length_cons, List.length_nil, len_X9, len_X4, len_X5, len_X8]) rfl gw_119 rfl (fun _ => rfl) (fun _ _ h => h) (fun _ => rfl) (by decide) (by decide) (Nat.le_of_ble_eq_true rfl) (Nat.le_of_ble_eq_true rfl) (Nat.le_of_ble_eq_true rfl) dX1_init_15 ?_
  refine a_putF (k := 1) (v := .ref (g.2.1 + (C.length + 2))) (ty := .array .int) (fs1 := [.ref (g.2.1 + (C.length + 1)), .ref (g.2.1 + (C.length + 2)), .null]) tyX1 tyX1_ok nmX1 inG_X1 rfl (by decide) gw_202 rfl rfl rfl (by decide +kernel) rfl rfl (by show 1 < 3; omega) rfl dX1_init_17 ?_
  refine n_aload_n dX1_init_20 rfl 0 rfl ?_
  refine n_bipush (v := 7) dX1_init_21 (by decide) ?_
  refine a_newa (atype := .int) (i := 0) (ty := .int) (N := 7) (a0 := (7, .inl (fun _ => 0))) (k := 3) (r1 := ((([] ++ [a_I g 49]) ++ [a_I g 7]) ++ [a_I g 7])) (by simp only [List.length_append, List.length_cons, List.length_nil, len_X9, len_X4, len_X5, len_X8]) rfl gw_119 rfl (fun _ => rfl) (fun _ _ h => h) (fun _ => rfl) (by decide) (by decide) (Nat.le_of_ble_eq_true rfl) (Nat.le_of_ble_eq_true rfl) (Nat.le_of_ble_eq_true rfl) dX1_init_23 ?_
  refine a_putF (k := 2) (v := .ref (g.2.1 + (C.length + 3))) (ty := .array .int) (fs1 := [.ref (g.2.1 + (C.length + 1)), .ref (g.2.1 + (C.length + 2)), .ref (g.2.1 + (C.length + 3))]) tyX1 tyX1_ok nmX1 inG_X1 rfl (by decide) gw_203 rfl rfl rfl (by decide +kernel) rfl rfl (by show 2 < 3; omega) rfl dX1_init_25 ?_
  exact n_vret dX1_init_28 (Nat.le_of_ble_eq_true rfl) (Nat.le_of_ble_eq_true rfl) rfl
def bkX2 (g : GC) (n : Nat) : List va_E := .inr (2, [.ref (g.2.1 + (n + 1)), .ref (g.2.1 + (n + 3))]) :: (([] ++ bkX4 g (n + 1)) ++ [a_I g 7])
theorem len_X2 (g : GC) (n : Nat) : (bkX2 g n).length = 4 := by simp only [bkX2, List.length_append, List.length_cons, List.length_nil, len_X9, len_X4, len_X5, len_X8, len_X1]
set_option maxRecDepth 100000 in
theorem I_X2 {g : GC} (C : List va_E) : MMc g (.code yX2_init cX2_init 1 none) yX2_init (rmL 1 3 16) 3 16 [.ref (g.2.1 + C.length)] (C ++ [.inr (2, [.null, .null])]) (C ++ bkX2 g C.length) := by
  refine MMc_of (own := RX2) (by decide) gw_215 rfl rfl (Nat.le_of_ble_eq_true rfl) ?_ ⟨rfl, rfl⟩
  refine n_aload_n dX2_init_0 rfl 0 rfl ?_
  refine n_objInit gw_216 gw_84 gw_85 dX2_init_1 (Nat.le_of_ble_eq_true rfl) (Nat.le_of_ble_eq_true rfl) ?_
  refine n_aload_n dX2_init_4 rfl 0 rfl ?_
  refine a_new (ci := 4) (k := 1) (r1 := ([] ++ [.inr (4, [.int 0, .null])])) (fs := [.int 0, .null]) (by simp only [List.length_append, List.length_cons, List.length_nil, len_X9, len_X4, len_X5, len_X8, len_X1]) rfl tyX4 tyX4_ok inG_X4 rfl gw_217 gw_121 gw_48 def_X4 (Nat.le_of_ble_eq_true rfl) (Nat.le_of_ble_eq_true rfl) dX2_init_5 ?_
  refine n_dup dX2_init_8 rfl ?_
  refine a_init (n := 0) (k := 1) (As := []) (bk := bkX4 g) (r := []) (r1 := ([] ++ bkX4 g (C.length + 1))) (by simp only [List.length_append, List.length_cons, List.length_nil, len_X9, len_X4, len_X5, len_X8, len_X1]) rfl rfl rfl gw_218 gw_123 gw_48 gw_124 (by decide +kernel) (by decide +kernel) (I_X4) rfl rfl (Nat.le_of_ble_eq_true rfl) dX2_init_9 ⟨⟨rfl, rfl, Nat.le_of_ble_eq_true rfl, Nat.le_of_ble_eq_true rfl⟩, Nat.le_of_ble_eq_true rfl, Nat.le_of_ble_eq_true rfl⟩ ?_
  refine a_putF (k := 0) (v := .ref (g.2.1 + (C.length + 1))) (ty := .object "FoldedArchive$Pile") (fs1 := [.ref (g.2.1 + (C.length + 1)), .null]) tyX2 tyX2_ok nmX2 inG_X2 rfl (by decide) gw_219 rfl rfl rfl (by decide +kernel) rfl rfl (by show 0 < 2; omega) rfl dX2_init_12 ?_
  refine n_aload_n dX2_init_15 rfl 0 rfl ?_
  refine n_bipush (v := 7) dX2_init_16 (by decide) ?_
  refine a_newa (atype := .int) (i := 0) (ty := .int) (N := 7) (a0 := (7, .inl (fun _ => 0))) (k := 3) (r1 := (([] ++ bkX4 g (C.length + 1)) ++ [a_I g 7])) (by simp only [List.length_append, List.length_cons, List.length_nil, len_X9, len_X4, len_X5, len_X8, len_X1]) rfl gw_119 rfl (fun _ => rfl) (fun _ _ h => h) (fun _ => rfl) (by decide) (by decide) (Nat.le_of_ble_eq_true rfl) (Nat.le_of_ble_eq_true rfl) (Nat.le_of_ble_eq_true rfl) dX2_init_18 ?_
  refine a_putF (k := 1) (v := .ref (g.2.1 + (C.length + 3))) (ty := .array .int) (fs1 := [.ref (g.2.1 + (C.length + 1)), .ref (g.2.1 + (C.length + 3))]) tyX2 tyX2_ok nmX2 inG_X2 rfl (by decide) gw_220 rfl rfl rfl (by decide +kernel) rfl rfl (by show 1 < 2; omega) rfl dX2_init_20 ?_
  exact n_vret dX2_init_23 (Nat.le_of_ble_eq_true rfl) (Nat.le_of_ble_eq_true rfl) rfl
def bkX6 (g : GC) (N : Nat) (n : Nat) : List va_E := .inr (6, [.ref (g.2.1 + (n + 1)), .int 0]) :: ([] ++ [a_C g N])
theorem len_X6 (g : GC) (N : Nat) (n : Nat) : (bkX6 g N n).length = 2 := rfl
set_option maxRecDepth 100000 in
theorem I_X6 {g : GC} {x : Int32} {N : Nat} (hx0 : (if x < 0 then 0 else x) = x) (hx1 : ¬ x < 0) (hx2 : x.toNatClampNeg = N) (hx3 : N ≤ 1000) (C : List va_E) : MMc g (.code yX6_init cX6_init 2 none) yX6_init (rmL 0 1 N) 1 N [.ref (g.2.1 + C.length), .int x] (C ++ [.inr (6, [.null, .int 0])]) (C ++ bkX6 g N C.length) := by
  refine MMc_of (own := RX6) (by decide) gw_230 rfl rfl (Nat.le_of_ble_eq_true rfl) ?_ ⟨rfl, rfl⟩
  refine n_aload_n dX6_init_0 rfl 0 rfl ?_
  refine n_objInit gw_231 gw_84 gw_85 dX6_init_1 (Nat.le_of_ble_eq_true rfl) (Nat.le_of_ble_eq_true rfl) ?_
  refine n_aload_n dX6_init_4 rfl 0 rfl ?_
  refine n_iload_n dX6_init_5 rfl 1 rfl ?_
  refine n_iconst (v := 0) dX6_init_6 (by decide) ?_
  refine n_max (v := x) gw_232 gw_233 gw_54 gw_234 hx0 dX6_init_7 (Nat.le_of_ble_eq_true rfl) (Nat.le_of_ble_eq_true rfl) (Nat.le_of_ble_eq_true rfl) (Nat.le_of_ble_eq_true rfl) ?_
  refine a_newa (atype := .char) (i := 2) (ty := .char) (N := N) (a0 := (N, .inl (fun _ => 0))) (k := 1) (r1 := ([] ++ [a_C g N])) (by simp only [List.length_append, List.length_cons, List.length_nil, len_X9, len_X4, len_X5, len_X8, len_X1, len_X2]) rfl gw_245 rfl (fun _ => rfl) (fun _ _ h => h) (fun _ => rfl) hx1 hx2 (Nat.le_trans (Nat.mul_le_mul_right _ hx3) (by decide)) (Nat.le_of_ble_eq_true rfl) (by show 0 + N ≤ N; omega) dX6_init_10 ?_
  refine a_putF (k := 0) (v := .ref (g.2.1 + (C.length + 1))) (ty := .array .char) (fs1 := [.ref (g.2.1 + (C.length + 1)), .int 0]) tyX6 tyX6_ok nmX6 inG_X6 rfl (by decide) gw_235 rfl rfl rfl (by decide +kernel) rfl rfl (by show 0 < 2; omega) rfl dX6_init_12 ?_
  exact n_vret dX6_init_15 (Nat.le_of_ble_eq_true rfl) (by show 0 + N ≤ N; omega) rfl
def bkX7 (g : GC) (n : Nat) : List va_E := .inr (7, [.ref (g.2.1 + (n + 1)), .int 0, .int 0, .int 0]) :: ([] ++ [a_I g 8])
theorem len_X7 (g : GC) (n : Nat) : (bkX7 g n).length = 2 := rfl
set_option maxRecDepth 100000 in
theorem I_X7 {g : GC} (C : List va_E) : MMc g (.code yX7_init cX7_init 1 none) yX7_init (rmL 0 1 8) 1 8 [.ref (g.2.1 + C.length)] (C ++ [.inr (7, [.null, .int 0, .int 0, .int 0])]) (C ++ bkX7 g C.length) := by
  refine MMc_of (own := RX7) (by decide) gw_250 rfl rfl (Nat.le_of_ble_eq_true rfl) ?_ ⟨rfl, rfl⟩
  refine n_aload_n dX7_init_0 rfl 0 rfl ?_
  refine n_objInit gw_251 gw_84 gw_85 dX7_init_1 (Nat.le_of_ble_eq_true rfl) (Nat.le_of_ble_eq_true rfl) ?_
  refine n_aload_n dX7_init_4 rfl 0 rfl ?_
  refine n_bipush (v := 8) dX7_init_5 (by decide) ?_
  refine a_newa (atype := .int) (i := 0) (ty := .int) (N := 8) (a0 := (8, .inl (fun _ => 0))) (k := 1) (r1 := ([] ++ [a_I g 8])) (by simp only [List.length_append, List.length_cons, List.length_nil, len_X9, len_X4, len_X5, len_X8, len_X1, len_X2, len_X6]) rfl gw_119 rfl (fun _ => rfl) (fun _ _ h => h) (fun _ => rfl) (by decide) (by decide) (Nat.le_of_ble_eq_true rfl) (Nat.le_of_ble_eq_true rfl) (Nat.le_of_ble_eq_true rfl) dX7_init_7 ?_
  refine a_putF (k := 0) (v := .ref (g.2.1 + (C.length + 1))) (ty := .array .int) (fs1 := [.ref (g.2.1 + (C.length + 1)), .int 0, .int 0, .int 0]) tyX7 tyX7_ok nmX7 inG_X7 rfl (by decide) gw_252 rfl rfl rfl (by decide +kernel) rfl rfl (by show 0 < 4; omega) rfl dX7_init_9 ?_
  exact n_vret dX7_init_12 (Nat.le_of_ble_eq_true rfl) (Nat.le_of_ble_eq_true rfl) rfl
def bkX0 (g : GC) (n : Nat) : List va_E := .inr (0, [.ref (g.2.1 + (n + 1)), .ref (g.2.1 + (n + 2)), .int 0, .int 0, .int 0, .int 0]) :: (([] ++ [a_I g 60]) ++ [a_I g 180])
theorem len_X0 (g : GC) (n : Nat) : (bkX0 g n).length = 3 := rfl
set_option maxRecDepth 100000 in
theorem I_X0 {g : GC} (C : List va_E) : MMc g (.code yX0_init cX0_init 1 none) yX0_init (rmL 0 2 240) 2 240 [.ref (g.2.1 + C.length)] (C ++ [.inr (0, [.null, .null, .int 0, .int 0, .int 0, .int 0])]) (C ++ bkX0 g C.length) := by
  refine MMc_of (own := RX0) (by decide) gw_270 rfl rfl (Nat.le_of_ble_eq_true rfl) ?_ ⟨rfl, rfl⟩
  refine n_aload_n dX0_init_0 rfl 0 rfl ?_
  refine n_objInit gw_271 gw_84 gw_85 dX0_init_1 (Nat.le_of_ble_eq_true rfl) (Nat.le_of_ble_eq_true rfl) ?_
  refine n_aload_n dX0_init_4 rfl 0 rfl ?_
  refine n_bipush (v := 60) dX0_init_5 (by decide) ?_
  refine a_newa (atype := .int) (i := 0) (ty := .int) (N := 60) (a0 := (60, .inl (fun _ => 0))) (k := 1) (r1 := ([] ++ [a_I g 60])) (by simp only [List.length_append, List.length_cons, List.length_nil, len_X9, len_X4, len_X5, len_X8, len_X1, len_X2, len_X6, len_X7]) rfl gw_119 rfl (fun _ => rfl) (fun _ _ h => h) (fun _ => rfl) (by decide) (by decide) (Nat.le_of_ble_eq_true rfl) (Nat.le_of_ble_eq_true rfl) (Nat.le_of_ble_eq_true rfl) dX0_init_7 ?_
  refine a_putF (k := 0) (v := .ref (g.2.1 + (C.length + 1))) (ty := .array .int) (fs1 := [.ref (g.2.1 + (C.length + 1)), .null, .int 0, .int 0, .int 0, .int 0]) tyX0 tyX0_ok nmX0 inG_X0 rfl (by decide) gw_272 rfl rfl rfl (by decide +kernel) rfl rfl (by show 0 < 6; omega) rfl dX0_init_9 ?_
  refine n_aload_n dX0_init_12 rfl 0 rfl ?_
  refine n_sipush (v := 180) dX0_init_13 (by decide) ?_
  refine a_newa (atype := .int) (i := 0) (ty := .int) (N := 180) (a0 := (180, .inl (fun _ => 0))) (k := 2) (r1 := (([] ++ [a_I g 60]) ++ [a_I g 180])) (by simp only [List.length_append, List.length_cons, List.length_nil, len_X9, len_X4, len_X5, len_X8, len_X1, len_X2, len_X6, len_X7]) rfl gw_119 rfl (fun _ => rfl) (fun _ _ h => h) (fun _ => rfl) (by decide) (by decide) (Nat.le_of_ble_eq_true rfl) (Nat.le_of_ble_eq_true rfl) (Nat.le_of_ble_eq_true rfl) dX0_init_16 ?_
  refine a_putF (k := 1) (v := .ref (g.2.1 + (C.length + 2))) (ty := .array .int) (fs1 := [.ref (g.2.1 + (C.length + 1)), .ref (g.2.1 + (C.length + 2)), .int 0, .int 0, .int 0, .int 0]) tyX0 tyX0_ok nmX0 inG_X0 rfl (by decide) gw_273 rfl rfl rfl (by decide +kernel) rfl rfl (by show 1 < 6; omega) rfl dX0_init_18 ?_
  exact n_vret dX0_init_21 (Nat.le_of_ble_eq_true rfl) (Nat.le_of_ble_eq_true rfl) rfl
