/-! the law up to its loop -/
theorem gw_120 : Cond.classLink "FoldedArchiveLaw" 8 "FoldedArchive" ∈ GW := GW_t1 30 rfl rfl
theorem gw_1440 : Cond.classLink "FoldedArchiveLaw" 153 "FoldedArchiveModel" ∈ GW := GW_t6 150 rfl rfl
theorem gw_122 : Cond.methodLink "FoldedArchiveLaw" 152 yX10_init ∈ GW := GW_t1 32 rfl rfl
theorem gw_1442 : Cond.methodLink "FoldedArchiveLaw" 155 yX11_init ∈ GW := GW_t6 152 rfl rfl
theorem gw_123 : Cond.instanceMethod yX10_init ∈ GW := GW_t1 33 rfl rfl
theorem gw_1443 : Cond.instanceMethod yX11_init ∈ GW := GW_t6 153 rfl rfl
theorem gw_121 : Cond.instantiable "FoldedArchive" 15 ∈ GW := GW_t1 31 rfl rfl
theorem gw_1441 : Cond.instantiable "FoldedArchiveModel" 23 ∈ GW := GW_t6 151 rfl rfl
theorem gw_1941 : Cond.arrayClass Jvm.ClassFile.FieldType.long ∈ GW := GW_t8 171 rfl rfl
theorem gw_1942 : Cond.arrayClass Jvm.ClassFile.FieldType.double ∈ GW := GW_t8 172 rfl rfl
theorem def_X10 : ∀ j, j < 15 → defaultValue (tyX10 j) = vp_V [.null, .null, .null, .null, .null, .null, .null, .null, .null, .null, .int 0, .int 0, .int 0, .int 0, .int 0] j := fun j hj => by
  match j, hj with
  | 0, _ => rfl
  | 1, _ => rfl
  | 2, _ => rfl
  | 3, _ => rfl
  | 4, _ => rfl
  | 5, _ => rfl
  | 6, _ => rfl
  | 7, _ => rfl
  | 8, _ => rfl
  | 9, _ => rfl
  | 10, _ => rfl
  | 11, _ => rfl
  | 12, _ => rfl
  | 13, _ => rfl
  | 14, _ => rfl
  | j + 15, h => exact absurd h (by omega)
theorem def_X11 : ∀ j, j < 23 → defaultValue (tyX11 j) = vp_V [.int 0, .null, .null, .null, .null, .int 0, .int 0, .null, .null, .null, .null, .int 0, .int 0, .int 0, .int 0, .int 0, .int 0, .int 0, .int 0, .int 0, .int 0, .int 0, .int 0] j := fun j hj => by
  match j, hj with
  | 0, _ => rfl
  | 1, _ => rfl
  | 2, _ => rfl
  | 3, _ => rfl
  | 4, _ => rfl
  | 5, _ => rfl
  | 6, _ => rfl
  | 7, _ => rfl
  | 8, _ => rfl
  | 9, _ => rfl
  | 10, _ => rfl
  | 11, _ => rfl
  | 12, _ => rfl
  | 13, _ => rfl
  | 14, _ => rfl
  | 15, _ => rfl
  | 16, _ => rfl
  | 17, _ => rfl
  | 18, _ => rfl
  | 19, _ => rfl
  | 20, _ => rfl
  | 21, _ => rfl
  | 22, _ => rfl
  | j + 23, h => exact absurd h (by omega)
theorem dL_law_0 : decode cL_law 0 = .ok (.new 8, 3) := by decide +kernel
theorem dL_law_3 : decode cL_law 3 = .ok (.dup, 1) := by decide +kernel
theorem dL_law_4 : decode cL_law 4 = .ok (.invokespecial 152, 3) := by decide +kernel
theorem dL_law_7 : decode cL_law 7 = .ok (.astore_n 1, 1) := by decide +kernel
theorem dL_law_8 : decode cL_law 8 = .ok (.new 153, 3) := by decide +kernel
theorem dL_law_11 : decode cL_law 11 = .ok (.dup, 1) := by decide +kernel
theorem dL_law_12 : decode cL_law 12 = .ok (.invokespecial 155, 3) := by decide +kernel
theorem dL_law_15 : decode cL_law 15 = .ok (.astore_n 2, 1) := by decide +kernel
theorem dL_law_16 : decode cL_law 16 = .ok (.iconst 1, 1) := by decide +kernel
theorem dL_law_17 : decode cL_law 17 = .ok (.newarray .long, 2) := by decide +kernel
theorem dL_law_19 : decode cL_law 19 = .ok (.astore_n 3, 1) := by decide +kernel
theorem dL_law_20 : decode cL_law 20 = .ok (.iconst 1, 1) := by decide +kernel
theorem dL_law_21 : decode cL_law 21 = .ok (.newarray .double, 2) := by decide +kernel
theorem dL_law_23 : decode cL_law 23 = .ok (.astore 4, 2) := by decide +kernel
theorem dL_law_25 : decode cL_law 25 = .ok (.iconst 0, 1) := by decide +kernel
theorem dL_law_26 : decode cL_law 26 = .ok (.istore 5, 2) := by decide +kernel
def CC (g : GC) : List va_E := ((bkX10 g 0 ++ bkX11 g 141) ++ [.inl (g.2.2.1 3, 1, .inr (.inl (fun _ => 0)))]) ++ [.inl (g.2.2.1 4, 1, .inr (.inr (.inr (.inl (fun _ => 0)))))]
set_option maxRecDepth 100000 in
theorem n_law {g : GC} {b : Nat} {Qf : List Frame → Array Value → State → State → Prop} (k : VN g cL_law 9 RL (some .boolean) false room_1 Qf 152 2380 28 [(0, .ref b), (1, .ref (g.2.1 + 0)), (2, .ref (g.2.1 + 141)), (3, .ref (g.2.1 + 150)), (4, .ref (g.2.1 + 151)), (5, .int 0)] [] (CC g)) : VN g cL_law 9 RL (some .boolean) false room_1 Qf 0 0 0 [(0, .ref b)] [] [] := by
  refine n_new (ci := 10) (fs := [.null, .null, .null, .null, .null, .null, .null, .null, .null, .null, .int 0, .int 0, .int 0, .int 0, .int 0]) tyX10 tyX10_ok inG_X10 rfl gw_120 gw_121 gw_91 def_X10 (Nat.le_of_ble_eq_true rfl) (Nat.le_of_ble_eq_true rfl) dL_law_0 ?_
  refine n_dup dL_law_3 rfl ?_
  refine n_init (n := 0) (As := []) (Z := bkX10 g 0) rfl gw_122 gw_123 gw_91 gw_124 (by decide +kernel) (by decide +kernel) (I_X10 (g := g) []) rfl rfl (Nat.le_of_ble_eq_true rfl) dL_law_4 ⟨⟨rfl, rfl, (Nat.le_of_ble_eq_true rfl), (Nat.le_of_ble_eq_true rfl)⟩, (Nat.le_of_ble_eq_true rfl), (Nat.le_of_ble_eq_true rfl)⟩ ?_
  refine n_astore_n dL_law_7 rfl (by decide) rfl ?_
  refine n_new (ci := 11) (fs := [.int 0, .null, .null, .null, .null, .int 0, .int 0, .null, .null, .null, .null, .int 0, .int 0, .int 0, .int 0, .int 0, .int 0, .int 0, .int 0, .int 0, .int 0, .int 0, .int 0]) tyX11 tyX11_ok inG_X11 rfl gw_1440 gw_1441 gw_103 def_X11 (Nat.le_of_ble_eq_true rfl) (Nat.le_of_ble_eq_true rfl) dL_law_8 ?_
  refine n_dup dL_law_11 rfl ?_
  refine n_init (n := 0) (As := []) (Z := bkX10 g 0 ++ bkX11 g (bkX10 g 0).length) rfl gw_1442 gw_1443 gw_103 gw_1444 (by decide +kernel) (by decide +kernel) (I_X11 (g := g) (bkX10 g 0)) rfl rfl (Nat.le_of_ble_eq_true rfl) dL_law_12 ⟨⟨rfl, rfl, (Nat.le_of_ble_eq_true rfl), (Nat.le_of_ble_eq_true rfl)⟩, (Nat.le_of_ble_eq_true rfl), (Nat.le_of_ble_eq_true rfl)⟩ ?_
  rw [len_X10]
  refine n_astore_n dL_law_15 rfl (by decide) rfl ?_
  refine n_iconst (v := 1) dL_law_16 (by decide) ?_
  refine n_newa (atype := .long) (i := 3) (ty := .long) (N := 1) (a0 := (1, .inr (.inl (fun _ => 0)))) gw_1941 rfl (fun _ => rfl) (fun _ _ h => h) (fun _ => rfl) (by decide) (by decide) (Nat.le_of_ble_eq_true rfl) (Nat.le_of_ble_eq_true rfl) (Nat.le_of_ble_eq_true rfl) dL_law_17 ?_
  rw [show (bkX10 g 0 ++ bkX11 g 141).length = 150 by rw [List.length_append, len_X10, len_X11]]
  refine n_astore_n dL_law_19 rfl (by decide) rfl ?_
  refine n_iconst (v := 1) dL_law_20 (by decide) ?_
  refine n_newa (atype := .double) (i := 4) (ty := .double) (N := 1) (a0 := (1, .inr (.inr (.inr (.inl (fun _ => 0)))))) gw_1942 rfl (fun _ => rfl) (fun _ _ h => h) (fun _ => rfl) (by decide) (by decide) (Nat.le_of_ble_eq_true rfl) (Nat.le_of_ble_eq_true rfl) (Nat.le_of_ble_eq_true rfl) dL_law_21 ?_
  rw [show ((bkX10 g 0 ++ bkX11 g 141) ++ [(.inl (g.2.2.1 3, 1, .inr (.inl (fun _ => 0))) : va_E)]).length = 151 by rw [List.length_append, List.length_append, len_X10, len_X11]; rfl]
  refine n_astore dL_law_23 (by decide) rfl ?_
  refine n_iconst (v := 0) dL_law_25 (by decide) ?_
  refine n_istore dL_law_26 (by decide) rfl ?_
  refine n_widen 152 2380 (Nat.le_of_ble_eq_true rfl) (Nat.le_of_ble_eq_true rfl) ?_
  exact fun p e s m args below meth c F hI H locs ls hW hS hl => k p e s m args below meth c F hI H locs ls hW hS (lv_sub hl [5, 4, 3, 2, 1, 0] rfl)
