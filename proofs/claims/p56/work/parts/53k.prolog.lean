/-! the law up to its loop -/
theorem gw_78 : Cond.classLink "FoldedArchiveLaw" 15 "FoldedArchive" ∈ GW := GW_t1 34 rfl rfl
theorem gw_80 : Cond.methodLink "FoldedArchiveLaw" 194 yX10_init ∈ GW := GW_t1 36 rfl rfl
theorem gw_81 : Cond.instanceMethod yX10_init ∈ GW := GW_t1 37 rfl rfl
theorem gw_79 : Cond.instantiable "FoldedArchive" 15 ∈ GW := GW_t1 35 rfl rfl
theorem gw_1650 : Cond.arrayClass Jvm.ClassFile.FieldType.long ∈ GW := GW_t7 166 rfl rfl
theorem def_X10 : ∀ j, j < 15 → defaultValue (tyX10 j) = vp_V [.null, .null, .null, .null, .null, .null, .null, .null, .null, .null, .int 0, .int 0, .int 0, .int 0, .int 0] j := fun j hj => by
  match j, hj with
  | 0, _ => rfl
  | 1, _ => rfl
  | 2, _ => rfl
  | 3, _ => rfl
  | 4, _ => rfl
  | 5, _ => rfl
  | 6, _ => rfl
  | 7, _ => rfl
  | 8, _ => rfl
  | 9, _ => rfl
  | 10, _ => rfl
  | 11, _ => rfl
  | 12, _ => rfl
  | 13, _ => rfl
  | 14, _ => rfl
  | j + 15, h => exact absurd h (by omega)
theorem dL_law_0 : decode cL_law 0 = .ok (.new 15, 3) := by decide +kernel
theorem dL_law_3 : decode cL_law 3 = .ok (.dup, 1) := by decide +kernel
theorem dL_law_4 : decode cL_law 4 = .ok (.invokespecial 194, 3) := by decide +kernel
theorem dL_law_7 : decode cL_law 7 = .ok (.astore_n 1, 1) := by decide +kernel
theorem dL_law_8 : decode cL_law 8 = .ok (.bipush 70, 2) := by decide +kernel
theorem dL_law_10 : decode cL_law 10 = .ok (.newarray .long, 2) := by decide +kernel
theorem dL_law_12 : decode cL_law 12 = .ok (.astore_n 2, 1) := by decide +kernel
def CC (g : GC) : List va_E := bkX10 g 0 ++ [.inl (g.2.2.1 3, 70, .inr (.inl (fun _ => 0)))]
set_option maxRecDepth 100000 in
theorem n_law {g : GC} {b : Nat} {Qf : List Frame → Array Value → State → State → Prop} (k : VN g cL_law 27 RL (some .boolean) false room_1 Qf 142 1352 13 [(0, .ref b), (1, .ref (g.2.1 + 0)), (2, .ref (g.2.1 + 141))] [] (CC g)) : VN g cL_law 27 RL (some .boolean) false room_1 Qf 0 0 0 [(0, .ref b)] [] [] := by
  refine n_new (ci := 10) (fs := [.null, .null, .null, .null, .null, .null, .null, .null, .null, .null, .int 0, .int 0, .int 0, .int 0, .int 0]) tyX10 tyX10_ok inG_X10 rfl gw_78 gw_79 gw_45 def_X10 (Nat.le_of_ble_eq_true rfl) (Nat.le_of_ble_eq_true rfl) dL_law_0 ?_
  refine n_dup dL_law_3 rfl ?_
  refine n_init (n := 0) (As := []) (Z := bkX10 g 0) rfl gw_80 gw_81 gw_45 gw_82 (by decide +kernel) (by decide +kernel) (I_X10 (g := g) []) rfl rfl (Nat.le_of_ble_eq_true rfl) dL_law_4 ⟨⟨rfl, rfl, (Nat.le_of_ble_eq_true rfl), (Nat.le_of_ble_eq_true rfl)⟩, (Nat.le_of_ble_eq_true rfl), (Nat.le_of_ble_eq_true rfl)⟩ ?_
  refine n_astore_n dL_law_7 rfl (by decide) rfl ?_
  refine n_bipush (v := 70) dL_law_8 (by decide) ?_
  refine n_newa (atype := .long) (i := 3) (ty := .long) (N := 70) (a0 := (70, .inr (.inl (fun _ => 0)))) gw_1650 rfl (fun _ => rfl) (fun _ _ h => h) (fun _ => rfl) (by decide) (by decide) (Nat.le_of_ble_eq_true rfl) (Nat.le_of_ble_eq_true rfl) (Nat.le_of_ble_eq_true rfl) dL_law_10 ?_
  rw [len_X10]
  refine n_astore_n dL_law_12 rfl (by decide) rfl ?_
  refine n_widen 142 1352 (Nat.le_of_ble_eq_true rfl) (Nat.le_of_ble_eq_true rfl) ?_
  exact fun p e s m args below meth c F hI H locs ls hW hS hl => k p e s m args below meth c F hI H locs ls hW hS (lv_sub hl [2, 1, 0] rfl)
