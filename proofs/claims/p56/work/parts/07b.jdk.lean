/-! The JDK's methods behind the law's texts -/
def sbC (d : Nat) (n : Nat) : va_E := .inr (11, [.ref d, .int 0, .int 0, .int (Int32.ofNat n)])
def byC (g : GC) (n : Nat) (f : Nat → Int32) : va_E := .inl (g.2.2.1 5, n, .inl f)
def is1 (v : Option Value) (ws : va_W) : Option Value → va_W → Prop := fun v' ws' => v' = v ∧ ws' = ws
theorem shr0 {x : Int32} : x >>> ((0 : Int32) &&& 31) = x := by rw [show (0 : Int32) &&& 31 = 0 from rfl]; exact Int32.shiftRight_zero
theorem shl0 {x : Int32} : x <<< ((0 : Int32) &&& 31) = x := by rw [show (0 : Int32) &&& 31 = 0 from rfl]; exact Int32.shiftLeft_zero
theorem tnI {n : Nat} (h : n < 2147483648) : (Int32.ofNat n).toNatClampNeg = n := Int32.toNatClampNeg_ofNat_of_lt h
theorem nnI {n : Nat} (h : n < 2147483648) : ¬ (Int32.ofNat n) < 0 := by
  have h2 : ¬ (Int32.ofNat n < Int32.ofNat 0) := by rw [Int32.ofNat_lt_iff_lt h (by omega)]; omega
  exact h2
theorem ens_B : ∀ k, k ≤ 16 → (Int32.ofNat k) - ((16 : Int32) >>> ((0 : Int32) &&& 31)) ≤ 0 := by decide +kernel
theorem ens_le {a b : Nat} (h : a + b ≤ 16) : Int32.ofNat a + Int32.ofNat b - ((16 : Int32) >>> ((0 : Int32) &&& 31)) ≤ 0 := by rw [← Int32.ofNat_add]; exact ens_B _ h
theorem ens_le1 {a : Nat} (h : a + 1 ≤ 16) : Int32.ofNat a + 1 - ((16 : Int32) >>> ((0 : Int32) &&& 31)) ≤ 0 := ens_le (b := 1) h
theorem ch_cases {c : Int32} (h : 0 ≤ c ∧ c ≤ 127) : ∃ k, k < 128 ∧ c = Int32.ofNat k := by
  refine ⟨c.toNatClampNeg, ?_, (Int32.ofNat_toNatClampNeg c h.1).symm⟩
  have h2 := Int32.le_iff_toInt_le.mp h.2
  have h3 : (127 : Int32).toInt = 127 := rfl
  have h4 := Int32.le_iff_toInt_le.mp h.1
  have h5 : (0 : Int32).toInt = 0 := rfl
  show c.toInt.toNat < 128
  omega
theorem ch_B : ∀ k, k < 128 → ¬ (255 < Int32.ofNat k) ∧ (Int32.ofNat k).toInt8.toInt32 = Int32.ofNat k ∧ vp_nar .byte (Int32.ofNat k) = Int32.ofNat k ∧ fits .byte (.int (Int32.ofNat k)) = true := by decide +kernel
theorem c127 {c : Int32} (h : 0 ≤ c ∧ c ≤ 127) : ¬ (255 < c) := by
  obtain ⟨k, hk, rfl⟩ := ch_cases h
  exact (ch_B k hk).1
theorem i2b127 {c : Int32} (h : 0 ≤ c ∧ c ≤ 127) : c.toInt8.toInt32 = c := by
  obtain ⟨k, hk, rfl⟩ := ch_cases h
  exact (ch_B k hk).2.1
theorem nar127 {c : Int32} (h : 0 ≤ c ∧ c ≤ 127) : vp_nar .byte c = c := by
  obtain ⟨k, hk, rfl⟩ := ch_cases h
  exact (ch_B k hk).2.2.1
theorem inN16 {n : Nat} (h : n + 1 ≤ 16) : vp_in (Int32.ofNat n) 16 := vp_in_nI (by omega) (by omega)
theorem sub1I {n : Nat} : Int32.ofNat (n + 1) + -1 = Int32.ofNat n := by rw [Int32.ofNat_add, show Int32.ofNat 1 = 1 from rfl, Int32.add_assoc, show (1 : Int32) + -1 = 0 from rfl, Int32.add_zero]
theorem sub2I {n : Nat} : Int32.ofNat (n + 2) + -1 + -1 = Int32.ofNat n := by rw [show n + 2 = n + 1 + 1 from rfl, sub1I, sub1I]
theorem sub2I' {n : Nat} : Int32.ofNat (n + 2) + -1 = Int32.ofNat (n + 1) := sub1I
theorem dk_B : ∀ k, k < 100 → ¬ (Int32.ofNat k < 0) ∧ (0 ≤ Int32.ofNat k) ∧ (-100 < -Int32.ofNat k) ∧ (k < 10 → ¬ (-Int32.ofNat k ≤ -10) ∧ -9 ≤ -Int32.ofNat k) ∧ (10 ≤ k → -Int32.ofNat k ≤ -10 ∧ ¬ (-9 ≤ -Int32.ofNat k)) ∧ ¬ (-Int32.ofNat k ≤ 10 * -10) := by decide +kernel
theorem dk_nn {k : Nat} (h : k < 100) : ¬ (Int32.ofNat k < 0) := (dk_B k h).1
theorem dk_ge {k : Nat} (h : k < 100) : 0 ≤ Int32.ofNat k := (dk_B k h).2.1
theorem dk_100 {k : Nat} (h : k < 100) : -100 < -Int32.ofNat k := (dk_B k h).2.2.1
theorem dk_a {k : Nat} (h : k < 10) : ¬ (-Int32.ofNat k ≤ -10) := ((dk_B k (by omega)).2.2.2.1 h).1
theorem dk_9 {k : Nat} (h : k < 10) : -9 ≤ -Int32.ofNat k := ((dk_B k (by omega)).2.2.2.1 h).2
theorem dk_b {k : Nat} (h0 : 10 ≤ k) (h : k < 100) : -Int32.ofNat k ≤ -10 := ((dk_B k h).2.2.2.2.1 h0).1
theorem dk_10 {k : Nat} (h0 : 10 ≤ k) (h : k < 100) : ¬ (-9 ≤ -Int32.ofNat k) := ((dk_B k h).2.2.2.2.1 h0).2
theorem dk_c {k : Nat} (h : k < 100) : ¬ (-Int32.ofNat k ≤ 10 * -10) := (dk_B k h).2.2.2.2.2
theorem ofN127 {m : Nat} (h : m < 128) : (0 : Int32) ≤ Int32.ofNat m ∧ Int32.ofNat m ≤ 127 := (by decide +kernel : ∀ m, m < 128 → (0 : Int32) ≤ Int32.ofNat m ∧ Int32.ofNat m ≤ 127) m h
theorem dk_0 (k : Nat) : (0 : Int32) ≤ Int32.ofNat (48 + k % 10) ∧ Int32.ofNat (48 + k % 10) ≤ 127 := ofN127 (by omega)
theorem dk_1 {k : Nat} (h : k < 100) : (0 : Int32) ≤ Int32.ofNat (48 + k / 10) ∧ Int32.ofNat (48 + k / 10) ≤ 127 := ofN127 (by omega)
theorem nn0 {n : Nat} (h : n < 2147483648) : (0 : Int32) ≤ Int32.ofNat n := (Int32.ofNat_le_iff_le (a := 0) (by omega) h).mpr (Nat.zero_le n)
theorem ne16 {n : Nat} (h : n < 16) : ¬ (Int32.ofNat n = 16) := (by decide +kernel : ∀ n, n < 16 → ¬ (Int32.ofNat n = 16)) n h
theorem minI {n : Nat} (h : n ≤ 16) : (if Int32.ofNat n < 16 - 0 then Int32.ofNat n else 16 - 0) = Int32.ofNat n := (by decide +kernel : ∀ n, n ≤ 16 → (if Int32.ofNat n < 16 - 0 then Int32.ofNat n else 16 - 0) = Int32.ofNat n) n h
theorem cpy00 {f z : Nat → Int32} {n i : Nat} (h : i < n) : va_cpy f z 0 0 n i = f i := by
  unfold va_cpy
  rw [if_pos (by omega)]
  congr 1
  omega
theorem def_J0 : ∀ j, j < 4 → defaultValue (tyJ0 j) = vp_V [.null, .int 0, .int 0, .int 0] j := fun j hj => by
  match j, hj with
  | 0, _ => rfl
  | 1, _ => rfl
  | 2, _ => rfl
  | 3, _ => rfl
  | j + 4, h => exact absurd h (by omega)
theorem def_J4 : ∀ j, j < 4 → defaultValue (tyJ4 j) = vp_V [.null, .int 0, .int 0, .int 0] j := fun j hj => by
  match j, hj with
  | 0, _ => rfl
  | 1, _ => rfl
  | 2, _ => rfl
  | 3, _ => rfl
  | j + 4, h => exact absurd h (by omega)
theorem u_min {g : GC} {A : Nat → Prop} {sx : SX} {cc : ByteArray} {nL : Nat} {own : String} {rt : Option FieldType} {ini : Bool} {R : Room} {P : Option Value → va_W → Prop} {mc ms : Nat} {kc ks pc : Nat} {lv : List (Nat × Value)} {rest : List Value} {ws : va_W} {index : Nat} {x y : Int32} (h1 : Cond.methodLink own index Lib.Math.min.name ∈ GW) (h2 : Cond.static Lib.Math.min.name ∈ GW) (h3 : Cond.initialized "java/lang/Math" ∈ GW) (h4 : Cond.code Lib.Math.min.name Lib.Math.min.code 2 (some .int) ∈ GW) (hd : decode cc pc = .ok (.invokestatic index, 3)) (hf : 1 ≤ R.frames) (hlo : (rest.map fun v => v.category).sum + 13 ≤ R.locals) (hkc : kc ≤ R.cells) (hks : ks ≤ R.slots)
    (k : VU g A sx cc nL own rt ini R P mc ms kc ks (pc + 3) lv (.int (if y < x then y else x) :: rest) ws) : VU g A sx cc nL own rt ini R P mc ms kc ks pc lv (.int y :: .int x :: rest) ws :=
  fun p e s m args below meth c F H locs ls hP hD hS hl => va_mmin F.1 F.2.1 (by rw [F.2.2.1]; exact hl.1.symm) F.2.2.2.1 (F.2.2.2.2.1 _ h1) (F.2.2.2.2.1 _ h2) (F.2.2.2.2.1 _ h3) (F.2.2.2.2.1 _ h4) hf hlo hkc hks hd (k p e s m args below meth c F H locs ls hP hD hS hl)
theorem gw_970 : Cond.lays "java/lang/StringBuilder" "java/lang/AbstractStringBuilder" "value" "[B" ∈ GW := GW_t4 206 rfl rfl
theorem gw_972 : Cond.lays "java/lang/StringBuilder" "java/lang/AbstractStringBuilder" "coder" "B" ∈ GW := GW_t4 208 rfl rfl
theorem gw_974 : Cond.lays "java/lang/StringBuilder" "java/lang/AbstractStringBuilder" "maybeLatin1" "Z" ∈ GW := GW_t4 210 rfl rfl
theorem gw_976 : Cond.lays "java/lang/StringBuilder" "java/lang/AbstractStringBuilder" "count" "I" ∈ GW := GW_t4 212 rfl rfl
theorem inG_J4 : ∀ w ∈ u_ws RJ4 TJ4 4, w ∈ GW := by
  have e : u_ws RJ4 TJ4 4 = [u_lay RJ4 TJ4 0, u_lay RJ4 TJ4 1, u_lay RJ4 TJ4 2, u_lay RJ4 TJ4 3] := rfl
  rw [e]
  exact List.forall_mem_cons.mpr ⟨gw_970, List.forall_mem_cons.mpr ⟨gw_972, List.forall_mem_cons.mpr ⟨gw_974, List.forall_mem_cons.mpr ⟨gw_976, fun _ h => absurd h List.not_mem_nil⟩⟩⟩⟩
theorem gw_445 : Cond.laysFinal "java/lang/String" "java/lang/String" "value" "[B" ∈ GW := GW_t2 161 rfl rfl
theorem gw_447 : Cond.laysFinal "java/lang/String" "java/lang/String" "coder" "B" ∈ GW := GW_t2 163 rfl rfl
theorem gw_1182 : Cond.lays "java/lang/String" "java/lang/String" "hash" "I" ∈ GW := GW_t5 178 rfl rfl
theorem gw_1184 : Cond.lays "java/lang/String" "java/lang/String" "hashIsZero" "Z" ∈ GW := GW_t5 180 rfl rfl
theorem inG_J0 : ∀ w ∈ u_ws RJ0 TJ0 4, w ∈ GW := by
  have e : u_ws RJ0 TJ0 4 = [u_lay RJ0 TJ0 0, u_lay RJ0 TJ0 1, u_lay RJ0 TJ0 2, u_lay RJ0 TJ0 3] := rfl
  rw [e]
  exact List.forall_mem_cons.mpr ⟨gw_445, List.forall_mem_cons.mpr ⟨gw_447, List.forall_mem_cons.mpr ⟨gw_1182, List.forall_mem_cons.mpr ⟨gw_1184, fun _ h => absurd h List.not_mem_nil⟩⟩⟩⟩
theorem gw_957 : Cond.fieldLink "java/lang/AbstractStringBuilder" 18 "java/lang/String" "COMPACT_STRINGS" "Z" ∈ GW := GW_t4 193 rfl rfl
theorem gw_967 : Cond.fieldLink "java/lang/AbstractStringBuilder" 22 "java/lang/AbstractStringBuilder" "coder" "B" ∈ GW := GW_t4 203 rfl rfl
theorem gw_1024 : Cond.code yJ5_isLatin1_aae02 cJ5_isLatin1_aae02 1 (some .boolean) ∈ GW := GW_t5 20 rfl rfl
theorem gw_1197 : Cond.code yJ1_canEncode_fc78d cJ1_canEncode_fc78d 1 (some .boolean) ∈ GW := GW_t5 193 rfl rfl
theorem gw_966 : Cond.fieldLink "java/lang/AbstractStringBuilder" 15 "java/lang/AbstractStringBuilder" "value" "[B" ∈ GW := GW_t4 202 rfl rfl
theorem gw_994 : Cond.code yJ5_ensureCapacityInternal_d00df cJ5_ensureCapacityInternal_d00df 3 none ∈ GW := GW_t4 230 rfl rfl
theorem cj_J0_335 : CJ RJ0 335 yJ0_coder_7d493 cJ0_coder_7d493 1 (some .byte) 0 := ⟨gw_1055, gw_62, gw_1058, by decide +kernel, by decide +kernel⟩
theorem gw_1068 : Cond.methodLink "java/lang/AbstractStringBuilder" 40 yJ0_coder_7d493 ∈ GW := GW_t5 64 rfl rfl
theorem cj_J5_40 : CJ RJ5 40 yJ0_coder_7d493 cJ0_coder_7d493 1 (some .byte) 0 := ⟨gw_1068, gw_62, gw_1058, by decide +kernel, by decide +kernel⟩
theorem gw_1067 : Cond.code yJ5_inflateIfNeededFor_a7421 cJ5_inflateIfNeededFor_a7421 2 none ∈ GW := GW_t5 63 rfl rfl
theorem gw_1092 : Cond.methodLink "java/lang/String" 212 arraycopyName ∈ GW := GW_t5 88 rfl rfl
theorem gw_1091 : Cond.code yJ0_getBytes_840e7 cJ0_getBytes_840e7 4 none ∈ GW := GW_t5 87 rfl rfl
theorem gw_1064 : Cond.methodLink "java/lang/AbstractStringBuilder" 397 yJ5_inflateIfNeededFor_a7421 ∈ GW := GW_t5 60 rfl rfl
theorem gw_69 : Cond.initialized "java/lang/AbstractStringBuilder" ∈ GW := GW_t1 25 rfl rfl
theorem cj_J5_397 : CJ RJ5 397 yJ5_inflateIfNeededFor_a7421 cJ5_inflateIfNeededFor_a7421 2 none 1 := ⟨gw_1064, gw_69, gw_1067, by decide +kernel, by decide +kernel⟩
theorem gw_1066 : Cond.instanceMethod yJ5_inflateIfNeededFor_a7421 ∈ GW := GW_t5 62 rfl rfl
theorem sl_J5_inflateIfNeededFor_a7421 : ∀ (args : Array Value) (s : State), (∀ w ∈ GW, w.before args s = true) → (Cond.selects RJ4 yJ5_inflateIfNeededFor_a7421 yJ5_inflateIfNeededFor_a7421).before args s = true := fun _ _ h => h _ (GW_sp 2 rfl)
theorem gw_1088 : Cond.methodLink "java/lang/AbstractStringBuilder" 399 yJ0_getBytes_840e7 ∈ GW := GW_t5 84 rfl rfl
theorem cj_J5_399 : CJ RJ5 399 yJ0_getBytes_840e7 cJ0_getBytes_840e7 4 none 3 := ⟨gw_1088, gw_62, gw_1091, by decide +kernel, by decide +kernel⟩
theorem gw_1089 : Cond.instanceMethod yJ0_getBytes_840e7 ∈ GW := GW_t5 85 rfl rfl
theorem gw_1090 : Cond.selects yJ0_getBytes_840e7.cls yJ0_getBytes_840e7 yJ0_getBytes_840e7 ∈ GW := GW_t5 86 rfl rfl
theorem gw_1063 : Cond.code yJ5_putStringAt_47b60 cJ5_putStringAt_47b60 3 none ∈ GW := GW_t5 59 rfl rfl
theorem gw_1051 : Cond.methodLink "java/lang/AbstractStringBuilder" 32 yJ0_length_8abf5 ∈ GW := GW_t5 47 rfl rfl
theorem cj_J5_32 : CJ RJ5 32 yJ0_length_8abf5 cJ0_length_8abf5 1 (some .int) 0 := ⟨gw_1051, gw_62, gw_1054, by decide +kernel, by decide +kernel⟩
theorem gw_969 : Cond.fieldLink "java/lang/AbstractStringBuilder" 79 "java/lang/AbstractStringBuilder" "count" "I" ∈ GW := GW_t4 205 rfl rfl
theorem gw_991 : Cond.methodLink "java/lang/AbstractStringBuilder" 100 yJ5_ensureCapacityInternal_d00df ∈ GW := GW_t4 227 rfl rfl
theorem cj_J5_100 : CJ RJ5 100 yJ5_ensureCapacityInternal_d00df cJ5_ensureCapacityInternal_d00df 3 none 1 := ⟨gw_991, gw_69, gw_994, by decide +kernel, by decide +kernel⟩
theorem gw_993 : Cond.instanceMethod yJ5_ensureCapacityInternal_d00df ∈ GW := GW_t4 229 rfl rfl
theorem sl_J5_ensureCapacityInternal_d00df : ∀ (args : Array Value) (s : State), (∀ w ∈ GW, w.before args s = true) → (Cond.selects RJ4 yJ5_ensureCapacityInternal_d00df yJ5_ensureCapacityInternal_d00df).before args s = true := fun _ _ h => h _ (GW_sp 0 rfl)
theorem gw_1060 : Cond.methodLink "java/lang/AbstractStringBuilder" 208 yJ5_putStringAt_47b60 ∈ GW := GW_t5 56 rfl rfl
theorem cj_J5_208 : CJ RJ5 208 yJ5_putStringAt_47b60 cJ5_putStringAt_47b60 3 none 2 := ⟨gw_1060, gw_69, gw_1063, by decide +kernel, by decide +kernel⟩
theorem gw_1062 : Cond.instanceMethod yJ5_putStringAt_47b60 ∈ GW := GW_t5 58 rfl rfl
theorem sl_J5_putStringAt_47b60 : ∀ (args : Array Value) (s : State), (∀ w ∈ GW, w.before args s = true) → (Cond.selects RJ4 yJ5_putStringAt_47b60 yJ5_putStringAt_47b60).before args s = true := fun _ _ h => h _ (GW_sp 1 rfl)
theorem gw_986 : Cond.code yJ5_append_cf1ce cJ5_append_cf1ce 3 (some (.object "java/lang/AbstractStringBuilder")) ∈ GW := GW_t4 222 rfl rfl
theorem gw_984 : Cond.methodLink "java/lang/StringBuilder" 29 yJ5_append_cf1ce ∈ GW := GW_t4 220 rfl rfl
theorem cj_J4_29 : CJ RJ4 29 yJ5_append_cf1ce cJ5_append_cf1ce 3 (some (.object "java/lang/AbstractStringBuilder")) 1 := ⟨gw_984, gw_69, gw_986, by decide +kernel, by decide +kernel⟩
theorem gw_985 : Cond.instanceMethod yJ5_append_cf1ce ∈ GW := GW_t4 221 rfl rfl
theorem gw_1652 : Cond.sameMethod "java/lang/AbstractStringBuilder" "java/lang/AbstractStringBuilder" "append" "(Ljava/lang/String;)Ljava/lang/AbstractStringBuilder;" ∈ GW := GW_t7 168 rfl rfl
theorem gw_978 : Cond.superclass "java/lang/StringBuilder" "java/lang/AbstractStringBuilder" ∈ GW := GW_t4 214 rfl rfl
theorem gw_983 : Cond.code yJ4_append_15ec4 cJ4_append_15ec4 2 (some (.object "java/lang/StringBuilder")) ∈ GW := GW_t4 219 rfl rfl
theorem gw_1020 : Cond.methodLink "java/lang/AbstractStringBuilder" 83 yJ5_isLatin1_aae02 ∈ GW := GW_t5 16 rfl rfl
theorem cj_J5_83 : CJ RJ5 83 yJ5_isLatin1_aae02 cJ5_isLatin1_aae02 1 (some .boolean) 0 := ⟨gw_1020, gw_69, gw_1024, by decide +kernel, by decide +kernel⟩
theorem gw_1021 : Cond.instanceMethod yJ5_isLatin1_aae02 ∈ GW := GW_t5 17 rfl rfl
theorem gw_1023 : Cond.selects "java/lang/StringBuilder" yJ5_isLatin1_aae02 yJ5_isLatin1_aae02 ∈ GW := GW_t5 19 rfl rfl
theorem sl_J5_isLatin1_aae02 : ∀ (args : Array Value) (s : State), (∀ w ∈ GW, w.before args s = true) → (Cond.selects RJ4 yJ5_isLatin1_aae02 yJ5_isLatin1_aae02).before args s = true := fun _ _ h => h _ gw_1023
theorem gw_1195 : Cond.methodLink "java/lang/AbstractStringBuilder" 191 yJ1_canEncode_fc78d ∈ GW := GW_t5 191 rfl rfl
theorem cj_J5_191 : CJ RJ5 191 yJ1_canEncode_fc78d cJ1_canEncode_fc78d 1 (some .boolean) 1 := ⟨gw_1195, gw_75, gw_1197, by decide +kernel, by decide +kernel⟩
theorem gw_1196 : Cond.static yJ1_canEncode_fc78d ∈ GW := GW_t5 192 rfl rfl
theorem gw_1194 : Cond.code yJ5_append_3fe6f cJ5_append_3fe6f 2 (some (.object "java/lang/AbstractStringBuilder")) ∈ GW := GW_t5 190 rfl rfl
theorem gw_1192 : Cond.methodLink "java/lang/StringBuilder" 50 yJ5_append_3fe6f ∈ GW := GW_t5 188 rfl rfl
theorem cj_J4_50 : CJ RJ4 50 yJ5_append_3fe6f cJ5_append_3fe6f 2 (some (.object "java/lang/AbstractStringBuilder")) 1 := ⟨gw_1192, gw_69, gw_1194, by decide +kernel, by decide +kernel⟩
theorem gw_1193 : Cond.instanceMethod yJ5_append_3fe6f ∈ GW := GW_t5 189 rfl rfl
theorem gw_1660 : Cond.sameMethod "java/lang/AbstractStringBuilder" "java/lang/AbstractStringBuilder" "append" "(C)Ljava/lang/AbstractStringBuilder;" ∈ GW := GW_t7 176 rfl rfl
theorem gw_1191 : Cond.code yJ4_append_cf468 cJ4_append_cf468 2 (some (.object "java/lang/StringBuilder")) ∈ GW := GW_t5 187 rfl rfl
theorem gw_1103 : Cond.code yJ6_stringSize_0f7a4 cJ6_stringSize_0f7a4 4 (some .int) ∈ GW := GW_t5 99 rfl rfl
theorem gw_1107 : Cond.fieldLink "java/lang/Integer" 83 "java/lang/Integer" "DigitOnes" "[B" ∈ GW := GW_t5 103 rfl rfl
theorem gw_1106 : Cond.code yJ6_getChars_ba4f3 cJ6_getChars_ba4f3 7 (some .int) ∈ GW := GW_t5 102 rfl rfl
theorem gw_1109 : Cond.fieldLink "java/lang/Integer" 87 "java/lang/Integer" "DigitTens" "[B" ∈ GW := GW_t5 105 rfl rfl
theorem gw_1101 : Cond.methodLink "java/lang/AbstractStringBuilder" 245 yJ6_stringSize_0f7a4 ∈ GW := GW_t5 97 rfl rfl
theorem cj_J5_245 : CJ RJ5 245 yJ6_stringSize_0f7a4 cJ6_stringSize_0f7a4 4 (some .int) 1 := ⟨gw_1101, gw_67, gw_1103, by decide +kernel, by decide +kernel⟩
theorem gw_1102 : Cond.static yJ6_stringSize_0f7a4 ∈ GW := GW_t5 98 rfl rfl
theorem gw_1104 : Cond.methodLink "java/lang/AbstractStringBuilder" 248 yJ6_getChars_ba4f3 ∈ GW := GW_t5 100 rfl rfl
theorem cj_J5_248 : CJ RJ5 248 yJ6_getChars_ba4f3 cJ6_getChars_ba4f3 7 (some .int) 3 := ⟨gw_1104, gw_67, gw_1106, by decide +kernel, by decide +kernel⟩
theorem gw_1105 : Cond.static yJ6_getChars_ba4f3 ∈ GW := GW_t5 101 rfl rfl
theorem gw_1100 : Cond.code yJ5_append_c97b9 cJ5_append_c97b9 4 (some (.object "java/lang/AbstractStringBuilder")) ∈ GW := GW_t5 96 rfl rfl
theorem gw_1098 : Cond.methodLink "java/lang/StringBuilder" 53 yJ5_append_c97b9 ∈ GW := GW_t5 94 rfl rfl
theorem cj_J4_53 : CJ RJ4 53 yJ5_append_c97b9 cJ5_append_c97b9 4 (some (.object "java/lang/AbstractStringBuilder")) 1 := ⟨gw_1098, gw_69, gw_1100, by decide +kernel, by decide +kernel⟩
theorem gw_1099 : Cond.instanceMethod yJ5_append_c97b9 ∈ GW := GW_t5 95 rfl rfl
theorem gw_1659 : Cond.sameMethod "java/lang/AbstractStringBuilder" "java/lang/AbstractStringBuilder" "append" "(I)Ljava/lang/AbstractStringBuilder;" ∈ GW := GW_t7 175 rfl rfl
theorem gw_1097 : Cond.code yJ4_append_bf812 cJ4_append_bf812 2 (some (.object "java/lang/StringBuilder")) ∈ GW := GW_t5 93 rfl rfl
theorem gw_1137 : Cond.code yJ5_getValue_6d5f1 cJ5_getValue_6d5f1 1 (some (.array .byte)) ∈ GW := GW_t5 133 rfl rfl
theorem gw_1145 : Cond.code yJ5_length_8abf5 cJ5_length_8abf5 1 (some .int) ∈ GW := GW_t5 141 rfl rfl
theorem gw_1144 : Cond.methodLink "java/lang/StringBuilder" 343 yJ5_length_8abf5 ∈ GW := GW_t5 140 rfl rfl
theorem cj_J4_343 : CJ RJ4 343 yJ5_length_8abf5 cJ5_length_8abf5 1 (some .int) 0 := ⟨gw_1144, gw_69, gw_1145, by decide +kernel, by decide +kernel⟩
theorem gw_1139 : Cond.instanceMethod yJ5_length_8abf5 ∈ GW := GW_t5 135 rfl rfl
theorem gw_1140 : Cond.sameMethod "java/lang/AbstractStringBuilder" "java/lang/AbstractStringBuilder" "length" "()I" ∈ GW := GW_t5 136 rfl rfl
theorem gw_1143 : Cond.code yJ4_length_8abf5 cJ4_length_8abf5 1 (some .int) ∈ GW := GW_t5 139 rfl rfl
theorem gw_1155 : Cond.code yJ7_checkLength_df160 cJ7_checkLength_df160 2 none ∈ GW := GW_t5 151 rfl rfl
theorem gw_1153 : Cond.methodLink "java/util/Arrays" 343 yJ7_checkLength_df160 ∈ GW := GW_t5 149 rfl rfl
theorem gw_73 : Cond.initialized "java/util/Arrays" ∈ GW := GW_t1 29 rfl rfl
theorem cj_J7_343 : CJ RJ7 343 yJ7_checkLength_df160 cJ7_checkLength_df160 2 none 2 := ⟨gw_1153, gw_73, gw_1155, by decide +kernel, by decide +kernel⟩
theorem gw_1154 : Cond.static yJ7_checkLength_df160 ∈ GW := GW_t5 150 rfl rfl
theorem gw_444 : Cond.arrayClass Jvm.ClassFile.FieldType.byte ∈ GW := GW_t2 160 rfl rfl
theorem gw_1018 : Cond.methodLink "java/util/Arrays" 304 Lib.Math.min.name ∈ GW := GW_t5 14 rfl rfl
theorem gw_1019 : Cond.methodLink "java/util/Arrays" 150 arraycopyName ∈ GW := GW_t5 15 rfl rfl
theorem gw_1152 : Cond.code yJ7_copyOfRangeByte_39247 cJ7_copyOfRangeByte_39247 5 (some (.array .byte)) ∈ GW := GW_t5 148 rfl rfl
theorem gw_1150 : Cond.methodLink "java/util/Arrays" 339 yJ7_copyOfRangeByte_39247 ∈ GW := GW_t5 146 rfl rfl
theorem cj_J7_339 : CJ RJ7 339 yJ7_copyOfRangeByte_39247 cJ7_copyOfRangeByte_39247 5 (some (.array .byte)) 3 := ⟨gw_1150, gw_73, gw_1152, by decide +kernel, by decide +kernel⟩
theorem gw_1151 : Cond.static yJ7_copyOfRangeByte_39247 ∈ GW := GW_t5 147 rfl rfl
theorem gw_1149 : Cond.code yJ7_copyOfRange_39247 cJ7_copyOfRange_39247 3 (some (.array .byte)) ∈ GW := GW_t5 145 rfl rfl
theorem gw_1011 : Cond.methodLink "java/util/Arrays" 310 ⟨"[B","clone","()Ljava/lang/Object;"⟩ ∈ GW := GW_t5 7 rfl rfl
theorem gw_1012 : Cond.sameMethod "[B" "java/lang/Object" "clone" "()Ljava/lang/Object;" ∈ GW := GW_t5 8 rfl rfl
theorem gw_1013 : Cond.native ⟨"java/lang/Object","clone","()Ljava/lang/Object;"⟩ ∈ GW := GW_t5 9 rfl rfl
theorem gw_1014 : Cond.instanceMethod ⟨"java/lang/Object","clone","()Ljava/lang/Object;"⟩ ∈ GW := GW_t5 10 rfl rfl
theorem gw_1015 : Cond.selects "[B" ⟨"[B","clone","()Ljava/lang/Object;"⟩ ⟨"java/lang/Object","clone","()Ljava/lang/Object;"⟩ ∈ GW := GW_t5 11 rfl rfl
theorem gw_1017 : Cond.classLink "java/util/Arrays" 311 "[B" ∈ GW := GW_t5 13 rfl rfl
theorem gw_1132 : Cond.methodLink "java/lang/String" 1 ⟨"java/lang/Object","<init>","()V"⟩ ∈ GW := GW_t5 128 rfl rfl
theorem gw_84 : Cond.instanceMethod ⟨"java/lang/Object","<init>","()V"⟩ ∈ GW := GW_t1 40 rfl rfl
theorem gw_85 : Cond.code Lib.objectInit ⟨#[0xb1]⟩ 1 none ∈ GW := GW_t1 41 rfl rfl
theorem gw_1133 : Cond.methodLink "java/lang/String" 552 yJ5_getValue_6d5f1 ∈ GW := GW_t5 129 rfl rfl
theorem cj_J0_552 : CJ RJ0 552 yJ5_getValue_6d5f1 cJ5_getValue_6d5f1 1 (some (.array .byte)) 0 := ⟨gw_1133, gw_69, gw_1137, by decide +kernel, by decide +kernel⟩
theorem gw_1134 : Cond.instanceMethod yJ5_getValue_6d5f1 ∈ GW := GW_t5 130 rfl rfl
theorem gw_1136 : Cond.selects "java/lang/StringBuilder" yJ5_getValue_6d5f1 yJ5_getValue_6d5f1 ∈ GW := GW_t5 132 rfl rfl
theorem sl_J5_getValue_6d5f1 : ∀ (args : Array Value) (s : State), (∀ w ∈ GW, w.before args s = true) → (Cond.selects RJ4 yJ5_getValue_6d5f1 yJ5_getValue_6d5f1).before args s = true := fun _ _ h => h _ gw_1136
theorem gw_1138 : Cond.methodLink "java/lang/String" 549 yJ5_length_8abf5 ∈ GW := GW_t5 134 rfl rfl
theorem gw_1141 : Cond.selects "java/lang/StringBuilder" yJ5_length_8abf5 yJ4_length_8abf5 ∈ GW := GW_t5 137 rfl rfl
theorem gw_1142 : Cond.instanceMethod yJ4_length_8abf5 ∈ GW := GW_t5 138 rfl rfl
theorem gw_70 : Cond.initialized "java/lang/StringBuilder" ∈ GW := GW_t1 26 rfl rfl
theorem gw_1146 : Cond.methodLink "java/lang/String" 1047 yJ5_isLatin1_aae02 ∈ GW := GW_t5 142 rfl rfl
theorem cj_J0_1047 : CJ RJ0 1047 yJ5_isLatin1_aae02 cJ5_isLatin1_aae02 1 (some .boolean) 0 := ⟨gw_1146, gw_69, gw_1024, by decide +kernel, by decide +kernel⟩
theorem gw_1147 : Cond.methodLink "java/lang/String" 54 yJ7_copyOfRange_39247 ∈ GW := GW_t5 143 rfl rfl
theorem cj_J0_54 : CJ RJ0 54 yJ7_copyOfRange_39247 cJ7_copyOfRange_39247 3 (some (.array .byte)) 3 := ⟨gw_1147, gw_73, gw_1149, by decide +kernel, by decide +kernel⟩
theorem gw_1148 : Cond.static yJ7_copyOfRange_39247 ∈ GW := GW_t5 144 rfl rfl
theorem gw_1131 : Cond.code yJ0_init_db425 cJ0_init_db425 5 none ∈ GW := GW_t5 127 rfl rfl
theorem gw_1129 : Cond.methodLink "java/lang/String" 489 yJ0_init_db425 ∈ GW := GW_t5 125 rfl rfl
theorem cj_J0_489 : CJ RJ0 489 yJ0_init_db425 cJ0_init_db425 5 none 2 := ⟨gw_1129, gw_62, gw_1131, by decide +kernel, by decide +kernel⟩
theorem gw_1130 : Cond.instanceMethod yJ0_init_db425 ∈ GW := GW_t5 126 rfl rfl
theorem gw_1128 : Cond.code yJ0_init_81219 cJ0_init_81219 2 none ∈ GW := GW_t5 124 rfl rfl
theorem gw_1125 : Cond.classLink "java/lang/StringBuilder" 18 "java/lang/String" ∈ GW := GW_t5 121 rfl rfl
theorem gw_443 : Cond.instantiable "java/lang/String" 4 ∈ GW := GW_t2 159 rfl rfl
theorem gw_1126 : Cond.methodLink "java/lang/StringBuilder" 137 yJ0_init_81219 ∈ GW := GW_t5 122 rfl rfl
theorem cj_J4_137 : CJ RJ4 137 yJ0_init_81219 cJ0_init_81219 2 none 1 := ⟨gw_1126, gw_62, gw_1128, by decide +kernel, by decide +kernel⟩
theorem gw_1127 : Cond.instanceMethod yJ0_init_81219 ∈ GW := GW_t5 123 rfl rfl
theorem gw_1124 : Cond.code yJ4_toString_0e30d cJ4_toString_0e30d 1 (some (.object "java/lang/String")) ∈ GW := GW_t5 120 rfl rfl
theorem gw_956 : Cond.methodLink "java/lang/AbstractStringBuilder" 3 ⟨"java/lang/Object","<init>","()V"⟩ ∈ GW := GW_t4 192 rfl rfl
theorem gw_955 : Cond.code yJ5_init_d00df cJ5_init_d00df 2 none ∈ GW := GW_t4 191 rfl rfl
theorem gw_953 : Cond.methodLink "java/lang/StringBuilder" 1 yJ5_init_d00df ∈ GW := GW_t4 189 rfl rfl
theorem cj_J4_1 : CJ RJ4 1 yJ5_init_d00df cJ5_init_d00df 2 none 1 := ⟨gw_953, gw_69, gw_955, by decide +kernel, by decide +kernel⟩
theorem gw_954 : Cond.instanceMethod yJ5_init_d00df ∈ GW := GW_t4 190 rfl rfl
theorem gw_952 : Cond.code yJ4_init_da8c8 cJ4_init_da8c8 1 none ∈ GW := GW_t4 188 rfl rfl
theorem gw_981 : Cond.instanceMethod yJ4_append_15ec4 ∈ GW := GW_t4 217 rfl rfl
theorem zc_S {own : String} {index : Nat} (h : Cond.methodLink own index yJ4_append_15ec4 ∈ GW) : CJ own index yJ4_append_15ec4 cJ4_append_15ec4 2 (some (.object "java/lang/StringBuilder")) 1 := ⟨h, gw_70, gw_983, by decide +kernel, by decide +kernel⟩
theorem zi_S : Cond.instanceMethod yJ4_append_15ec4 ∈ GW := gw_981
theorem gw_1189 : Cond.instanceMethod yJ4_append_cf468 ∈ GW := GW_t5 185 rfl rfl
theorem zc_C {own : String} {index : Nat} (h : Cond.methodLink own index yJ4_append_cf468 ∈ GW) : CJ own index yJ4_append_cf468 cJ4_append_cf468 2 (some (.object "java/lang/StringBuilder")) 1 := ⟨h, gw_70, gw_1191, by decide +kernel, by decide +kernel⟩
theorem zi_C : Cond.instanceMethod yJ4_append_cf468 ∈ GW := gw_1189
theorem gw_1095 : Cond.instanceMethod yJ4_append_bf812 ∈ GW := GW_t5 91 rfl rfl
theorem zc_I {own : String} {index : Nat} (h : Cond.methodLink own index yJ4_append_bf812 ∈ GW) : CJ own index yJ4_append_bf812 cJ4_append_bf812 2 (some (.object "java/lang/StringBuilder")) 1 := ⟨h, gw_70, gw_1097, by decide +kernel, by decide +kernel⟩
theorem zi_I : Cond.instanceMethod yJ4_append_bf812 ∈ GW := gw_1095
theorem gw_1122 : Cond.instanceMethod yJ4_toString_0e30d ∈ GW := GW_t5 118 rfl rfl
theorem zc_T {own : String} {index : Nat} (h : Cond.methodLink own index yJ4_toString_0e30d ∈ GW) : CJ own index yJ4_toString_0e30d cJ4_toString_0e30d 1 (some (.object "java/lang/String")) 0 := ⟨h, gw_70, gw_1124, by decide +kernel, by decide +kernel⟩
theorem zi_T : Cond.instanceMethod yJ4_toString_0e30d ∈ GW := gw_1122
theorem gw_951 : Cond.instanceMethod yJ4_init_da8c8 ∈ GW := GW_t4 187 rfl rfl
theorem zc_N {own : String} {index : Nat} (h : Cond.methodLink own index yJ4_init_da8c8 ∈ GW) : CJ own index yJ4_init_da8c8 cJ4_init_da8c8 1 none 0 := ⟨h, gw_70, gw_952, by decide +kernel, by decide +kernel⟩
theorem zi_N : Cond.instanceMethod yJ4_init_da8c8 ∈ GW := gw_951
theorem gw_982 : Cond.selects yJ4_append_15ec4.cls yJ4_append_15ec4 yJ4_append_15ec4 ∈ GW := GW_t4 218 rfl rfl
theorem sl_J4_append_15ec4 : ∀ (args : Array Value) (s : State), (∀ w ∈ GW, w.before args s = true) → (Cond.selects RJ4 yJ4_append_15ec4 yJ4_append_15ec4).before args s = true := fun _ _ h => h _ gw_982
theorem gw_1190 : Cond.selects yJ4_append_cf468.cls yJ4_append_cf468 yJ4_append_cf468 ∈ GW := GW_t5 186 rfl rfl
theorem sl_J4_append_cf468 : ∀ (args : Array Value) (s : State), (∀ w ∈ GW, w.before args s = true) → (Cond.selects RJ4 yJ4_append_cf468 yJ4_append_cf468).before args s = true := fun _ _ h => h _ gw_1190
theorem gw_1096 : Cond.selects yJ4_append_bf812.cls yJ4_append_bf812 yJ4_append_bf812 ∈ GW := GW_t5 92 rfl rfl
theorem sl_J4_append_bf812 : ∀ (args : Array Value) (s : State), (∀ w ∈ GW, w.before args s = true) → (Cond.selects RJ4 yJ4_append_bf812 yJ4_append_bf812).before args s = true := fun _ _ h => h _ gw_1096
theorem gw_1123 : Cond.selects yJ4_toString_0e30d.cls yJ4_toString_0e30d yJ4_toString_0e30d ∈ GW := GW_t5 119 rfl rfl
theorem sl_J4_toString_0e30d : ∀ (args : Array Value) (s : State), (∀ w ∈ GW, w.before args s = true) → (Cond.selects RJ4 yJ4_toString_0e30d yJ4_toString_0e30d).before args s = true := fun _ _ h => h _ gw_1123
theorem gw_949 : Cond.instantiable "java/lang/StringBuilder" 4 ∈ GW := GW_t4 185 rfl rfl
theorem zn_inst : Cond.instantiable "java/lang/StringBuilder" 4 ∈ GW := gw_949
theorem zn_ini : Cond.initialized "java/lang/StringBuilder" ∈ GW := gw_70
theorem dJ0_getBytes_840e7_0 : decode cJ0_getBytes_840e7 0 = .ok (.aload_n 0, 1) := by decide +kernel
theorem dJ0_getBytes_840e7_1 : decode cJ0_getBytes_840e7 1 = .ok (.invokevirtual 335, 3) := by decide +kernel
theorem dJ0_getBytes_840e7_4 : decode cJ0_getBytes_840e7 4 = .ok (.iload_n 3, 1) := by decide +kernel
theorem dJ0_getBytes_840e7_5 : decode cJ0_getBytes_840e7 5 = .ok (.if_icmp .ne 23, 3) := by decide +kernel
theorem dJ0_getBytes_840e7_8 : decode cJ0_getBytes_840e7 8 = .ok (.aload_n 0, 1) := by decide +kernel
theorem dJ0_getBytes_840e7_9 : decode cJ0_getBytes_840e7 9 = .ok (.getfield 9, 3) := by decide +kernel
theorem dJ0_getBytes_840e7_12 : decode cJ0_getBytes_840e7 12 = .ok (.iconst 0, 1) := by decide +kernel
theorem dJ0_getBytes_840e7_13 : decode cJ0_getBytes_840e7 13 = .ok (.aload_n 1, 1) := by decide +kernel
theorem dJ0_getBytes_840e7_14 : decode cJ0_getBytes_840e7 14 = .ok (.iload_n 2, 1) := by decide +kernel
theorem dJ0_getBytes_840e7_15 : decode cJ0_getBytes_840e7 15 = .ok (.iload_n 3, 1) := by decide +kernel
theorem dJ0_getBytes_840e7_16 : decode cJ0_getBytes_840e7 16 = .ok (.ishl, 1) := by decide +kernel
theorem dJ0_getBytes_840e7_17 : decode cJ0_getBytes_840e7 17 = .ok (.aload_n 0, 1) := by decide +kernel
theorem dJ0_getBytes_840e7_18 : decode cJ0_getBytes_840e7 18 = .ok (.getfield 9, 3) := by decide +kernel
theorem dJ0_getBytes_840e7_21 : decode cJ0_getBytes_840e7 21 = .ok (.arraylength, 1) := by decide +kernel
theorem dJ0_getBytes_840e7_22 : decode cJ0_getBytes_840e7 22 = .ok (.invokestatic 212, 3) := by decide +kernel
theorem dJ0_getBytes_840e7_25 : decode cJ0_getBytes_840e7 25 = .ok (.goto 18, 3) := by decide +kernel
theorem dJ0_getBytes_840e7_43 : decode cJ0_getBytes_840e7 43 = .ok (.return_, 1) := by decide +kernel
theorem dJ0_init_81219_0 : decode cJ0_init_81219 0 = .ok (.aload_n 0, 1) := by decide +kernel
theorem dJ0_init_81219_1 : decode cJ0_init_81219 1 = .ok (.aload_n 1, 1) := by decide +kernel
theorem dJ0_init_81219_2 : decode cJ0_init_81219 2 = .ok (.aconst_null, 1) := by decide +kernel
theorem dJ0_init_81219_3 : decode cJ0_init_81219 3 = .ok (.invokespecial 489, 3) := by decide +kernel
theorem dJ0_init_81219_6 : decode cJ0_init_81219 6 = .ok (.return_, 1) := by decide +kernel
theorem dJ0_init_db425_0 : decode cJ0_init_db425 0 = .ok (.aload_n 0, 1) := by decide +kernel
theorem dJ0_init_db425_1 : decode cJ0_init_db425 1 = .ok (.invokespecial 1, 3) := by decide +kernel
theorem dJ0_init_db425_4 : decode cJ0_init_db425 4 = .ok (.aload_n 1, 1) := by decide +kernel
theorem dJ0_init_db425_5 : decode cJ0_init_db425 5 = .ok (.invokevirtual 552, 3) := by decide +kernel
theorem dJ0_init_db425_8 : decode cJ0_init_db425 8 = .ok (.astore_n 3, 1) := by decide +kernel
theorem dJ0_init_db425_9 : decode cJ0_init_db425 9 = .ok (.aload_n 1, 1) := by decide +kernel
theorem dJ0_init_db425_10 : decode cJ0_init_db425 10 = .ok (.invokevirtual 549, 3) := by decide +kernel
theorem dJ0_init_db425_13 : decode cJ0_init_db425 13 = .ok (.istore 4, 2) := by decide +kernel
theorem dJ0_init_db425_15 : decode cJ0_init_db425 15 = .ok (.aload_n 1, 1) := by decide +kernel
theorem dJ0_init_db425_16 : decode cJ0_init_db425 16 = .ok (.invokevirtual 1047, 3) := by decide +kernel
theorem dJ0_init_db425_19 : decode cJ0_init_db425 19 = .ok (.ifCond .eq 22, 3) := by decide +kernel
theorem dJ0_init_db425_22 : decode cJ0_init_db425 22 = .ok (.aload_n 0, 1) := by decide +kernel
theorem dJ0_init_db425_23 : decode cJ0_init_db425 23 = .ok (.iconst 0, 1) := by decide +kernel
theorem dJ0_init_db425_24 : decode cJ0_init_db425 24 = .ok (.putfield 15, 3) := by decide +kernel
theorem dJ0_init_db425_27 : decode cJ0_init_db425 27 = .ok (.aload_n 0, 1) := by decide +kernel
theorem dJ0_init_db425_28 : decode cJ0_init_db425 28 = .ok (.aload_n 3, 1) := by decide +kernel
theorem dJ0_init_db425_29 : decode cJ0_init_db425 29 = .ok (.iconst 0, 1) := by decide +kernel
theorem dJ0_init_db425_30 : decode cJ0_init_db425 30 = .ok (.iload 4, 2) := by decide +kernel
theorem dJ0_init_db425_32 : decode cJ0_init_db425 32 = .ok (.invokestatic 54, 3) := by decide +kernel
theorem dJ0_init_db425_35 : decode cJ0_init_db425 35 = .ok (.putfield 9, 3) := by decide +kernel
theorem dJ0_init_db425_38 : decode cJ0_init_db425 38 = .ok (.goto 59, 3) := by decide +kernel
theorem dJ0_init_db425_97 : decode cJ0_init_db425 97 = .ok (.return_, 1) := by decide +kernel
theorem dJ1_canEncode_fc78d_0 : decode cJ1_canEncode_fc78d 0 = .ok (.iload_n 0, 1) := by decide +kernel
theorem dJ1_canEncode_fc78d_1 : decode cJ1_canEncode_fc78d 1 = .ok (.sipush 255, 3) := by decide +kernel
theorem dJ1_canEncode_fc78d_4 : decode cJ1_canEncode_fc78d 4 = .ok (.if_icmp .gt 7, 3) := by decide +kernel
theorem dJ1_canEncode_fc78d_7 : decode cJ1_canEncode_fc78d 7 = .ok (.iconst 1, 1) := by decide +kernel
theorem dJ1_canEncode_fc78d_8 : decode cJ1_canEncode_fc78d 8 = .ok (.goto 4, 3) := by decide +kernel
theorem dJ1_canEncode_fc78d_12 : decode cJ1_canEncode_fc78d 12 = .ok (.ireturn, 1) := by decide +kernel
theorem dJ4_append_15ec4_0 : decode cJ4_append_15ec4 0 = .ok (.aload_n 0, 1) := by decide +kernel
theorem dJ4_append_15ec4_1 : decode cJ4_append_15ec4 1 = .ok (.aload_n 1, 1) := by decide +kernel
theorem dJ4_append_15ec4_2 : decode cJ4_append_15ec4 2 = .ok (.invokespecial 29, 3) := by decide +kernel
theorem dJ4_append_15ec4_5 : decode cJ4_append_15ec4 5 = .ok (.pop, 1) := by decide +kernel
theorem dJ4_append_15ec4_6 : decode cJ4_append_15ec4 6 = .ok (.aload_n 0, 1) := by decide +kernel
theorem dJ4_append_15ec4_7 : decode cJ4_append_15ec4 7 = .ok (.areturn, 1) := by decide +kernel
theorem dJ4_append_bf812_0 : decode cJ4_append_bf812 0 = .ok (.aload_n 0, 1) := by decide +kernel
theorem dJ4_append_bf812_1 : decode cJ4_append_bf812 1 = .ok (.iload_n 1, 1) := by decide +kernel
theorem dJ4_append_bf812_2 : decode cJ4_append_bf812 2 = .ok (.invokespecial 53, 3) := by decide +kernel
theorem dJ4_append_bf812_5 : decode cJ4_append_bf812 5 = .ok (.pop, 1) := by decide +kernel
theorem dJ4_append_bf812_6 : decode cJ4_append_bf812 6 = .ok (.aload_n 0, 1) := by decide +kernel
theorem dJ4_append_bf812_7 : decode cJ4_append_bf812 7 = .ok (.areturn, 1) := by decide +kernel
theorem dJ4_append_cf468_0 : decode cJ4_append_cf468 0 = .ok (.aload_n 0, 1) := by decide +kernel
theorem dJ4_append_cf468_1 : decode cJ4_append_cf468 1 = .ok (.iload_n 1, 1) := by decide +kernel
theorem dJ4_append_cf468_2 : decode cJ4_append_cf468 2 = .ok (.invokespecial 50, 3) := by decide +kernel
theorem dJ4_append_cf468_5 : decode cJ4_append_cf468 5 = .ok (.pop, 1) := by decide +kernel
theorem dJ4_append_cf468_6 : decode cJ4_append_cf468 6 = .ok (.aload_n 0, 1) := by decide +kernel
theorem dJ4_append_cf468_7 : decode cJ4_append_cf468 7 = .ok (.areturn, 1) := by decide +kernel
theorem dJ4_init_da8c8_0 : decode cJ4_init_da8c8 0 = .ok (.aload_n 0, 1) := by decide +kernel
theorem dJ4_init_da8c8_1 : decode cJ4_init_da8c8 1 = .ok (.bipush 16, 2) := by decide +kernel
theorem dJ4_init_da8c8_3 : decode cJ4_init_da8c8 3 = .ok (.invokespecial 1, 3) := by decide +kernel
theorem dJ4_init_da8c8_6 : decode cJ4_init_da8c8 6 = .ok (.return_, 1) := by decide +kernel
theorem dJ4_length_8abf5_0 : decode cJ4_length_8abf5 0 = .ok (.aload_n 0, 1) := by decide +kernel
theorem dJ4_length_8abf5_1 : decode cJ4_length_8abf5 1 = .ok (.invokespecial 343, 3) := by decide +kernel
theorem dJ4_length_8abf5_4 : decode cJ4_length_8abf5 4 = .ok (.ireturn, 1) := by decide +kernel
theorem dJ4_toString_0e30d_0 : decode cJ4_toString_0e30d 0 = .ok (.new 18, 3) := by decide +kernel
theorem dJ4_toString_0e30d_3 : decode cJ4_toString_0e30d 3 = .ok (.dup, 1) := by decide +kernel
theorem dJ4_toString_0e30d_4 : decode cJ4_toString_0e30d 4 = .ok (.aload_n 0, 1) := by decide +kernel
theorem dJ4_toString_0e30d_5 : decode cJ4_toString_0e30d 5 = .ok (.invokespecial 137, 3) := by decide +kernel
theorem dJ4_toString_0e30d_8 : decode cJ4_toString_0e30d 8 = .ok (.areturn, 1) := by decide +kernel
theorem dJ5_append_3fe6f_0 : decode cJ5_append_3fe6f 0 = .ok (.aload_n 0, 1) := by decide +kernel
theorem dJ5_append_3fe6f_1 : decode cJ5_append_3fe6f 1 = .ok (.aload_n 0, 1) := by decide +kernel
theorem dJ5_append_3fe6f_2 : decode cJ5_append_3fe6f 2 = .ok (.getfield 79, 3) := by decide +kernel
theorem dJ5_append_3fe6f_5 : decode cJ5_append_3fe6f 5 = .ok (.iconst 1, 1) := by decide +kernel
theorem dJ5_append_3fe6f_6 : decode cJ5_append_3fe6f 6 = .ok (.iadd, 1) := by decide +kernel
theorem dJ5_append_3fe6f_7 : decode cJ5_append_3fe6f 7 = .ok (.invokevirtual 100, 3) := by decide +kernel
theorem dJ5_append_3fe6f_10 : decode cJ5_append_3fe6f 10 = .ok (.aload_n 0, 1) := by decide +kernel
theorem dJ5_append_3fe6f_11 : decode cJ5_append_3fe6f 11 = .ok (.invokevirtual 83, 3) := by decide +kernel
theorem dJ5_append_3fe6f_14 : decode cJ5_append_3fe6f 14 = .ok (.ifCond .eq 31, 3) := by decide +kernel
theorem dJ5_append_3fe6f_17 : decode cJ5_append_3fe6f 17 = .ok (.iload_n 1, 1) := by decide +kernel
theorem dJ5_append_3fe6f_18 : decode cJ5_append_3fe6f 18 = .ok (.invokestatic 191, 3) := by decide +kernel
theorem dJ5_append_3fe6f_21 : decode cJ5_append_3fe6f 21 = .ok (.ifCond .eq 24, 3) := by decide +kernel
theorem dJ5_append_3fe6f_24 : decode cJ5_append_3fe6f 24 = .ok (.aload_n 0, 1) := by decide +kernel
theorem dJ5_append_3fe6f_25 : decode cJ5_append_3fe6f 25 = .ok (.getfield 15, 3) := by decide +kernel
theorem dJ5_append_3fe6f_28 : decode cJ5_append_3fe6f 28 = .ok (.aload_n 0, 1) := by decide +kernel
theorem dJ5_append_3fe6f_29 : decode cJ5_append_3fe6f 29 = .ok (.dup, 1) := by decide +kernel
theorem dJ5_append_3fe6f_30 : decode cJ5_append_3fe6f 30 = .ok (.getfield 79, 3) := by decide +kernel
theorem dJ5_append_3fe6f_33 : decode cJ5_append_3fe6f 33 = .ok (.dup_x1, 1) := by decide +kernel
theorem dJ5_append_3fe6f_34 : decode cJ5_append_3fe6f 34 = .ok (.iconst 1, 1) := by decide +kernel
theorem dJ5_append_3fe6f_35 : decode cJ5_append_3fe6f 35 = .ok (.iadd, 1) := by decide +kernel
theorem dJ5_append_3fe6f_36 : decode cJ5_append_3fe6f 36 = .ok (.putfield 79, 3) := by decide +kernel
theorem dJ5_append_3fe6f_39 : decode cJ5_append_3fe6f 39 = .ok (.iload_n 1, 1) := by decide +kernel
theorem dJ5_append_3fe6f_40 : decode cJ5_append_3fe6f 40 = .ok (.i2b, 1) := by decide +kernel
theorem dJ5_append_3fe6f_41 : decode cJ5_append_3fe6f 41 = .ok (.bastore, 1) := by decide +kernel
theorem dJ5_append_3fe6f_42 : decode cJ5_append_3fe6f 42 = .ok (.goto 33, 3) := by decide +kernel
theorem dJ5_append_3fe6f_75 : decode cJ5_append_3fe6f 75 = .ok (.aload_n 0, 1) := by decide +kernel
theorem dJ5_append_3fe6f_76 : decode cJ5_append_3fe6f 76 = .ok (.areturn, 1) := by decide +kernel
theorem dJ5_append_c97b9_0 : decode cJ5_append_c97b9 0 = .ok (.aload_n 0, 1) := by decide +kernel
theorem dJ5_append_c97b9_1 : decode cJ5_append_c97b9 1 = .ok (.getfield 79, 3) := by decide +kernel
theorem dJ5_append_c97b9_4 : decode cJ5_append_c97b9 4 = .ok (.istore_n 2, 1) := by decide +kernel
theorem dJ5_append_c97b9_5 : decode cJ5_append_c97b9 5 = .ok (.iload_n 2, 1) := by decide +kernel
theorem dJ5_append_c97b9_6 : decode cJ5_append_c97b9 6 = .ok (.iload_n 1, 1) := by decide +kernel
theorem dJ5_append_c97b9_7 : decode cJ5_append_c97b9 7 = .ok (.invokestatic 245, 3) := by decide +kernel
theorem dJ5_append_c97b9_10 : decode cJ5_append_c97b9 10 = .ok (.iadd, 1) := by decide +kernel
theorem dJ5_append_c97b9_11 : decode cJ5_append_c97b9 11 = .ok (.istore_n 3, 1) := by decide +kernel
theorem dJ5_append_c97b9_12 : decode cJ5_append_c97b9 12 = .ok (.aload_n 0, 1) := by decide +kernel
theorem dJ5_append_c97b9_13 : decode cJ5_append_c97b9 13 = .ok (.iload_n 3, 1) := by decide +kernel
theorem dJ5_append_c97b9_14 : decode cJ5_append_c97b9 14 = .ok (.invokevirtual 100, 3) := by decide +kernel
theorem dJ5_append_c97b9_17 : decode cJ5_append_c97b9 17 = .ok (.aload_n 0, 1) := by decide +kernel
theorem dJ5_append_c97b9_18 : decode cJ5_append_c97b9 18 = .ok (.invokevirtual 83, 3) := by decide +kernel
theorem dJ5_append_c97b9_21 : decode cJ5_append_c97b9 21 = .ok (.ifCond .eq 16, 3) := by decide +kernel
theorem dJ5_append_c97b9_24 : decode cJ5_append_c97b9 24 = .ok (.iload_n 1, 1) := by decide +kernel
theorem dJ5_append_c97b9_25 : decode cJ5_append_c97b9 25 = .ok (.iload_n 3, 1) := by decide +kernel
theorem dJ5_append_c97b9_26 : decode cJ5_append_c97b9 26 = .ok (.aload_n 0, 1) := by decide +kernel
theorem dJ5_append_c97b9_27 : decode cJ5_append_c97b9 27 = .ok (.getfield 15, 3) := by decide +kernel
theorem dJ5_append_c97b9_30 : decode cJ5_append_c97b9 30 = .ok (.invokestatic 248, 3) := by decide +kernel
theorem dJ5_append_c97b9_33 : decode cJ5_append_c97b9 33 = .ok (.pop, 1) := by decide +kernel
theorem dJ5_append_c97b9_34 : decode cJ5_append_c97b9 34 = .ok (.goto 14, 3) := by decide +kernel
theorem dJ5_append_c97b9_48 : decode cJ5_append_c97b9 48 = .ok (.aload_n 0, 1) := by decide +kernel
theorem dJ5_append_c97b9_49 : decode cJ5_append_c97b9 49 = .ok (.iload_n 3, 1) := by decide +kernel
theorem dJ5_append_c97b9_50 : decode cJ5_append_c97b9 50 = .ok (.putfield 79, 3) := by decide +kernel
theorem dJ5_append_c97b9_53 : decode cJ5_append_c97b9 53 = .ok (.aload_n 0, 1) := by decide +kernel
theorem dJ5_append_c97b9_54 : decode cJ5_append_c97b9 54 = .ok (.areturn, 1) := by decide +kernel
theorem dJ5_append_cf1ce_0 : decode cJ5_append_cf1ce 0 = .ok (.aload_n 1, 1) := by decide +kernel
theorem dJ5_append_cf1ce_1 : decode cJ5_append_cf1ce 1 = .ok (.ifnonnull 8, 3) := by decide +kernel
theorem dJ5_append_cf1ce_9 : decode cJ5_append_cf1ce 9 = .ok (.aload_n 1, 1) := by decide +kernel
theorem dJ5_append_cf1ce_10 : decode cJ5_append_cf1ce 10 = .ok (.invokevirtual 32, 3) := by decide +kernel
theorem dJ5_append_cf1ce_13 : decode cJ5_append_cf1ce 13 = .ok (.istore_n 2, 1) := by decide +kernel
theorem dJ5_append_cf1ce_14 : decode cJ5_append_cf1ce 14 = .ok (.aload_n 0, 1) := by decide +kernel
theorem dJ5_append_cf1ce_15 : decode cJ5_append_cf1ce 15 = .ok (.aload_n 0, 1) := by decide +kernel
theorem dJ5_append_cf1ce_16 : decode cJ5_append_cf1ce 16 = .ok (.getfield 79, 3) := by decide +kernel
theorem dJ5_append_cf1ce_19 : decode cJ5_append_cf1ce 19 = .ok (.iload_n 2, 1) := by decide +kernel
theorem dJ5_append_cf1ce_20 : decode cJ5_append_cf1ce 20 = .ok (.iadd, 1) := by decide +kernel
theorem dJ5_append_cf1ce_21 : decode cJ5_append_cf1ce 21 = .ok (.invokevirtual 100, 3) := by decide +kernel
theorem dJ5_append_cf1ce_24 : decode cJ5_append_cf1ce 24 = .ok (.aload_n 0, 1) := by decide +kernel
theorem dJ5_append_cf1ce_25 : decode cJ5_append_cf1ce 25 = .ok (.aload_n 0, 1) := by decide +kernel
theorem dJ5_append_cf1ce_26 : decode cJ5_append_cf1ce 26 = .ok (.getfield 79, 3) := by decide +kernel
theorem dJ5_append_cf1ce_29 : decode cJ5_append_cf1ce 29 = .ok (.aload_n 1, 1) := by decide +kernel
theorem dJ5_append_cf1ce_30 : decode cJ5_append_cf1ce 30 = .ok (.invokevirtual 208, 3) := by decide +kernel
theorem dJ5_append_cf1ce_33 : decode cJ5_append_cf1ce 33 = .ok (.aload_n 0, 1) := by decide +kernel
theorem dJ5_append_cf1ce_34 : decode cJ5_append_cf1ce 34 = .ok (.dup, 1) := by decide +kernel
theorem dJ5_append_cf1ce_35 : decode cJ5_append_cf1ce 35 = .ok (.getfield 79, 3) := by decide +kernel
theorem dJ5_append_cf1ce_38 : decode cJ5_append_cf1ce 38 = .ok (.iload_n 2, 1) := by decide +kernel
theorem dJ5_append_cf1ce_39 : decode cJ5_append_cf1ce 39 = .ok (.iadd, 1) := by decide +kernel
theorem dJ5_append_cf1ce_40 : decode cJ5_append_cf1ce 40 = .ok (.putfield 79, 3) := by decide +kernel
theorem dJ5_append_cf1ce_43 : decode cJ5_append_cf1ce 43 = .ok (.aload_n 0, 1) := by decide +kernel
theorem dJ5_append_cf1ce_44 : decode cJ5_append_cf1ce 44 = .ok (.areturn, 1) := by decide +kernel
theorem dJ5_ensureCapacityInternal_d00df_0 : decode cJ5_ensureCapacityInternal_d00df 0 = .ok (.aload_n 0, 1) := by decide +kernel
theorem dJ5_ensureCapacityInternal_d00df_1 : decode cJ5_ensureCapacityInternal_d00df 1 = .ok (.getfield 15, 3) := by decide +kernel
theorem dJ5_ensureCapacityInternal_d00df_4 : decode cJ5_ensureCapacityInternal_d00df 4 = .ok (.arraylength, 1) := by decide +kernel
theorem dJ5_ensureCapacityInternal_d00df_5 : decode cJ5_ensureCapacityInternal_d00df 5 = .ok (.aload_n 0, 1) := by decide +kernel
theorem dJ5_ensureCapacityInternal_d00df_6 : decode cJ5_ensureCapacityInternal_d00df 6 = .ok (.getfield 22, 3) := by decide +kernel
theorem dJ5_ensureCapacityInternal_d00df_9 : decode cJ5_ensureCapacityInternal_d00df 9 = .ok (.ishr, 1) := by decide +kernel
theorem dJ5_ensureCapacityInternal_d00df_10 : decode cJ5_ensureCapacityInternal_d00df 10 = .ok (.istore_n 2, 1) := by decide +kernel
theorem dJ5_ensureCapacityInternal_d00df_11 : decode cJ5_ensureCapacityInternal_d00df 11 = .ok (.iload_n 1, 1) := by decide +kernel
theorem dJ5_ensureCapacityInternal_d00df_12 : decode cJ5_ensureCapacityInternal_d00df 12 = .ok (.iload_n 2, 1) := by decide +kernel
theorem dJ5_ensureCapacityInternal_d00df_13 : decode cJ5_ensureCapacityInternal_d00df 13 = .ok (.isub, 1) := by decide +kernel
theorem dJ5_ensureCapacityInternal_d00df_14 : decode cJ5_ensureCapacityInternal_d00df 14 = .ok (.ifCond .le 24, 3) := by decide +kernel
theorem dJ5_ensureCapacityInternal_d00df_38 : decode cJ5_ensureCapacityInternal_d00df 38 = .ok (.return_, 1) := by decide +kernel
theorem dJ5_getValue_6d5f1_0 : decode cJ5_getValue_6d5f1 0 = .ok (.aload_n 0, 1) := by decide +kernel
theorem dJ5_getValue_6d5f1_1 : decode cJ5_getValue_6d5f1 1 = .ok (.getfield 15, 3) := by decide +kernel
theorem dJ5_getValue_6d5f1_4 : decode cJ5_getValue_6d5f1 4 = .ok (.areturn, 1) := by decide +kernel
theorem dJ5_inflateIfNeededFor_a7421_0 : decode cJ5_inflateIfNeededFor_a7421 0 = .ok (.getstatic 18, 3) := by decide +kernel
theorem dJ5_inflateIfNeededFor_a7421_3 : decode cJ5_inflateIfNeededFor_a7421 3 = .ok (.ifCond .eq 18, 3) := by decide +kernel
theorem dJ5_inflateIfNeededFor_a7421_6 : decode cJ5_inflateIfNeededFor_a7421 6 = .ok (.aload_n 0, 1) := by decide +kernel
theorem dJ5_inflateIfNeededFor_a7421_7 : decode cJ5_inflateIfNeededFor_a7421 7 = .ok (.getfield 22, 3) := by decide +kernel
theorem dJ5_inflateIfNeededFor_a7421_10 : decode cJ5_inflateIfNeededFor_a7421 10 = .ok (.aload_n 1, 1) := by decide +kernel
theorem dJ5_inflateIfNeededFor_a7421_11 : decode cJ5_inflateIfNeededFor_a7421 11 = .ok (.invokevirtual 40, 3) := by decide +kernel
theorem dJ5_inflateIfNeededFor_a7421_14 : decode cJ5_inflateIfNeededFor_a7421 14 = .ok (.if_icmp .eq 7, 3) := by decide +kernel
theorem dJ5_inflateIfNeededFor_a7421_21 : decode cJ5_inflateIfNeededFor_a7421 21 = .ok (.return_, 1) := by decide +kernel
theorem dJ5_init_d00df_0 : decode cJ5_init_d00df 0 = .ok (.aload_n 0, 1) := by decide +kernel
theorem dJ5_init_d00df_1 : decode cJ5_init_d00df 1 = .ok (.invokespecial 3, 3) := by decide +kernel
theorem dJ5_init_d00df_4 : decode cJ5_init_d00df 4 = .ok (.getstatic 18, 3) := by decide +kernel
theorem dJ5_init_d00df_7 : decode cJ5_init_d00df 7 = .ok (.ifCond .eq 18, 3) := by decide +kernel
theorem dJ5_init_d00df_10 : decode cJ5_init_d00df 10 = .ok (.aload_n 0, 1) := by decide +kernel
theorem dJ5_init_d00df_11 : decode cJ5_init_d00df 11 = .ok (.iload_n 1, 1) := by decide +kernel
theorem dJ5_init_d00df_12 : decode cJ5_init_d00df 12 = .ok (.newarray .byte, 2) := by decide +kernel
theorem dJ5_init_d00df_14 : decode cJ5_init_d00df 14 = .ok (.putfield 15, 3) := by decide +kernel
theorem dJ5_init_d00df_17 : decode cJ5_init_d00df 17 = .ok (.aload_n 0, 1) := by decide +kernel
theorem dJ5_init_d00df_18 : decode cJ5_init_d00df 18 = .ok (.iconst 0, 1) := by decide +kernel
theorem dJ5_init_d00df_19 : decode cJ5_init_d00df 19 = .ok (.putfield 22, 3) := by decide +kernel
theorem dJ5_init_d00df_22 : decode cJ5_init_d00df 22 = .ok (.goto 16, 3) := by decide +kernel
theorem dJ5_init_d00df_38 : decode cJ5_init_d00df 38 = .ok (.return_, 1) := by decide +kernel
theorem dJ5_isLatin1_aae02_0 : decode cJ5_isLatin1_aae02 0 = .ok (.getstatic 18, 3) := by decide +kernel
theorem dJ5_isLatin1_aae02_3 : decode cJ5_isLatin1_aae02 3 = .ok (.ifCond .eq 14, 3) := by decide +kernel
theorem dJ5_isLatin1_aae02_6 : decode cJ5_isLatin1_aae02 6 = .ok (.aload_n 0, 1) := by decide +kernel
theorem dJ5_isLatin1_aae02_7 : decode cJ5_isLatin1_aae02 7 = .ok (.getfield 22, 3) := by decide +kernel
theorem dJ5_isLatin1_aae02_10 : decode cJ5_isLatin1_aae02 10 = .ok (.ifCond .ne 7, 3) := by decide +kernel
theorem dJ5_isLatin1_aae02_13 : decode cJ5_isLatin1_aae02 13 = .ok (.iconst 1, 1) := by decide +kernel
theorem dJ5_isLatin1_aae02_14 : decode cJ5_isLatin1_aae02 14 = .ok (.goto 4, 3) := by decide +kernel
theorem dJ5_isLatin1_aae02_18 : decode cJ5_isLatin1_aae02 18 = .ok (.ireturn, 1) := by decide +kernel
theorem dJ5_length_8abf5_0 : decode cJ5_length_8abf5 0 = .ok (.aload_n 0, 1) := by decide +kernel
theorem dJ5_length_8abf5_1 : decode cJ5_length_8abf5 1 = .ok (.getfield 79, 3) := by decide +kernel
theorem dJ5_length_8abf5_4 : decode cJ5_length_8abf5 4 = .ok (.ireturn, 1) := by decide +kernel
theorem dJ5_putStringAt_47b60_0 : decode cJ5_putStringAt_47b60 0 = .ok (.aload_n 0, 1) := by decide +kernel
theorem dJ5_putStringAt_47b60_1 : decode cJ5_putStringAt_47b60 1 = .ok (.aload_n 2, 1) := by decide +kernel
theorem dJ5_putStringAt_47b60_2 : decode cJ5_putStringAt_47b60 2 = .ok (.invokevirtual 397, 3) := by decide +kernel
theorem dJ5_putStringAt_47b60_5 : decode cJ5_putStringAt_47b60 5 = .ok (.aload_n 2, 1) := by decide +kernel
theorem dJ5_putStringAt_47b60_6 : decode cJ5_putStringAt_47b60 6 = .ok (.aload_n 0, 1) := by decide +kernel
theorem dJ5_putStringAt_47b60_7 : decode cJ5_putStringAt_47b60 7 = .ok (.getfield 15, 3) := by decide +kernel
theorem dJ5_putStringAt_47b60_10 : decode cJ5_putStringAt_47b60 10 = .ok (.iload_n 1, 1) := by decide +kernel
theorem dJ5_putStringAt_47b60_11 : decode cJ5_putStringAt_47b60 11 = .ok (.aload_n 0, 1) := by decide +kernel
theorem dJ5_putStringAt_47b60_12 : decode cJ5_putStringAt_47b60 12 = .ok (.getfield 22, 3) := by decide +kernel
theorem dJ5_putStringAt_47b60_15 : decode cJ5_putStringAt_47b60 15 = .ok (.invokevirtual 399, 3) := by decide +kernel
theorem dJ5_putStringAt_47b60_18 : decode cJ5_putStringAt_47b60 18 = .ok (.return_, 1) := by decide +kernel
theorem dJ6_getChars_ba4f3_0 : decode cJ6_getChars_ba4f3 0 = .ok (.iload_n 1, 1) := by decide +kernel
theorem dJ6_getChars_ba4f3_1 : decode cJ6_getChars_ba4f3 1 = .ok (.istore 5, 2) := by decide +kernel
theorem dJ6_getChars_ba4f3_3 : decode cJ6_getChars_ba4f3 3 = .ok (.iload_n 0, 1) := by decide +kernel
theorem dJ6_getChars_ba4f3_4 : decode cJ6_getChars_ba4f3 4 = .ok (.ifCond .ge 7, 3) := by decide +kernel
theorem dJ6_getChars_ba4f3_11 : decode cJ6_getChars_ba4f3 11 = .ok (.iconst 0, 1) := by decide +kernel
theorem dJ6_getChars_ba4f3_12 : decode cJ6_getChars_ba4f3 12 = .ok (.istore 6, 2) := by decide +kernel
theorem dJ6_getChars_ba4f3_14 : decode cJ6_getChars_ba4f3 14 = .ok (.iload 6, 2) := by decide +kernel
theorem dJ6_getChars_ba4f3_16 : decode cJ6_getChars_ba4f3 16 = .ok (.ifCond .ne 6, 3) := by decide +kernel
theorem dJ6_getChars_ba4f3_19 : decode cJ6_getChars_ba4f3 19 = .ok (.iload_n 0, 1) := by decide +kernel
theorem dJ6_getChars_ba4f3_20 : decode cJ6_getChars_ba4f3 20 = .ok (.ineg, 1) := by decide +kernel
theorem dJ6_getChars_ba4f3_21 : decode cJ6_getChars_ba4f3 21 = .ok (.istore_n 0, 1) := by decide +kernel
theorem dJ6_getChars_ba4f3_22 : decode cJ6_getChars_ba4f3 22 = .ok (.iload_n 0, 1) := by decide +kernel
theorem dJ6_getChars_ba4f3_23 : decode cJ6_getChars_ba4f3 23 = .ok (.bipush (-100), 2) := by decide +kernel
theorem dJ6_getChars_ba4f3_25 : decode cJ6_getChars_ba4f3 25 = .ok (.if_icmp .gt 47, 3) := by decide +kernel
theorem dJ6_getChars_ba4f3_72 : decode cJ6_getChars_ba4f3 72 = .ok (.aload_n 2, 1) := by decide +kernel
theorem dJ6_getChars_ba4f3_73 : decode cJ6_getChars_ba4f3 73 = .ok (.iinc 5 (-1), 3) := by decide +kernel
theorem dJ6_getChars_ba4f3_76 : decode cJ6_getChars_ba4f3 76 = .ok (.iload 5, 2) := by decide +kernel
theorem dJ6_getChars_ba4f3_78 : decode cJ6_getChars_ba4f3 78 = .ok (.getstatic 83, 3) := by decide +kernel
theorem dJ6_getChars_ba4f3_81 : decode cJ6_getChars_ba4f3 81 = .ok (.iload_n 0, 1) := by decide +kernel
theorem dJ6_getChars_ba4f3_82 : decode cJ6_getChars_ba4f3 82 = .ok (.ineg, 1) := by decide +kernel
theorem dJ6_getChars_ba4f3_83 : decode cJ6_getChars_ba4f3 83 = .ok (.baload, 1) := by decide +kernel
theorem dJ6_getChars_ba4f3_84 : decode cJ6_getChars_ba4f3 84 = .ok (.bastore, 1) := by decide +kernel
theorem dJ6_getChars_ba4f3_85 : decode cJ6_getChars_ba4f3 85 = .ok (.iload_n 0, 1) := by decide +kernel
theorem dJ6_getChars_ba4f3_86 : decode cJ6_getChars_ba4f3 86 = .ok (.bipush (-9), 2) := by decide +kernel
theorem dJ6_getChars_ba4f3_88 : decode cJ6_getChars_ba4f3 88 = .ok (.if_icmp .ge 16, 3) := by decide +kernel
theorem dJ6_getChars_ba4f3_91 : decode cJ6_getChars_ba4f3 91 = .ok (.aload_n 2, 1) := by decide +kernel
theorem dJ6_getChars_ba4f3_92 : decode cJ6_getChars_ba4f3 92 = .ok (.iinc 5 (-1), 3) := by decide +kernel
theorem dJ6_getChars_ba4f3_95 : decode cJ6_getChars_ba4f3 95 = .ok (.iload 5, 2) := by decide +kernel
theorem dJ6_getChars_ba4f3_97 : decode cJ6_getChars_ba4f3 97 = .ok (.getstatic 87, 3) := by decide +kernel
theorem dJ6_getChars_ba4f3_100 : decode cJ6_getChars_ba4f3 100 = .ok (.iload_n 0, 1) := by decide +kernel
theorem dJ6_getChars_ba4f3_101 : decode cJ6_getChars_ba4f3 101 = .ok (.ineg, 1) := by decide +kernel
theorem dJ6_getChars_ba4f3_102 : decode cJ6_getChars_ba4f3 102 = .ok (.baload, 1) := by decide +kernel
theorem dJ6_getChars_ba4f3_103 : decode cJ6_getChars_ba4f3 103 = .ok (.bastore, 1) := by decide +kernel
theorem dJ6_getChars_ba4f3_104 : decode cJ6_getChars_ba4f3 104 = .ok (.iload 6, 2) := by decide +kernel
theorem dJ6_getChars_ba4f3_106 : decode cJ6_getChars_ba4f3 106 = .ok (.ifCond .eq 12, 3) := by decide +kernel
theorem dJ6_getChars_ba4f3_118 : decode cJ6_getChars_ba4f3 118 = .ok (.iload 5, 2) := by decide +kernel
theorem dJ6_getChars_ba4f3_120 : decode cJ6_getChars_ba4f3 120 = .ok (.ireturn, 1) := by decide +kernel
theorem dJ6_stringSize_0f7a4_0 : decode cJ6_stringSize_0f7a4 0 = .ok (.iconst 1, 1) := by decide +kernel
theorem dJ6_stringSize_0f7a4_1 : decode cJ6_stringSize_0f7a4 1 = .ok (.istore_n 1, 1) := by decide +kernel
theorem dJ6_stringSize_0f7a4_2 : decode cJ6_stringSize_0f7a4 2 = .ok (.iload_n 0, 1) := by decide +kernel
theorem dJ6_stringSize_0f7a4_3 : decode cJ6_stringSize_0f7a4 3 = .ok (.ifCond .lt 8, 3) := by decide +kernel
theorem dJ6_stringSize_0f7a4_6 : decode cJ6_stringSize_0f7a4 6 = .ok (.iconst 0, 1) := by decide +kernel
theorem dJ6_stringSize_0f7a4_7 : decode cJ6_stringSize_0f7a4 7 = .ok (.istore_n 1, 1) := by decide +kernel
theorem dJ6_stringSize_0f7a4_8 : decode cJ6_stringSize_0f7a4 8 = .ok (.iload_n 0, 1) := by decide +kernel
theorem dJ6_stringSize_0f7a4_9 : decode cJ6_stringSize_0f7a4 9 = .ok (.ineg, 1) := by decide +kernel
theorem dJ6_stringSize_0f7a4_10 : decode cJ6_stringSize_0f7a4 10 = .ok (.istore_n 0, 1) := by decide +kernel
theorem dJ6_stringSize_0f7a4_11 : decode cJ6_stringSize_0f7a4 11 = .ok (.bipush (-10), 2) := by decide +kernel
theorem dJ6_stringSize_0f7a4_13 : decode cJ6_stringSize_0f7a4 13 = .ok (.istore_n 2, 1) := by decide +kernel
theorem dJ6_stringSize_0f7a4_14 : decode cJ6_stringSize_0f7a4 14 = .ok (.iconst 1, 1) := by decide +kernel
theorem dJ6_stringSize_0f7a4_15 : decode cJ6_stringSize_0f7a4 15 = .ok (.istore_n 3, 1) := by decide +kernel
theorem dJ6_stringSize_0f7a4_16 : decode cJ6_stringSize_0f7a4 16 = .ok (.iload_n 3, 1) := by decide +kernel
theorem dJ6_stringSize_0f7a4_17 : decode cJ6_stringSize_0f7a4 17 = .ok (.bipush 10, 2) := by decide +kernel
theorem dJ6_stringSize_0f7a4_19 : decode cJ6_stringSize_0f7a4 19 = .ok (.if_icmp .ge 23, 3) := by decide +kernel
theorem dJ6_stringSize_0f7a4_22 : decode cJ6_stringSize_0f7a4 22 = .ok (.iload_n 0, 1) := by decide +kernel
theorem dJ6_stringSize_0f7a4_23 : decode cJ6_stringSize_0f7a4 23 = .ok (.iload_n 2, 1) := by decide +kernel
theorem dJ6_stringSize_0f7a4_24 : decode cJ6_stringSize_0f7a4 24 = .ok (.if_icmp .le 7, 3) := by decide +kernel
theorem dJ6_stringSize_0f7a4_27 : decode cJ6_stringSize_0f7a4 27 = .ok (.iload_n 3, 1) := by decide +kernel
theorem dJ6_stringSize_0f7a4_28 : decode cJ6_stringSize_0f7a4 28 = .ok (.iload_n 1, 1) := by decide +kernel
theorem dJ6_stringSize_0f7a4_29 : decode cJ6_stringSize_0f7a4 29 = .ok (.iadd, 1) := by decide +kernel
theorem dJ6_stringSize_0f7a4_30 : decode cJ6_stringSize_0f7a4 30 = .ok (.ireturn, 1) := by decide +kernel
theorem dJ6_stringSize_0f7a4_31 : decode cJ6_stringSize_0f7a4 31 = .ok (.bipush 10, 2) := by decide +kernel
theorem dJ6_stringSize_0f7a4_33 : decode cJ6_stringSize_0f7a4 33 = .ok (.iload_n 2, 1) := by decide +kernel
theorem dJ6_stringSize_0f7a4_34 : decode cJ6_stringSize_0f7a4 34 = .ok (.imul, 1) := by decide +kernel
theorem dJ6_stringSize_0f7a4_35 : decode cJ6_stringSize_0f7a4 35 = .ok (.istore_n 2, 1) := by decide +kernel
theorem dJ6_stringSize_0f7a4_36 : decode cJ6_stringSize_0f7a4 36 = .ok (.iinc 3 1, 3) := by decide +kernel
theorem dJ6_stringSize_0f7a4_39 : decode cJ6_stringSize_0f7a4 39 = .ok (.goto (-23), 3) := by decide +kernel
theorem dJ7_checkLength_df160_0 : decode cJ7_checkLength_df160 0 = .ok (.iload_n 1, 1) := by decide +kernel
theorem dJ7_checkLength_df160_1 : decode cJ7_checkLength_df160 1 = .ok (.iload_n 0, 1) := by decide +kernel
theorem dJ7_checkLength_df160_2 : decode cJ7_checkLength_df160 2 = .ok (.if_icmp .ge 35, 3) := by decide +kernel
theorem dJ7_checkLength_df160_37 : decode cJ7_checkLength_df160 37 = .ok (.return_, 1) := by decide +kernel
theorem dJ7_copyOfRangeByte_39247_0 : decode cJ7_copyOfRangeByte_39247 0 = .ok (.iload_n 1, 1) := by decide +kernel
theorem dJ7_copyOfRangeByte_39247_1 : decode cJ7_copyOfRangeByte_39247 1 = .ok (.iload_n 2, 1) := by decide +kernel
theorem dJ7_copyOfRangeByte_39247_2 : decode cJ7_copyOfRangeByte_39247 2 = .ok (.invokestatic 343, 3) := by decide +kernel
theorem dJ7_copyOfRangeByte_39247_5 : decode cJ7_copyOfRangeByte_39247 5 = .ok (.iload_n 2, 1) := by decide +kernel
theorem dJ7_copyOfRangeByte_39247_6 : decode cJ7_copyOfRangeByte_39247 6 = .ok (.iload_n 1, 1) := by decide +kernel
theorem dJ7_copyOfRangeByte_39247_7 : decode cJ7_copyOfRangeByte_39247 7 = .ok (.isub, 1) := by decide +kernel
theorem dJ7_copyOfRangeByte_39247_8 : decode cJ7_copyOfRangeByte_39247 8 = .ok (.istore_n 3, 1) := by decide +kernel
theorem dJ7_copyOfRangeByte_39247_9 : decode cJ7_copyOfRangeByte_39247 9 = .ok (.iload_n 3, 1) := by decide +kernel
theorem dJ7_copyOfRangeByte_39247_10 : decode cJ7_copyOfRangeByte_39247 10 = .ok (.newarray .byte, 2) := by decide +kernel
theorem dJ7_copyOfRangeByte_39247_12 : decode cJ7_copyOfRangeByte_39247 12 = .ok (.astore 4, 2) := by decide +kernel
theorem dJ7_copyOfRangeByte_39247_14 : decode cJ7_copyOfRangeByte_39247 14 = .ok (.aload_n 0, 1) := by decide +kernel
theorem dJ7_copyOfRangeByte_39247_15 : decode cJ7_copyOfRangeByte_39247 15 = .ok (.iload_n 1, 1) := by decide +kernel
theorem dJ7_copyOfRangeByte_39247_16 : decode cJ7_copyOfRangeByte_39247 16 = .ok (.aload 4, 2) := by decide +kernel
theorem dJ7_copyOfRangeByte_39247_18 : decode cJ7_copyOfRangeByte_39247 18 = .ok (.iconst 0, 1) := by decide +kernel
theorem dJ7_copyOfRangeByte_39247_19 : decode cJ7_copyOfRangeByte_39247 19 = .ok (.aload_n 0, 1) := by decide +kernel
theorem dJ7_copyOfRangeByte_39247_20 : decode cJ7_copyOfRangeByte_39247 20 = .ok (.arraylength, 1) := by decide +kernel
theorem dJ7_copyOfRangeByte_39247_21 : decode cJ7_copyOfRangeByte_39247 21 = .ok (.iload_n 1, 1) := by decide +kernel
theorem dJ7_copyOfRangeByte_39247_22 : decode cJ7_copyOfRangeByte_39247 22 = .ok (.isub, 1) := by decide +kernel
theorem dJ7_copyOfRangeByte_39247_23 : decode cJ7_copyOfRangeByte_39247 23 = .ok (.iload_n 3, 1) := by decide +kernel
theorem dJ7_copyOfRangeByte_39247_24 : decode cJ7_copyOfRangeByte_39247 24 = .ok (.invokestatic 304, 3) := by decide +kernel
theorem dJ7_copyOfRangeByte_39247_27 : decode cJ7_copyOfRangeByte_39247 27 = .ok (.invokestatic 150, 3) := by decide +kernel
theorem dJ7_copyOfRangeByte_39247_30 : decode cJ7_copyOfRangeByte_39247 30 = .ok (.aload 4, 2) := by decide +kernel
theorem dJ7_copyOfRangeByte_39247_32 : decode cJ7_copyOfRangeByte_39247 32 = .ok (.areturn, 1) := by decide +kernel
theorem dJ7_copyOfRange_39247_0 : decode cJ7_copyOfRange_39247 0 = .ok (.iload_n 1, 1) := by decide +kernel
theorem dJ7_copyOfRange_39247_1 : decode cJ7_copyOfRange_39247 1 = .ok (.ifCond .ne 9, 3) := by decide +kernel
theorem dJ7_copyOfRange_39247_4 : decode cJ7_copyOfRange_39247 4 = .ok (.iload_n 2, 1) := by decide +kernel
theorem dJ7_copyOfRange_39247_5 : decode cJ7_copyOfRange_39247 5 = .ok (.aload_n 0, 1) := by decide +kernel
theorem dJ7_copyOfRange_39247_6 : decode cJ7_copyOfRange_39247 6 = .ok (.arraylength, 1) := by decide +kernel
theorem dJ7_copyOfRange_39247_7 : decode cJ7_copyOfRange_39247 7 = .ok (.if_icmp .eq 10, 3) := by decide +kernel
theorem dJ7_copyOfRange_39247_10 : decode cJ7_copyOfRange_39247 10 = .ok (.aload_n 0, 1) := by decide +kernel
theorem dJ7_copyOfRange_39247_11 : decode cJ7_copyOfRange_39247 11 = .ok (.iload_n 1, 1) := by decide +kernel
theorem dJ7_copyOfRange_39247_12 : decode cJ7_copyOfRange_39247 12 = .ok (.iload_n 2, 1) := by decide +kernel
theorem dJ7_copyOfRange_39247_13 : decode cJ7_copyOfRange_39247 13 = .ok (.invokestatic 339, 3) := by decide +kernel
theorem dJ7_copyOfRange_39247_16 : decode cJ7_copyOfRange_39247 16 = .ok (.areturn, 1) := by decide +kernel
theorem dJ7_copyOfRange_39247_17 : decode cJ7_copyOfRange_39247 17 = .ok (.aload_n 0, 1) := by decide +kernel
theorem dJ7_copyOfRange_39247_18 : decode cJ7_copyOfRange_39247 18 = .ok (.invokevirtual 310, 3) := by decide +kernel
theorem dJ7_copyOfRange_39247_21 : decode cJ7_copyOfRange_39247 21 = .ok (.checkcast 311, 3) := by decide +kernel
theorem dJ7_copyOfRange_39247_24 : decode cJ7_copyOfRange_39247 24 = .ok (.areturn, 1) := by decide +kernel
set_option maxRecDepth 100000 in
theorem j_isLatin1 {g : GC} {A : Nat → Prop} {sx : SX} {b d n : Nat} {f : Nat → Int32} {r : va_W} : JM g A sx (.code yJ5_isLatin1_aae02 cJ5_isLatin1_aae02 1 (some .boolean)) yJ5_isLatin1_aae02 (rmL 1 0 0) 0 0 [.ref b] ((b, sbC d n) :: (d, byC g 16 f) :: r) (is1 (some (.int 1)) ((b, sbC d n) :: (d, byC g 16 f) :: r)) := by
  refine JM_of (ini := false) (own := RJ5) (by decide) gw_1024 rfl (fun h => by cases h) (Nat.le_of_ble_eq_true rfl) ?_ ⟨rfl, rfl⟩
  refine u_compact gw_957 dJ5_isLatin1_aae02_0 ?_
  refine u_if_eqF (tgt := 17) dJ5_isLatin1_aae02_3 (by decide) (by decide) ?_
  refine u_aload_n dJ5_isLatin1_aae02_6 rfl 0 rfl ?_
  refine u_get (q0 := 0) inG_J4 rfl (by decide : 1 < 4) gw_967 rfl rfl dJ5_isLatin1_aae02_7 ?_
  refine u_if_neF (tgt := 17) dJ5_isLatin1_aae02_10 (by decide) (rfl) ?_
  refine u_iconst (v := 1) dJ5_isLatin1_aae02_13 (by decide) ?_
  refine u_goto (tgt := 18) dJ5_isLatin1_aae02_14 (by decide) ?_
  exact u_zret dJ5_isLatin1_aae02_18 rfl rfl (by decide) (by decide) ⟨rfl, rfl⟩
set_option maxRecDepth 100000 in
theorem j_canEncode {g : GC} {A : Nat → Prop} {sx : SX} {c : Int32} {ws : va_W} (hc : ¬ (255 < c)) : JM g A sx (.code yJ1_canEncode_fc78d cJ1_canEncode_fc78d 1 (some .boolean)) yJ1_canEncode_fc78d (rmL 1 0 0) 0 0 [.int c] (ws) (is1 (some (.int 1)) ws) := by
  refine JM_of (ini := false) (own := RJ1) (by decide) gw_1197 rfl (fun h => by cases h) (Nat.le_of_ble_eq_true rfl) ?_ ⟨rfl, rfl⟩
  refine u_iload_n dJ1_canEncode_fc78d_0 rfl 0 rfl ?_
  refine u_sipush (v := 255) dJ1_canEncode_fc78d_1 (by decide) ?_
  refine u_icmp_gtF (tgt := 11) dJ1_canEncode_fc78d_4 (by decide) (hc) ?_
  refine u_iconst (v := 1) dJ1_canEncode_fc78d_7 (by decide) ?_
  refine u_goto (tgt := 12) dJ1_canEncode_fc78d_8 (by decide) ?_
  exact u_zret dJ1_canEncode_fc78d_12 rfl rfl (by decide) (by decide) ⟨rfl, rfl⟩
set_option maxRecDepth 100000 in
theorem j_ensure {g : GC} {A : Nat → Prop} {sx : SX} {b d n : Nat} {f : Nat → Int32} {r : va_W} {m : Int32} (hm : m - ((16 : Int32) >>> ((0 : Int32) &&& 31)) ≤ 0) : JM g A sx (.code yJ5_ensureCapacityInternal_d00df cJ5_ensureCapacityInternal_d00df 3 none) yJ5_ensureCapacityInternal_d00df (rmL 1 0 0) 0 0 [.ref b, .int m] ((b, sbC d n) :: (d, byC g 16 f) :: r) (is1 none ((b, sbC d n) :: (d, byC g 16 f) :: r)) := by
  refine JM_of (ini := false) (own := RJ5) (by decide) gw_994 rfl (fun h => by cases h) (Nat.le_of_ble_eq_true rfl) ?_ ⟨rfl, rfl⟩
  refine u_aload_n dJ5_ensureCapacityInternal_d00df_0 rfl 0 rfl ?_
  refine u_get (q0 := 0) inG_J4 rfl (by decide : 0 < 4) gw_966 rfl rfl dJ5_ensureCapacityInternal_d00df_1 ?_
  refine u_alen (q0 := 1) (v := 16) rfl rfl dJ5_ensureCapacityInternal_d00df_4 ?_
  refine u_aload_n dJ5_ensureCapacityInternal_d00df_5 rfl 0 rfl ?_
  refine u_get (q0 := 0) inG_J4 rfl (by decide : 1 < 4) gw_967 rfl rfl dJ5_ensureCapacityInternal_d00df_6 ?_
  refine u_ishr dJ5_ensureCapacityInternal_d00df_9 ?_
  refine u_istore_n dJ5_ensureCapacityInternal_d00df_10 rfl (Nat.le_of_ble_eq_true rfl) rfl ?_
  refine u_iload_n dJ5_ensureCapacityInternal_d00df_11 rfl 2 rfl ?_
  refine u_iload_n dJ5_ensureCapacityInternal_d00df_12 rfl 0 rfl ?_
  refine u_isub dJ5_ensureCapacityInternal_d00df_13 ?_
  refine u_if_leT (tgt := 38) dJ5_ensureCapacityInternal_d00df_14 (by decide) (hm) ?_
  exact u_vret dJ5_ensureCapacityInternal_d00df_38 rfl (by decide) (by decide) ⟨rfl, rfl⟩
set_option maxRecDepth 100000 in
theorem j_coder {g : GC} {A : Nat → Prop} {sx : SX} {x : Nat × Nat × List Int32} (hx : sx.1 = some x) {ws : va_W} : JM g A sx (.code yJ0_coder_7d493 cJ0_coder_7d493 1 (some .byte)) yJ0_coder_7d493 (rmL 1 0 0) 0 0 [.ref x.1] (ws) (is1 (some (.int 0)) ws) := by
  refine JM_of (ini := false) (own := RJ0) (by decide) gw_1058 rfl (fun h => by cases h) (Nat.le_of_ble_eq_true rfl) ?_ ⟨rfl, rfl⟩
  refine u_compact gw_1059 dJ0_coder_7d493_0 ?_
  refine u_if_eqF (tgt := 13) dJ0_coder_7d493_3 (by decide) (by decide) ?_
  refine u_aload_n dJ0_coder_7d493_6 rfl 0 rfl ?_
  refine u_strC hx gw_1181 dJ0_coder_7d493_7 ?_
  refine u_goto (tgt := 14) dJ0_coder_7d493_10 (by decide) ?_
  exact u_zret dJ0_coder_7d493_14 rfl rfl (by decide) (by decide) ⟨rfl, rfl⟩
set_option maxRecDepth 100000 in
theorem j_length {g : GC} {A : Nat → Prop} {sx : SX} {x : Nat × Nat × List Int32} (hx : sx.1 = some x) {ws : va_W} : JM g A sx (.code yJ0_length_8abf5 cJ0_length_8abf5 1 (some .int)) yJ0_length_8abf5 (rmL 2 0 0) 0 0 [.ref x.1] (ws) (is1 (some (.int (Int32.ofNat x.2.2.length))) ws) := by
  refine JM_of (ini := false) (own := RJ0) (by decide) gw_1054 rfl (fun h => by cases h) (Nat.le_of_ble_eq_true rfl) ?_ ⟨rfl, rfl⟩
  refine u_aload_n dJ0_length_8abf5_0 rfl 0 rfl ?_
  refine u_strV hx gw_1180 dJ0_length_8abf5_1 ?_
  refine u_strL hx dJ0_length_8abf5_4 ?_
  refine u_aload_n dJ0_length_8abf5_5 rfl 0 rfl ?_
  refine u_callStr (As := []) hx rfl cj_J0_335 gw_1056 gw_1057 (j_coder hx) rfl rfl (Nat.le_of_ble_eq_true rfl) dJ0_length_8abf5_6 (CR_rm (by decide) (by decide) (by decide) (by decide)) ?_
  rintro _ _ ⟨rfl, rfl⟩
  refine u_ishr dJ0_length_8abf5_9 ?_
  refine u_eq (st' := [.int (Int32.ofNat x.2.2.length)]) (by rw [shr0]) ?_
  exact u_iret dJ0_length_8abf5_10 rfl (by decide) (by decide) ⟨rfl, rfl⟩
set_option maxRecDepth 100000 in
theorem j_inflateIf {g : GC} {A : Nat → Prop} {sx : SX} {b d n : Nat} {f : Nat → Int32} {r : va_W} {x : Nat × Nat × List Int32} (hx : sx.1 = some x) : JM g A sx (.code yJ5_inflateIfNeededFor_a7421 cJ5_inflateIfNeededFor_a7421 2 none) yJ5_inflateIfNeededFor_a7421 (rmL 2 0 0) 0 0 [.ref b, .ref x.1] ((b, sbC d n) :: (d, byC g 16 f) :: r) (is1 none ((b, sbC d n) :: (d, byC g 16 f) :: r)) := by
  refine JM_of (ini := false) (own := RJ5) (by decide) gw_1067 rfl (fun h => by cases h) (Nat.le_of_ble_eq_true rfl) ?_ ⟨rfl, rfl⟩
  refine u_compact gw_957 dJ5_inflateIfNeededFor_a7421_0 ?_
  refine u_if_eqF (tgt := 21) dJ5_inflateIfNeededFor_a7421_3 (by decide) (by decide) ?_
  refine u_aload_n dJ5_inflateIfNeededFor_a7421_6 rfl 0 rfl ?_
  refine u_get (q0 := 0) inG_J4 rfl (by decide : 1 < 4) gw_967 rfl rfl dJ5_inflateIfNeededFor_a7421_7 ?_
  refine u_aload_n dJ5_inflateIfNeededFor_a7421_10 rfl 1 rfl ?_
  refine u_callStr (As := []) hx rfl cj_J5_40 gw_1056 gw_1057 (j_coder hx) rfl rfl (Nat.le_of_ble_eq_true rfl) dJ5_inflateIfNeededFor_a7421_11 (CR_rm (by decide) (by decide) (by decide) (by decide)) ?_
  rintro _ _ ⟨rfl, rfl⟩
  refine u_icmp_eqT (tgt := 21) dJ5_inflateIfNeededFor_a7421_14 (by decide) (rfl) ?_
  exact u_vret dJ5_inflateIfNeededFor_a7421_21 rfl (by decide) (by decide) ⟨rfl, rfl⟩
set_option maxRecDepth 100000 in
theorem j_getBytes {g : GC} {A : Nat → Prop} {sx : SX} {b d n0 n : Nat} {f : Nat → Int32} {r : va_W} {x : Nat × Nat × List Int32} (hx : sx.1 = some x) (hn : n + x.2.2.length ≤ 16) (hfit : ∀ i, i < x.2.2.length → fits .byte (.int (x.2.2.getD i 0)) = true) : JM g A sx (.code yJ0_getBytes_840e7 cJ0_getBytes_840e7 4 none) yJ0_getBytes_840e7 (rmL 4 0 0) 0 0 [.ref x.1, .ref d, .int (Int32.ofNat n), .int 0] ((b, sbC d n0) :: (d, byC g 16 f) :: r) (is1 none ((b, sbC d n0) :: (d, byC g 16 (va_cpy (fun j => x.2.2.getD j 0) f 0 n x.2.2.length)) :: r)) := by
  refine JM_of (ini := false) (own := RJ0) (by decide) gw_1091 rfl (fun h => by cases h) (Nat.le_of_ble_eq_true rfl) ?_ ⟨rfl, rfl⟩
  refine u_aload_n dJ0_getBytes_840e7_0 rfl 0 rfl ?_
  refine u_callStr (As := []) hx rfl cj_J0_335 gw_1056 gw_1057 (j_coder hx) rfl rfl (Nat.le_of_ble_eq_true rfl) dJ0_getBytes_840e7_1 (CR_rm (by decide) (by decide) (by decide) (by decide)) ?_
  rintro _ _ ⟨rfl, rfl⟩
  refine u_iload_n dJ0_getBytes_840e7_4 rfl 3 rfl ?_
  refine u_icmp_neF (tgt := 28) dJ0_getBytes_840e7_5 (by decide) (rfl) ?_
  refine u_aload_n dJ0_getBytes_840e7_8 rfl 0 rfl ?_
  refine u_strV hx gw_1180 dJ0_getBytes_840e7_9 ?_
  refine u_iconst (v := 0) dJ0_getBytes_840e7_12 (by decide) ?_
  refine u_aload_n dJ0_getBytes_840e7_13 rfl 1 rfl ?_
  refine u_iload_n dJ0_getBytes_840e7_14 rfl 2 rfl ?_
  refine u_iload_n dJ0_getBytes_840e7_15 rfl 3 rfl ?_
  refine u_ishl dJ0_getBytes_840e7_16 ?_
  refine u_eq (st' := [.int (Int32.ofNat n), .ref d, .int 0, .ref x.2.1]) (by rw [shl0] <;> rfl) ?_
  refine u_aload_n dJ0_getBytes_840e7_17 rfl 0 rfl ?_
  refine u_strV hx gw_1180 dJ0_getBytes_840e7_18 ?_
  refine u_strL hx dJ0_getBytes_840e7_21 ?_
  refine u_copyT (q1 := 1) (ws' := (b, sbC d n0) :: (d, byC g 16 (va_cpy (fun j => x.2.2.getD j 0) f 0 n x.2.2.length)) :: r) hx gw_1092 gw_783 gw_782 gw_68 rfl (by decide) (nnI (by omega)) (nnI (by omega)) (by rw [tnI (by omega)]; exact Nat.le_of_eq (Nat.zero_add _)) (by rw [tnI (by omega), tnI (by omega)]; exact hn) (fun i hi => hfit _ (by rw [tnI (by omega)] at hi; exact (Nat.zero_add i).symm ▸ hi)) (Nat.le_of_ble_eq_true rfl) (by decide) (by rw [tnI (by omega), tnI (by omega)]; rfl) dJ0_getBytes_840e7_22 ?_
  refine u_goto (tgt := 43) dJ0_getBytes_840e7_25 (by decide) ?_
  exact u_vret dJ0_getBytes_840e7_43 rfl (by decide) (by decide) ⟨rfl, rfl⟩
set_option maxRecDepth 100000 in
theorem j_putStringAt {g : GC} {A : Nat → Prop} {sx : SX} {b d n0 n : Nat} {f : Nat → Int32} {r : va_W} {x : Nat × Nat × List Int32} (hx : sx.1 = some x) (hn : n + x.2.2.length ≤ 16) (hfit : ∀ i, i < x.2.2.length → fits .byte (.int (x.2.2.getD i 0)) = true) : JM g A sx (.code yJ5_putStringAt_47b60 cJ5_putStringAt_47b60 3 none) yJ5_putStringAt_47b60 (rmL 5 0 0) 0 0 [.ref b, .int (Int32.ofNat n), .ref x.1] ((b, sbC d n0) :: (d, byC g 16 f) :: r) (is1 none ((b, sbC d n0) :: (d, byC g 16 (va_cpy (fun j => x.2.2.getD j 0) f 0 n x.2.2.length)) :: r)) := by
  refine JM_of (ini := false) (own := RJ5) (by decide) gw_1063 rfl (fun h => by cases h) (Nat.le_of_ble_eq_true rfl) ?_ ⟨rfl, rfl⟩
  refine u_aload_n dJ5_putStringAt_47b60_0 rfl 0 rfl ?_
  refine u_aload_n dJ5_putStringAt_47b60_1 rfl 2 rfl ?_
  refine u_callV (q0 := 0) (As := [.ref x.1]) cj_J5_397 gw_1066 sl_J5_inflateIfNeededFor_a7421 (j_inflateIf hx) rfl rfl rfl rfl (Nat.le_of_ble_eq_true rfl) dJ5_putStringAt_47b60_2 (CR_rm (by decide) (by decide) (by decide) (by decide)) ?_
  rintro _ _ ⟨rfl, rfl⟩
  refine u_aload_n dJ5_putStringAt_47b60_5 rfl 2 rfl ?_
  refine u_aload_n dJ5_putStringAt_47b60_6 rfl 0 rfl ?_
  refine u_get (q0 := 0) inG_J4 rfl (by decide : 0 < 4) gw_966 rfl rfl dJ5_putStringAt_47b60_7 ?_
  refine u_iload_n dJ5_putStringAt_47b60_10 rfl 1 rfl ?_
  refine u_aload_n dJ5_putStringAt_47b60_11 rfl 0 rfl ?_
  refine u_get (q0 := 0) inG_J4 rfl (by decide : 1 < 4) gw_967 rfl rfl dJ5_putStringAt_47b60_12 ?_
  refine u_callStr (As := [.ref d, .int (Int32.ofNat n), .int 0]) hx rfl cj_J5_399 gw_1089 gw_1090 (j_getBytes hx hn hfit) rfl rfl (Nat.le_of_ble_eq_true rfl) dJ5_putStringAt_47b60_15 (CR_rm (by decide) (by decide) (by decide) (by decide)) ?_
  rintro _ _ ⟨rfl, rfl⟩
  exact u_vret dJ5_putStringAt_47b60_18 rfl (by decide) (by decide) ⟨rfl, rfl⟩
set_option maxRecDepth 100000 in
theorem j_asbS {g : GC} {A : Nat → Prop} {sx : SX} {b d n : Nat} {f : Nat → Int32} {r : va_W} {x : Nat × Nat × List Int32} (hx : sx.1 = some x) (hn : n + x.2.2.length ≤ 16) (hfit : ∀ i, i < x.2.2.length → fits .byte (.int (x.2.2.getD i 0)) = true) : JM g A sx (.code yJ5_append_cf1ce cJ5_append_cf1ce 3 (some (.object "java/lang/AbstractStringBuilder"))) yJ5_append_cf1ce (rmL 6 0 0) 0 0 [.ref b, .ref x.1] ((b, sbC d n) :: (d, byC g 16 f) :: r) (is1 (some (.ref b)) ((b, sbC d (n + x.2.2.length)) :: (d, byC g 16 (va_cpy (fun j => x.2.2.getD j 0) f 0 n x.2.2.length)) :: r)) := by
  refine JM_of (ini := false) (own := RJ5) (by decide) gw_986 rfl (fun h => by cases h) (Nat.le_of_ble_eq_true rfl) ?_ ⟨rfl, rfl⟩
  refine u_aload_n dJ5_append_cf1ce_0 rfl 1 rfl ?_
  refine u_ifnonnull (tgt := 9) dJ5_append_cf1ce_1 (by decide) ?_
  refine u_aload_n dJ5_append_cf1ce_9 rfl 1 rfl ?_
  refine u_callStr (As := []) hx rfl cj_J5_32 gw_1052 gw_1053 (j_length hx) rfl rfl (Nat.le_of_ble_eq_true rfl) dJ5_append_cf1ce_10 (CR_rm (by decide) (by decide) (by decide) (by decide)) ?_
  rintro _ _ ⟨rfl, rfl⟩
  refine u_istore_n dJ5_append_cf1ce_13 rfl (Nat.le_of_ble_eq_true rfl) rfl ?_
  refine u_aload_n dJ5_append_cf1ce_14 rfl 1 rfl ?_
  refine u_aload_n dJ5_append_cf1ce_15 rfl 1 rfl ?_
  refine u_get (q0 := 0) inG_J4 rfl (by decide : 3 < 4) gw_969 rfl rfl dJ5_append_cf1ce_16 ?_
  refine u_iload_n dJ5_append_cf1ce_19 rfl 0 rfl ?_
  refine u_iadd dJ5_append_cf1ce_20 ?_
  refine u_callV (q0 := 0) (As := [.int ((Int32.ofNat n) + (Int32.ofNat x.2.2.length))]) cj_J5_100 gw_993 sl_J5_ensureCapacityInternal_d00df (j_ensure (ens_le hn)) rfl rfl rfl rfl (Nat.le_of_ble_eq_true rfl) dJ5_append_cf1ce_21 (CR_rm (by decide) (by decide) (by decide) (by decide)) ?_
  rintro _ _ ⟨rfl, rfl⟩
  refine u_aload_n dJ5_append_cf1ce_24 rfl 1 rfl ?_
  refine u_aload_n dJ5_append_cf1ce_25 rfl 1 rfl ?_
  refine u_get (q0 := 0) inG_J4 rfl (by decide : 3 < 4) gw_969 rfl rfl dJ5_append_cf1ce_26 ?_
  refine u_aload_n dJ5_append_cf1ce_29 rfl 2 rfl ?_
  refine u_callV (q0 := 0) (As := [.int (Int32.ofNat n), .ref x.1]) cj_J5_208 gw_1062 sl_J5_putStringAt_47b60 (j_putStringAt hx hn hfit) rfl rfl rfl rfl (Nat.le_of_ble_eq_true rfl) dJ5_append_cf1ce_30 (CR_rm (by decide) (by decide) (by decide) (by decide)) ?_
  rintro _ _ ⟨rfl, rfl⟩
  refine u_aload_n dJ5_append_cf1ce_33 rfl 1 rfl ?_
  refine u_dup dJ5_append_cf1ce_34 rfl ?_
  refine u_get (q0 := 0) inG_J4 rfl (by decide : 3 < 4) gw_969 rfl rfl dJ5_append_cf1ce_35 ?_
  refine u_iload_n dJ5_append_cf1ce_38 rfl 0 rfl ?_
  refine u_iadd dJ5_append_cf1ce_39 ?_
  refine u_eq (st' := [.int (Int32.ofNat (n + x.2.2.length)), .ref b]) (by rw [Int32.ofNat_add] <;> rfl) ?_
  refine u_put (q0 := 0) (ty := .int) (ws' := (b, sbC d (n + x.2.2.length)) :: (d, byC g 16 (va_cpy (fun j => x.2.2.getD j 0) f 0 n x.2.2.length)) :: r) tyJ4 tyJ4_ok nmJ4 inG_J4 rfl (by decide : 3 < 4) gw_969 rfl (by decide +kernel) rfl rfl rfl (Nat.le_of_ble_eq_true rfl) rfl dJ5_append_cf1ce_40 ?_
  refine u_aload_n dJ5_append_cf1ce_43 rfl 1 rfl ?_
  exact u_aret dJ5_append_cf1ce_44 rfl (Or.inl ⟨_, rfl⟩) (by decide) (by decide) ⟨rfl, rfl⟩
set_option maxRecDepth 100000 in
theorem j_appS {g : GC} {A : Nat → Prop} {sx : SX} {b d n : Nat} {f : Nat → Int32} {r : va_W} {x : Nat × Nat × List Int32} (hx : sx.1 = some x) (hn : n + x.2.2.length ≤ 16) (hfit : ∀ i, i < x.2.2.length → fits .byte (.int (x.2.2.getD i 0)) = true) : JM g A sx (.code yJ4_append_15ec4 cJ4_append_15ec4 2 (some (.object "java/lang/StringBuilder"))) yJ4_append_15ec4 (rmL 7 0 0) 0 0 [.ref b, .ref x.1] ((b, sbC d n) :: (d, byC g 16 f) :: r) (is1 (some (.ref b)) ((b, sbC d (n + x.2.2.length)) :: (d, byC g 16 (va_cpy (fun j => x.2.2.getD j 0) f 0 n x.2.2.length)) :: r)) := by
  refine JM_of (ini := false) (own := RJ4) (by decide) gw_983 rfl (fun h => by cases h) (Nat.le_of_ble_eq_true rfl) ?_ ⟨rfl, rfl⟩
  refine u_aload_n dJ4_append_15ec4_0 rfl 0 rfl ?_
  refine u_aload_n dJ4_append_15ec4_1 rfl 1 rfl ?_
  refine u_callSU (q0 := 0) (As := [.ref x.1]) cj_J4_29 gw_985 gw_1652 gw_978 (by decide +kernel) (j_asbS hx hn hfit) rfl rfl rfl rfl (Nat.le_of_ble_eq_true rfl) dJ4_append_15ec4_2 (CR_rm (by decide) (by decide) (by decide) (by decide)) ?_
  rintro _ _ ⟨rfl, rfl⟩
  refine u_pop dJ4_append_15ec4_5 rfl ?_
  refine u_aload_n dJ4_append_15ec4_6 rfl 0 rfl ?_
  exact u_aret dJ4_append_15ec4_7 rfl (Or.inl ⟨_, rfl⟩) (by decide) (by decide) ⟨rfl, rfl⟩
set_option maxRecDepth 100000 in
theorem j_asbC {g : GC} {A : Nat → Prop} {sx : SX} {b d n : Nat} {f : Nat → Int32} {r : va_W} {c : Int32} (hn : n + 1 ≤ 16) (hc : 0 ≤ c ∧ c ≤ 127) : JM g A sx (.code yJ5_append_3fe6f cJ5_append_3fe6f 2 (some (.object "java/lang/AbstractStringBuilder"))) yJ5_append_3fe6f (rmL 2 0 0) 0 0 [.ref b, .int c] ((b, sbC d n) :: (d, byC g 16 f) :: r) (is1 (some (.ref b)) ((b, sbC d (n + 1)) :: (d, byC g 16 (upd f n c)) :: r)) := by
  refine JM_of (ini := false) (own := RJ5) (by decide) gw_1194 rfl (fun h => by cases h) (Nat.le_of_ble_eq_true rfl) ?_ ⟨rfl, rfl⟩
  refine u_aload_n dJ5_append_3fe6f_0 rfl 0 rfl ?_
  refine u_aload_n dJ5_append_3fe6f_1 rfl 0 rfl ?_
  refine u_get (q0 := 0) inG_J4 rfl (by decide : 3 < 4) gw_969 rfl rfl dJ5_append_3fe6f_2 ?_
  refine u_iconst (v := 1) dJ5_append_3fe6f_5 (by decide) ?_
  refine u_iadd dJ5_append_3fe6f_6 ?_
  refine u_callV (q0 := 0) (As := [.int ((Int32.ofNat n) + 1)]) cj_J5_100 gw_993 sl_J5_ensureCapacityInternal_d00df (j_ensure (ens_le1 hn)) rfl rfl rfl rfl (Nat.le_of_ble_eq_true rfl) dJ5_append_3fe6f_7 (CR_rm (by decide) (by decide) (by decide) (by decide)) ?_
  rintro _ _ ⟨rfl, rfl⟩
  refine u_aload_n dJ5_append_3fe6f_10 rfl 0 rfl ?_
  refine u_callV (q0 := 0) (As := []) cj_J5_83 gw_1021 sl_J5_isLatin1_aae02 j_isLatin1 rfl rfl rfl rfl (Nat.le_of_ble_eq_true rfl) dJ5_append_3fe6f_11 (CR_rm (by decide) (by decide) (by decide) (by decide)) ?_
  rintro _ _ ⟨rfl, rfl⟩
  refine u_if_eqF (tgt := 45) dJ5_append_3fe6f_14 (by decide) (by decide) ?_
  refine u_iload_n dJ5_append_3fe6f_17 rfl 1 rfl ?_
  refine u_callS (As := [.int c]) cj_J5_191 gw_1196 (j_canEncode (c127 hc)) rfl rfl (Nat.le_of_ble_eq_true rfl) dJ5_append_3fe6f_18 (CR_rm (by decide) (by decide) (by decide) (by decide)) ?_
  rintro _ _ ⟨rfl, rfl⟩
  refine u_if_eqF (tgt := 45) dJ5_append_3fe6f_21 (by decide) (by decide) ?_
  refine u_aload_n dJ5_append_3fe6f_24 rfl 0 rfl ?_
  refine u_get (q0 := 0) inG_J4 rfl (by decide : 0 < 4) gw_966 rfl rfl dJ5_append_3fe6f_25 ?_
  refine u_aload_n dJ5_append_3fe6f_28 rfl 0 rfl ?_
  refine u_dup dJ5_append_3fe6f_29 rfl ?_
  refine u_get (q0 := 0) inG_J4 rfl (by decide : 3 < 4) gw_969 rfl rfl dJ5_append_3fe6f_30 ?_
  refine u_dup_x1 dJ5_append_3fe6f_33 rfl rfl ?_
  refine u_iconst (v := 1) dJ5_append_3fe6f_34 (by decide) ?_
  refine u_iadd dJ5_append_3fe6f_35 ?_
  refine u_eq (st' := [.int (Int32.ofNat (n + 1)), .ref b, .int (Int32.ofNat n), .ref d]) (by rw [Int32.ofNat_add] <;> rfl) ?_
  refine u_put (q0 := 0) (ty := .int) (ws' := (b, sbC d (n + 1)) :: (d, byC g 16 f) :: r) tyJ4 tyJ4_ok nmJ4 inG_J4 rfl (by decide : 3 < 4) gw_969 rfl (by decide +kernel) rfl rfl rfl (Nat.le_of_ble_eq_true rfl) rfl dJ5_append_3fe6f_36 ?_
  refine u_iload_n dJ5_append_3fe6f_39 rfl 1 rfl ?_
  refine u_i2b (v := c) dJ5_append_3fe6f_40 (i2b127 hc) ?_
  refine u_bast (q0 := 1) (ws' := (b, sbC d (n + 1)) :: (d, byC g 16 (upd f n c)) :: r) rfl (inN16 hn) (by rw [tnI (by omega), nar127 hc]; rfl) dJ5_append_3fe6f_41 ?_
  refine u_goto (tgt := 75) dJ5_append_3fe6f_42 (by decide) ?_
  refine u_aload_n dJ5_append_3fe6f_75 rfl 0 rfl ?_
  exact u_aret dJ5_append_3fe6f_76 rfl (Or.inl ⟨_, rfl⟩) (by decide) (by decide) ⟨rfl, rfl⟩
set_option maxRecDepth 100000 in
theorem j_appC {g : GC} {A : Nat → Prop} {sx : SX} {b d n : Nat} {f : Nat → Int32} {r : va_W} {c : Int32} (hn : n + 1 ≤ 16) (hc : 0 ≤ c ∧ c ≤ 127) : JM g A sx (.code yJ4_append_cf468 cJ4_append_cf468 2 (some (.object "java/lang/StringBuilder"))) yJ4_append_cf468 (rmL 3 0 0) 0 0 [.ref b, .int c] ((b, sbC d n) :: (d, byC g 16 f) :: r) (is1 (some (.ref b)) ((b, sbC d (n + 1)) :: (d, byC g 16 (upd f n c)) :: r)) := by
  refine JM_of (ini := false) (own := RJ4) (by decide) gw_1191 rfl (fun h => by cases h) (Nat.le_of_ble_eq_true rfl) ?_ ⟨rfl, rfl⟩
  refine u_aload_n dJ4_append_cf468_0 rfl 0 rfl ?_
  refine u_iload_n dJ4_append_cf468_1 rfl 1 rfl ?_
  refine u_callSU (q0 := 0) (As := [.int c]) cj_J4_50 gw_1193 gw_1660 gw_978 (by decide +kernel) (j_asbC hn hc) rfl rfl rfl rfl (Nat.le_of_ble_eq_true rfl) dJ4_append_cf468_2 (CR_rm (by decide) (by decide) (by decide) (by decide)) ?_
  rintro _ _ ⟨rfl, rfl⟩
  refine u_pop dJ4_append_cf468_5 rfl ?_
  refine u_aload_n dJ4_append_cf468_6 rfl 0 rfl ?_
  exact u_aret dJ4_append_cf468_7 rfl (Or.inl ⟨_, rfl⟩) (by decide) (by decide) ⟨rfl, rfl⟩
set_option maxRecDepth 100000 in
theorem j_size1 {g : GC} {A : Nat → Prop} {sx : SX} {k : Nat} {ws : va_W} (hk : k < 10) : JM g A sx (.code yJ6_stringSize_0f7a4 cJ6_stringSize_0f7a4 4 (some .int)) yJ6_stringSize_0f7a4 (rmL 1 0 0) 0 0 [.int (Int32.ofNat k)] (ws) (is1 (some (.int 1)) ws) := by
  refine JM_of (ini := false) (own := RJ6) (by decide) gw_1103 rfl (fun h => by cases h) (Nat.le_of_ble_eq_true rfl) ?_ ⟨rfl, rfl⟩
  refine u_iconst (v := 1) dJ6_stringSize_0f7a4_0 (by decide) ?_
  refine u_istore_n dJ6_stringSize_0f7a4_1 rfl (Nat.le_of_ble_eq_true rfl) rfl ?_
  refine u_iload_n dJ6_stringSize_0f7a4_2 rfl 1 rfl ?_
  refine u_if_ltF (tgt := 11) dJ6_stringSize_0f7a4_3 (by decide) (dk_nn (Nat.lt_trans hk (by decide))) ?_
  refine u_iconst (v := 0) dJ6_stringSize_0f7a4_6 (by decide) ?_
  refine u_istore_n dJ6_stringSize_0f7a4_7 rfl (Nat.le_of_ble_eq_true rfl) rfl ?_
  refine u_iload_n dJ6_stringSize_0f7a4_8 rfl 1 rfl ?_
  refine u_ineg dJ6_stringSize_0f7a4_9 ?_
  refine u_istore_n dJ6_stringSize_0f7a4_10 rfl (Nat.le_of_ble_eq_true rfl) rfl ?_
  refine u_bipush (v := (-10)) dJ6_stringSize_0f7a4_11 (by decide) ?_
  refine u_istore_n dJ6_stringSize_0f7a4_13 rfl (Nat.le_of_ble_eq_true rfl) rfl ?_
  refine u_iconst (v := 1) dJ6_stringSize_0f7a4_14 (by decide) ?_
  refine u_istore_n dJ6_stringSize_0f7a4_15 rfl (Nat.le_of_ble_eq_true rfl) rfl ?_
  refine u_iload_n dJ6_stringSize_0f7a4_16 rfl 0 rfl ?_
  refine u_bipush (v := 10) dJ6_stringSize_0f7a4_17 (by decide) ?_
  refine u_icmp_geF (tgt := 42) dJ6_stringSize_0f7a4_19 (by decide) (by decide) ?_
  refine u_iload_n dJ6_stringSize_0f7a4_22 rfl 2 rfl ?_
  refine u_iload_n dJ6_stringSize_0f7a4_23 rfl 1 rfl ?_
  refine u_icmp_leF (tgt := 31) dJ6_stringSize_0f7a4_24 (by decide) (dk_a hk) ?_
  refine u_iload_n dJ6_stringSize_0f7a4_27 rfl 0 rfl ?_
  refine u_iload_n dJ6_stringSize_0f7a4_28 rfl 3 rfl ?_
  refine u_iadd dJ6_stringSize_0f7a4_29 ?_
  refine u_eq (st' := [.int 1]) (rfl) ?_
  exact u_iret dJ6_stringSize_0f7a4_30 rfl (by decide) (by decide) ⟨rfl, rfl⟩
set_option maxRecDepth 100000 in
theorem j_size2 {g : GC} {A : Nat → Prop} {sx : SX} {k : Nat} {ws : va_W} (hk0 : 10 ≤ k) (hk : k < 100) : JM g A sx (.code yJ6_stringSize_0f7a4 cJ6_stringSize_0f7a4 4 (some .int)) yJ6_stringSize_0f7a4 (rmL 1 0 0) 0 0 [.int (Int32.ofNat k)] (ws) (is1 (some (.int 2)) ws) := by
  refine JM_of (ini := false) (own := RJ6) (by decide) gw_1103 rfl (fun h => by cases h) (Nat.le_of_ble_eq_true rfl) ?_ ⟨rfl, rfl⟩
  refine u_iconst (v := 1) dJ6_stringSize_0f7a4_0 (by decide) ?_
  refine u_istore_n dJ6_stringSize_0f7a4_1 rfl (Nat.le_of_ble_eq_true rfl) rfl ?_
  refine u_iload_n dJ6_stringSize_0f7a4_2 rfl 1 rfl ?_
  refine u_if_ltF (tgt := 11) dJ6_stringSize_0f7a4_3 (by decide) (dk_nn hk) ?_
  refine u_iconst (v := 0) dJ6_stringSize_0f7a4_6 (by decide) ?_
  refine u_istore_n dJ6_stringSize_0f7a4_7 rfl (Nat.le_of_ble_eq_true rfl) rfl ?_
  refine u_iload_n dJ6_stringSize_0f7a4_8 rfl 1 rfl ?_
  refine u_ineg dJ6_stringSize_0f7a4_9 ?_
  refine u_istore_n dJ6_stringSize_0f7a4_10 rfl (Nat.le_of_ble_eq_true rfl) rfl ?_
  refine u_bipush (v := (-10)) dJ6_stringSize_0f7a4_11 (by decide) ?_
  refine u_istore_n dJ6_stringSize_0f7a4_13 rfl (Nat.le_of_ble_eq_true rfl) rfl ?_
  refine u_iconst (v := 1) dJ6_stringSize_0f7a4_14 (by decide) ?_
  refine u_istore_n dJ6_stringSize_0f7a4_15 rfl (Nat.le_of_ble_eq_true rfl) rfl ?_
  refine u_iload_n dJ6_stringSize_0f7a4_16 rfl 0 rfl ?_
  refine u_bipush (v := 10) dJ6_stringSize_0f7a4_17 (by decide) ?_
  refine u_icmp_geF (tgt := 42) dJ6_stringSize_0f7a4_19 (by decide) (by decide) ?_
  refine u_iload_n dJ6_stringSize_0f7a4_22 rfl 2 rfl ?_
  refine u_iload_n dJ6_stringSize_0f7a4_23 rfl 1 rfl ?_
  refine u_icmp_leT (tgt := 31) dJ6_stringSize_0f7a4_24 (by decide) (dk_b hk0 hk) ?_
  refine u_bipush (v := 10) dJ6_stringSize_0f7a4_31 (by decide) ?_
  refine u_iload_n dJ6_stringSize_0f7a4_33 rfl 1 rfl ?_
  refine u_imul dJ6_stringSize_0f7a4_34 ?_
  refine u_istore_n dJ6_stringSize_0f7a4_35 rfl (Nat.le_of_ble_eq_true rfl) rfl ?_
  refine u_iinc (v := (1 + 1)) dJ6_stringSize_0f7a4_36 (q := 1) rfl rfl (Nat.le_of_ble_eq_true rfl) rfl ?_
  refine u_goto (tgt := 16) dJ6_stringSize_0f7a4_39 (by decide) ?_
  refine u_iload_n dJ6_stringSize_0f7a4_16 rfl 0 rfl ?_
  refine u_bipush (v := 10) dJ6_stringSize_0f7a4_17 (by decide) ?_
  refine u_icmp_geF (tgt := 42) dJ6_stringSize_0f7a4_19 (by decide) (by decide) ?_
  refine u_iload_n dJ6_stringSize_0f7a4_22 rfl 2 rfl ?_
  refine u_iload_n dJ6_stringSize_0f7a4_23 rfl 1 rfl ?_
  refine u_icmp_leF (tgt := 31) dJ6_stringSize_0f7a4_24 (by decide) (dk_c hk) ?_
  refine u_iload_n dJ6_stringSize_0f7a4_27 rfl 0 rfl ?_
  refine u_iload_n dJ6_stringSize_0f7a4_28 rfl 3 rfl ?_
  refine u_iadd dJ6_stringSize_0f7a4_29 ?_
  refine u_eq (st' := [.int 2]) (rfl) ?_
  exact u_iret dJ6_stringSize_0f7a4_30 rfl (by decide) (by decide) ⟨rfl, rfl⟩
set_option maxRecDepth 100000 in
theorem j_gc1 {g : GC} {A : Nat → Prop} {sx : SX} {b d n k : Nat} {f : Nat → Int32} {r : va_W} (hk : k < 10) (hn : n + 1 ≤ 16) : JM g A sx (.code yJ6_getChars_ba4f3 cJ6_getChars_ba4f3 7 (some .int)) yJ6_getChars_ba4f3 (rmL 2 0 0) 0 0 [.int (Int32.ofNat k), .int (Int32.ofNat (n + 1)), .ref d] ((b, sbC d n) :: (d, byC g 16 f) :: r) (is1 (some (.int (Int32.ofNat n))) ((b, sbC d n) :: (d, byC g 16 (upd f n (Int32.ofNat (48 + k % 10)))) :: r)) := by
  refine JM_of (ini := false) (own := RJ6) (by decide) gw_1106 rfl (fun h => by cases h) (Nat.le_of_ble_eq_true rfl) ?_ ⟨rfl, rfl⟩
  refine u_iload_n dJ6_getChars_ba4f3_0 rfl 1 rfl ?_
  refine u_istore dJ6_getChars_ba4f3_1 (Nat.le_of_ble_eq_true rfl) rfl ?_
  refine u_iload_n dJ6_getChars_ba4f3_3 rfl 1 rfl ?_
  refine u_if_geT (tgt := 11) dJ6_getChars_ba4f3_4 (by decide) (dk_ge (Nat.lt_trans hk (by decide))) ?_
  refine u_iconst (v := 0) dJ6_getChars_ba4f3_11 (by decide) ?_
  refine u_istore dJ6_getChars_ba4f3_12 (Nat.le_of_ble_eq_true rfl) rfl ?_
  refine u_iload dJ6_getChars_ba4f3_14 0 rfl ?_
  refine u_if_neF (tgt := 22) dJ6_getChars_ba4f3_16 (by decide) (rfl) ?_
  refine u_iload_n dJ6_getChars_ba4f3_19 rfl 2 rfl ?_
  refine u_ineg dJ6_getChars_ba4f3_20 ?_
  refine u_istore_n dJ6_getChars_ba4f3_21 rfl (Nat.le_of_ble_eq_true rfl) rfl ?_
  refine u_iload_n dJ6_getChars_ba4f3_22 rfl 0 rfl ?_
  refine u_bipush (v := (-100)) dJ6_getChars_ba4f3_23 (by decide) ?_
  refine u_icmp_gtT (tgt := 72) dJ6_getChars_ba4f3_25 (by decide) (dk_100 (Nat.lt_trans hk (by decide))) ?_
  refine u_aload_n dJ6_getChars_ba4f3_72 rfl 4 rfl ?_
  refine u_iinc (v := ((Int32.ofNat (n + 1)) + (-1))) dJ6_getChars_ba4f3_73 (q := 2) rfl rfl (Nat.le_of_ble_eq_true rfl) rfl ?_
  refine u_iload dJ6_getChars_ba4f3_76 0 rfl ?_
  refine u_eq (st' := [.int (Int32.ofNat n), .ref d]) (by rw [sub1I] <;> rfl) ?_
  refine u_ones gw_1107 dJ6_getChars_ba4f3_78 ?_
  refine u_iload_n dJ6_getChars_ba4f3_81 rfl 1 rfl ?_
  refine u_ineg dJ6_getChars_ba4f3_82 ?_
  refine u_eq (st' := [.int (Int32.ofNat k), .ref sx.2.1, .int (Int32.ofNat n), .ref d]) (by rw [Int32.neg_neg] <;> rfl) ?_
  refine u_onesB (vp_in_nI (by omega) (by omega)) dJ6_getChars_ba4f3_83 ?_
  refine u_eq (st' := [.int (Int32.ofNat (48 + k % 10)), .int (Int32.ofNat n), .ref d]) (by rw [tnI (by omega : k < 2147483648)] <;> rfl) ?_
  refine u_bast (q0 := 1) (ws' := (b, sbC d n) :: (d, byC g 16 (upd f n (Int32.ofNat (48 + k % 10)))) :: r) rfl (vp_in_nI (by omega) (by omega)) (by rw [tnI (by omega : n < 2147483648), nar127 (dk_0 k)]; rfl) dJ6_getChars_ba4f3_84 ?_
  refine u_iload_n dJ6_getChars_ba4f3_85 rfl 1 rfl ?_
  refine u_bipush (v := (-9)) dJ6_getChars_ba4f3_86 (by decide) ?_
  refine u_icmp_geT (tgt := 104) dJ6_getChars_ba4f3_88 (by decide) (dk_9 hk) ?_
  refine u_iload dJ6_getChars_ba4f3_104 2 rfl ?_
  refine u_if_eqT (tgt := 118) dJ6_getChars_ba4f3_106 (by decide) (rfl) ?_
  refine u_iload dJ6_getChars_ba4f3_118 0 rfl ?_
  refine u_eq (st' := [.int (Int32.ofNat n)]) (by rw [sub1I]) ?_
  exact u_iret dJ6_getChars_ba4f3_120 rfl (by decide) (by decide) ⟨rfl, rfl⟩
set_option maxRecDepth 100000 in
theorem j_gc2 {g : GC} {A : Nat → Prop} {sx : SX} {b d n k : Nat} {f : Nat → Int32} {r : va_W} (hk0 : 10 ≤ k) (hk : k < 100) (hn : n + 2 ≤ 16) : JM g A sx (.code yJ6_getChars_ba4f3 cJ6_getChars_ba4f3 7 (some .int)) yJ6_getChars_ba4f3 (rmL 2 0 0) 0 0 [.int (Int32.ofNat k), .int (Int32.ofNat (n + 2)), .ref d] ((b, sbC d n) :: (d, byC g 16 f) :: r) (is1 (some (.int (Int32.ofNat n))) ((b, sbC d n) :: (d, byC g 16 (upd (upd f (n + 1) (Int32.ofNat (48 + k % 10))) n (Int32.ofNat (48 + k / 10)))) :: r)) := by
  refine JM_of (ini := false) (own := RJ6) (by decide) gw_1106 rfl (fun h => by cases h) (Nat.le_of_ble_eq_true rfl) ?_ ⟨rfl, rfl⟩
  refine u_iload_n dJ6_getChars_ba4f3_0 rfl 1 rfl ?_
  refine u_istore dJ6_getChars_ba4f3_1 (Nat.le_of_ble_eq_true rfl) rfl ?_
  refine u_iload_n dJ6_getChars_ba4f3_3 rfl 1 rfl ?_
  refine u_if_geT (tgt := 11) dJ6_getChars_ba4f3_4 (by decide) (dk_ge hk) ?_
  refine u_iconst (v := 0) dJ6_getChars_ba4f3_11 (by decide) ?_
  refine u_istore dJ6_getChars_ba4f3_12 (Nat.le_of_ble_eq_true rfl) rfl ?_
  refine u_iload dJ6_getChars_ba4f3_14 0 rfl ?_
  refine u_if_neF (tgt := 22) dJ6_getChars_ba4f3_16 (by decide) (rfl) ?_
  refine u_iload_n dJ6_getChars_ba4f3_19 rfl 2 rfl ?_
  refine u_ineg dJ6_getChars_ba4f3_20 ?_
  refine u_istore_n dJ6_getChars_ba4f3_21 rfl (Nat.le_of_ble_eq_true rfl) rfl ?_
  refine u_iload_n dJ6_getChars_ba4f3_22 rfl 0 rfl ?_
  refine u_bipush (v := (-100)) dJ6_getChars_ba4f3_23 (by decide) ?_
  refine u_icmp_gtT (tgt := 72) dJ6_getChars_ba4f3_25 (by decide) (dk_100 hk) ?_
  refine u_aload_n dJ6_getChars_ba4f3_72 rfl 4 rfl ?_
  refine u_iinc (v := ((Int32.ofNat (n + 2)) + (-1))) dJ6_getChars_ba4f3_73 (q := 2) rfl rfl (Nat.le_of_ble_eq_true rfl) rfl ?_
  refine u_iload dJ6_getChars_ba4f3_76 0 rfl ?_
  refine u_eq (st' := [.int (Int32.ofNat (n + 1)), .ref d]) (by rw [sub1I] <;> rfl) ?_
  refine u_ones gw_1107 dJ6_getChars_ba4f3_78 ?_
  refine u_iload_n dJ6_getChars_ba4f3_81 rfl 1 rfl ?_
  refine u_ineg dJ6_getChars_ba4f3_82 ?_
  refine u_eq (st' := [.int (Int32.ofNat k), .ref sx.2.1, .int (Int32.ofNat (n + 1)), .ref d]) (by rw [Int32.neg_neg] <;> rfl) ?_
  refine u_onesB (vp_in_nI (by omega) (by omega)) dJ6_getChars_ba4f3_83 ?_
  refine u_eq (st' := [.int (Int32.ofNat (48 + k % 10)), .int (Int32.ofNat (n + 1)), .ref d]) (by rw [tnI (by omega : k < 2147483648)] <;> rfl) ?_
  refine u_bast (q0 := 1) (ws' := (b, sbC d n) :: (d, byC g 16 (upd f (n + 1) (Int32.ofNat (48 + k % 10)))) :: r) rfl (vp_in_nI (by omega) (by omega)) (by rw [tnI (by omega : (n + 1) < 2147483648), nar127 (dk_0 k)]; rfl) dJ6_getChars_ba4f3_84 ?_
  refine u_iload_n dJ6_getChars_ba4f3_85 rfl 1 rfl ?_
  refine u_bipush (v := (-9)) dJ6_getChars_ba4f3_86 (by decide) ?_
  refine u_icmp_geF (tgt := 104) dJ6_getChars_ba4f3_88 (by decide) (dk_10 hk0 hk) ?_
  refine u_aload_n dJ6_getChars_ba4f3_91 rfl 4 rfl ?_
  refine u_iinc (v := (((Int32.ofNat (n + 2)) + (-1)) + (-1))) dJ6_getChars_ba4f3_92 (q := 0) rfl rfl (Nat.le_of_ble_eq_true rfl) rfl ?_
  refine u_iload dJ6_getChars_ba4f3_95 0 rfl ?_
  refine u_eq (st' := [.int (Int32.ofNat n), .ref d]) (by rw [sub2I] <;> rfl) ?_
  refine u_tens gw_1109 dJ6_getChars_ba4f3_97 ?_
  refine u_iload_n dJ6_getChars_ba4f3_100 rfl 1 rfl ?_
  refine u_ineg dJ6_getChars_ba4f3_101 ?_
  refine u_eq (st' := [.int (Int32.ofNat k), .ref sx.2.2, .int (Int32.ofNat n), .ref d]) (by rw [Int32.neg_neg] <;> rfl) ?_
  refine u_tensB (vp_in_nI (by omega) (by omega)) dJ6_getChars_ba4f3_102 ?_
  refine u_eq (st' := [.int (Int32.ofNat (48 + k / 10)), .int (Int32.ofNat n), .ref d]) (by rw [tnI (by omega : k < 2147483648)] <;> rfl) ?_
  refine u_bast (q0 := 1) (ws' := (b, sbC d n) :: (d, byC g 16 (upd (upd f (n + 1) (Int32.ofNat (48 + k % 10))) n (Int32.ofNat (48 + k / 10)))) :: r) rfl (vp_in_nI (by omega) (by omega)) (by rw [tnI (by omega : n < 2147483648), nar127 (dk_1 hk)]; rfl) dJ6_getChars_ba4f3_103 ?_
  refine u_iload dJ6_getChars_ba4f3_104 2 rfl ?_
  refine u_if_eqT (tgt := 118) dJ6_getChars_ba4f3_106 (by decide) (rfl) ?_
  refine u_iload dJ6_getChars_ba4f3_118 0 rfl ?_
  refine u_eq (st' := [.int (Int32.ofNat n)]) (by rw [sub2I]) ?_
  exact u_iret dJ6_getChars_ba4f3_120 rfl (by decide) (by decide) ⟨rfl, rfl⟩
set_option maxRecDepth 100000 in
theorem j_asbI1 {g : GC} {A : Nat → Prop} {sx : SX} {b d n k : Nat} {f : Nat → Int32} {r : va_W} (hk : k < 10) (hn : n + 1 ≤ 16) : JM g A sx (.code yJ5_append_c97b9 cJ5_append_c97b9 4 (some (.object "java/lang/AbstractStringBuilder"))) yJ5_append_c97b9 (rmL 3 0 0) 0 0 [.ref b, .int (Int32.ofNat k)] ((b, sbC d n) :: (d, byC g 16 f) :: r) (is1 (some (.ref b)) ((b, sbC d (n + 1)) :: (d, byC g 16 (upd f n (Int32.ofNat (48 + k % 10)))) :: r)) := by
  refine JM_of (ini := false) (own := RJ5) (by decide) gw_1100 rfl (fun h => by cases h) (Nat.le_of_ble_eq_true rfl) ?_ ⟨rfl, rfl⟩
  refine u_aload_n dJ5_append_c97b9_0 rfl 0 rfl ?_
  refine u_get (q0 := 0) inG_J4 rfl (by decide : 3 < 4) gw_969 rfl rfl dJ5_append_c97b9_1 ?_
  refine u_istore_n dJ5_append_c97b9_4 rfl (Nat.le_of_ble_eq_true rfl) rfl ?_
  refine u_iload_n dJ5_append_c97b9_5 rfl 0 rfl ?_
  refine u_iload_n dJ5_append_c97b9_6 rfl 2 rfl ?_
  refine u_callS (As := [.int (Int32.ofNat k)]) cj_J5_245 gw_1102 (j_size1 hk) rfl rfl (Nat.le_of_ble_eq_true rfl) dJ5_append_c97b9_7 (CR_rm (by decide) (by decide) (by decide) (by decide)) ?_
  rintro _ _ ⟨rfl, rfl⟩
  refine u_iadd dJ5_append_c97b9_10 ?_
  refine u_eq (st' := [.int (Int32.ofNat (n + 1))]) (by rw [Int32.ofNat_add] <;> rfl) ?_
  refine u_istore_n dJ5_append_c97b9_11 rfl (Nat.le_of_ble_eq_true rfl) rfl ?_
  refine u_aload_n dJ5_append_c97b9_12 rfl 2 rfl ?_
  refine u_iload_n dJ5_append_c97b9_13 rfl 0 rfl ?_
  refine u_callV (q0 := 0) (As := [.int (Int32.ofNat (n + 1))]) cj_J5_100 gw_993 sl_J5_ensureCapacityInternal_d00df (j_ensure (ens_B _ hn)) rfl rfl rfl rfl (Nat.le_of_ble_eq_true rfl) dJ5_append_c97b9_14 (CR_rm (by decide) (by decide) (by decide) (by decide)) ?_
  rintro _ _ ⟨rfl, rfl⟩
  refine u_aload_n dJ5_append_c97b9_17 rfl 2 rfl ?_
  refine u_callV (q0 := 0) (As := []) cj_J5_83 gw_1021 sl_J5_isLatin1_aae02 j_isLatin1 rfl rfl rfl rfl (Nat.le_of_ble_eq_true rfl) dJ5_append_c97b9_18 (CR_rm (by decide) (by decide) (by decide) (by decide)) ?_
  rintro _ _ ⟨rfl, rfl⟩
  refine u_if_eqF (tgt := 37) dJ5_append_c97b9_21 (by decide) (by decide) ?_
  refine u_iload_n dJ5_append_c97b9_24 rfl 3 rfl ?_
  refine u_iload_n dJ5_append_c97b9_25 rfl 0 rfl ?_
  refine u_aload_n dJ5_append_c97b9_26 rfl 2 rfl ?_
  refine u_get (q0 := 0) inG_J4 rfl (by decide : 0 < 4) gw_966 rfl rfl dJ5_append_c97b9_27 ?_
  refine u_callS (As := [.int (Int32.ofNat k), .int (Int32.ofNat (n + 1)), .ref d]) cj_J5_248 gw_1105 (j_gc1 hk hn) rfl rfl (Nat.le_of_ble_eq_true rfl) dJ5_append_c97b9_30 (CR_rm (by decide) (by decide) (by decide) (by decide)) ?_
  rintro _ _ ⟨rfl, rfl⟩
  refine u_pop dJ5_append_c97b9_33 rfl ?_
  refine u_goto (tgt := 48) dJ5_append_c97b9_34 (by decide) ?_
  refine u_aload_n dJ5_append_c97b9_48 rfl 2 rfl ?_
  refine u_iload_n dJ5_append_c97b9_49 rfl 0 rfl ?_
  refine u_put (q0 := 0) (ty := .int) (ws' := (b, sbC d (n + 1)) :: (d, byC g 16 (upd f n (Int32.ofNat (48 + k % 10)))) :: r) tyJ4 tyJ4_ok nmJ4 inG_J4 rfl (by decide : 3 < 4) gw_969 rfl (by decide +kernel) rfl rfl rfl (Nat.le_of_ble_eq_true rfl) rfl dJ5_append_c97b9_50 ?_
  refine u_aload_n dJ5_append_c97b9_53 rfl 2 rfl ?_
  exact u_aret dJ5_append_c97b9_54 rfl (Or.inl ⟨_, rfl⟩) (by decide) (by decide) ⟨rfl, rfl⟩
set_option maxRecDepth 100000 in
theorem j_appI1 {g : GC} {A : Nat → Prop} {sx : SX} {b d n k : Nat} {f : Nat → Int32} {r : va_W} (hk : k < 10) (hn : n + 1 ≤ 16) : JM g A sx (.code yJ4_append_bf812 cJ4_append_bf812 2 (some (.object "java/lang/StringBuilder"))) yJ4_append_bf812 (rmL 4 0 0) 0 0 [.ref b, .int (Int32.ofNat k)] ((b, sbC d n) :: (d, byC g 16 f) :: r) (is1 (some (.ref b)) ((b, sbC d (n + 1)) :: (d, byC g 16 (upd f n (Int32.ofNat (48 + k % 10)))) :: r)) := by
  refine JM_of (ini := false) (own := RJ4) (by decide) gw_1097 rfl (fun h => by cases h) (Nat.le_of_ble_eq_true rfl) ?_ ⟨rfl, rfl⟩
  refine u_aload_n dJ4_append_bf812_0 rfl 0 rfl ?_
  refine u_iload_n dJ4_append_bf812_1 rfl 1 rfl ?_
  refine u_callSU (q0 := 0) (As := [.int (Int32.ofNat k)]) cj_J4_53 gw_1099 gw_1659 gw_978 (by decide +kernel) (j_asbI1 hk hn) rfl rfl rfl rfl (Nat.le_of_ble_eq_true rfl) dJ4_append_bf812_2 (CR_rm (by decide) (by decide) (by decide) (by decide)) ?_
  rintro _ _ ⟨rfl, rfl⟩
  refine u_pop dJ4_append_bf812_5 rfl ?_
  refine u_aload_n dJ4_append_bf812_6 rfl 0 rfl ?_
  exact u_aret dJ4_append_bf812_7 rfl (Or.inl ⟨_, rfl⟩) (by decide) (by decide) ⟨rfl, rfl⟩
set_option maxRecDepth 100000 in
theorem j_asbI2 {g : GC} {A : Nat → Prop} {sx : SX} {b d n k : Nat} {f : Nat → Int32} {r : va_W} (hk0 : 10 ≤ k) (hk : k < 100) (hn : n + 2 ≤ 16) : JM g A sx (.code yJ5_append_c97b9 cJ5_append_c97b9 4 (some (.object "java/lang/AbstractStringBuilder"))) yJ5_append_c97b9 (rmL 3 0 0) 0 0 [.ref b, .int (Int32.ofNat k)] ((b, sbC d n) :: (d, byC g 16 f) :: r) (is1 (some (.ref b)) ((b, sbC d (n + 2)) :: (d, byC g 16 (upd (upd f (n + 1) (Int32.ofNat (48 + k % 10))) n (Int32.ofNat (48 + k / 10)))) :: r)) := by
  refine JM_of (ini := false) (own := RJ5) (by decide) gw_1100 rfl (fun h => by cases h) (Nat.le_of_ble_eq_true rfl) ?_ ⟨rfl, rfl⟩
  refine u_aload_n dJ5_append_c97b9_0 rfl 0 rfl ?_
  refine u_get (q0 := 0) inG_J4 rfl (by decide : 3 < 4) gw_969 rfl rfl dJ5_append_c97b9_1 ?_
  refine u_istore_n dJ5_append_c97b9_4 rfl (Nat.le_of_ble_eq_true rfl) rfl ?_
  refine u_iload_n dJ5_append_c97b9_5 rfl 0 rfl ?_
  refine u_iload_n dJ5_append_c97b9_6 rfl 2 rfl ?_
  refine u_callS (As := [.int (Int32.ofNat k)]) cj_J5_245 gw_1102 (j_size2 hk0 hk) rfl rfl (Nat.le_of_ble_eq_true rfl) dJ5_append_c97b9_7 (CR_rm (by decide) (by decide) (by decide) (by decide)) ?_
  rintro _ _ ⟨rfl, rfl⟩
  refine u_iadd dJ5_append_c97b9_10 ?_
  refine u_eq (st' := [.int (Int32.ofNat (n + 2))]) (by rw [Int32.ofNat_add] <;> rfl) ?_
  refine u_istore_n dJ5_append_c97b9_11 rfl (Nat.le_of_ble_eq_true rfl) rfl ?_
  refine u_aload_n dJ5_append_c97b9_12 rfl 2 rfl ?_
  refine u_iload_n dJ5_append_c97b9_13 rfl 0 rfl ?_
  refine u_callV (q0 := 0) (As := [.int (Int32.ofNat (n + 2))]) cj_J5_100 gw_993 sl_J5_ensureCapacityInternal_d00df (j_ensure (ens_B _ hn)) rfl rfl rfl rfl (Nat.le_of_ble_eq_true rfl) dJ5_append_c97b9_14 (CR_rm (by decide) (by decide) (by decide) (by decide)) ?_
  rintro _ _ ⟨rfl, rfl⟩
  refine u_aload_n dJ5_append_c97b9_17 rfl 2 rfl ?_
  refine u_callV (q0 := 0) (As := []) cj_J5_83 gw_1021 sl_J5_isLatin1_aae02 j_isLatin1 rfl rfl rfl rfl (Nat.le_of_ble_eq_true rfl) dJ5_append_c97b9_18 (CR_rm (by decide) (by decide) (by decide) (by decide)) ?_
  rintro _ _ ⟨rfl, rfl⟩
  refine u_if_eqF (tgt := 37) dJ5_append_c97b9_21 (by decide) (by decide) ?_
  refine u_iload_n dJ5_append_c97b9_24 rfl 3 rfl ?_
  refine u_iload_n dJ5_append_c97b9_25 rfl 0 rfl ?_
  refine u_aload_n dJ5_append_c97b9_26 rfl 2 rfl ?_
  refine u_get (q0 := 0) inG_J4 rfl (by decide : 0 < 4) gw_966 rfl rfl dJ5_append_c97b9_27 ?_
  refine u_callS (As := [.int (Int32.ofNat k), .int (Int32.ofNat (n + 2)), .ref d]) cj_J5_248 gw_1105 (j_gc2 hk0 hk hn) rfl rfl (Nat.le_of_ble_eq_true rfl) dJ5_append_c97b9_30 (CR_rm (by decide) (by decide) (by decide) (by decide)) ?_
  rintro _ _ ⟨rfl, rfl⟩
  refine u_pop dJ5_append_c97b9_33 rfl ?_
  refine u_goto (tgt := 48) dJ5_append_c97b9_34 (by decide) ?_
  refine u_aload_n dJ5_append_c97b9_48 rfl 2 rfl ?_
  refine u_iload_n dJ5_append_c97b9_49 rfl 0 rfl ?_
  refine u_put (q0 := 0) (ty := .int) (ws' := (b, sbC d (n + 2)) :: (d, byC g 16 (upd (upd f (n + 1) (Int32.ofNat (48 + k % 10))) n (Int32.ofNat (48 + k / 10)))) :: r) tyJ4 tyJ4_ok nmJ4 inG_J4 rfl (by decide : 3 < 4) gw_969 rfl (by decide +kernel) rfl rfl rfl (Nat.le_of_ble_eq_true rfl) rfl dJ5_append_c97b9_50 ?_
  refine u_aload_n dJ5_append_c97b9_53 rfl 2 rfl ?_
  exact u_aret dJ5_append_c97b9_54 rfl (Or.inl ⟨_, rfl⟩) (by decide) (by decide) ⟨rfl, rfl⟩
set_option maxRecDepth 100000 in
theorem j_appI2 {g : GC} {A : Nat → Prop} {sx : SX} {b d n k : Nat} {f : Nat → Int32} {r : va_W} (hk0 : 10 ≤ k) (hk : k < 100) (hn : n + 2 ≤ 16) : JM g A sx (.code yJ4_append_bf812 cJ4_append_bf812 2 (some (.object "java/lang/StringBuilder"))) yJ4_append_bf812 (rmL 4 0 0) 0 0 [.ref b, .int (Int32.ofNat k)] ((b, sbC d n) :: (d, byC g 16 f) :: r) (is1 (some (.ref b)) ((b, sbC d (n + 2)) :: (d, byC g 16 (upd (upd f (n + 1) (Int32.ofNat (48 + k % 10))) n (Int32.ofNat (48 + k / 10)))) :: r)) := by
  refine JM_of (ini := false) (own := RJ4) (by decide) gw_1097 rfl (fun h => by cases h) (Nat.le_of_ble_eq_true rfl) ?_ ⟨rfl, rfl⟩
  refine u_aload_n dJ4_append_bf812_0 rfl 0 rfl ?_
  refine u_iload_n dJ4_append_bf812_1 rfl 1 rfl ?_
  refine u_callSU (q0 := 0) (As := [.int (Int32.ofNat k)]) cj_J4_53 gw_1099 gw_1659 gw_978 (by decide +kernel) (j_asbI2 hk0 hk hn) rfl rfl rfl rfl (Nat.le_of_ble_eq_true rfl) dJ4_append_bf812_2 (CR_rm (by decide) (by decide) (by decide) (by decide)) ?_
  rintro _ _ ⟨rfl, rfl⟩
  refine u_pop dJ4_append_bf812_5 rfl ?_
  refine u_aload_n dJ4_append_bf812_6 rfl 0 rfl ?_
  exact u_aret dJ4_append_bf812_7 rfl (Or.inl ⟨_, rfl⟩) (by decide) (by decide) ⟨rfl, rfl⟩
set_option maxRecDepth 100000 in
theorem j_getValue {g : GC} {A : Nat → Prop} {sx : SX} {b d n : Nat} {f : Nat → Int32} {r : va_W} : JM g A sx (.code yJ5_getValue_6d5f1 cJ5_getValue_6d5f1 1 (some (.array .byte))) yJ5_getValue_6d5f1 (rmL 1 0 0) 0 0 [.ref b] ((b, sbC d n) :: (d, byC g 16 f) :: r) (is1 (some (.ref d)) ((b, sbC d n) :: (d, byC g 16 f) :: r)) := by
  refine JM_of (ini := false) (own := RJ5) (by decide) gw_1137 rfl (fun h => by cases h) (Nat.le_of_ble_eq_true rfl) ?_ ⟨rfl, rfl⟩
  refine u_aload_n dJ5_getValue_6d5f1_0 rfl 0 rfl ?_
  refine u_get (q0 := 0) inG_J4 rfl (by decide : 0 < 4) gw_966 rfl rfl dJ5_getValue_6d5f1_1 ?_
  exact u_aret dJ5_getValue_6d5f1_4 rfl (Or.inr ⟨_, rfl⟩) (by decide) (by decide) ⟨rfl, rfl⟩
set_option maxRecDepth 100000 in
theorem j_asbLen {g : GC} {A : Nat → Prop} {sx : SX} {b d n : Nat} {f : Nat → Int32} {r : va_W} : JM g A sx (.code yJ5_length_8abf5 cJ5_length_8abf5 1 (some .int)) yJ5_length_8abf5 (rmL 1 0 0) 0 0 [.ref b] ((b, sbC d n) :: (d, byC g 16 f) :: r) (is1 (some (.int (Int32.ofNat n))) ((b, sbC d n) :: (d, byC g 16 f) :: r)) := by
  refine JM_of (ini := false) (own := RJ5) (by decide) gw_1145 rfl (fun h => by cases h) (Nat.le_of_ble_eq_true rfl) ?_ ⟨rfl, rfl⟩
  refine u_aload_n dJ5_length_8abf5_0 rfl 0 rfl ?_
  refine u_get (q0 := 0) inG_J4 rfl (by decide : 3 < 4) gw_969 rfl rfl dJ5_length_8abf5_1 ?_
  exact u_iret dJ5_length_8abf5_4 rfl (by decide) (by decide) ⟨rfl, rfl⟩
set_option maxRecDepth 100000 in
theorem j_sbLen {g : GC} {A : Nat → Prop} {sx : SX} {b d n : Nat} {f : Nat → Int32} {r : va_W} : JM g A sx (.code yJ4_length_8abf5 cJ4_length_8abf5 1 (some .int)) yJ4_length_8abf5 (rmL 2 0 0) 0 0 [.ref b] ((b, sbC d n) :: (d, byC g 16 f) :: r) (is1 (some (.int (Int32.ofNat n))) ((b, sbC d n) :: (d, byC g 16 f) :: r)) := by
  refine JM_of (ini := false) (own := RJ4) (by decide) gw_1143 rfl (fun h => by cases h) (Nat.le_of_ble_eq_true rfl) ?_ ⟨rfl, rfl⟩
  refine u_aload_n dJ4_length_8abf5_0 rfl 0 rfl ?_
  refine u_callSU (q0 := 0) (As := []) cj_J4_343 gw_1139 gw_1140 gw_978 (by decide +kernel) j_asbLen rfl rfl rfl rfl (Nat.le_of_ble_eq_true rfl) dJ4_length_8abf5_1 (CR_rm (by decide) (by decide) (by decide) (by decide)) ?_
  rintro _ _ ⟨rfl, rfl⟩
  exact u_iret dJ4_length_8abf5_4 rfl (by decide) (by decide) ⟨rfl, rfl⟩
set_option maxRecDepth 100000 in
theorem j_chkLen {g : GC} {A : Nat → Prop} {sx : SX} {n : Nat} {ws : va_W} (hn : n ≤ 16) : JM g A sx (.code yJ7_checkLength_df160 cJ7_checkLength_df160 2 none) yJ7_checkLength_df160 (rmL 1 0 0) 0 0 [.int 0, .int (Int32.ofNat n)] (ws) (is1 none ws) := by
  refine JM_of (ini := false) (own := RJ7) (by decide) gw_1155 rfl (fun h => by cases h) (Nat.le_of_ble_eq_true rfl) ?_ ⟨rfl, rfl⟩
  refine u_iload_n dJ7_checkLength_df160_0 rfl 1 rfl ?_
  refine u_iload_n dJ7_checkLength_df160_1 rfl 0 rfl ?_
  refine u_icmp_geT (tgt := 37) dJ7_checkLength_df160_2 (by decide) (nn0 (by omega)) ?_
  exact u_vret dJ7_checkLength_df160_37 rfl (by decide) (by decide) ⟨rfl, rfl⟩
set_option maxRecDepth 100000 in
theorem j_copyB {g : GC} {A : Nat → Prop} {sx : SX} {d n : Nat} {f : Nat → Int32} {c0 c2 : Nat × va_E} (hn : n ≤ 16) (hfit : ∀ i, i < n → fits .byte (.int (f i)) = true) : JM g A sx (.code yJ7_copyOfRangeByte_39247 cJ7_copyOfRangeByte_39247 5 (some (.array .byte))) yJ7_copyOfRangeByte_39247 (rmL 2 1 16) 1 16 [.ref d, .int 0, .int (Int32.ofNat n)] (c0 :: (d, byC g 16 f) :: c2 :: []) (fun v ws' => ∃ q f2, v = some (.ref q) ∧ (∀ i, i < n → f2 i = f i) ∧ ws' = c0 :: (d, byC g 16 f) :: c2 :: (q, byC g n f2) :: []) := by
  refine JM_of (ini := false) (own := RJ7) (by decide) gw_1152 rfl (fun h => by cases h) (Nat.le_of_ble_eq_true rfl) ?_ ⟨rfl, rfl⟩
  refine u_iload_n dJ7_copyOfRangeByte_39247_0 rfl 1 rfl ?_
  refine u_iload_n dJ7_copyOfRangeByte_39247_1 rfl 2 rfl ?_
  refine u_callS (As := [.int 0, .int (Int32.ofNat n)]) cj_J7_343 gw_1154 (j_chkLen hn) rfl rfl (Nat.le_of_ble_eq_true rfl) dJ7_copyOfRangeByte_39247_2 (CR_rm (by decide) (by decide) (by decide) (by decide)) ?_
  rintro _ _ ⟨rfl, rfl⟩
  refine u_iload_n dJ7_copyOfRangeByte_39247_5 rfl 2 rfl ?_
  refine u_iload_n dJ7_copyOfRangeByte_39247_6 rfl 1 rfl ?_
  refine u_isub dJ7_copyOfRangeByte_39247_7 ?_
  refine u_eq (st' := [.int (Int32.ofNat n)]) (by rw [Int32.sub_zero] <;> rfl) ?_
  refine u_istore_n dJ7_copyOfRangeByte_39247_8 rfl (Nat.le_of_ble_eq_true rfl) rfl ?_
  refine u_iload_n dJ7_copyOfRangeByte_39247_9 rfl 0 rfl ?_
  refine u_newa (N := n) gw_444 (nnI (by omega)) (tnI (by omega)) (by omega) (by decide) (show 0 + n ≤ _ by show _ ≤ 16; omega) dJ7_copyOfRangeByte_39247_10 ?_
  intro q
  refine u_astore dJ7_copyOfRangeByte_39247_12 (Nat.le_of_ble_eq_true rfl) rfl ?_
  refine u_aload_n dJ7_copyOfRangeByte_39247_14 rfl 2 rfl ?_
  refine u_iload_n dJ7_copyOfRangeByte_39247_15 rfl 3 rfl ?_
  refine u_aload dJ7_copyOfRangeByte_39247_16 0 rfl ?_
  refine u_iconst (v := 0) dJ7_copyOfRangeByte_39247_18 (by decide) ?_
  refine u_aload_n dJ7_copyOfRangeByte_39247_19 rfl 2 rfl ?_
  refine u_alen (q0 := 1) (v := 16) rfl rfl dJ7_copyOfRangeByte_39247_20 ?_
  refine u_iload_n dJ7_copyOfRangeByte_39247_21 rfl 3 rfl ?_
  refine u_isub dJ7_copyOfRangeByte_39247_22 ?_
  refine u_iload_n dJ7_copyOfRangeByte_39247_23 rfl 1 rfl ?_
  refine u_min gw_1018 gw_552 gw_54 gw_553 dJ7_copyOfRangeByte_39247_24 (by decide) (Nat.le_of_ble_eq_true rfl) (by decide) (by show _ ≤ 16; omega) ?_
  refine u_eq (st' := [.int (Int32.ofNat n), .int 0, .ref q, .int 0, .ref d]) (by rw [minI hn]) ?_
  refine u_copyW (q0 := 1) (q1 := 3) (f := fun _ => 0) (ws' := c0 :: (d, byC g 16 f) :: c2 :: (q, byC g n (va_cpy f (fun _ => 0) 0 0 n)) :: []) gw_1019 gw_783 gw_782 gw_68 rfl rfl (by decide) (by decide) (nnI (by omega)) (by rw [tnI (by omega)]; exact (Nat.zero_add n).symm ▸ hn) (by rw [tnI (by omega)]; exact Nat.le_of_eq (Nat.zero_add n)) (fun i hi => by rw [tnI (by omega)] at hi; exact (Nat.zero_add i).symm ▸ hfit i hi) (Nat.le_of_ble_eq_true rfl) (by decide) (by rw [tnI (by omega)]; rfl) dJ7_copyOfRangeByte_39247_27 ?_
  refine u_aload dJ7_copyOfRangeByte_39247_30 0 rfl ?_
  exact u_aret dJ7_copyOfRangeByte_39247_32 rfl (Or.inr ⟨_, rfl⟩) (by omega) (by omega) ⟨q, _, rfl, fun i hi => cpy00 hi, rfl⟩
set_option maxRecDepth 100000 in
theorem j_copyRa {g : GC} {A : Nat → Prop} {sx : SX} {d n : Nat} {f : Nat → Int32} {c0 c2 : Nat × va_E} (hn : n < 16) (hfit : ∀ i, i < n → fits .byte (.int (f i)) = true) : JM g A sx (.code yJ7_copyOfRange_39247 cJ7_copyOfRange_39247 3 (some (.array .byte))) yJ7_copyOfRange_39247 (rmL 3 1 16) 1 16 [.ref d, .int 0, .int (Int32.ofNat n)] (c0 :: (d, byC g 16 f) :: c2 :: []) (fun v ws' => ∃ q f2, v = some (.ref q) ∧ (∀ i, i < n → f2 i = f i) ∧ ws' = c0 :: (d, byC g 16 f) :: c2 :: (q, byC g n f2) :: []) := by
  refine JM_of (ini := false) (own := RJ7) (by decide) gw_1149 rfl (fun h => by cases h) (Nat.le_of_ble_eq_true rfl) ?_ ⟨rfl, rfl⟩
  refine u_iload_n dJ7_copyOfRange_39247_0 rfl 1 rfl ?_
  refine u_if_neF (tgt := 10) dJ7_copyOfRange_39247_1 (by decide) (rfl) ?_
  refine u_iload_n dJ7_copyOfRange_39247_4 rfl 2 rfl ?_
  refine u_aload_n dJ7_copyOfRange_39247_5 rfl 0 rfl ?_
  refine u_alen (q0 := 1) (v := 16) rfl rfl dJ7_copyOfRange_39247_6 ?_
  refine u_icmp_eqF (tgt := 17) dJ7_copyOfRange_39247_7 (by decide) (ne16 hn) ?_
  refine u_aload_n dJ7_copyOfRange_39247_10 rfl 0 rfl ?_
  refine u_iload_n dJ7_copyOfRange_39247_11 rfl 1 rfl ?_
  refine u_iload_n dJ7_copyOfRange_39247_12 rfl 2 rfl ?_
  refine u_callS (As := [.ref d, .int 0, .int (Int32.ofNat n)]) cj_J7_339 gw_1151 (j_copyB (Nat.le_of_lt hn) hfit) rfl rfl (Nat.le_of_ble_eq_true rfl) dJ7_copyOfRange_39247_13 (CR_rm (by decide) (by decide) (by decide) (by decide)) ?_
  rintro _ _ ⟨q, f2, rfl, hf2, rfl⟩
  exact u_aret dJ7_copyOfRange_39247_16 rfl (Or.inr ⟨_, rfl⟩) (by decide) (by decide) ⟨q, f2, rfl, hf2, rfl⟩
set_option maxRecDepth 100000 in
theorem j_copyRb {g : GC} {A : Nat → Prop} {sx : SX} {d : Nat} {f : Nat → Int32} {c0 c2 : Nat × va_E} (hfit : ∀ i, i < 16 → fits .byte (.int (f i)) = true) : JM g A sx (.code yJ7_copyOfRange_39247 cJ7_copyOfRange_39247 3 (some (.array .byte))) yJ7_copyOfRange_39247 (rmL 3 1 16) 1 16 [.ref d, .int 0, .int (Int32.ofNat 16)] (c0 :: (d, byC g 16 f) :: c2 :: []) (fun v ws' => ∃ q f2, v = some (.ref q) ∧ (∀ i, i < 16 → f2 i = f i) ∧ ws' = c0 :: (d, byC g 16 f) :: c2 :: (q, byC g 16 f2) :: []) := by
  refine JM_of (ini := false) (own := RJ7) (by decide) gw_1149 rfl (fun h => by cases h) (Nat.le_of_ble_eq_true rfl) ?_ ⟨rfl, rfl⟩
  refine u_iload_n dJ7_copyOfRange_39247_0 rfl 1 rfl ?_
  refine u_if_neF (tgt := 10) dJ7_copyOfRange_39247_1 (by decide) (rfl) ?_
  refine u_iload_n dJ7_copyOfRange_39247_4 rfl 2 rfl ?_
  refine u_aload_n dJ7_copyOfRange_39247_5 rfl 0 rfl ?_
  refine u_alen (q0 := 1) (v := 16) rfl rfl dJ7_copyOfRange_39247_6 ?_
  refine u_icmp_eqT (tgt := 17) dJ7_copyOfRange_39247_7 (by decide) (rfl) ?_
  refine u_aload_n dJ7_copyOfRange_39247_17 rfl 0 rfl ?_
  refine u_clone (q0 := 1) (n := 16) gw_1011 gw_1012 gw_1013 gw_1014 gw_1015 rfl hfit (Nat.le_of_ble_eq_true rfl) (by decide) (by decide) (by decide) dJ7_copyOfRange_39247_18 ?_
  intro q
  refine u_castB (q0 := 3) gw_1017 rfl dJ7_copyOfRange_39247_21 ?_
  exact u_aret dJ7_copyOfRange_39247_24 rfl (Or.inr ⟨_, rfl⟩) (by decide) (by decide) ⟨q, _, rfl, fun i hi => rfl, rfl⟩
theorem j_copyR {g : GC} {A : Nat → Prop} {sx : SX} {d n : Nat} {f : Nat → Int32} {c0 c2 : Nat × va_E} (hn : n ≤ 16) (hfit : ∀ i, i < n → fits .byte (.int (f i)) = true) : JM g A sx (.code yJ7_copyOfRange_39247 cJ7_copyOfRange_39247 3 (some (.array .byte))) yJ7_copyOfRange_39247 (rmL 3 1 16) 1 16 [.ref d, .int 0, .int (Int32.ofNat n)] (c0 :: (d, byC g 16 f) :: c2 :: []) (fun v ws' => ∃ q f2, v = some (.ref q) ∧ (∀ i, i < n → f2 i = f i) ∧ ws' = c0 :: (d, byC g 16 f) :: c2 :: (q, byC g n f2) :: []) := by
  by_cases h : n < 16
  · exact j_copyRa h hfit
  · obtain rfl : n = 16 := by omega
    exact j_copyRb hfit
set_option maxRecDepth 100000 in
theorem j_strInit {g : GC} {A : Nat → Prop} {sx : SX} {b d n s0 : Nat} {f : Nat → Int32} (hn : n ≤ 16) (hfit : ∀ i, i < n → fits .byte (.int (f i)) = true) : JM g A sx (.code yJ0_init_db425 cJ0_init_db425 5 none) yJ0_init_db425 (rmL 4 1 16) 1 16 [.ref s0, .ref b, .null] ((b, sbC d n) :: (d, byC g 16 f) :: (s0, .inr (12, [.null, .int 0, .int 0, .int 0])) :: []) (fun v ws' => ∃ q f2, v = none ∧ (∀ i, i < n → f2 i = f i) ∧ ws' = (b, sbC d n) :: (d, byC g 16 f) :: (s0, .inr (12, [.ref q, .int 0, .int 0, .int 0])) :: (q, byC g n f2) :: []) := by
  refine JM_of (ini := true) (own := RJ0) (by decide) gw_1131 rfl (fun _ => rfl) (Nat.le_of_ble_eq_true rfl) ?_ ⟨rfl, rfl⟩
  refine u_aload_n dJ0_init_db425_0 rfl 0 rfl ?_
  refine u_objInit gw_1132 gw_84 gw_85 dJ0_init_db425_1 (by decide) (Nat.le_of_ble_eq_true rfl) ?_
  refine u_aload_n dJ0_init_db425_4 rfl 1 rfl ?_
  refine u_callV (q0 := 0) (As := []) cj_J0_552 gw_1134 sl_J5_getValue_6d5f1 j_getValue rfl rfl rfl rfl (Nat.le_of_ble_eq_true rfl) dJ0_init_db425_5 (CR_rm (by decide) (by decide) (by decide) (by decide)) ?_
  rintro _ _ ⟨rfl, rfl⟩
  refine u_astore_n dJ0_init_db425_8 rfl (Nat.le_of_ble_eq_true rfl) rfl ?_
  refine u_aload_n dJ0_init_db425_9 rfl 2 rfl ?_
  refine u_callU (q0 := 0) (x := yJ5_length_8abf5) (As := []) gw_1138 gw_1140 gw_1139 gw_1145 gw_1141 gw_1142 gw_70 gw_1143 (by decide +kernel) (by decide +kernel) j_sbLen rfl rfl rfl rfl (Nat.le_of_ble_eq_true rfl) dJ0_init_db425_10 (CR_rm (by decide) (by decide) (by decide) (by decide)) ?_
  rintro _ _ ⟨rfl, rfl⟩
  refine u_istore dJ0_init_db425_13 (Nat.le_of_ble_eq_true rfl) rfl ?_
  refine u_aload_n dJ0_init_db425_15 rfl 3 rfl ?_
  refine u_callV (q0 := 0) (As := []) cj_J0_1047 gw_1021 sl_J5_isLatin1_aae02 j_isLatin1 rfl rfl rfl rfl (Nat.le_of_ble_eq_true rfl) dJ0_init_db425_16 (CR_rm (by decide) (by decide) (by decide) (by decide)) ?_
  rintro _ _ ⟨rfl, rfl⟩
  refine u_if_eqF (tgt := 41) dJ0_init_db425_19 (by decide) (by decide) ?_
  refine u_aload_n dJ0_init_db425_22 rfl 2 rfl ?_
  refine u_iconst (v := 0) dJ0_init_db425_23 (by decide) ?_
  refine u_putF (q0 := 2) (ty := .byte) (ws' := (b, sbC d n) :: (d, byC g 16 f) :: (s0, .inr (12, [.null, .int 0, .int 0, .int 0])) :: []) rfl tyJ0 tyJ0_ok nmJ0 inG_J0 rfl (by decide : 1 < 4) gw_1181 rfl rfl (by decide +kernel) rfl rfl rfl (Nat.le_of_ble_eq_true rfl) rfl dJ0_init_db425_24 ?_
  refine u_aload_n dJ0_init_db425_27 rfl 2 rfl ?_
  refine u_aload_n dJ0_init_db425_28 rfl 1 rfl ?_
  refine u_iconst (v := 0) dJ0_init_db425_29 (by decide) ?_
  refine u_iload dJ0_init_db425_30 0 rfl ?_
  refine u_callS (As := [.ref d, .int 0, .int (Int32.ofNat n)]) cj_J0_54 gw_1148 (j_copyR hn hfit) rfl rfl (Nat.le_of_ble_eq_true rfl) dJ0_init_db425_32 (CR_rm (by decide) (by decide) (by decide) (by decide)) ?_
  rintro _ _ ⟨q, f2, rfl, hf2, rfl⟩
  refine u_putF (q0 := 2) (ty := .array .byte) (ws' := (b, sbC d n) :: (d, byC g 16 f) :: (s0, .inr (12, [.ref q, .int 0, .int 0, .int 0])) :: (q, byC g n f2) :: []) rfl tyJ0 tyJ0_ok nmJ0 inG_J0 rfl (by decide : 0 < 4) gw_1180 rfl rfl (by decide +kernel) rfl rfl rfl (Nat.le_of_ble_eq_true rfl) rfl dJ0_init_db425_35 ?_
  refine u_goto (tgt := 97) dJ0_init_db425_38 (by decide) ?_
  exact u_vret dJ0_init_db425_97 rfl (by decide) (by decide) ⟨q, f2, rfl, hf2, rfl⟩
set_option maxRecDepth 100000 in
theorem j_strInit2 {g : GC} {A : Nat → Prop} {sx : SX} {b d n s0 : Nat} {f : Nat → Int32} (hn : n ≤ 16) (hfit : ∀ i, i < n → fits .byte (.int (f i)) = true) : JM g A sx (.code yJ0_init_81219 cJ0_init_81219 2 none) yJ0_init_81219 (rmL 5 1 16) 1 16 [.ref s0, .ref b] ((b, sbC d n) :: (d, byC g 16 f) :: (s0, .inr (12, [.null, .int 0, .int 0, .int 0])) :: []) (fun v ws' => ∃ q f2, v = none ∧ (∀ i, i < n → f2 i = f i) ∧ ws' = (b, sbC d n) :: (d, byC g 16 f) :: (s0, .inr (12, [.ref q, .int 0, .int 0, .int 0])) :: (q, byC g n f2) :: []) := by
  refine JM_of (ini := true) (own := RJ0) (by decide) gw_1128 rfl (fun _ => rfl) (Nat.le_of_ble_eq_true rfl) ?_ ⟨rfl, rfl⟩
  refine u_aload_n dJ0_init_81219_0 rfl 0 rfl ?_
  refine u_aload_n dJ0_init_81219_1 rfl 1 rfl ?_
  refine u_null dJ0_init_81219_2 ?_
  refine u_callI (As := [.ref b, .null]) cj_J0_489 gw_1130 rfl (j_strInit hn hfit) rfl rfl (Nat.le_of_ble_eq_true rfl) dJ0_init_81219_3 (CR_rm (by decide) (by decide) (by decide) (by decide)) ?_
  rintro _ _ ⟨q, f2, rfl, hf2, rfl⟩
  exact u_vret dJ0_init_81219_6 rfl (by decide) (by decide) ⟨q, f2, rfl, hf2, rfl⟩
set_option maxRecDepth 100000 in
theorem j_toString {g : GC} {A : Nat → Prop} {sx : SX} {b d n : Nat} {f : Nat → Int32} (hn : n ≤ 16) (hfit : ∀ i, i < n → fits .byte (.int (f i)) = true) : JM g A sx (.code yJ4_toString_0e30d cJ4_toString_0e30d 1 (some (.object "java/lang/String"))) yJ4_toString_0e30d (rmL 6 2 20) 2 20 [.ref b] ((b, sbC d n) :: (d, byC g 16 f) :: []) (fun v ws' => ∃ s0, ∃ q f2, v = some (.ref s0) ∧ (∀ i, i < n → f2 i = f i) ∧ ws' = (b, sbC d n) :: (d, byC g 16 f) :: (s0, .inr (12, [.ref q, .int 0, .int 0, .int 0])) :: (q, byC g n f2) :: []) := by
  refine JM_of (ini := false) (own := RJ4) (by decide) gw_1124 rfl (fun h => by cases h) (Nat.le_of_ble_eq_true rfl) ?_ ⟨rfl, rfl⟩
  refine u_new tyJ0 tyJ0_ok inG_J0 (rfl : vwCl[12]? = _) gw_1125 gw_443 gw_62 def_J0 (by decide) (by decide) dJ4_toString_0e30d_0 ?_
  intro s0
  refine u_dup dJ4_toString_0e30d_3 rfl ?_
  refine u_aload_n dJ4_toString_0e30d_4 rfl 0 rfl ?_
  refine u_callI (As := [.ref b]) cj_J4_137 gw_1127 rfl (j_strInit2 hn hfit) rfl rfl (Nat.le_of_ble_eq_true rfl) dJ4_toString_0e30d_5 (CR_rm (by decide) (by decide) (by decide) (by decide)) ?_
  rintro _ _ ⟨q, f2, rfl, hf2, rfl⟩
  exact u_aret dJ4_toString_0e30d_8 rfl (Or.inl ⟨_, rfl⟩) (by decide) (by decide) ⟨s0, q, f2, rfl, hf2, rfl⟩
set_option maxRecDepth 100000 in
theorem j_asbInit {g : GC} {A : Nat → Prop} {sx : SX} {b : Nat} : JM g A sx (.code yJ5_init_d00df cJ5_init_d00df 2 none) yJ5_init_d00df (rmL 2 1 16) 1 16 [.ref b, .int 16] ((b, .inr (11, [.null, .int 0, .int 0, .int 0])) :: []) (fun v ws' => ∃ d, v = none ∧ ws' = (b, sbC d 0) :: (d, byC g 16 (fun _ => 0)) :: []) := by
  refine JM_of (ini := true) (own := RJ5) (by decide) gw_955 rfl (fun _ => rfl) (Nat.le_of_ble_eq_true rfl) ?_ ⟨rfl, rfl⟩
  refine u_aload_n dJ5_init_d00df_0 rfl 0 rfl ?_
  refine u_objInit gw_956 gw_84 gw_85 dJ5_init_d00df_1 (by decide) (Nat.le_of_ble_eq_true rfl) ?_
  refine u_compact gw_957 dJ5_init_d00df_4 ?_
  refine u_if_eqF (tgt := 25) dJ5_init_d00df_7 (by decide) (by decide) ?_
  refine u_aload_n dJ5_init_d00df_10 rfl 0 rfl ?_
  refine u_iload_n dJ5_init_d00df_11 rfl 1 rfl ?_
  refine u_newa (N := 16) gw_444 (by decide) (rfl) (by omega) (by decide) (show 0 + 16 ≤ _ by show _ ≤ 16; omega) dJ5_init_d00df_12 ?_
  intro d
  refine u_put (q0 := 0) (ty := .array .byte) (ws' := (b, .inr (11, [.ref d, .int 0, .int 0, .int 0])) :: (d, byC g 16 (fun _ => 0)) :: []) tyJ4 tyJ4_ok nmJ4 inG_J4 rfl (by decide : 0 < 4) gw_966 rfl (by decide +kernel) rfl rfl rfl (Nat.le_of_ble_eq_true rfl) rfl dJ5_init_d00df_14 ?_
  refine u_aload_n dJ5_init_d00df_17 rfl 0 rfl ?_
  refine u_iconst (v := 0) dJ5_init_d00df_18 (by decide) ?_
  refine u_put (q0 := 0) (ty := .byte) (ws' := (b, .inr (11, [.ref d, .int 0, .int 0, .int 0])) :: (d, byC g 16 (fun _ => 0)) :: []) tyJ4 tyJ4_ok nmJ4 inG_J4 rfl (by decide : 1 < 4) gw_967 rfl (by decide +kernel) rfl rfl rfl (Nat.le_of_ble_eq_true rfl) rfl dJ5_init_d00df_19 ?_
  refine u_goto (tgt := 38) dJ5_init_d00df_22 (by decide) ?_
  exact u_vret dJ5_init_d00df_38 rfl (by decide) (by decide) ⟨d, rfl, rfl⟩
set_option maxRecDepth 100000 in
theorem j_sbInit {g : GC} {A : Nat → Prop} {sx : SX} {b : Nat} : JM g A sx (.code yJ4_init_da8c8 cJ4_init_da8c8 1 none) yJ4_init_da8c8 (rmL 3 1 16) 1 16 [.ref b] ((b, .inr (11, [.null, .int 0, .int 0, .int 0])) :: []) (fun v ws' => ∃ d, v = none ∧ ws' = (b, sbC d 0) :: (d, byC g 16 (fun _ => 0)) :: []) := by
  refine JM_of (ini := true) (own := RJ4) (by decide) gw_952 rfl (fun _ => rfl) (Nat.le_of_ble_eq_true rfl) ?_ ⟨rfl, rfl⟩
  refine u_aload_n dJ4_init_da8c8_0 rfl 0 rfl ?_
  refine u_bipush (v := 16) dJ4_init_da8c8_1 (by decide) ?_
  refine u_callI (As := [.int 16]) cj_J4_1 gw_954 rfl j_asbInit rfl rfl (Nat.le_of_ble_eq_true rfl) dJ4_init_da8c8_3 (CR_rm (by decide) (by decide) (by decide) (by decide)) ?_
  rintro _ _ ⟨d, rfl, rfl⟩
  exact u_vret dJ4_init_da8c8_6 rfl (by decide) (by decide) ⟨d, rfl, rfl⟩
