/-! words of the tables, by their places; what they say of fields and calls; shapes by number -/
def exN : List String := ["java/lang/RuntimeException", "java/lang/Exception"]
theorem exN_ok : ∀ n ∈ exN, Bundle.fit n = true := by decide
theorem GW_all (ws : List Cond) (h : ws.all (fun w => (decide (w ∈ lw_tbl) && goodWord w) || decide (w ∈ NGW)) = true) : ∀ w ∈ ws, w ∈ GW ∨ w ∈ NGW := fun w hw => by
  have h2 := List.all_eq_true.mp h w hw
  simp only [Bool.or_eq_true, Bool.and_eq_true, decide_eq_true_eq] at h2
  rcases h2 with h2 | h2
  · exact Or.inl (List.mem_filter.mpr h2)
  · exact Or.inr h2
theorem GW_s1 {w : Cond} (h : w ∈ lw_tbl) (hg : goodWord w = true) : w ∈ GW := List.mem_filter.mpr ⟨h, hg⟩
theorem GW_t1 (i : Nat) {w : Cond} (h : tables_1_1[i]? = some w) (hg : goodWord w = true) : w ∈ GW := GW_s1 (List.mem_append_right _ (List.mem_append_left _ (List.mem_of_getElem? h))) hg
theorem GW_t2 (i : Nat) {w : Cond} (h : tables_1_2[i]? = some w) (hg : goodWord w = true) : w ∈ GW := GW_s1 (List.mem_append_right _ (List.mem_append_right _ (List.mem_append_left _ (List.mem_of_getElem? h)))) hg
theorem GW_t3 (i : Nat) {w : Cond} (h : tables_1_3[i]? = some w) (hg : goodWord w = true) : w ∈ GW := GW_s1 (List.mem_append_right _ (List.mem_append_right _ (List.mem_append_right _ (List.mem_append_left _ (List.mem_of_getElem? h))))) hg
theorem GW_t4 (i : Nat) {w : Cond} (h : tables_1_4[i]? = some w) (hg : goodWord w = true) : w ∈ GW := GW_s1 (List.mem_append_right _ (List.mem_append_right _ (List.mem_append_right _ (List.mem_append_right _ (List.mem_append_left _ (List.mem_of_getElem? h)))))) hg
theorem GW_t5 (i : Nat) {w : Cond} (h : tables_1_5[i]? = some w) (hg : goodWord w = true) : w ∈ GW := GW_s1 (List.mem_append_right _ (List.mem_append_right _ (List.mem_append_right _ (List.mem_append_right _ (List.mem_append_right _ (List.mem_append_left _ (List.mem_of_getElem? h))))))) hg
theorem GW_t6 (i : Nat) {w : Cond} (h : tables_1_6[i]? = some w) (hg : goodWord w = true) : w ∈ GW := GW_s1 (List.mem_append_right _ (List.mem_append_right _ (List.mem_append_right _ (List.mem_append_right _ (List.mem_append_right _ (List.mem_append_right _ (List.mem_append_left _ (List.mem_of_getElem? h)))))))) hg
theorem GW_t7 (i : Nat) {w : Cond} (h : tables_1_7[i]? = some w) (hg : goodWord w = true) : w ∈ GW := GW_s1 (List.mem_append_right _ (List.mem_append_right _ (List.mem_append_right _ (List.mem_append_right _ (List.mem_append_right _ (List.mem_append_right _ (List.mem_append_right _ (List.mem_append_left _ (List.mem_of_getElem? h))))))))) hg
theorem GW_t8 (i : Nat) {w : Cond} (h : tables_1_8[i]? = some w) (hg : goodWord w = true) : w ∈ GW := GW_s1 (List.mem_append_right _ (List.mem_append_right _ (List.mem_append_right _ (List.mem_append_right _ (List.mem_append_right _ (List.mem_append_right _ (List.mem_append_right _ (List.mem_append_right _ (List.mem_of_getElem? h))))))))) hg
theorem GW_pr (i : Nat) {q : MethodName × Nat} (h : lw_privs[i]? = some q) : Cond.selects q.1.cls q.1 q.1 ∈ GW := GW_s1 (List.mem_append_left _ (List.mem_map.mpr ⟨q, List.mem_of_getElem? h, rfl⟩)) rfl
def rowN (k : Nat) : Nat := (TT.getD (k + 1) (0, 0, [])).2.1
def isX9 (k : Nat) : Prop := TT[k]? = some (0, 9, [none, none, none, some (k + 1), some (k + 2)]) ∧ TT[k + 1]? = some (1, 7, []) ∧ TT[k + 2]? = some (1, 7, [])
def isX4 (k : Nat) : Prop := TT[k]? = some (0, 4, [none, some (k + 1)]) ∧ TT[k + 1]? = some (1, 7, [])
def isX5 (k : Nat) : Prop := TT[k]? = some (0, 5, [none, some (k + 1), some (k + 2), some (k + 3), some (k + 4)]) ∧ TT[k + 1]? = some (1, 10, []) ∧ TT[k + 2]? = some (1, 10, []) ∧ TT[k + 3]? = some (1, 10, []) ∧ TT[k + 4]? = some (2, 10, [])
def isX6 (k : Nat) : Prop := TT[k]? = some (0, 6, [some (k + 1), none]) ∧ TT[k + 1]? = some (3, rowN k, [])
def isX8 (k : Nat) : Prop := TT[k]? = some (0, 8, [some (k + 1), some (k + 4), some (k + 6)]) ∧ isX9 (k + 1) ∧ isX4 (k + 4) ∧ isX5 (k + 6)
theorem CR_t1 (n a b : Nat) : exN.length + 3 < (rmL n a b).frames := by show 2 + 3 < 16 + n; omega
theorem CR_t2 {rest : List Value} (h : (rest.map fun v => v.category).sum ≤ 8) (n a b : Nat) : (rest.map fun v => v.category).sum + (13 * (exN.length + 1) + 42) ≤ (rmL n a b).locals := by show _ + (13 * (2 + 1) + 42) ≤ 200 + 64 * n; omega
theorem CR_f1 (n a b : Nat) : 1 ≤ (rmL n a b).frames := by show 1 ≤ 16 + n; omega
theorem CR_f2 {rest : List Value} (h : (rest.map fun v => v.category).sum ≤ 8) (n a b : Nat) : (rest.map fun v => v.category).sum + 13 ≤ (rmL n a b).locals := by show _ + 13 ≤ 200 + 64 * n; omega
theorem CR_f3 {rest : List Value} (h : (rest.map fun v => v.category).sum ≤ 8) (n a b : Nat) : (rest.map fun v => v.category).sum + (nativeFrameWords "java/lang/System" "arraycopy" 5 + 11) ≤ (rmL n a b).locals := by
  have : nativeFrameWords "java/lang/System" "arraycopy" 5 ≤ 100 := by decide
  show _ + (nativeFrameWords "java/lang/System" "arraycopy" 5 + 11) ≤ 200 + 64 * n
  omega
abbrev okF64 (x : UInt64) : Prop := (x &&& 9223372036854775807 ≤ 9218868437227405312)
abbrev okF32 (x : UInt32) : Prop := (x &&& 2147483647 ≤ 2139095040)
theorem okF64_ok {x : UInt64} (h : okF64 x) : vf_n64 x := by simpa [vf_n64] using h
theorem okF32_ok {x : UInt32} (h : okF32 x) : vf_n32 x := by simpa [vf_n32] using h
theorem nar_ok {x : Int32} (h : vp_nar .boolean x = x) : narrow .boolean (.int x) = .int x := congrArg Value.int h
theorem narB_ok {x : Int32} (h : vp_nar .boolean x = x) : narrow .boolean (.int x) = .int x := congrArg Value.int h
theorem narC_ok {x : Int32} (h : vp_nar .char x = x) : narrow .char (.int x) = .int x := congrArg Value.int h
theorem aald8 {i : Int32} (h : inB i 8) : [some 36, some 47, some 58, some 69, some 80, some 91, some 102, some 113].getD i.toNatClampNeg none = some (36 + 11 * i.toNatClampNeg) := by
  have h8 : i.toNatClampNeg < 8 := by
    rcases Nat.lt_or_ge i.toNatClampNeg 8 with q | q
    · exact q
    · exact absurd (Or.inr q) h
  generalize i.toNatClampNeg = j at h8
  match j, h8 with
  | 0, _ => rfl
  | 1, _ => rfl
  | 2, _ => rfl
  | 3, _ => rfl
  | 4, _ => rfl
  | 5, _ => rfl
  | 6, _ => rfl
  | 7, _ => rfl
abbrev stOK (t : Nat) : Prop := t = 36 ∨ t = 47 ∨ t = 58 ∨ t = 69 ∨ t = 80 ∨ t = 91 ∨ t = 102 ∨ t = 113
theorem gw_316 : Cond.fieldLink "FoldedArchive$CommandReader" 18 "FoldedArchive$CommandReader" "count" "I" ∈ GW := GW_t1 226 rfl rfl
theorem gw_322 : Cond.laysFinal "FoldedArchive$CommandReader" "FoldedArchive$CommandReader" "kinds" "[I" ∈ GW := GW_t1 232 rfl rfl
theorem gw_324 : Cond.laysFinal "FoldedArchive$CommandReader" "FoldedArchive$CommandReader" "operands" "[I" ∈ GW := GW_t1 234 rfl rfl
theorem gw_326 : Cond.lays "FoldedArchive$CommandReader" "FoldedArchive$CommandReader" "count" "I" ∈ GW := GW_t1 236 rfl rfl
theorem gw_328 : Cond.lays "FoldedArchive$CommandReader" "FoldedArchive$CommandReader" "fault" "I" ∈ GW := GW_t1 238 rfl rfl
theorem gw_330 : Cond.lays "FoldedArchive$CommandReader" "FoldedArchive$CommandReader" "position" "I" ∈ GW := GW_t2 0 rfl rfl
theorem gw_332 : Cond.lays "FoldedArchive$CommandReader" "FoldedArchive$CommandReader" "operandsRead" "I" ∈ GW := GW_t2 2 rfl rfl
theorem inG_X0 : ∀ w ∈ u_ws RX0 TX0 6, w ∈ GW := by
  have e : u_ws RX0 TX0 6 = [u_lay RX0 TX0 0, u_lay RX0 TX0 1, u_lay RX0 TX0 2, u_lay RX0 TX0 3, u_lay RX0 TX0 4, u_lay RX0 TX0 5] := rfl
  rw [e]
  exact List.forall_mem_cons.mpr ⟨gw_322, List.forall_mem_cons.mpr ⟨gw_324, List.forall_mem_cons.mpr ⟨gw_326, List.forall_mem_cons.mpr ⟨gw_328, List.forall_mem_cons.mpr ⟨gw_330, List.forall_mem_cons.mpr ⟨gw_332, fun _ h => absurd h List.not_mem_nil⟩⟩⟩⟩⟩⟩
theorem fl_X0_18 : FL RX0 18 0 2 "I" false := ⟨RX0, TX0, 6, tyX0, rfl, inG_X0, by decide, gw_316, tyX0_ok, nmX0, rfl, rfl⟩
theorem tt_138 : TT[138]? = some (0, 0, [some 139, some 140, none, none, none, none]) := by decide +kernel
theorem gw_314 : Cond.fieldLink "FoldedArchive$CommandReader" 9 "FoldedArchive$CommandReader" "kinds" "[I" ∈ GW := GW_t1 224 rfl rfl
theorem fl_X0_9 : FL RX0 9 0 0 "[I" true := ⟨RX0, TX0, 6, tyX0, rfl, inG_X0, by decide, gw_314, tyX0_ok, nmX0, rfl, rfl⟩
theorem tt_139 : TT[139]? = some (1, 60, []) := by decide +kernel
theorem gw_1367 : Cond.code yX0_kindOf cX0_kindOf 2 (some .int) ∈ GW := GW_t6 77 rfl rfl
theorem gw_315 : Cond.fieldLink "FoldedArchive$CommandReader" 15 "FoldedArchive$CommandReader" "operands" "[I" ∈ GW := GW_t1 225 rfl rfl
theorem fl_X0_15 : FL RX0 15 0 1 "[I" true := ⟨RX0, TX0, 6, tyX0, rfl, inG_X0, by decide, gw_315, tyX0_ok, nmX0, rfl, rfl⟩
theorem tt_140 : TT[140]? = some (1, 180, []) := by decide +kernel
theorem gw_1371 : Cond.code yX0_operandOf cX0_operandOf 4 (some .int) ∈ GW := GW_t6 81 rfl rfl
theorem gw_1270 : Cond.code yX0_shapeOf cX0_shapeOf 1 (some (.object "java/lang/String")) ∈ GW := GW_t5 220 rfl rfl
theorem gw_278 : Cond.fieldLink "FoldedArchive$Row" 21 "FoldedArchive$Row" "length" "I" ∈ GW := GW_t1 188 rfl rfl
theorem gw_282 : Cond.laysFinal "FoldedArchive$Row" "FoldedArchive$Row" "signs" "[C" ∈ GW := GW_t1 192 rfl rfl
theorem gw_284 : Cond.lays "FoldedArchive$Row" "FoldedArchive$Row" "length" "I" ∈ GW := GW_t1 194 rfl rfl
theorem inG_X6 : ∀ w ∈ u_ws RX6 TX6 2, w ∈ GW := by
  have e : u_ws RX6 TX6 2 = [u_lay RX6 TX6 0, u_lay RX6 TX6 1] := rfl
  rw [e]
  exact List.forall_mem_cons.mpr ⟨gw_282, List.forall_mem_cons.mpr ⟨gw_284, fun _ h => absurd h List.not_mem_nil⟩⟩
theorem fl_X6_21 : FL RX6 21 6 1 "I" false := ⟨RX6, TX6, 2, tyX6, rfl, inG_X6, by decide, gw_278, tyX6_ok, nmX6, rfl, rfl⟩
theorem gw_277 : Cond.fieldLink "FoldedArchive$Row" 15 "FoldedArchive$Row" "signs" "[C" ∈ GW := GW_t1 187 rfl rfl
theorem fl_X6_15 : FL RX6 15 6 0 "[C" true := ⟨RX6, TX6, 2, tyX6, rfl, inG_X6, by decide, gw_277, tyX6_ok, nmX6, rfl, rfl⟩
theorem gw_1224 : Cond.code yX6_at cX6_at 2 (some .char) ∈ GW := GW_t5 174 rfl rfl
theorem gw_1345 : Cond.code yX0_isDigit cX0_isDigit 1 (some .boolean) ∈ GW := GW_t6 55 rfl rfl
theorem gw_579 : Cond.code yX9_isTerm cX9_isTerm 1 (some .boolean) ∈ GW := GW_t3 9 rfl rfl
theorem gw_1343 : Cond.methodLink "FoldedArchive$CommandReader" 109 yX0_isDigit ∈ GW := GW_t6 53 rfl rfl
theorem gw_1344 : Cond.static yX0_isDigit ∈ GW := GW_t6 54 rfl rfl
theorem gw_102 : Cond.initialized "FoldedArchive$CommandReader" ∈ GW := GW_t1 12 rfl rfl
theorem cs_X0_109 : CS RX0 109 yX0_isDigit cX0_isDigit 1 (some .boolean) 1 := ⟨gw_1343, gw_1344, gw_102, gw_1345, by decide +kernel, by decide +kernel⟩
theorem gw_1346 : Cond.methodLink "FoldedArchive$CommandReader" 113 yX9_isTerm ∈ GW := GW_t6 56 rfl rfl
theorem gw_578 : Cond.static yX9_isTerm ∈ GW := GW_t3 8 rfl rfl
theorem gw_93 : Cond.initialized "FoldedArchive$Strip" ∈ GW := GW_t1 3 rfl rfl
theorem cs_X0_113 : CS RX0 113 yX9_isTerm cX9_isTerm 1 (some .boolean) 1 := ⟨gw_1346, gw_578, gw_93, gw_579, by decide +kernel, by decide +kernel⟩
theorem gw_1342 : Cond.code yX0_fits cX0_fits 2 (some .boolean) ∈ GW := GW_t6 52 rfl rfl
theorem gw_321 : Cond.fieldLink "FoldedArchive$CommandReader" 83 "FoldedArchive$CommandReader" "operandsRead" "I" ∈ GW := GW_t1 231 rfl rfl
theorem fl_X0_83 : FL RX0 83 0 5 "I" false := ⟨RX0, TX0, 6, tyX0, rfl, inG_X0, by decide, gw_321, tyX0_ok, nmX0, rfl, rfl⟩
theorem gw_1350 : Cond.code yX0_takeOperand cX0_takeOperand 3 none ∈ GW := GW_t6 60 rfl rfl
theorem gw_320 : Cond.fieldLink "FoldedArchive$CommandReader" 29 "FoldedArchive$CommandReader" "position" "I" ∈ GW := GW_t1 230 rfl rfl
theorem fl_X0_29 : FL RX0 29 0 4 "I" false := ⟨RX0, TX0, 6, tyX0, rfl, inG_X0, by decide, gw_320, tyX0_ok, nmX0, rfl, rfl⟩
theorem gw_1339 : Cond.methodLink "FoldedArchive$CommandReader" 37 yX6_at ∈ GW := GW_t6 49 rfl rfl
theorem gw_1222 : Cond.instanceMethod yX6_at ∈ GW := GW_t5 172 rfl rfl
theorem gw_1223 : Cond.selects yX6_at.cls yX6_at yX6_at ∈ GW := GW_t5 173 rfl rfl
theorem gw_99 : Cond.initialized "FoldedArchive$Row" ∈ GW := GW_t1 9 rfl rfl
theorem cv_X0_37 : CV RX0 37 yX6_at cX6_at 2 (some .char) 1 := ⟨gw_1339, gw_1222, gw_1223, gw_99, gw_1224, by decide +kernel, by decide +kernel⟩
theorem tt_132 : TT[132]? = some (0, 6, [some 133, none]) := by decide +kernel
theorem tt_133 : TT[133]? = some (3, 60, []) := by decide +kernel
theorem is6_132 : isX6 132 := ⟨tt_132, tt_133⟩
theorem gw_1354 : Cond.code yX0_numberFrom cX0_numberFrom 4 (some .int) ∈ GW := GW_t6 64 rfl rfl
theorem gw_1340 : Cond.methodLink "FoldedArchive$CommandReader" 98 yX0_fits ∈ GW := GW_t6 50 rfl rfl
theorem gw_1341 : Cond.static yX0_fits ∈ GW := GW_t6 51 rfl rfl
theorem cs_X0_98 : CS RX0 98 yX0_fits cX0_fits 2 (some .boolean) 2 := ⟨gw_1340, gw_1341, gw_102, gw_1342, by decide +kernel, by decide +kernel⟩
theorem gw_1351 : Cond.methodLink "FoldedArchive$CommandReader" 105 yX0_numberFrom ∈ GW := GW_t6 61 rfl rfl
theorem gw_1353 : Cond.instanceMethod yX0_numberFrom ∈ GW := GW_t6 63 rfl rfl
theorem gw_41 : Cond.selects yX0_numberFrom.cls yX0_numberFrom yX0_numberFrom ∈ GW := GW_pr 41 (q := (yX0_numberFrom, 6)) rfl
theorem cv_X0_105 : CV RX0 105 yX0_numberFrom cX0_numberFrom 4 (some .int) 2 := ⟨gw_1351, gw_1353, gw_41, gw_102, gw_1354, by decide +kernel, by decide +kernel⟩
theorem gw_1347 : Cond.methodLink "FoldedArchive$CommandReader" 102 yX0_takeOperand ∈ GW := GW_t6 57 rfl rfl
theorem gw_1349 : Cond.instanceMethod yX0_takeOperand ∈ GW := GW_t6 59 rfl rfl
theorem gw_40 : Cond.selects yX0_takeOperand.cls yX0_takeOperand yX0_takeOperand ∈ GW := GW_pr 40 (q := (yX0_takeOperand, 6)) rfl
theorem cv_X0_102 : CV RX0 102 yX0_takeOperand cX0_takeOperand 3 none 1 := ⟨gw_1347, gw_1349, gw_40, gw_102, gw_1350, by decide +kernel, by decide +kernel⟩
theorem gw_1338 : Cond.code yX0_followsSign cX0_followsSign 4 (some .boolean) ∈ GW := GW_t6 48 rfl rfl
theorem gw_1287 : Cond.methodLink "FoldedArchive$CommandReader" 86 yJ0_length_8abf5 ∈ GW := GW_t5 237 rfl rfl
theorem gw_1288 : Cond.instanceMethod yJ0_length_8abf5 ∈ GW := GW_t5 238 rfl rfl
theorem gw_1289 : Cond.selects yJ0_length_8abf5.cls yJ0_length_8abf5 yJ0_length_8abf5 ∈ GW := GW_t5 239 rfl rfl
theorem gw_113 : Cond.initialized "java/lang/String" ∈ GW := GW_t1 23 rfl rfl
theorem gw_1290 : Cond.code yJ0_length_8abf5 cJ0_length_8abf5 1 (some .int) ∈ GW := GW_t6 0 rfl rfl
theorem cv_X0_86 : CV RX0 86 yJ0_length_8abf5 cJ0_length_8abf5 1 (some .int) 0 := ⟨gw_1287, gw_1288, gw_1289, gw_113, gw_1290, by decide +kernel, by decide +kernel⟩
theorem gw_1297 : Cond.methodLink "FoldedArchive$CommandReader" 91 yJ0_charAt_5068e ∈ GW := GW_t6 7 rfl rfl
theorem gw_1298 : Cond.instanceMethod yJ0_charAt_5068e ∈ GW := GW_t6 8 rfl rfl
theorem gw_1299 : Cond.selects yJ0_charAt_5068e.cls yJ0_charAt_5068e yJ0_charAt_5068e ∈ GW := GW_t6 9 rfl rfl
theorem gw_1300 : Cond.code yJ0_charAt_5068e cJ0_charAt_5068e 2 (some .char) ∈ GW := GW_t6 10 rfl rfl
theorem cv_X0_91 : CV RX0 91 yJ0_charAt_5068e cJ0_charAt_5068e 2 (some .char) 1 := ⟨gw_1297, gw_1298, gw_1299, gw_113, gw_1300, by decide +kernel, by decide +kernel⟩
theorem gw_1335 : Cond.methodLink "FoldedArchive$CommandReader" 94 yX0_followsSign ∈ GW := GW_t6 45 rfl rfl
theorem gw_1337 : Cond.instanceMethod yX0_followsSign ∈ GW := GW_t6 47 rfl rfl
theorem gw_39 : Cond.selects yX0_followsSign.cls yX0_followsSign yX0_followsSign ∈ GW := GW_pr 39 (q := (yX0_followsSign, 6)) rfl
theorem cv_X0_94 : CV RX0 94 yX0_followsSign cX0_followsSign 4 (some .boolean) 2 := ⟨gw_1335, gw_1337, gw_39, gw_102, gw_1338, by decide +kernel, by decide +kernel⟩
theorem gw_1286 : Cond.code yX0_follows cX0_follows 5 (some .boolean) ∈ GW := GW_t5 236 rfl rfl
theorem gw_1358 : Cond.code yX0_append cX0_append 2 none ∈ GW := GW_t6 68 rfl rfl
theorem gw_318 : Cond.fieldLink "FoldedArchive$CommandReader" 22 "FoldedArchive$CommandReader" "fault" "I" ∈ GW := GW_t1 228 rfl rfl
theorem fl_X0_22 : FL RX0 22 0 3 "I" false := ⟨RX0, TX0, 6, tyX0, rfl, inG_X0, by decide, gw_318, tyX0_ok, nmX0, rfl, rfl⟩
theorem gw_1268 : Cond.methodLink "FoldedArchive$CommandReader" 41 yX0_shapeOf ∈ GW := GW_t5 218 rfl rfl
theorem gw_1269 : Cond.static yX0_shapeOf ∈ GW := GW_t5 219 rfl rfl
theorem cs_X0_41 : CS RX0 41 yX0_shapeOf cX0_shapeOf 1 (some (.object "java/lang/String")) 1 := ⟨gw_1268, gw_1269, gw_102, gw_1270, by decide +kernel, by decide +kernel⟩
theorem gw_1283 : Cond.methodLink "FoldedArchive$CommandReader" 45 yX0_follows ∈ GW := GW_t5 233 rfl rfl
theorem gw_1285 : Cond.instanceMethod yX0_follows ∈ GW := GW_t5 235 rfl rfl
theorem gw_38 : Cond.selects yX0_follows.cls yX0_follows yX0_follows ∈ GW := GW_pr 38 (q := (yX0_follows, 6)) rfl
theorem cv_X0_45 : CV RX0 45 yX0_follows cX0_follows 5 (some .boolean) 3 := ⟨gw_1283, gw_1285, gw_38, gw_102, gw_1286, by decide +kernel, by decide +kernel⟩
theorem gw_1359 : Cond.methodLink "FoldedArchive$CommandReader" 53 Lib.Math.max.name ∈ GW := GW_t6 69 rfl rfl
theorem gw_275 : Cond.static Lib.Math.max.name ∈ GW := GW_t1 185 rfl rfl
theorem gw_100 : Cond.initialized "java/lang/Math" ∈ GW := GW_t1 10 rfl rfl
theorem gw_276 : Cond.code Lib.Math.max.name Lib.Math.max.code 2 (some .int) ∈ GW := GW_t1 186 rfl rfl
theorem gw_1355 : Cond.methodLink "FoldedArchive$CommandReader" 49 yX0_append ∈ GW := GW_t6 65 rfl rfl
theorem gw_1357 : Cond.instanceMethod yX0_append ∈ GW := GW_t6 67 rfl rfl
theorem gw_42 : Cond.selects yX0_append.cls yX0_append yX0_append ∈ GW := GW_pr 42 (q := (yX0_append, 6)) rfl
theorem cv_X0_49 : CV RX0 49 yX0_append cX0_append 2 none 1 := ⟨gw_1355, gw_1357, gw_42, gw_102, gw_1358, by decide +kernel, by decide +kernel⟩
theorem gw_1267 : Cond.code yX0_readCommand cX0_readCommand 5 none ∈ GW := GW_t5 217 rfl rfl
theorem gw_1264 : Cond.methodLink "FoldedArchive$CommandReader" 25 yX0_readCommand ∈ GW := GW_t5 214 rfl rfl
theorem gw_1266 : Cond.instanceMethod yX0_readCommand ∈ GW := GW_t5 216 rfl rfl
theorem gw_37 : Cond.selects yX0_readCommand.cls yX0_readCommand yX0_readCommand ∈ GW := GW_pr 37 (q := (yX0_readCommand, 6)) rfl
theorem cv_X0_25 : CV RX0 25 yX0_readCommand cX0_readCommand 5 none 2 := ⟨gw_1264, gw_1266, gw_37, gw_102, gw_1267, by decide +kernel, by decide +kernel⟩
theorem gw_280 : Cond.fieldLink "FoldedArchive$CommandReader" 32 "FoldedArchive$Row" "length" "I" ∈ GW := GW_t1 190 rfl rfl
theorem fl_X0_32 : FL RX0 32 6 1 "I" false := ⟨RX6, TX6, 2, tyX6, rfl, inG_X6, by decide, gw_280, tyX6_ok, nmX6, rfl, rfl⟩
theorem gw_1263 : Cond.code yX0_read cX0_read 4 none ∈ GW := GW_t5 213 rfl rfl
theorem gw_184 : Cond.fieldLink "FoldedArchive$Pipes" 25 "FoldedArchive$Pipes" "count" "I" ∈ GW := GW_t1 94 rfl rfl
theorem gw_192 : Cond.lays "FoldedArchive$Pipes" "FoldedArchive$Pipes" "count" "I" ∈ GW := GW_t1 102 rfl rfl
theorem gw_194 : Cond.laysFinal "FoldedArchive$Pipes" "FoldedArchive$Pipes" "starts" "[I" ∈ GW := GW_t1 104 rfl rfl
theorem gw_196 : Cond.laysFinal "FoldedArchive$Pipes" "FoldedArchive$Pipes" "ends" "[I" ∈ GW := GW_t1 106 rfl rfl
theorem gw_198 : Cond.laysFinal "FoldedArchive$Pipes" "FoldedArchive$Pipes" "widths" "[I" ∈ GW := GW_t1 108 rfl rfl
theorem gw_200 : Cond.laysFinal "FoldedArchive$Pipes" "FoldedArchive$Pipes" "broken" "[Z" ∈ GW := GW_t1 110 rfl rfl
theorem inG_X5 : ∀ w ∈ u_ws RX5 TX5 5, w ∈ GW := by
  have e : u_ws RX5 TX5 5 = [u_lay RX5 TX5 0, u_lay RX5 TX5 1, u_lay RX5 TX5 2, u_lay RX5 TX5 3, u_lay RX5 TX5 4] := rfl
  rw [e]
  exact List.forall_mem_cons.mpr ⟨gw_192, List.forall_mem_cons.mpr ⟨gw_194, List.forall_mem_cons.mpr ⟨gw_196, List.forall_mem_cons.mpr ⟨gw_198, List.forall_mem_cons.mpr ⟨gw_200, fun _ h => absurd h List.not_mem_nil⟩⟩⟩⟩⟩
theorem fl_X5_25 : FL RX5 25 5 0 "I" false := ⟨RX5, TX5, 5, tyX5, rfl, inG_X5, by decide, gw_184, tyX5_ok, nmX5, rfl, rfl⟩
theorem gw_610 : Cond.code yX5_has cX5_has 2 (some .boolean) ∈ GW := GW_t3 40 rfl rfl
theorem gw_619 : Cond.methodLink "FoldedArchive$Pipes" 35 yX5_has ∈ GW := GW_t3 49 rfl rfl
theorem gw_608 : Cond.instanceMethod yX5_has ∈ GW := GW_t3 38 rfl rfl
theorem gw_609 : Cond.selects yX5_has.cls yX5_has yX5_has ∈ GW := GW_t3 39 rfl rfl
theorem gw_95 : Cond.initialized "FoldedArchive$Pipes" ∈ GW := GW_t1 5 rfl rfl
theorem cv_X5_35 : CV RX5 35 yX5_has cX5_has 2 (some .boolean) 1 := ⟨gw_619, gw_608, gw_609, gw_95, gw_610, by decide +kernel, by decide +kernel⟩
theorem gw_191 : Cond.fieldLink "FoldedArchive$Pipes" 21 "FoldedArchive$Pipes" "broken" "[Z" ∈ GW := GW_t1 101 rfl rfl
theorem fl_X5_21 : FL RX5 21 5 4 "[Z" true := ⟨RX5, TX5, 5, tyX5, rfl, inG_X5, by decide, gw_191, tyX5_ok, nmX5, rfl, rfl⟩
theorem gw_618 : Cond.code yX5_brokenAt cX5_brokenAt 2 (some .boolean) ∈ GW := GW_t3 48 rfl rfl
theorem gw_188 : Cond.fieldLink "FoldedArchive$Pipes" 9 "FoldedArchive$Pipes" "starts" "[I" ∈ GW := GW_t1 98 rfl rfl
theorem fl_X5_9 : FL RX5 9 5 1 "[I" true := ⟨RX5, TX5, 5, tyX5, rfl, inG_X5, by decide, gw_188, tyX5_ok, nmX5, rfl, rfl⟩
theorem gw_800 : Cond.code yX5_startOf cX5_startOf 2 (some .int) ∈ GW := GW_t3 230 rfl rfl
theorem gw_189 : Cond.fieldLink "FoldedArchive$Pipes" 15 "FoldedArchive$Pipes" "ends" "[I" ∈ GW := GW_t1 99 rfl rfl
theorem fl_X5_15 : FL RX5 15 5 2 "[I" true := ⟨RX5, TX5, 5, tyX5, rfl, inG_X5, by decide, gw_189, tyX5_ok, nmX5, rfl, rfl⟩
theorem gw_804 : Cond.code yX5_endOf cX5_endOf 2 (some .int) ∈ GW := GW_t3 234 rfl rfl
theorem gw_190 : Cond.fieldLink "FoldedArchive$Pipes" 18 "FoldedArchive$Pipes" "widths" "[I" ∈ GW := GW_t1 100 rfl rfl
theorem fl_X5_18 : FL RX5 18 5 3 "[I" true := ⟨RX5, TX5, 5, tyX5, rfl, inG_X5, by decide, gw_190, tyX5_ok, nmX5, rfl, rfl⟩
theorem gw_623 : Cond.code yX5_widthOf cX5_widthOf 2 (some .int) ∈ GW := GW_t3 53 rfl rfl
theorem gw_812 : Cond.code yX1_inGrid cX1_inGrid 2 (some .boolean) ∈ GW := GW_t4 2 rfl rfl
theorem gw_810 : Cond.methodLink "FoldedArchive$FlowSearch" 55 yX1_inGrid ∈ GW := GW_t4 0 rfl rfl
theorem gw_811 : Cond.static yX1_inGrid ∈ GW := GW_t4 1 rfl rfl
theorem gw_97 : Cond.initialized "FoldedArchive$FlowSearch" ∈ GW := GW_t1 7 rfl rfl
theorem cs_X1_55 : CS RX1 55 yX1_inGrid cX1_inGrid 2 (some .boolean) 2 := ⟨gw_810, gw_811, gw_97, gw_812, by decide +kernel, by decide +kernel⟩
theorem gw_243 : Cond.fieldLink "FoldedArchive$FlowSearch" 9 "FoldedArchive$FlowSearch" "spare" "[I" ∈ GW := GW_t1 153 rfl rfl
theorem gw_246 : Cond.laysFinal "FoldedArchive$FlowSearch" "FoldedArchive$FlowSearch" "spare" "[I" ∈ GW := GW_t1 156 rfl rfl
theorem gw_248 : Cond.laysFinal "FoldedArchive$FlowSearch" "FoldedArchive$FlowSearch" "reachedFrom" "[I" ∈ GW := GW_t1 158 rfl rfl
theorem gw_250 : Cond.laysFinal "FoldedArchive$FlowSearch" "FoldedArchive$FlowSearch" "queue" "[I" ∈ GW := GW_t1 160 rfl rfl
theorem inG_X1 : ∀ w ∈ u_ws RX1 TX1 3, w ∈ GW := by
  have e : u_ws RX1 TX1 3 = [u_lay RX1 TX1 0, u_lay RX1 TX1 1, u_lay RX1 TX1 2] := rfl
  rw [e]
  exact List.forall_mem_cons.mpr ⟨gw_246, List.forall_mem_cons.mpr ⟨gw_248, List.forall_mem_cons.mpr ⟨gw_250, fun _ h => absurd h List.not_mem_nil⟩⟩⟩
theorem fl_X1_9 : FL RX1 9 1 0 "[I" true := ⟨RX1, TX1, 3, tyX1, rfl, inG_X1, by decide, gw_243, tyX1_ok, nmX1, rfl, rfl⟩
theorem tt_124 : TT[124]? = some (0, 1, [some 125, some 126, some 127]) := by decide +kernel
theorem tt_125 : TT[125]? = some (1, 49, []) := by decide +kernel
theorem gw_809 : Cond.code yX1_addSpare cX1_addSpare 4 none ∈ GW := GW_t3 239 rfl rfl
theorem gw_185 : Cond.fieldLink "FoldedArchive$FlowSearch" 33 "FoldedArchive$Pipes" "count" "I" ∈ GW := GW_t1 95 rfl rfl
theorem fl_X1_33 : FL RX1 33 5 0 "I" false := ⟨RX5, TX5, 5, tyX5, rfl, inG_X5, by decide, gw_185, tyX5_ok, nmX5, rfl, rfl⟩
theorem gw_796 : Cond.methodLink "FoldedArchive$FlowSearch" 39 yX5_brokenAt ∈ GW := GW_t3 226 rfl rfl
theorem gw_616 : Cond.instanceMethod yX5_brokenAt ∈ GW := GW_t3 46 rfl rfl
theorem gw_617 : Cond.selects yX5_brokenAt.cls yX5_brokenAt yX5_brokenAt ∈ GW := GW_t3 47 rfl rfl
theorem cv_X1_39 : CV RX1 39 yX5_brokenAt cX5_brokenAt 2 (some .boolean) 1 := ⟨gw_796, gw_616, gw_617, gw_95, gw_618, by decide +kernel, by decide +kernel⟩
theorem gw_797 : Cond.methodLink "FoldedArchive$FlowSearch" 42 yX5_startOf ∈ GW := GW_t3 227 rfl rfl
theorem gw_798 : Cond.instanceMethod yX5_startOf ∈ GW := GW_t3 228 rfl rfl
theorem gw_799 : Cond.selects yX5_startOf.cls yX5_startOf yX5_startOf ∈ GW := GW_t3 229 rfl rfl
theorem cv_X1_42 : CV RX1 42 yX5_startOf cX5_startOf 2 (some .int) 1 := ⟨gw_797, gw_798, gw_799, gw_95, gw_800, by decide +kernel, by decide +kernel⟩
theorem gw_801 : Cond.methodLink "FoldedArchive$FlowSearch" 45 yX5_endOf ∈ GW := GW_t3 231 rfl rfl
theorem gw_802 : Cond.instanceMethod yX5_endOf ∈ GW := GW_t3 232 rfl rfl
theorem gw_803 : Cond.selects yX5_endOf.cls yX5_endOf yX5_endOf ∈ GW := GW_t3 233 rfl rfl
theorem cv_X1_45 : CV RX1 45 yX5_endOf cX5_endOf 2 (some .int) 1 := ⟨gw_801, gw_802, gw_803, gw_95, gw_804, by decide +kernel, by decide +kernel⟩
theorem gw_805 : Cond.methodLink "FoldedArchive$FlowSearch" 48 yX5_widthOf ∈ GW := GW_t3 235 rfl rfl
theorem gw_621 : Cond.instanceMethod yX5_widthOf ∈ GW := GW_t3 51 rfl rfl
theorem gw_622 : Cond.selects yX5_widthOf.cls yX5_widthOf yX5_widthOf ∈ GW := GW_t3 52 rfl rfl
theorem cv_X1_48 : CV RX1 48 yX5_widthOf cX5_widthOf 2 (some .int) 1 := ⟨gw_805, gw_621, gw_622, gw_95, gw_623, by decide +kernel, by decide +kernel⟩
theorem gw_806 : Cond.methodLink "FoldedArchive$FlowSearch" 51 yX1_addSpare ∈ GW := GW_t3 236 rfl rfl
theorem gw_808 : Cond.instanceMethod yX1_addSpare ∈ GW := GW_t3 238 rfl rfl
theorem gw_19 : Cond.selects yX1_addSpare.cls yX1_addSpare yX1_addSpare ∈ GW := GW_pr 19 (q := (yX1_addSpare, 3)) rfl
theorem cv_X1_51 : CV RX1 51 yX1_addSpare cX1_addSpare 4 none 3 := ⟨gw_806, gw_808, gw_19, gw_97, gw_809, by decide +kernel, by decide +kernel⟩
theorem gw_795 : Cond.code yX1_openPipes cX1_openPipes 4 none ∈ GW := GW_t3 225 rfl rfl
theorem gw_820 : Cond.code yX1_spareOf cX1_spareOf 3 (some .int) ∈ GW := GW_t4 10 rfl rfl
theorem gw_244 : Cond.fieldLink "FoldedArchive$FlowSearch" 15 "FoldedArchive$FlowSearch" "reachedFrom" "[I" ∈ GW := GW_t1 154 rfl rfl
theorem fl_X1_15 : FL RX1 15 1 1 "[I" true := ⟨RX1, TX1, 3, tyX1, rfl, inG_X1, by decide, gw_244, tyX1_ok, nmX1, rfl, rfl⟩
theorem tt_126 : TT[126]? = some (1, 7, []) := by decide +kernel
theorem gw_824 : Cond.code yX1_previousOf cX1_previousOf 2 (some .int) ∈ GW := GW_t4 14 rfl rfl
theorem gw_245 : Cond.fieldLink "FoldedArchive$FlowSearch" 18 "FoldedArchive$FlowSearch" "queue" "[I" ∈ GW := GW_t1 155 rfl rfl
theorem fl_X1_18 : FL RX1 18 1 2 "[I" true := ⟨RX1, TX1, 3, tyX1, rfl, inG_X1, by decide, gw_245, tyX1_ok, nmX1, rfl, rfl⟩
theorem tt_127 : TT[127]? = some (1, 7, []) := by decide +kernel
theorem gw_821 : Cond.methodLink "FoldedArchive$FlowSearch" 63 yX1_previousOf ∈ GW := GW_t4 11 rfl rfl
theorem gw_823 : Cond.instanceMethod yX1_previousOf ∈ GW := GW_t4 13 rfl rfl
theorem gw_22 : Cond.selects yX1_previousOf.cls yX1_previousOf yX1_previousOf ∈ GW := GW_pr 22 (q := (yX1_previousOf, 3)) rfl
theorem cv_X1_63 : CV RX1 63 yX1_previousOf cX1_previousOf 2 (some .int) 1 := ⟨gw_821, gw_823, gw_22, gw_97, gw_824, by decide +kernel, by decide +kernel⟩
theorem gw_817 : Cond.methodLink "FoldedArchive$FlowSearch" 59 yX1_spareOf ∈ GW := GW_t4 7 rfl rfl
theorem gw_819 : Cond.instanceMethod yX1_spareOf ∈ GW := GW_t4 9 rfl rfl
theorem gw_21 : Cond.selects yX1_spareOf.cls yX1_spareOf yX1_spareOf ∈ GW := GW_pr 21 (q := (yX1_spareOf, 3)) rfl
theorem cv_X1_59 : CV RX1 59 yX1_spareOf cX1_spareOf 3 (some .int) 2 := ⟨gw_817, gw_819, gw_21, gw_97, gw_820, by decide +kernel, by decide +kernel⟩
theorem gw_816 : Cond.code yX1_reachesLast cX1_reachesLast 6 (some .boolean) ∈ GW := GW_t4 6 rfl rfl
theorem gw_829 : Cond.methodLink "FoldedArchive$FlowSearch" 66 Lib.Math.min.name ∈ GW := GW_t4 19 rfl rfl
theorem gw_405 : Cond.static Lib.Math.min.name ∈ GW := GW_t2 75 rfl rfl
theorem gw_406 : Cond.code Lib.Math.min.name Lib.Math.min.code 2 (some .int) ∈ GW := GW_t2 76 rfl rfl
theorem gw_828 : Cond.code yX1_augment cX1_augment 6 (some .int) ∈ GW := GW_t4 18 rfl rfl
theorem gw_792 : Cond.methodLink "FoldedArchive$FlowSearch" 21 yX1_openPipes ∈ GW := GW_t3 222 rfl rfl
theorem gw_794 : Cond.instanceMethod yX1_openPipes ∈ GW := GW_t3 224 rfl rfl
theorem gw_18 : Cond.selects yX1_openPipes.cls yX1_openPipes yX1_openPipes ∈ GW := GW_pr 18 (q := (yX1_openPipes, 3)) rfl
theorem cv_X1_21 : CV RX1 21 yX1_openPipes cX1_openPipes 4 none 2 := ⟨gw_792, gw_794, gw_18, gw_97, gw_795, by decide +kernel, by decide +kernel⟩
theorem gw_813 : Cond.methodLink "FoldedArchive$FlowSearch" 25 yX1_reachesLast ∈ GW := GW_t4 3 rfl rfl
theorem gw_815 : Cond.instanceMethod yX1_reachesLast ∈ GW := GW_t4 5 rfl rfl
theorem gw_20 : Cond.selects yX1_reachesLast.cls yX1_reachesLast yX1_reachesLast ∈ GW := GW_pr 20 (q := (yX1_reachesLast, 3)) rfl
theorem cv_X1_25 : CV RX1 25 yX1_reachesLast cX1_reachesLast 6 (some .boolean) 1 := ⟨gw_813, gw_815, gw_20, gw_97, gw_816, by decide +kernel, by decide +kernel⟩
theorem gw_825 : Cond.methodLink "FoldedArchive$FlowSearch" 29 yX1_augment ∈ GW := GW_t4 15 rfl rfl
theorem gw_827 : Cond.instanceMethod yX1_augment ∈ GW := GW_t4 17 rfl rfl
theorem gw_23 : Cond.selects yX1_augment.cls yX1_augment yX1_augment ∈ GW := GW_pr 23 (q := (yX1_augment, 3)) rfl
theorem cv_X1_29 : CV RX1 29 yX1_augment cX1_augment 6 (some .int) 1 := ⟨gw_825, gw_827, gw_23, gw_97, gw_828, by decide +kernel, by decide +kernel⟩
theorem gw_791 : Cond.code yX1_greatest cX1_greatest 6 (some .int) ∈ GW := GW_t3 221 rfl rfl
theorem gw_1110 : Cond.code yX1_contains cX1_contains 2 (some .boolean) ∈ GW := GW_t5 60 rfl rfl
theorem gw_1108 : Cond.methodLink "FoldedArchive$FlowSearch" 75 yX1_contains ∈ GW := GW_t5 58 rfl rfl
theorem gw_1109 : Cond.static yX1_contains ∈ GW := GW_t5 59 rfl rfl
theorem cs_X1_75 : CS RX1 75 yX1_contains cX1_contains 2 (some .boolean) 2 := ⟨gw_1108, gw_1109, gw_97, gw_1110, by decide +kernel, by decide +kernel⟩
theorem gw_1107 : Cond.code yX1_cutSize cX1_cutSize 5 (some .int) ∈ GW := GW_t5 57 rfl rfl
theorem gw_1105 : Cond.methodLink "FoldedArchive$FlowSearch" 71 yX1_cutSize ∈ GW := GW_t5 55 rfl rfl
theorem gw_1106 : Cond.static yX1_cutSize ∈ GW := GW_t5 56 rfl rfl
theorem cs_X1_71 : CS RX1 71 yX1_cutSize cX1_cutSize 5 (some .int) 2 := ⟨gw_1105, gw_1106, gw_97, gw_1107, by decide +kernel, by decide +kernel⟩
theorem gw_1104 : Cond.code yX1_smallest cX1_smallest 5 (some .int) ∈ GW := GW_t5 54 rfl rfl
theorem gw_168 : Cond.fieldLink "FoldedArchive$Pile" 15 "FoldedArchive$Pile" "folded" "I" ∈ GW := GW_t1 78 rfl rfl
theorem gw_173 : Cond.lays "FoldedArchive$Pile" "FoldedArchive$Pile" "folded" "I" ∈ GW := GW_t1 83 rfl rfl
theorem gw_175 : Cond.laysFinal "FoldedArchive$Pile" "FoldedArchive$Pile" "layers" "[I" ∈ GW := GW_t1 85 rfl rfl
theorem inG_X4 : ∀ w ∈ u_ws RX4 TX4 2, w ∈ GW := by
  have e : u_ws RX4 TX4 2 = [u_lay RX4 TX4 0, u_lay RX4 TX4 1] := rfl
  rw [e]
  exact List.forall_mem_cons.mpr ⟨gw_173, List.forall_mem_cons.mpr ⟨gw_175, fun _ h => absurd h List.not_mem_nil⟩⟩
theorem fl_X4_15 : FL RX4 15 4 0 "I" false := ⟨RX4, TX4, 2, tyX4, rfl, inG_X4, by decide, gw_168, tyX4_ok, nmX4, rfl, rfl⟩
theorem gw_172 : Cond.fieldLink "FoldedArchive$Pile" 9 "FoldedArchive$Pile" "layers" "[I" ∈ GW := GW_t1 82 rfl rfl
theorem fl_X4_9 : FL RX4 9 4 1 "[I" true := ⟨RX4, TX4, 2, tyX4, rfl, inG_X4, by decide, gw_172, tyX4_ok, nmX4, rfl, rfl⟩
theorem gw_401 : Cond.methodLink "FoldedArchive$Pile" 19 arraycopyName ∈ GW := GW_t2 71 rfl rfl
theorem gw_403 : Cond.native arraycopyName ∈ GW := GW_t2 73 rfl rfl
theorem gw_402 : Cond.static arraycopyName ∈ GW := GW_t2 72 rfl rfl
theorem gw_111 : Cond.initialized "java/lang/System" ∈ GW := GW_t1 21 rfl rfl
theorem gw_400 : Cond.code yX4_copyFrom cX4_copyFrom 2 none ∈ GW := GW_t2 70 rfl rfl
theorem gw_422 : Cond.code yX4_layerHolding cX4_layerHolding 2 (some .int) ∈ GW := GW_t2 92 rfl rfl
theorem gw_419 : Cond.methodLink "FoldedArchive$Pile" 34 yX4_layerHolding ∈ GW := GW_t2 89 rfl rfl
theorem gw_420 : Cond.instanceMethod yX4_layerHolding ∈ GW := GW_t2 90 rfl rfl
theorem gw_421 : Cond.selects yX4_layerHolding.cls yX4_layerHolding yX4_layerHolding ∈ GW := GW_t2 91 rfl rfl
theorem gw_94 : Cond.initialized "FoldedArchive$Pile" ∈ GW := GW_t1 4 rfl rfl
theorem cv_X4_34 : CV RX4 34 yX4_layerHolding cX4_layerHolding 2 (some .int) 1 := ⟨gw_419, gw_420, gw_421, gw_94, gw_422, by decide +kernel, by decide +kernel⟩
theorem gw_418 : Cond.code yX4_layerAfterInsert cX4_layerAfterInsert 4 (some .int) ∈ GW := GW_t2 88 rfl rfl
theorem gw_426 : Cond.methodLink "FoldedArchive$Pile" 25 Lib.Math.min.name ∈ GW := GW_t2 96 rfl rfl
theorem gw_427 : Cond.methodLink "FoldedArchive$Pile" 31 Lib.Math.max.name ∈ GW := GW_t2 97 rfl rfl
theorem gw_425 : Cond.code yX4_spansCross cX4_spansCross 8 (some .boolean) ∈ GW := GW_t2 95 rfl rfl
theorem gw_415 : Cond.methodLink "FoldedArchive$Pile" 38 yX4_layerAfterInsert ∈ GW := GW_t2 85 rfl rfl
theorem gw_417 : Cond.instanceMethod yX4_layerAfterInsert ∈ GW := GW_t2 87 rfl rfl
theorem gw_1 : Cond.selects yX4_layerAfterInsert.cls yX4_layerAfterInsert yX4_layerAfterInsert ∈ GW := GW_pr 1 (q := (yX4_layerAfterInsert, 2)) rfl
theorem cv_X4_38 : CV RX4 38 yX4_layerAfterInsert cX4_layerAfterInsert 4 (some .int) 2 := ⟨gw_415, gw_417, gw_1, gw_94, gw_418, by decide +kernel, by decide +kernel⟩
theorem gw_423 : Cond.methodLink "FoldedArchive$Pile" 41 yX4_spansCross ∈ GW := GW_t2 93 rfl rfl
theorem gw_424 : Cond.static yX4_spansCross ∈ GW := GW_t2 94 rfl rfl
theorem cs_X4_41 : CS RX4 41 yX4_spansCross cX4_spansCross 8 (some .boolean) 4 := ⟨gw_423, gw_424, gw_94, gw_425, by decide +kernel, by decide +kernel⟩
theorem gw_414 : Cond.code yX4_creaseCrossedAt cX4_creaseCrossedAt 7 (some .int) ∈ GW := GW_t2 84 rfl rfl
theorem gw_435 : Cond.code yX4_insert cX4_insert 3 (some .int) ∈ GW := GW_t2 105 rfl rfl
theorem gw_439 : Cond.code yX4_removeLast cX4_removeLast 3 (some .int) ∈ GW := GW_t2 109 rfl rfl
theorem gw_261 : Cond.fieldLink "FoldedArchive$FoldingSearch" 12 "FoldedArchive$FoldingSearch" "trial" "LFoldedArchive$Pile;" ∈ GW := GW_t1 171 rfl rfl
theorem gw_263 : Cond.laysFinal "FoldedArchive$FoldingSearch" "FoldedArchive$FoldingSearch" "trial" "LFoldedArchive$Pile;" ∈ GW := GW_t1 173 rfl rfl
theorem gw_265 : Cond.laysFinal "FoldedArchive$FoldingSearch" "FoldedArchive$FoldingSearch" "placed" "[I" ∈ GW := GW_t1 175 rfl rfl
theorem inG_X2 : ∀ w ∈ u_ws RX2 TX2 2, w ∈ GW := by
  have e : u_ws RX2 TX2 2 = [u_lay RX2 TX2 0, u_lay RX2 TX2 1] := rfl
  rw [e]
  exact List.forall_mem_cons.mpr ⟨gw_263, List.forall_mem_cons.mpr ⟨gw_265, fun _ h => absurd h List.not_mem_nil⟩⟩
theorem fl_X2_12 : FL RX2 12 2 0 "LFoldedArchive$Pile;" true := ⟨RX2, TX2, 2, tyX2, rfl, inG_X2, by decide, gw_261, tyX2_ok, nmX2, rfl, rfl⟩
theorem tt_128 : TT[128]? = some (0, 2, [some 129, some 131]) := by decide +kernel
theorem gw_432 : Cond.methodLink "FoldedArchive$FoldingSearch" 47 yX4_insert ∈ GW := GW_t2 102 rfl rfl
theorem gw_433 : Cond.instanceMethod yX4_insert ∈ GW := GW_t2 103 rfl rfl
theorem gw_434 : Cond.selects yX4_insert.cls yX4_insert yX4_insert ∈ GW := GW_t2 104 rfl rfl
theorem cv_X2_47 : CV RX2 47 yX4_insert cX4_insert 3 (some .int) 1 := ⟨gw_432, gw_433, gw_434, gw_94, gw_435, by decide +kernel, by decide +kernel⟩
theorem tt_129 : TT[129]? = some (0, 4, [none, some 130]) := by decide +kernel
theorem tt_130 : TT[130]? = some (1, 7, []) := by decide +kernel
theorem is4_129 : isX4 129 := ⟨tt_129, tt_130⟩
theorem gw_407 : Cond.methodLink "FoldedArchive$FoldingSearch" 36 yX2_foldRest ∈ GW := GW_t2 77 rfl rfl
theorem gw_409 : Cond.instanceMethod yX2_foldRest ∈ GW := GW_t2 79 rfl rfl
theorem gw_0 : Cond.selects yX2_foldRest.cls yX2_foldRest yX2_foldRest ∈ GW := GW_pr 0 (q := (yX2_foldRest, 2)) rfl
theorem gw_98 : Cond.initialized "FoldedArchive$FoldingSearch" ∈ GW := GW_t1 8 rfl rfl
theorem gw_410 : Cond.code yX2_foldRest cX2_foldRest 5 (some .int) ∈ GW := GW_t2 80 rfl rfl
theorem cv_X2_36 : CV RX2 36 yX2_foldRest cX2_foldRest 5 (some .int) 2 := ⟨gw_407, gw_409, gw_0, gw_98, gw_410, by decide +kernel, by decide +kernel⟩
theorem gw_436 : Cond.methodLink "FoldedArchive$FoldingSearch" 50 yX4_removeLast ∈ GW := GW_t2 106 rfl rfl
theorem gw_437 : Cond.instanceMethod yX4_removeLast ∈ GW := GW_t2 107 rfl rfl
theorem gw_438 : Cond.selects yX4_removeLast.cls yX4_removeLast yX4_removeLast ∈ GW := GW_t2 108 rfl rfl
theorem cv_X2_50 : CV RX2 50 yX4_removeLast cX4_removeLast 3 (some .int) 0 := ⟨gw_436, gw_437, gw_438, gw_94, gw_439, by decide +kernel, by decide +kernel⟩
theorem gw_431 : Cond.code yX2_foldInto cX2_foldInto 5 (some .int) ∈ GW := GW_t2 101 rfl rfl
theorem gw_411 : Cond.methodLink "FoldedArchive$FoldingSearch" 39 yX4_creaseCrossedAt ∈ GW := GW_t2 81 rfl rfl
theorem gw_412 : Cond.instanceMethod yX4_creaseCrossedAt ∈ GW := GW_t2 82 rfl rfl
theorem gw_413 : Cond.selects yX4_creaseCrossedAt.cls yX4_creaseCrossedAt yX4_creaseCrossedAt ∈ GW := GW_t2 83 rfl rfl
theorem cv_X2_39 : CV RX2 39 yX4_creaseCrossedAt cX4_creaseCrossedAt 7 (some .int) 1 := ⟨gw_411, gw_412, gw_413, gw_94, gw_414, by decide +kernel, by decide +kernel⟩
theorem gw_428 : Cond.methodLink "FoldedArchive$FoldingSearch" 43 yX2_foldInto ∈ GW := GW_t2 98 rfl rfl
theorem gw_430 : Cond.instanceMethod yX2_foldInto ∈ GW := GW_t2 100 rfl rfl
theorem gw_2 : Cond.selects yX2_foldInto.cls yX2_foldInto yX2_foldInto ∈ GW := GW_pr 2 (q := (yX2_foldInto, 2)) rfl
theorem cv_X2_43 : CV RX2 43 yX2_foldInto cX2_foldInto 5 (some .int) 3 := ⟨gw_428, gw_430, gw_2, gw_98, gw_431, by decide +kernel, by decide +kernel⟩
theorem gw_397 : Cond.methodLink "FoldedArchive$FoldingSearch" 22 yX4_copyFrom ∈ GW := GW_t2 67 rfl rfl
theorem gw_398 : Cond.instanceMethod yX4_copyFrom ∈ GW := GW_t2 68 rfl rfl
theorem gw_399 : Cond.selects yX4_copyFrom.cls yX4_copyFrom yX4_copyFrom ∈ GW := GW_t2 69 rfl rfl
theorem cv_X2_22 : CV RX2 22 yX4_copyFrom cX4_copyFrom 2 none 1 := ⟨gw_397, gw_398, gw_399, gw_94, gw_400, by decide +kernel, by decide +kernel⟩
theorem gw_169 : Cond.fieldLink "FoldedArchive$FoldingSearch" 26 "FoldedArchive$Pile" "folded" "I" ∈ GW := GW_t1 79 rfl rfl
theorem fl_X2_26 : FL RX2 26 4 0 "I" false := ⟨RX4, TX4, 2, tyX4, rfl, inG_X4, by decide, gw_169, tyX4_ok, nmX4, rfl, rfl⟩
theorem gw_404 : Cond.methodLink "FoldedArchive$FoldingSearch" 30 Lib.Math.min.name ∈ GW := GW_t2 74 rfl rfl
theorem gw_396 : Cond.code yX2_countByFolding cX2_countByFolding 3 (some .int) ∈ GW := GW_t2 66 rfl rfl
theorem gw_456 : Cond.methodLink "FoldedArchive$FoldingSearch" 67 yX4_layerHolding ∈ GW := GW_t2 126 rfl rfl
theorem cv_X2_67 : CV RX2 67 yX4_layerHolding cX4_layerHolding 2 (some .int) 1 := ⟨gw_456, gw_420, gw_421, gw_94, gw_422, by decide +kernel, by decide +kernel⟩
theorem gw_262 : Cond.fieldLink "FoldedArchive$FoldingSearch" 18 "FoldedArchive$FoldingSearch" "placed" "[I" ∈ GW := GW_t1 172 rfl rfl
theorem fl_X2_18 : FL RX2 18 2 1 "[I" true := ⟨RX2, TX2, 2, tyX2, rfl, inG_X2, by decide, gw_262, tyX2_ok, nmX2, rfl, rfl⟩
theorem tt_131 : TT[131]? = some (1, 7, []) := by decide +kernel
theorem gw_455 : Cond.code yX2_isNextOfPile cX2_isNextOfPile 5 (some .boolean) ∈ GW := GW_t2 125 rfl rfl
theorem gw_468 : Cond.code yX2_placeOf cX2_placeOf 3 (some .int) ∈ GW := GW_t2 138 rfl rfl
theorem gw_465 : Cond.methodLink "FoldedArchive$FoldingSearch" 70 yX2_placeOf ∈ GW := GW_t2 135 rfl rfl
theorem gw_467 : Cond.instanceMethod yX2_placeOf ∈ GW := GW_t2 137 rfl rfl
theorem gw_7 : Cond.selects yX2_placeOf.cls yX2_placeOf yX2_placeOf ∈ GW := GW_pr 7 (q := (yX2_placeOf, 2)) rfl
theorem cv_X2_70 : CV RX2 70 yX2_placeOf cX2_placeOf 3 (some .int) 2 := ⟨gw_465, gw_467, gw_7, gw_98, gw_468, by decide +kernel, by decide +kernel⟩
theorem gw_469 : Cond.methodLink "FoldedArchive$FoldingSearch" 73 yX4_spansCross ∈ GW := GW_t2 139 rfl rfl
theorem cs_X2_73 : CS RX2 73 yX4_spansCross cX4_spansCross 8 (some .boolean) 4 := ⟨gw_469, gw_424, gw_94, gw_425, by decide +kernel, by decide +kernel⟩
theorem gw_464 : Cond.code yX2_spanCrosses cX2_spanCrosses 7 (some .boolean) ∈ GW := GW_t2 134 rfl rfl
theorem gw_461 : Cond.methodLink "FoldedArchive$FoldingSearch" 64 yX2_spanCrosses ∈ GW := GW_t2 131 rfl rfl
theorem gw_463 : Cond.instanceMethod yX2_spanCrosses ∈ GW := GW_t2 133 rfl rfl
theorem gw_6 : Cond.selects yX2_spanCrosses.cls yX2_spanCrosses yX2_spanCrosses ∈ GW := GW_pr 6 (q := (yX2_spanCrosses, 2)) rfl
theorem cv_X2_64 : CV RX2 64 yX2_spanCrosses cX2_spanCrosses 7 (some .boolean) 2 := ⟨gw_461, gw_463, gw_6, gw_98, gw_464, by decide +kernel, by decide +kernel⟩
theorem gw_448 : Cond.methodLink "FoldedArchive$FoldingSearch" 54 yX2_placeRest ∈ GW := GW_t2 118 rfl rfl
theorem gw_450 : Cond.instanceMethod yX2_placeRest ∈ GW := GW_t2 120 rfl rfl
theorem gw_3 : Cond.selects yX2_placeRest.cls yX2_placeRest yX2_placeRest ∈ GW := GW_pr 3 (q := (yX2_placeRest, 2)) rfl
theorem gw_451 : Cond.code yX2_placeRest cX2_placeRest 5 (some .int) ∈ GW := GW_t2 121 rfl rfl
theorem cv_X2_54 : CV RX2 54 yX2_placeRest cX2_placeRest 5 (some .int) 2 := ⟨gw_448, gw_450, gw_3, gw_98, gw_451, by decide +kernel, by decide +kernel⟩
theorem gw_460 : Cond.code yX2_goOnAbove cX2_goOnAbove 5 (some .int) ∈ GW := GW_t2 130 rfl rfl
theorem gw_452 : Cond.methodLink "FoldedArchive$FoldingSearch" 57 yX2_isNextOfPile ∈ GW := GW_t2 122 rfl rfl
theorem gw_454 : Cond.instanceMethod yX2_isNextOfPile ∈ GW := GW_t2 124 rfl rfl
theorem gw_4 : Cond.selects yX2_isNextOfPile.cls yX2_isNextOfPile yX2_isNextOfPile ∈ GW := GW_pr 4 (q := (yX2_isNextOfPile, 2)) rfl
theorem cv_X2_57 : CV RX2 57 yX2_isNextOfPile cX2_isNextOfPile 5 (some .boolean) 2 := ⟨gw_452, gw_454, gw_4, gw_98, gw_455, by decide +kernel, by decide +kernel⟩
theorem gw_457 : Cond.methodLink "FoldedArchive$FoldingSearch" 61 yX2_goOnAbove ∈ GW := GW_t2 127 rfl rfl
theorem gw_459 : Cond.instanceMethod yX2_goOnAbove ∈ GW := GW_t2 129 rfl rfl
theorem gw_5 : Cond.selects yX2_goOnAbove.cls yX2_goOnAbove yX2_goOnAbove ∈ GW := GW_pr 5 (q := (yX2_goOnAbove, 2)) rfl
theorem cv_X2_61 : CV RX2 61 yX2_goOnAbove cX2_goOnAbove 5 (some .int) 3 := ⟨gw_457, gw_459, gw_5, gw_98, gw_460, by decide +kernel, by decide +kernel⟩
theorem gw_447 : Cond.code yX2_countByOrders cX2_countByOrders 5 (some .int) ∈ GW := GW_t2 117 rfl rfl
theorem gw_226 : Cond.fieldLink "FoldedArchive$History" 11 "FoldedArchive$History" "kept" "[LFoldedArchive$State;" ∈ GW := GW_t1 136 rfl rfl
theorem gw_230 : Cond.laysFinal "FoldedArchive$History" "FoldedArchive$History" "kept" "[LFoldedArchive$State;" ∈ GW := GW_t1 140 rfl rfl
theorem gw_232 : Cond.lays "FoldedArchive$History" "FoldedArchive$History" "next" "I" ∈ GW := GW_t1 142 rfl rfl
theorem gw_234 : Cond.lays "FoldedArchive$History" "FoldedArchive$History" "count" "I" ∈ GW := GW_t1 144 rfl rfl
theorem inG_X3 : ∀ w ∈ u_ws RX3 TX3 3, w ∈ GW := by
  have e : u_ws RX3 TX3 3 = [u_lay RX3 TX3 0, u_lay RX3 TX3 1, u_lay RX3 TX3 2] := rfl
  rw [e]
  exact List.forall_mem_cons.mpr ⟨gw_230, List.forall_mem_cons.mpr ⟨gw_232, List.forall_mem_cons.mpr ⟨gw_234, fun _ h => absurd h List.not_mem_nil⟩⟩⟩
theorem fl_X3_11 : FL RX3 11 3 0 "[LFoldedArchive$State;" true := ⟨RX3, TX3, 3, tyX3, rfl, inG_X3, by decide, gw_226, tyX3_ok, nmX3, rfl, rfl⟩
theorem tt_34 : TT[34]? = some (0, 3, [some 35, none, none]) := by decide +kernel
theorem tt_35 : TT[35]? = some (6, 8, [some 36, some 47, some 58, some 69, some 80, some 91, some 102, some 113]) := by decide +kernel
theorem gw_741 : Cond.code yX3_stateAt cX3_stateAt 2 (some (.object "FoldedArchive$State")) ∈ GW := GW_t3 171 rfl rfl
theorem gw_140 : Cond.fieldLink "FoldedArchive$Strip" 18 "FoldedArchive$Strip" "count" "I" ∈ GW := GW_t1 50 rfl rfl
theorem gw_150 : Cond.lays "FoldedArchive$Strip" "FoldedArchive$Strip" "count" "I" ∈ GW := GW_t1 60 rfl rfl
theorem gw_152 : Cond.lays "FoldedArchive$Strip" "FoldedArchive$Strip" "pouredUnits" "I" ∈ GW := GW_t1 62 rfl rfl
theorem gw_154 : Cond.lays "FoldedArchive$Strip" "FoldedArchive$Strip" "leakedUnits" "I" ∈ GW := GW_t1 64 rfl rfl
theorem gw_156 : Cond.laysFinal "FoldedArchive$Strip" "FoldedArchive$Strip" "water" "[I" ∈ GW := GW_t1 66 rfl rfl
theorem gw_158 : Cond.laysFinal "FoldedArchive$Strip" "FoldedArchive$Strip" "terms" "[I" ∈ GW := GW_t1 68 rfl rfl
theorem inG_X9 : ∀ w ∈ u_ws RX9 TX9 5, w ∈ GW := by
  have e : u_ws RX9 TX9 5 = [u_lay RX9 TX9 0, u_lay RX9 TX9 1, u_lay RX9 TX9 2, u_lay RX9 TX9 3, u_lay RX9 TX9 4] := rfl
  rw [e]
  exact List.forall_mem_cons.mpr ⟨gw_150, List.forall_mem_cons.mpr ⟨gw_152, List.forall_mem_cons.mpr ⟨gw_154, List.forall_mem_cons.mpr ⟨gw_156, List.forall_mem_cons.mpr ⟨gw_158, fun _ h => absurd h List.not_mem_nil⟩⟩⟩⟩⟩
theorem fl_X9_18 : FL RX9 18 9 0 "I" false := ⟨RX9, TX9, 5, tyX9, rfl, inG_X9, by decide, gw_140, tyX9_ok, nmX9, rfl, rfl⟩
theorem gw_144 : Cond.fieldLink "FoldedArchive$Strip" 22 "FoldedArchive$Strip" "pouredUnits" "I" ∈ GW := GW_t1 54 rfl rfl
theorem fl_X9_22 : FL RX9 22 9 1 "I" false := ⟨RX9, TX9, 5, tyX9, rfl, inG_X9, by decide, gw_144, tyX9_ok, nmX9, rfl, rfl⟩
theorem gw_146 : Cond.fieldLink "FoldedArchive$Strip" 25 "FoldedArchive$Strip" "leakedUnits" "I" ∈ GW := GW_t1 56 rfl rfl
theorem fl_X9_25 : FL RX9 25 9 2 "I" false := ⟨RX9, TX9, 5, tyX9, rfl, inG_X9, by decide, gw_146, tyX9_ok, nmX9, rfl, rfl⟩
theorem gw_148 : Cond.fieldLink "FoldedArchive$Strip" 9 "FoldedArchive$Strip" "water" "[I" ∈ GW := GW_t1 58 rfl rfl
theorem fl_X9_9 : FL RX9 9 9 3 "[I" true := ⟨RX9, TX9, 5, tyX9, rfl, inG_X9, by decide, gw_148, tyX9_ok, nmX9, rfl, rfl⟩
theorem gw_534 : Cond.methodLink "FoldedArchive$Strip" 28 arraycopyName ∈ GW := GW_t2 204 rfl rfl
theorem gw_149 : Cond.fieldLink "FoldedArchive$Strip" 15 "FoldedArchive$Strip" "terms" "[I" ∈ GW := GW_t1 59 rfl rfl
theorem fl_X9_15 : FL RX9 15 9 4 "[I" true := ⟨RX9, TX9, 5, tyX9, rfl, inG_X9, by decide, gw_149, tyX9_ok, nmX9, rfl, rfl⟩
theorem gw_533 : Cond.code yX9_copyFrom cX9_copyFrom 2 none ∈ GW := GW_t2 203 rfl rfl
theorem gw_540 : Cond.methodLink "FoldedArchive$Pipes" 29 arraycopyName ∈ GW := GW_t2 210 rfl rfl
theorem gw_539 : Cond.code yX5_copyFrom cX5_copyFrom 3 none ∈ GW := GW_t2 209 rfl rfl
theorem gw_204 : Cond.fieldLink "FoldedArchive$State" 12 "FoldedArchive$State" "strip" "LFoldedArchive$Strip;" ∈ GW := GW_t1 114 rfl rfl
theorem gw_210 : Cond.laysFinal "FoldedArchive$State" "FoldedArchive$State" "strip" "LFoldedArchive$Strip;" ∈ GW := GW_t1 120 rfl rfl
theorem gw_212 : Cond.laysFinal "FoldedArchive$State" "FoldedArchive$State" "pile" "LFoldedArchive$Pile;" ∈ GW := GW_t1 122 rfl rfl
theorem gw_214 : Cond.laysFinal "FoldedArchive$State" "FoldedArchive$State" "pipes" "LFoldedArchive$Pipes;" ∈ GW := GW_t1 124 rfl rfl
theorem inG_X8 : ∀ w ∈ u_ws RX8 TX8 3, w ∈ GW := by
  have e : u_ws RX8 TX8 3 = [u_lay RX8 TX8 0, u_lay RX8 TX8 1, u_lay RX8 TX8 2] := rfl
  rw [e]
  exact List.forall_mem_cons.mpr ⟨gw_210, List.forall_mem_cons.mpr ⟨gw_212, List.forall_mem_cons.mpr ⟨gw_214, fun _ h => absurd h List.not_mem_nil⟩⟩⟩
theorem fl_X8_12 : FL RX8 12 8 0 "LFoldedArchive$Strip;" true := ⟨RX8, TX8, 3, tyX8, rfl, inG_X8, by decide, gw_204, tyX8_ok, nmX8, rfl, rfl⟩
theorem gw_530 : Cond.methodLink "FoldedArchive$State" 32 yX9_copyFrom ∈ GW := GW_t2 200 rfl rfl
theorem gw_531 : Cond.instanceMethod yX9_copyFrom ∈ GW := GW_t2 201 rfl rfl
theorem gw_532 : Cond.selects yX9_copyFrom.cls yX9_copyFrom yX9_copyFrom ∈ GW := GW_t2 202 rfl rfl
theorem cv_X8_32 : CV RX8 32 yX9_copyFrom cX9_copyFrom 2 none 1 := ⟨gw_530, gw_531, gw_532, gw_93, gw_533, by decide +kernel, by decide +kernel⟩
theorem gw_206 : Cond.fieldLink "FoldedArchive$State" 21 "FoldedArchive$State" "pile" "LFoldedArchive$Pile;" ∈ GW := GW_t1 116 rfl rfl
theorem fl_X8_21 : FL RX8 21 8 1 "LFoldedArchive$Pile;" true := ⟨RX8, TX8, 3, tyX8, rfl, inG_X8, by decide, gw_206, tyX8_ok, nmX8, rfl, rfl⟩
theorem gw_535 : Cond.methodLink "FoldedArchive$State" 36 yX4_copyFrom ∈ GW := GW_t2 205 rfl rfl
theorem cv_X8_36 : CV RX8 36 yX4_copyFrom cX4_copyFrom 2 none 1 := ⟨gw_535, gw_398, gw_399, gw_94, gw_400, by decide +kernel, by decide +kernel⟩
theorem gw_208 : Cond.fieldLink "FoldedArchive$State" 28 "FoldedArchive$State" "pipes" "LFoldedArchive$Pipes;" ∈ GW := GW_t1 118 rfl rfl
theorem fl_X8_28 : FL RX8 28 8 2 "LFoldedArchive$Pipes;" true := ⟨RX8, TX8, 3, tyX8, rfl, inG_X8, by decide, gw_208, tyX8_ok, nmX8, rfl, rfl⟩
theorem gw_536 : Cond.methodLink "FoldedArchive$State" 39 yX5_copyFrom ∈ GW := GW_t2 206 rfl rfl
theorem gw_537 : Cond.instanceMethod yX5_copyFrom ∈ GW := GW_t2 207 rfl rfl
theorem gw_538 : Cond.selects yX5_copyFrom.cls yX5_copyFrom yX5_copyFrom ∈ GW := GW_t2 208 rfl rfl
theorem cv_X8_39 : CV RX8 39 yX5_copyFrom cX5_copyFrom 3 none 1 := ⟨gw_536, gw_537, gw_538, gw_95, gw_539, by decide +kernel, by decide +kernel⟩
theorem gw_529 : Cond.code yX8_copyFrom cX8_copyFrom 2 none ∈ GW := GW_t2 199 rfl rfl
theorem gw_227 : Cond.fieldLink "FoldedArchive$History" 18 "FoldedArchive$History" "next" "I" ∈ GW := GW_t1 137 rfl rfl
theorem fl_X3_18 : FL RX3 18 3 1 "I" false := ⟨RX3, TX3, 3, tyX3, rfl, inG_X3, by decide, gw_227, tyX3_ok, nmX3, rfl, rfl⟩
theorem gw_738 : Cond.methodLink "FoldedArchive$History" 22 yX3_stateAt ∈ GW := GW_t3 168 rfl rfl
theorem gw_740 : Cond.instanceMethod yX3_stateAt ∈ GW := GW_t3 170 rfl rfl
theorem gw_16 : Cond.selects yX3_stateAt.cls yX3_stateAt yX3_stateAt ∈ GW := GW_pr 16 (q := (yX3_stateAt, 3)) rfl
theorem gw_96 : Cond.initialized "FoldedArchive$History" ∈ GW := GW_t1 6 rfl rfl
theorem cv_X3_22 : CV RX3 22 yX3_stateAt cX3_stateAt 2 (some (.object "FoldedArchive$State")) 1 := ⟨gw_738, gw_740, gw_16, gw_96, gw_741, by decide +kernel, by decide +kernel⟩
theorem gw_228 : Cond.fieldLink "FoldedArchive$History" 30 "FoldedArchive$History" "count" "I" ∈ GW := GW_t1 138 rfl rfl
theorem fl_X3_30 : FL RX3 30 3 2 "I" false := ⟨RX3, TX3, 3, tyX3, rfl, inG_X3, by decide, gw_228, tyX3_ok, nmX3, rfl, rfl⟩
theorem gw_743 : Cond.methodLink "FoldedArchive$History" 33 Lib.Math.min.name ∈ GW := GW_t3 173 rfl rfl
theorem gw_742 : Cond.methodLink "FoldedArchive$History" 26 yX8_copyFrom ∈ GW := GW_t3 172 rfl rfl
theorem gw_527 : Cond.instanceMethod yX8_copyFrom ∈ GW := GW_t2 197 rfl rfl
theorem gw_528 : Cond.selects yX8_copyFrom.cls yX8_copyFrom yX8_copyFrom ∈ GW := GW_t2 198 rfl rfl
theorem gw_92 : Cond.initialized "FoldedArchive$State" ∈ GW := GW_t1 2 rfl rfl
theorem cv_X3_26 : CV RX3 26 yX8_copyFrom cX8_copyFrom 2 none 1 := ⟨gw_742, gw_527, gw_528, gw_92, gw_529, by decide +kernel, by decide +kernel⟩
theorem gw_737 : Cond.code yX3_keep cX3_keep 3 none ∈ GW := GW_t3 167 rfl rfl
theorem gw_1428 : Cond.code yX3_takeBack cX3_takeBack 3 none ∈ GW := GW_t6 138 rfl rfl
theorem gw_1439 : Cond.code yX3_forget cX3_forget 1 none ∈ GW := GW_t6 149 rfl rfl
theorem gw_509 : Cond.code yX4_sectionAt cX4_sectionAt 3 (some .int) ∈ GW := GW_t2 179 rfl rfl
theorem gw_787 : Cond.code yX5_brokenCount cX5_brokenCount 3 (some .int) ∈ GW := GW_t3 217 rfl rfl
theorem gw_775 : Cond.code yX5_append cX5_append 4 (some .int) ∈ GW := GW_t3 205 rfl rfl
theorem gw_779 : Cond.code yX5_remove cX5_remove 3 (some .int) ∈ GW := GW_t3 209 rfl rfl
theorem gw_784 : Cond.methodLink "FoldedArchive$Pipes" 39 yX5_brokenCount ∈ GW := GW_t3 214 rfl rfl
theorem gw_785 : Cond.instanceMethod yX5_brokenCount ∈ GW := GW_t3 215 rfl rfl
theorem gw_786 : Cond.selects yX5_brokenCount.cls yX5_brokenCount yX5_brokenCount ∈ GW := GW_t3 216 rfl rfl
theorem cv_X5_39 : CV RX5 39 yX5_brokenCount cX5_brokenCount 3 (some .int) 0 := ⟨gw_784, gw_785, gw_786, gw_95, gw_787, by decide +kernel, by decide +kernel⟩
theorem gw_783 : Cond.code yX5_setBroken cX5_setBroken 3 (some .int) ∈ GW := GW_t3 213 rfl rfl
theorem gw_1176 : Cond.code yX6_isFull cX6_isFull 1 (some .boolean) ∈ GW := GW_t5 126 rfl rfl
theorem gw_517 : Cond.code yX6_put cX6_put 2 none ∈ GW := GW_t2 187 rfl rfl
theorem gw_514 : Cond.methodLink "FoldedArchive$Row" 25 yX6_put ∈ GW := GW_t2 184 rfl rfl
theorem gw_515 : Cond.instanceMethod yX6_put ∈ GW := GW_t2 185 rfl rfl
theorem gw_516 : Cond.selects yX6_put.cls yX6_put yX6_put ∈ GW := GW_t2 186 rfl rfl
theorem cv_X6_25 : CV RX6 25 yX6_put cX6_put 2 none 1 := ⟨gw_514, gw_515, gw_516, gw_99, gw_517, by decide +kernel, by decide +kernel⟩
theorem gw_513 : Cond.code yX6_putNumber cX6_putNumber 2 none ∈ GW := GW_t2 183 rfl rfl
theorem gw_501 : Cond.code yX6_empty cX6_empty 1 none ∈ GW := GW_t2 171 rfl rfl
theorem gw_567 : Cond.code yX9_has cX9_has 2 (some .boolean) ∈ GW := GW_t2 237 rfl rfl
theorem gw_587 : Cond.methodLink "FoldedArchive$Strip" 34 yX9_isTerm ∈ GW := GW_t3 17 rfl rfl
theorem cs_X9_34 : CS RX9 34 yX9_isTerm cX9_isTerm 1 (some .boolean) 1 := ⟨gw_587, gw_578, gw_93, gw_579, by decide +kernel, by decide +kernel⟩
theorem gw_586 : Cond.code yX9_bitOf cX9_bitOf 1 (some .int) ∈ GW := GW_t3 16 rfl rfl
theorem gw_572 : Cond.methodLink "FoldedArchive$Strip" 38 yX9_has ∈ GW := GW_t3 2 rfl rfl
theorem gw_565 : Cond.instanceMethod yX9_has ∈ GW := GW_t2 235 rfl rfl
theorem gw_566 : Cond.selects yX9_has.cls yX9_has yX9_has ∈ GW := GW_t2 236 rfl rfl
theorem cv_X9_38 : CV RX9 38 yX9_has cX9_has 2 (some .boolean) 1 := ⟨gw_572, gw_565, gw_566, gw_93, gw_567, by decide +kernel, by decide +kernel⟩
theorem gw_584 : Cond.methodLink "FoldedArchive$Strip" 47 yX9_bitOf ∈ GW := GW_t3 14 rfl rfl
theorem gw_585 : Cond.static yX9_bitOf ∈ GW := GW_t3 15 rfl rfl
theorem cs_X9_47 : CS RX9 47 yX9_bitOf cX9_bitOf 1 (some .int) 1 := ⟨gw_584, gw_585, gw_93, gw_586, by decide +kernel, by decide +kernel⟩
theorem gw_583 : Cond.code yX9_bears cX9_bears 3 (some .boolean) ∈ GW := GW_t3 13 rfl rfl
theorem gw_946 : Cond.methodLink "FoldedArchive$Strip" 50 yX9_bears ∈ GW := GW_t4 136 rfl rfl
theorem gw_581 : Cond.instanceMethod yX9_bears ∈ GW := GW_t3 11 rfl rfl
theorem gw_582 : Cond.selects yX9_bears.cls yX9_bears yX9_bears ∈ GW := GW_t3 12 rfl rfl
theorem cv_X9_50 : CV RX9 50 yX9_bears cX9_bears 3 (some .boolean) 2 := ⟨gw_946, gw_581, gw_582, gw_93, gw_583, by decide +kernel, by decide +kernel⟩
theorem gw_945 : Cond.code yX9_bearersOf cX9_bearersOf 4 (some .int) ∈ GW := GW_t4 135 rfl rfl
theorem gw_141 : Cond.fieldLink "FoldedArchive$SearchReader" 15 "FoldedArchive$Strip" "count" "I" ∈ GW := GW_t1 51 rfl rfl
theorem fl_X7_15 : FL RX7 15 9 0 "I" false := ⟨RX9, TX9, 5, tyX9, rfl, inG_X9, by decide, gw_141, tyX9_ok, nmX9, rfl, rfl⟩
theorem gw_295 : Cond.fieldLink "FoldedArchive$SearchReader" 21 "FoldedArchive$SearchReader" "everything" "I" ∈ GW := GW_t1 205 rfl rfl
theorem gw_299 : Cond.laysFinal "FoldedArchive$SearchReader" "FoldedArchive$SearchReader" "bearers" "[I" ∈ GW := GW_t1 209 rfl rfl
theorem gw_301 : Cond.lays "FoldedArchive$SearchReader" "FoldedArchive$SearchReader" "everything" "I" ∈ GW := GW_t1 211 rfl rfl
theorem gw_303 : Cond.lays "FoldedArchive$SearchReader" "FoldedArchive$SearchReader" "position" "I" ∈ GW := GW_t1 213 rfl rfl
theorem gw_305 : Cond.lays "FoldedArchive$SearchReader" "FoldedArchive$SearchReader" "fault" "I" ∈ GW := GW_t1 215 rfl rfl
theorem inG_X7 : ∀ w ∈ u_ws RX7 TX7 4, w ∈ GW := by
  have e : u_ws RX7 TX7 4 = [u_lay RX7 TX7 0, u_lay RX7 TX7 1, u_lay RX7 TX7 2, u_lay RX7 TX7 3] := rfl
  rw [e]
  exact List.forall_mem_cons.mpr ⟨gw_299, List.forall_mem_cons.mpr ⟨gw_301, List.forall_mem_cons.mpr ⟨gw_303, List.forall_mem_cons.mpr ⟨gw_305, fun _ h => absurd h List.not_mem_nil⟩⟩⟩⟩
theorem fl_X7_21 : FL RX7 21 7 1 "I" false := ⟨RX7, TX7, 4, tyX7, rfl, inG_X7, by decide, gw_295, tyX7_ok, nmX7, rfl, rfl⟩
theorem tt_136 : TT[136]? = some (0, 7, [some 137, none, none, none]) := by decide +kernel
theorem gw_294 : Cond.fieldLink "FoldedArchive$SearchReader" 9 "FoldedArchive$SearchReader" "bearers" "[I" ∈ GW := GW_t1 204 rfl rfl
theorem fl_X7_9 : FL RX7 9 7 0 "[I" true := ⟨RX7, TX7, 4, tyX7, rfl, inG_X7, by decide, gw_294, tyX7_ok, nmX7, rfl, rfl⟩
theorem gw_1204 : Cond.methodLink "FoldedArchive$SearchReader" 24 yX9_bearersOf ∈ GW := GW_t5 154 rfl rfl
theorem gw_943 : Cond.instanceMethod yX9_bearersOf ∈ GW := GW_t4 133 rfl rfl
theorem gw_944 : Cond.selects yX9_bearersOf.cls yX9_bearersOf yX9_bearersOf ∈ GW := GW_t4 134 rfl rfl
theorem cv_X7_24 : CV RX7 24 yX9_bearersOf cX9_bearersOf 4 (some .int) 1 := ⟨gw_1204, gw_943, gw_944, gw_93, gw_945, by decide +kernel, by decide +kernel⟩
theorem tt_137 : TT[137]? = some (1, 8, []) := by decide +kernel
theorem gw_1203 : Cond.code yX7_askForAll cX7_askForAll 3 none ∈ GW := GW_t5 153 rfl rfl
theorem gw_1252 : Cond.methodLink "FoldedArchive$SearchReader" 28 yX9_bears ∈ GW := GW_t5 202 rfl rfl
theorem cv_X7_28 : CV RX7 28 yX9_bears cX9_bears 3 (some .boolean) 2 := ⟨gw_1252, gw_581, gw_582, gw_93, gw_583, by decide +kernel, by decide +kernel⟩
theorem gw_1251 : Cond.code yX7_askForOne cX7_askForOne 4 none ∈ GW := GW_t5 201 rfl rfl
theorem gw_1233 : Cond.code yX7_bearersOf cX7_bearersOf 3 (some .int) ∈ GW := GW_t5 183 rfl rfl
theorem gw_296 : Cond.fieldLink "FoldedArchive$SearchReader" 32 "FoldedArchive$SearchReader" "position" "I" ∈ GW := GW_t1 206 rfl rfl
theorem fl_X7_32 : FL RX7 32 7 2 "I" false := ⟨RX7, TX7, 4, tyX7, rfl, inG_X7, by decide, gw_296, tyX7_ok, nmX7, rfl, rfl⟩
theorem gw_1221 : Cond.methodLink "FoldedArchive$SearchReader" 50 yX6_at ∈ GW := GW_t5 171 rfl rfl
theorem cv_X7_50 : CV RX7 50 yX6_at cX6_at 2 (some .char) 1 := ⟨gw_1221, gw_1222, gw_1223, gw_99, gw_1224, by decide +kernel, by decide +kernel⟩
theorem gw_1229 : Cond.methodLink "FoldedArchive$SearchReader" 61 yX9_isTerm ∈ GW := GW_t5 179 rfl rfl
theorem cs_X7_61 : CS RX7 61 yX9_isTerm cX9_isTerm 1 (some .boolean) 1 := ⟨gw_1229, gw_578, gw_93, gw_579, by decide +kernel, by decide +kernel⟩
theorem gw_297 : Cond.fieldLink "FoldedArchive$SearchReader" 35 "FoldedArchive$SearchReader" "fault" "I" ∈ GW := GW_t1 207 rfl rfl
theorem fl_X7_35 : FL RX7 35 7 3 "I" false := ⟨RX7, TX7, 4, tyX7, rfl, inG_X7, by decide, gw_297, tyX7_ok, nmX7, rfl, rfl⟩
theorem gw_1209 : Cond.methodLink "FoldedArchive$SearchReader" 38 yX7_readSum ∈ GW := GW_t5 159 rfl rfl
theorem gw_1211 : Cond.instanceMethod yX7_readSum ∈ GW := GW_t5 161 rfl rfl
theorem gw_31 : Cond.selects yX7_readSum.cls yX7_readSum yX7_readSum ∈ GW := GW_pr 31 (q := (yX7_readSum, 4)) rfl
theorem gw_101 : Cond.initialized "FoldedArchive$SearchReader" ∈ GW := GW_t1 11 rfl rfl
theorem gw_1212 : Cond.code yX7_readSum cX7_readSum 5 (some .int) ∈ GW := GW_t5 162 rfl rfl
theorem cv_X7_38 : CV RX7 38 yX7_readSum cX7_readSum 5 (some .int) 2 := ⟨gw_1209, gw_1211, gw_31, gw_101, gw_1212, by decide +kernel, by decide +kernel⟩
theorem gw_1230 : Cond.methodLink "FoldedArchive$SearchReader" 68 yX7_bearersOf ∈ GW := GW_t5 180 rfl rfl
theorem gw_1232 : Cond.instanceMethod yX7_bearersOf ∈ GW := GW_t5 182 rfl rfl
theorem gw_35 : Cond.selects yX7_bearersOf.cls yX7_bearersOf yX7_bearersOf ∈ GW := GW_pr 35 (q := (yX7_bearersOf, 4)) rfl
theorem cv_X7_68 : CV RX7 68 yX7_bearersOf cX7_bearersOf 3 (some .int) 1 := ⟨gw_1230, gw_1232, gw_35, gw_101, gw_1233, by decide +kernel, by decide +kernel⟩
theorem gw_1228 : Cond.code yX7_readPlainFactor cX7_readPlainFactor 5 (some .int) ∈ GW := GW_t5 178 rfl rfl
theorem gw_1225 : Cond.methodLink "FoldedArchive$SearchReader" 65 yX7_readPlainFactor ∈ GW := GW_t5 175 rfl rfl
theorem gw_1227 : Cond.instanceMethod yX7_readPlainFactor ∈ GW := GW_t5 177 rfl rfl
theorem gw_34 : Cond.selects yX7_readPlainFactor.cls yX7_readPlainFactor yX7_readPlainFactor ∈ GW := GW_pr 34 (q := (yX7_readPlainFactor, 4)) rfl
theorem cv_X7_65 : CV RX7 65 yX7_readPlainFactor cX7_readPlainFactor 5 (some .int) 2 := ⟨gw_1225, gw_1227, gw_34, gw_101, gw_1228, by decide +kernel, by decide +kernel⟩
theorem gw_1220 : Cond.code yX7_readFactor cX7_readFactor 5 (some .int) ∈ GW := GW_t5 170 rfl rfl
theorem gw_1236 : Cond.code yX7_startsFactor cX7_startsFactor 1 (some .boolean) ∈ GW := GW_t5 186 rfl rfl
theorem gw_1217 : Cond.methodLink "FoldedArchive$SearchReader" 54 yX7_readFactor ∈ GW := GW_t5 167 rfl rfl
theorem gw_1219 : Cond.instanceMethod yX7_readFactor ∈ GW := GW_t5 169 rfl rfl
theorem gw_33 : Cond.selects yX7_readFactor.cls yX7_readFactor yX7_readFactor ∈ GW := GW_pr 33 (q := (yX7_readFactor, 4)) rfl
theorem cv_X7_54 : CV RX7 54 yX7_readFactor cX7_readFactor 5 (some .int) 2 := ⟨gw_1217, gw_1219, gw_33, gw_101, gw_1220, by decide +kernel, by decide +kernel⟩
theorem gw_1234 : Cond.methodLink "FoldedArchive$SearchReader" 57 yX7_startsFactor ∈ GW := GW_t5 184 rfl rfl
theorem gw_1235 : Cond.static yX7_startsFactor ∈ GW := GW_t5 185 rfl rfl
theorem cs_X7_57 : CS RX7 57 yX7_startsFactor cX7_startsFactor 1 (some .boolean) 1 := ⟨gw_1234, gw_1235, gw_101, gw_1236, by decide +kernel, by decide +kernel⟩
theorem gw_1216 : Cond.code yX7_readProduct cX7_readProduct 5 (some .int) ∈ GW := GW_t5 166 rfl rfl
theorem gw_1213 : Cond.methodLink "FoldedArchive$SearchReader" 47 yX7_readProduct ∈ GW := GW_t5 163 rfl rfl
theorem gw_1215 : Cond.instanceMethod yX7_readProduct ∈ GW := GW_t5 165 rfl rfl
theorem gw_32 : Cond.selects yX7_readProduct.cls yX7_readProduct yX7_readProduct ∈ GW := GW_pr 32 (q := (yX7_readProduct, 4)) rfl
theorem cv_X7_47 : CV RX7 47 yX7_readProduct cX7_readProduct 5 (some .int) 2 := ⟨gw_1213, gw_1215, gw_32, gw_101, gw_1216, by decide +kernel, by decide +kernel⟩
theorem gw_279 : Cond.fieldLink "FoldedArchive$SearchReader" 42 "FoldedArchive$Row" "length" "I" ∈ GW := GW_t1 189 rfl rfl
theorem fl_X7_42 : FL RX7 42 6 1 "I" false := ⟨RX6, TX6, 2, tyX6, rfl, inG_X6, by decide, gw_279, tyX6_ok, nmX6, rfl, rfl⟩
theorem gw_1208 : Cond.code yX7_read cX7_read 3 (some .int) ∈ GW := GW_t5 158 rfl rfl
theorem gw_559 : Cond.code yX8_denied cX8_denied 2 (some .int) ∈ GW := GW_t2 229 rfl rfl
theorem gw_571 : Cond.code yX9_waterOf cX9_waterOf 2 (some .int) ∈ GW := GW_t3 1 rfl rfl
theorem gw_564 : Cond.methodLink "FoldedArchive$State" 80 yX9_has ∈ GW := GW_t2 234 rfl rfl
theorem cv_X8_80 : CV RX8 80 yX9_has cX9_has 2 (some .boolean) 1 := ⟨gw_564, gw_565, gw_566, gw_93, gw_567, by decide +kernel, by decide +kernel⟩
theorem gw_568 : Cond.methodLink "FoldedArchive$State" 81 yX9_waterOf ∈ GW := GW_t2 238 rfl rfl
theorem gw_569 : Cond.instanceMethod yX9_waterOf ∈ GW := GW_t2 239 rfl rfl
theorem gw_570 : Cond.selects yX9_waterOf.cls yX9_waterOf yX9_waterOf ∈ GW := GW_t3 0 rfl rfl
theorem cv_X8_81 : CV RX8 81 yX9_waterOf cX9_waterOf 2 (some .int) 1 := ⟨gw_568, gw_569, gw_570, gw_93, gw_571, by decide +kernel, by decide +kernel⟩
theorem gw_557 : Cond.methodLink "FoldedArchive$State" 46 yX8_denied ∈ GW := GW_t2 227 rfl rfl
theorem gw_558 : Cond.static yX8_denied ∈ GW := GW_t2 228 rfl rfl
theorem cs_X8_46 : CS RX8 46 yX8_denied cX8_denied 2 (some .int) 2 := ⟨gw_557, gw_558, gw_92, gw_559, by decide +kernel, by decide +kernel⟩
theorem gw_563 : Cond.code yX8_judgePour cX8_judgePour 3 (some .int) ∈ GW := GW_t2 233 rfl rfl
theorem gw_595 : Cond.constant "java/lang/Integer" 265 1431655765 ∈ GW := GW_t3 25 rfl rfl
theorem gw_596 : Cond.constant "java/lang/Integer" 266 858993459 ∈ GW := GW_t3 26 rfl rfl
theorem gw_597 : Cond.constant "java/lang/Integer" 267 252645135 ∈ GW := GW_t3 27 rfl rfl
theorem gw_594 : Cond.code yJ6_bitCount_0f7a4 cJ6_bitCount_0f7a4 1 (some .int) ∈ GW := GW_t3 24 rfl rfl
theorem gw_592 : Cond.methodLink "FoldedArchive$Strip" 41 yJ6_bitCount_0f7a4 ∈ GW := GW_t3 22 rfl rfl
theorem gw_593 : Cond.static yJ6_bitCount_0f7a4 ∈ GW := GW_t3 23 rfl rfl
theorem gw_104 : Cond.initialized "java/lang/Integer" ∈ GW := GW_t1 14 rfl rfl
theorem cs_X9_41 : CS RX9 41 yJ6_bitCount_0f7a4 cJ6_bitCount_0f7a4 1 (some .int) 1 := ⟨gw_592, gw_593, gw_104, gw_594, by decide +kernel, by decide +kernel⟩
theorem gw_591 : Cond.code yX9_termCountOf cX9_termCountOf 2 (some .int) ∈ GW := GW_t3 21 rfl rfl
theorem gw_577 : Cond.methodLink "FoldedArchive$State" 84 yX9_isTerm ∈ GW := GW_t3 7 rfl rfl
theorem cs_X8_84 : CS RX8 84 yX9_isTerm cX9_isTerm 1 (some .boolean) 1 := ⟨gw_577, gw_578, gw_93, gw_579, by decide +kernel, by decide +kernel⟩
theorem gw_580 : Cond.methodLink "FoldedArchive$State" 87 yX9_bears ∈ GW := GW_t3 10 rfl rfl
theorem cv_X8_87 : CV RX8 87 yX9_bears cX9_bears 3 (some .boolean) 2 := ⟨gw_580, gw_581, gw_582, gw_93, gw_583, by decide +kernel, by decide +kernel⟩
theorem gw_588 : Cond.methodLink "FoldedArchive$State" 91 yX9_termCountOf ∈ GW := GW_t3 18 rfl rfl
theorem gw_589 : Cond.instanceMethod yX9_termCountOf ∈ GW := GW_t3 19 rfl rfl
theorem gw_590 : Cond.selects yX9_termCountOf.cls yX9_termCountOf yX9_termCountOf ∈ GW := GW_t3 20 rfl rfl
theorem cv_X8_91 : CV RX8 91 yX9_termCountOf cX9_termCountOf 2 (some .int) 1 := ⟨gw_588, gw_589, gw_590, gw_93, gw_591, by decide +kernel, by decide +kernel⟩
theorem gw_576 : Cond.code yX8_judgeTerm cX8_judgeTerm 4 (some .int) ∈ GW := GW_t3 6 rfl rfl
theorem gw_170 : Cond.fieldLink "FoldedArchive$State" 77 "FoldedArchive$Pile" "folded" "I" ∈ GW := GW_t1 80 rfl rfl
theorem fl_X8_77 : FL RX8 77 4 0 "I" false := ⟨RX4, TX4, 2, tyX4, rfl, inG_X4, by decide, gw_170, tyX4_ok, nmX4, rfl, rfl⟩
theorem gw_142 : Cond.fieldLink "FoldedArchive$State" 42 "FoldedArchive$Strip" "count" "I" ∈ GW := GW_t1 52 rfl rfl
theorem fl_X8_42 : FL RX8 42 9 0 "I" false := ⟨RX9, TX9, 5, tyX9, rfl, inG_X9, by decide, gw_142, tyX9_ok, nmX9, rfl, rfl⟩
theorem gw_602 : Cond.methodLink "FoldedArchive$State" 94 yX4_creaseCrossedAt ∈ GW := GW_t3 32 rfl rfl
theorem cv_X8_94 : CV RX8 94 yX4_creaseCrossedAt cX4_creaseCrossedAt 7 (some .int) 1 := ⟨gw_602, gw_412, gw_413, gw_94, gw_414, by decide +kernel, by decide +kernel⟩
theorem gw_601 : Cond.code yX8_judgeFold cX8_judgeFold 3 (some .int) ∈ GW := GW_t3 31 rfl rfl
theorem gw_186 : Cond.fieldLink "FoldedArchive$State" 97 "FoldedArchive$Pipes" "count" "I" ∈ GW := GW_t1 96 rfl rfl
theorem fl_X8_97 : FL RX8 97 5 0 "I" false := ⟨RX5, TX5, 5, tyX5, rfl, inG_X5, by decide, gw_186, tyX5_ok, nmX5, rfl, rfl⟩
theorem gw_606 : Cond.code yX8_judgePipe cX8_judgePipe 4 (some .int) ∈ GW := GW_t3 36 rfl rfl
theorem gw_607 : Cond.methodLink "FoldedArchive$State" 65 yX5_has ∈ GW := GW_t3 37 rfl rfl
theorem cv_X8_65 : CV RX8 65 yX5_has cX5_has 2 (some .boolean) 1 := ⟨gw_607, gw_608, gw_609, gw_95, gw_610, by decide +kernel, by decide +kernel⟩
theorem gw_615 : Cond.methodLink "FoldedArchive$State" 98 yX5_brokenAt ∈ GW := GW_t3 45 rfl rfl
theorem cv_X8_98 : CV RX8 98 yX5_brokenAt cX5_brokenAt 2 (some .boolean) 1 := ⟨gw_615, gw_616, gw_617, gw_95, gw_618, by decide +kernel, by decide +kernel⟩
theorem gw_620 : Cond.methodLink "FoldedArchive$State" 101 yX5_widthOf ∈ GW := GW_t3 50 rfl rfl
theorem cv_X8_101 : CV RX8 101 yX5_widthOf cX5_widthOf 2 (some .int) 1 := ⟨gw_620, gw_621, gw_622, gw_95, gw_623, by decide +kernel, by decide +kernel⟩
theorem gw_614 : Cond.code yX8_judgeBroken cX8_judgeBroken 3 (some .int) ∈ GW := GW_t3 44 rfl rfl
theorem gw_627 : Cond.code yX8_judgeEnds cX8_judgeEnds 1 (some .int) ∈ GW := GW_t3 57 rfl rfl
theorem gw_560 : Cond.methodLink "FoldedArchive$State" 50 yX8_judgePour ∈ GW := GW_t2 230 rfl rfl
theorem gw_562 : Cond.instanceMethod yX8_judgePour ∈ GW := GW_t2 232 rfl rfl
theorem gw_9 : Cond.selects yX8_judgePour.cls yX8_judgePour yX8_judgePour ∈ GW := GW_pr 9 (q := (yX8_judgePour, 3)) rfl
theorem cv_X8_50 : CV RX8 50 yX8_judgePour cX8_judgePour 3 (some .int) 2 := ⟨gw_560, gw_562, gw_9, gw_92, gw_563, by decide +kernel, by decide +kernel⟩
theorem gw_573 : Cond.methodLink "FoldedArchive$State" 53 yX8_judgeTerm ∈ GW := GW_t3 3 rfl rfl
theorem gw_575 : Cond.instanceMethod yX8_judgeTerm ∈ GW := GW_t3 5 rfl rfl
theorem gw_10 : Cond.selects yX8_judgeTerm.cls yX8_judgeTerm yX8_judgeTerm ∈ GW := GW_pr 10 (q := (yX8_judgeTerm, 3)) rfl
theorem cv_X8_53 : CV RX8 53 yX8_judgeTerm cX8_judgeTerm 4 (some .int) 3 := ⟨gw_573, gw_575, gw_10, gw_92, gw_576, by decide +kernel, by decide +kernel⟩
theorem gw_598 : Cond.methodLink "FoldedArchive$State" 57 yX8_judgeFold ∈ GW := GW_t3 28 rfl rfl
theorem gw_599 : Cond.instanceMethod yX8_judgeFold ∈ GW := GW_t3 29 rfl rfl
theorem gw_600 : Cond.selects yX8_judgeFold.cls yX8_judgeFold yX8_judgeFold ∈ GW := GW_t3 30 rfl rfl
theorem cv_X8_57 : CV RX8 57 yX8_judgeFold cX8_judgeFold 3 (some .int) 1 := ⟨gw_598, gw_599, gw_600, gw_92, gw_601, by decide +kernel, by decide +kernel⟩
theorem gw_603 : Cond.methodLink "FoldedArchive$State" 61 yX8_judgePipe ∈ GW := GW_t3 33 rfl rfl
theorem gw_605 : Cond.instanceMethod yX8_judgePipe ∈ GW := GW_t3 35 rfl rfl
theorem gw_11 : Cond.selects yX8_judgePipe.cls yX8_judgePipe yX8_judgePipe ∈ GW := GW_pr 11 (q := (yX8_judgePipe, 3)) rfl
theorem cv_X8_61 : CV RX8 61 yX8_judgePipe cX8_judgePipe 4 (some .int) 3 := ⟨gw_603, gw_605, gw_11, gw_92, gw_606, by decide +kernel, by decide +kernel⟩
theorem gw_611 : Cond.methodLink "FoldedArchive$State" 69 yX8_judgeBroken ∈ GW := GW_t3 41 rfl rfl
theorem gw_613 : Cond.instanceMethod yX8_judgeBroken ∈ GW := GW_t3 43 rfl rfl
theorem gw_12 : Cond.selects yX8_judgeBroken.cls yX8_judgeBroken yX8_judgeBroken ∈ GW := GW_pr 12 (q := (yX8_judgeBroken, 3)) rfl
theorem cv_X8_69 : CV RX8 69 yX8_judgeBroken cX8_judgeBroken 3 (some .int) 2 := ⟨gw_611, gw_613, gw_12, gw_92, gw_614, by decide +kernel, by decide +kernel⟩
theorem gw_624 : Cond.methodLink "FoldedArchive$State" 73 yX8_judgeEnds ∈ GW := GW_t3 54 rfl rfl
theorem gw_625 : Cond.instanceMethod yX8_judgeEnds ∈ GW := GW_t3 55 rfl rfl
theorem gw_626 : Cond.selects yX8_judgeEnds.cls yX8_judgeEnds yX8_judgeEnds ∈ GW := GW_t3 56 rfl rfl
theorem cv_X8_73 : CV RX8 73 yX8_judgeEnds cX8_judgeEnds 1 (some .int) 0 := ⟨gw_624, gw_625, gw_626, gw_92, gw_627, by decide +kernel, by decide +kernel⟩
theorem gw_556 : Cond.code yX8_judge cX8_judge 5 (some .int) ∈ GW := GW_t2 226 rfl rfl
theorem gw_751 : Cond.code yX9_append cX9_append 1 (some .int) ∈ GW := GW_t3 181 rfl rfl
theorem gw_759 : Cond.code yX9_add cX9_add 3 none ∈ GW := GW_t3 189 rfl rfl
theorem gw_756 : Cond.methodLink "FoldedArchive$Strip" 57 yX9_add ∈ GW := GW_t3 186 rfl rfl
theorem gw_758 : Cond.instanceMethod yX9_add ∈ GW := GW_t3 188 rfl rfl
theorem gw_17 : Cond.selects yX9_add.cls yX9_add yX9_add ∈ GW := GW_pr 17 (q := (yX9_add, 5)) rfl
theorem cv_X9_57 : CV RX9 57 yX9_add cX9_add 3 none 2 := ⟨gw_756, gw_758, gw_17, gw_93, gw_759, by decide +kernel, by decide +kernel⟩
theorem gw_760 : Cond.methodLink "FoldedArchive$Strip" 61 yX9_waterOf ∈ GW := GW_t3 190 rfl rfl
theorem cv_X9_61 : CV RX9 61 yX9_waterOf cX9_waterOf 2 (some .int) 1 := ⟨gw_760, gw_569, gw_570, gw_93, gw_571, by decide +kernel, by decide +kernel⟩
theorem gw_755 : Cond.code yX9_receivePoured cX9_receivePoured 3 (some .int) ∈ GW := GW_t3 185 rfl rfl
theorem gw_765 : Cond.methodLink "FoldedArchive$Strip" 54 yX9_termCountOf ∈ GW := GW_t3 195 rfl rfl
theorem cv_X9_54 : CV RX9 54 yX9_termCountOf cX9_termCountOf 2 (some .int) 1 := ⟨gw_765, gw_589, gw_590, gw_93, gw_591, by decide +kernel, by decide +kernel⟩
theorem gw_764 : Cond.code yX9_giveTerm cX9_giveTerm 3 (some .int) ∈ GW := GW_t3 194 rfl rfl
theorem gw_769 : Cond.code yX9_takeTerm cX9_takeTerm 3 (some .int) ∈ GW := GW_t3 199 rfl rfl
theorem gw_839 : Cond.code yX9_give cX9_give 3 none ∈ GW := GW_t4 29 rfl rfl
theorem gw_844 : Cond.methodLink "FoldedArchive$Strip" 64 Lib.Math.min.name ∈ GW := GW_t4 34 rfl rfl
theorem gw_843 : Cond.code yX9_receive cX9_receive 4 (some .int) ∈ GW := GW_t4 33 rfl rfl
theorem gw_848 : Cond.code yX9_leak cX9_leak 2 none ∈ GW := GW_t4 38 rfl rfl
theorem gw_834 : Cond.methodLink "FoldedArchive$State" 142 Lib.Math.min.name ∈ GW := GW_t4 24 rfl rfl
theorem gw_835 : Cond.methodLink "FoldedArchive$State" 147 yX5_brokenCount ∈ GW := GW_t4 25 rfl rfl
theorem cv_X8_147 : CV RX8 147 yX5_brokenCount cX5_brokenCount 3 (some .int) 0 := ⟨gw_835, gw_785, gw_786, gw_95, gw_787, by decide +kernel, by decide +kernel⟩
theorem gw_836 : Cond.methodLink "FoldedArchive$State" 150 yX9_give ∈ GW := GW_t4 26 rfl rfl
theorem gw_837 : Cond.instanceMethod yX9_give ∈ GW := GW_t4 27 rfl rfl
theorem gw_838 : Cond.selects yX9_give.cls yX9_give yX9_give ∈ GW := GW_t4 28 rfl rfl
theorem cv_X8_150 : CV RX8 150 yX9_give cX9_give 3 none 2 := ⟨gw_836, gw_837, gw_838, gw_93, gw_839, by decide +kernel, by decide +kernel⟩
theorem gw_840 : Cond.methodLink "FoldedArchive$State" 154 yX9_receive ∈ GW := GW_t4 30 rfl rfl
theorem gw_841 : Cond.instanceMethod yX9_receive ∈ GW := GW_t4 31 rfl rfl
theorem gw_842 : Cond.selects yX9_receive.cls yX9_receive yX9_receive ∈ GW := GW_t4 32 rfl rfl
theorem cv_X8_154 : CV RX8 154 yX9_receive cX9_receive 4 (some .int) 2 := ⟨gw_840, gw_841, gw_842, gw_93, gw_843, by decide +kernel, by decide +kernel⟩
theorem gw_845 : Cond.methodLink "FoldedArchive$State" 157 yX9_leak ∈ GW := GW_t4 35 rfl rfl
theorem gw_846 : Cond.instanceMethod yX9_leak ∈ GW := GW_t4 36 rfl rfl
theorem gw_847 : Cond.selects yX9_leak.cls yX9_leak yX9_leak ∈ GW := GW_t4 37 rfl rfl
theorem cv_X8_157 : CV RX8 157 yX9_leak cX9_leak 2 none 1 := ⟨gw_845, gw_846, gw_847, gw_93, gw_848, by decide +kernel, by decide +kernel⟩
theorem gw_833 : Cond.code yX8_moveAlongPipes cX8_moveAlongPipes 4 (some .int) ∈ GW := GW_t4 23 rfl rfl
theorem gw_853 : Cond.methodLink "FoldedArchive$State" 161 yX4_sectionAt ∈ GW := GW_t4 43 rfl rfl
theorem gw_507 : Cond.instanceMethod yX4_sectionAt ∈ GW := GW_t2 177 rfl rfl
theorem gw_508 : Cond.selects yX4_sectionAt.cls yX4_sectionAt yX4_sectionAt ∈ GW := GW_t2 178 rfl rfl
theorem cv_X8_161 : CV RX8 161 yX4_sectionAt cX4_sectionAt 3 (some .int) 1 := ⟨gw_853, gw_507, gw_508, gw_94, gw_509, by decide +kernel, by decide +kernel⟩
theorem gw_852 : Cond.code yX8_moveDownPile cX8_moveDownPile 5 (some .int) ∈ GW := GW_t4 42 rfl rfl
theorem gw_748 : Cond.methodLink "FoldedArchive$State" 104 yX9_append ∈ GW := GW_t3 178 rfl rfl
theorem gw_749 : Cond.instanceMethod yX9_append ∈ GW := GW_t3 179 rfl rfl
theorem gw_750 : Cond.selects yX9_append.cls yX9_append yX9_append ∈ GW := GW_t3 180 rfl rfl
theorem cv_X8_104 : CV RX8 104 yX9_append cX9_append 1 (some .int) 0 := ⟨gw_748, gw_749, gw_750, gw_93, gw_751, by decide +kernel, by decide +kernel⟩
theorem gw_752 : Cond.methodLink "FoldedArchive$State" 107 yX9_receivePoured ∈ GW := GW_t3 182 rfl rfl
theorem gw_753 : Cond.instanceMethod yX9_receivePoured ∈ GW := GW_t3 183 rfl rfl
theorem gw_754 : Cond.selects yX9_receivePoured.cls yX9_receivePoured yX9_receivePoured ∈ GW := GW_t3 184 rfl rfl
theorem cv_X8_107 : CV RX8 107 yX9_receivePoured cX9_receivePoured 3 (some .int) 2 := ⟨gw_752, gw_753, gw_754, gw_93, gw_755, by decide +kernel, by decide +kernel⟩
theorem gw_761 : Cond.methodLink "FoldedArchive$State" 110 yX9_giveTerm ∈ GW := GW_t3 191 rfl rfl
theorem gw_762 : Cond.instanceMethod yX9_giveTerm ∈ GW := GW_t3 192 rfl rfl
theorem gw_763 : Cond.selects yX9_giveTerm.cls yX9_giveTerm yX9_giveTerm ∈ GW := GW_t3 193 rfl rfl
theorem cv_X8_110 : CV RX8 110 yX9_giveTerm cX9_giveTerm 3 (some .int) 2 := ⟨gw_761, gw_762, gw_763, gw_93, gw_764, by decide +kernel, by decide +kernel⟩
theorem gw_766 : Cond.methodLink "FoldedArchive$State" 113 yX9_takeTerm ∈ GW := GW_t3 196 rfl rfl
theorem gw_767 : Cond.instanceMethod yX9_takeTerm ∈ GW := GW_t3 197 rfl rfl
theorem gw_768 : Cond.selects yX9_takeTerm.cls yX9_takeTerm yX9_takeTerm ∈ GW := GW_t3 198 rfl rfl
theorem cv_X8_113 : CV RX8 113 yX9_takeTerm cX9_takeTerm 3 (some .int) 2 := ⟨gw_766, gw_767, gw_768, gw_93, gw_769, by decide +kernel, by decide +kernel⟩
theorem gw_770 : Cond.methodLink "FoldedArchive$State" 116 yX4_insert ∈ GW := GW_t3 200 rfl rfl
theorem cv_X8_116 : CV RX8 116 yX4_insert cX4_insert 3 (some .int) 1 := ⟨gw_770, gw_433, gw_434, gw_94, gw_435, by decide +kernel, by decide +kernel⟩
theorem gw_771 : Cond.methodLink "FoldedArchive$State" 119 yX4_removeLast ∈ GW := GW_t3 201 rfl rfl
theorem cv_X8_119 : CV RX8 119 yX4_removeLast cX4_removeLast 3 (some .int) 0 := ⟨gw_771, gw_437, gw_438, gw_94, gw_439, by decide +kernel, by decide +kernel⟩
theorem gw_772 : Cond.methodLink "FoldedArchive$State" 122 yX5_append ∈ GW := GW_t3 202 rfl rfl
theorem gw_773 : Cond.instanceMethod yX5_append ∈ GW := GW_t3 203 rfl rfl
theorem gw_774 : Cond.selects yX5_append.cls yX5_append yX5_append ∈ GW := GW_t3 204 rfl rfl
theorem cv_X8_122 : CV RX8 122 yX5_append cX5_append 4 (some .int) 3 := ⟨gw_772, gw_773, gw_774, gw_95, gw_775, by decide +kernel, by decide +kernel⟩
theorem gw_776 : Cond.methodLink "FoldedArchive$State" 124 yX5_remove ∈ GW := GW_t3 206 rfl rfl
theorem gw_777 : Cond.instanceMethod yX5_remove ∈ GW := GW_t3 207 rfl rfl
theorem gw_778 : Cond.selects yX5_remove.cls yX5_remove yX5_remove ∈ GW := GW_t3 208 rfl rfl
theorem cv_X8_124 : CV RX8 124 yX5_remove cX5_remove 3 (some .int) 1 := ⟨gw_776, gw_777, gw_778, gw_95, gw_779, by decide +kernel, by decide +kernel⟩
theorem gw_780 : Cond.methodLink "FoldedArchive$State" 127 yX5_setBroken ∈ GW := GW_t3 210 rfl rfl
theorem gw_781 : Cond.instanceMethod yX5_setBroken ∈ GW := GW_t3 211 rfl rfl
theorem gw_782 : Cond.selects yX5_setBroken.cls yX5_setBroken yX5_setBroken ∈ GW := GW_t3 212 rfl rfl
theorem cv_X8_127 : CV RX8 127 yX5_setBroken cX5_setBroken 3 (some .int) 2 := ⟨gw_780, gw_781, gw_782, gw_95, gw_783, by decide +kernel, by decide +kernel⟩
theorem gw_788 : Cond.methodLink "FoldedArchive$State" 130 yX1_greatest ∈ GW := GW_t3 218 rfl rfl
theorem gw_789 : Cond.instanceMethod yX1_greatest ∈ GW := GW_t3 219 rfl rfl
theorem gw_790 : Cond.selects yX1_greatest.cls yX1_greatest yX1_greatest ∈ GW := GW_t3 220 rfl rfl
theorem cv_X8_130 : CV RX8 130 yX1_greatest cX1_greatest 6 (some .int) 3 := ⟨gw_788, gw_789, gw_790, gw_97, gw_791, by decide +kernel, by decide +kernel⟩
theorem gw_830 : Cond.methodLink "FoldedArchive$State" 136 yX8_moveAlongPipes ∈ GW := GW_t4 20 rfl rfl
theorem gw_832 : Cond.instanceMethod yX8_moveAlongPipes ∈ GW := GW_t4 22 rfl rfl
theorem gw_24 : Cond.selects yX8_moveAlongPipes.cls yX8_moveAlongPipes yX8_moveAlongPipes ∈ GW := GW_pr 24 (q := (yX8_moveAlongPipes, 3)) rfl
theorem cv_X8_136 : CV RX8 136 yX8_moveAlongPipes cX8_moveAlongPipes 4 (some .int) 1 := ⟨gw_830, gw_832, gw_24, gw_92, gw_833, by decide +kernel, by decide +kernel⟩
theorem gw_849 : Cond.methodLink "FoldedArchive$State" 139 yX8_moveDownPile ∈ GW := GW_t4 39 rfl rfl
theorem gw_851 : Cond.instanceMethod yX8_moveDownPile ∈ GW := GW_t4 41 rfl rfl
theorem gw_25 : Cond.selects yX8_moveDownPile.cls yX8_moveDownPile yX8_moveDownPile ∈ GW := GW_pr 25 (q := (yX8_moveDownPile, 3)) rfl
theorem cv_X8_139 : CV RX8 139 yX8_moveDownPile cX8_moveDownPile 5 (some .int) 0 := ⟨gw_849, gw_851, gw_25, gw_92, gw_852, by decide +kernel, by decide +kernel⟩
theorem gw_747 : Cond.code yX8_apply cX8_apply 6 (some .int) ∈ GW := GW_t3 177 rfl rfl
theorem gw_481 : Cond.code yX9_waterSum cX9_waterSum 3 (some .int) ∈ GW := GW_t2 151 rfl rfl
theorem gw_967 : Cond.code yX9_comesBefore cX9_comesBefore 3 (some .boolean) ∈ GW := GW_t4 157 rfl rfl
theorem gw_964 : Cond.methodLink "FoldedArchive$Strip" 70 yX9_comesBefore ∈ GW := GW_t4 154 rfl rfl
theorem gw_966 : Cond.instanceMethod yX9_comesBefore ∈ GW := GW_t4 156 rfl rfl
theorem gw_29 : Cond.selects yX9_comesBefore.cls yX9_comesBefore yX9_comesBefore ∈ GW := GW_pr 29 (q := (yX9_comesBefore, 5)) rfl
theorem cv_X9_70 : CV RX9 70 yX9_comesBefore cX9_comesBefore 3 (some .boolean) 2 := ⟨gw_964, gw_966, gw_29, gw_93, gw_967, by decide +kernel, by decide +kernel⟩
theorem gw_963 : Cond.code yX9_rankOf cX9_rankOf 4 (some .int) ∈ GW := GW_t4 153 rfl rfl
theorem gw_960 : Cond.methodLink "FoldedArchive$Strip" 73 yX9_rankOf ∈ GW := GW_t4 150 rfl rfl
theorem gw_962 : Cond.instanceMethod yX9_rankOf ∈ GW := GW_t4 152 rfl rfl
theorem gw_28 : Cond.selects yX9_rankOf.cls yX9_rankOf yX9_rankOf ∈ GW := GW_pr 28 (q := (yX9_rankOf, 5)) rfl
theorem cv_X9_73 : CV RX9 73 yX9_rankOf cX9_rankOf 4 (some .int) 1 := ⟨gw_960, gw_962, gw_28, gw_93, gw_963, by decide +kernel, by decide +kernel⟩
theorem gw_959 : Cond.code yX9_sectionAtRank cX9_sectionAtRank 3 (some .int) ∈ GW := GW_t4 149 rfl rfl
theorem gw_347 : Cond.fieldLink "FoldedArchive" 77 "FoldedArchive" "deniedNumber" "I" ∈ GW := GW_t2 17 rfl rfl
theorem gw_350 : Cond.laysFinal "FoldedArchive" "FoldedArchive" "state" "LFoldedArchive$State;" ∈ GW := GW_t2 20 rfl rfl
theorem gw_352 : Cond.laysFinal "FoldedArchive" "FoldedArchive" "beforeText" "LFoldedArchive$State;" ∈ GW := GW_t2 22 rfl rfl
theorem gw_354 : Cond.laysFinal "FoldedArchive" "FoldedArchive" "snapshot" "LFoldedArchive$State;" ∈ GW := GW_t2 24 rfl rfl
theorem gw_356 : Cond.laysFinal "FoldedArchive" "FoldedArchive" "history" "LFoldedArchive$History;" ∈ GW := GW_t2 26 rfl rfl
theorem gw_358 : Cond.laysFinal "FoldedArchive" "FoldedArchive" "flows" "LFoldedArchive$FlowSearch;" ∈ GW := GW_t2 28 rfl rfl
theorem gw_360 : Cond.laysFinal "FoldedArchive" "FoldedArchive" "foldings" "LFoldedArchive$FoldingSearch;" ∈ GW := GW_t2 30 rfl rfl
theorem gw_362 : Cond.laysFinal "FoldedArchive" "FoldedArchive" "text" "LFoldedArchive$Row;" ∈ GW := GW_t2 32 rfl rfl
theorem gw_364 : Cond.laysFinal "FoldedArchive" "FoldedArchive" "line" "LFoldedArchive$Row;" ∈ GW := GW_t2 34 rfl rfl
theorem gw_366 : Cond.laysFinal "FoldedArchive" "FoldedArchive" "searches" "LFoldedArchive$SearchReader;" ∈ GW := GW_t2 36 rfl rfl
theorem gw_368 : Cond.laysFinal "FoldedArchive" "FoldedArchive" "commands" "LFoldedArchive$CommandReader;" ∈ GW := GW_t2 38 rfl rfl
theorem gw_370 : Cond.lays "FoldedArchive" "FoldedArchive" "snapshotSaved" "Z" ∈ GW := GW_t2 40 rfl rfl
theorem gw_372 : Cond.lays "FoldedArchive" "FoldedArchive" "keptFault" "I" ∈ GW := GW_t2 42 rfl rfl
theorem gw_374 : Cond.lays "FoldedArchive" "FoldedArchive" "deniedNumber" "I" ∈ GW := GW_t2 44 rfl rfl
theorem gw_376 : Cond.lays "FoldedArchive" "FoldedArchive" "deniedDetail" "I" ∈ GW := GW_t2 46 rfl rfl
theorem gw_378 : Cond.lays "FoldedArchive" "FoldedArchive" "deniedCause" "I" ∈ GW := GW_t2 48 rfl rfl
theorem inG_X10 : ∀ w ∈ u_ws RX10 TX10 15, w ∈ GW := by
  have e : u_ws RX10 TX10 15 = [u_lay RX10 TX10 0, u_lay RX10 TX10 1, u_lay RX10 TX10 2, u_lay RX10 TX10 3, u_lay RX10 TX10 4, u_lay RX10 TX10 5, u_lay RX10 TX10 6, u_lay RX10 TX10 7, u_lay RX10 TX10 8, u_lay RX10 TX10 9, u_lay RX10 TX10 10, u_lay RX10 TX10 11, u_lay RX10 TX10 12, u_lay RX10 TX10 13, u_lay RX10 TX10 14] := rfl
  rw [e]
  exact List.forall_mem_cons.mpr ⟨gw_350, List.forall_mem_cons.mpr ⟨gw_352, List.forall_mem_cons.mpr ⟨gw_354, List.forall_mem_cons.mpr ⟨gw_356, List.forall_mem_cons.mpr ⟨gw_358, List.forall_mem_cons.mpr ⟨gw_360, List.forall_mem_cons.mpr ⟨gw_362, List.forall_mem_cons.mpr ⟨gw_364, List.forall_mem_cons.mpr ⟨gw_366, List.forall_mem_cons.mpr ⟨gw_368, List.forall_mem_cons.mpr ⟨gw_370, List.forall_mem_cons.mpr ⟨gw_372, List.forall_mem_cons.mpr ⟨gw_374, List.forall_mem_cons.mpr ⟨gw_376, List.forall_mem_cons.mpr ⟨gw_378, fun _ h => absurd h List.not_mem_nil⟩⟩⟩⟩⟩⟩⟩⟩⟩⟩⟩⟩⟩⟩⟩
theorem fl_X10_77 : FL RX10 77 10 12 "I" false := ⟨RX10, TX10, 15, tyX10, rfl, inG_X10, by decide, gw_347, tyX10_ok, nmX10, rfl, rfl⟩
theorem tt_0 : TT[0]? = some (0, 10, [some 1, some 12, some 23, some 34, some 124, some 128, some 132, some 134, some 136, some 138, none, none, none, none, none]) := by decide +kernel
theorem gw_348 : Cond.fieldLink "FoldedArchive" 80 "FoldedArchive" "deniedDetail" "I" ∈ GW := GW_t2 18 rfl rfl
theorem fl_X10_80 : FL RX10 80 10 13 "I" false := ⟨RX10, TX10, 15, tyX10, rfl, inG_X10, by decide, gw_348, tyX10_ok, nmX10, rfl, rfl⟩
theorem gw_349 : Cond.fieldLink "FoldedArchive" 83 "FoldedArchive" "deniedCause" "I" ∈ GW := GW_t2 19 rfl rfl
theorem fl_X10_83 : FL RX10 83 10 14 "I" false := ⟨RX10, TX10, 15, tyX10, rfl, inG_X10, by decide, gw_349, tyX10_ok, nmX10, rfl, rfl⟩
theorem gw_718 : Cond.code yX10_recordDenial cX10_recordDenial 4 none ∈ GW := GW_t3 148 rfl rfl
theorem gw_715 : Cond.methodLink "FoldedArchive" 255 yX10_recordDenial ∈ GW := GW_t3 145 rfl rfl
theorem gw_717 : Cond.instanceMethod yX10_recordDenial ∈ GW := GW_t3 147 rfl rfl
theorem gw_15 : Cond.selects yX10_recordDenial.cls yX10_recordDenial yX10_recordDenial ∈ GW := GW_pr 15 (q := (yX10_recordDenial, 15)) rfl
theorem gw_91 : Cond.initialized "FoldedArchive" ∈ GW := GW_t1 1 rfl rfl
theorem cv_X10_255 : CV RX10 255 yX10_recordDenial cX10_recordDenial 4 none 3 := ⟨gw_715, gw_717, gw_15, gw_91, gw_718, by decide +kernel, by decide +kernel⟩
theorem gw_719 : Cond.classLink "FoldedArchive" 259 "java/lang/UnsupportedOperationException" ∈ GW := GW_t3 149 rfl rfl
theorem gw_110 : Cond.initialized "java/lang/UnsupportedOperationException" ∈ GW := GW_t1 20 rfl rfl
theorem xg_X10_259 : ∀ w ∈ vx_at0 RX10 261 "java/lang/UnsupportedOperationException" exN, w ∈ GW ∨ w ∈ NGW := GW_all _ (by decide +kernel)
theorem xo_X10_259 : ∀ w ∈ Cond.classLink RX10 259 "java/lang/UnsupportedOperationException" :: Cond.initialized "java/lang/UnsupportedOperationException" :: vx_at0 RX10 261 "java/lang/UnsupportedOperationException" exN, vx_ot w = true := List.all_eq_true.mp (by decide +kernel)
theorem gw_700 : Cond.classLink "FoldedArchive" 293 "java/lang/IllegalArgumentException" ∈ GW := GW_t3 130 rfl rfl
theorem gw_109 : Cond.initialized "java/lang/IllegalArgumentException" ∈ GW := GW_t1 19 rfl rfl
theorem xg_X10_293 : ∀ w ∈ vx_at0 RX10 295 "java/lang/IllegalArgumentException" exN, w ∈ GW ∨ w ∈ NGW := GW_all _ (by decide +kernel)
theorem xo_X10_293 : ∀ w ∈ Cond.classLink RX10 293 "java/lang/IllegalArgumentException" :: Cond.initialized "java/lang/IllegalArgumentException" :: vx_at0 RX10 295 "java/lang/IllegalArgumentException" exN, vx_ot w = true := List.all_eq_true.mp (by decide +kernel)
theorem gw_632 : Cond.classLink "FoldedArchive" 142 "java/lang/IndexOutOfBoundsException" ∈ GW := GW_t3 62 rfl rfl
theorem gw_108 : Cond.initialized "java/lang/IndexOutOfBoundsException" ∈ GW := GW_t1 18 rfl rfl
theorem xg_X10_142 : ∀ w ∈ vx_at0 RX10 144 "java/lang/IndexOutOfBoundsException" exN, w ∈ GW ∨ w ∈ NGW := GW_all _ (by decide +kernel)
theorem xo_X10_142 : ∀ w ∈ Cond.classLink RX10 142 "java/lang/IndexOutOfBoundsException" :: Cond.initialized "java/lang/IndexOutOfBoundsException" :: vx_at0 RX10 144 "java/lang/IndexOutOfBoundsException" exN, vx_ot w = true := List.all_eq_true.mp (by decide +kernel)
theorem gw_631 : Cond.code yX10_obey cX10_obey 2 none ∈ GW := GW_t3 61 rfl rfl
theorem gw_335 : Cond.fieldLink "FoldedArchive" 10 "FoldedArchive" "state" "LFoldedArchive$State;" ∈ GW := GW_t2 5 rfl rfl
theorem fl_X10_10 : FL RX10 10 10 0 "LFoldedArchive$State;" true := ⟨RX10, TX10, 15, tyX10, rfl, inG_X10, by decide, gw_335, tyX10_ok, nmX10, rfl, rfl⟩
theorem gw_553 : Cond.methodLink "FoldedArchive" 279 yX8_judge ∈ GW := GW_t2 223 rfl rfl
theorem gw_554 : Cond.instanceMethod yX8_judge ∈ GW := GW_t2 224 rfl rfl
theorem gw_555 : Cond.selects yX8_judge.cls yX8_judge yX8_judge ∈ GW := GW_t2 225 rfl rfl
theorem cv_X10_279 : CV RX10 279 yX8_judge cX8_judge 5 (some .int) 4 := ⟨gw_553, gw_554, gw_555, gw_92, gw_556, by decide +kernel, by decide +kernel⟩
theorem tt_1 : TT[1]? = some (0, 8, [some 2, some 5, some 7]) := by decide +kernel
theorem tt_2 : TT[2]? = some (0, 9, [none, none, none, some 3, some 4]) := by decide +kernel
theorem tt_3 : TT[3]? = some (1, 7, []) := by decide +kernel
theorem tt_4 : TT[4]? = some (1, 7, []) := by decide +kernel
theorem is9_2 : isX9 2 := ⟨tt_2, tt_3, tt_4⟩
theorem tt_5 : TT[5]? = some (0, 4, [none, some 6]) := by decide +kernel
theorem tt_6 : TT[6]? = some (1, 7, []) := by decide +kernel
theorem is4_5 : isX4 5 := ⟨tt_5, tt_6⟩
theorem tt_7 : TT[7]? = some (0, 5, [none, some 8, some 9, some 10, some 11]) := by decide +kernel
theorem tt_8 : TT[8]? = some (1, 10, []) := by decide +kernel
theorem tt_9 : TT[9]? = some (1, 10, []) := by decide +kernel
theorem tt_10 : TT[10]? = some (1, 10, []) := by decide +kernel
theorem tt_11 : TT[11]? = some (2, 10, []) := by decide +kernel
theorem is5_7 : isX5 7 := ⟨tt_7, tt_8, tt_9, tt_10, tt_11⟩
theorem is8_1 : isX8 1 := ⟨tt_1, is9_2, is4_5, is5_7⟩
theorem gw_628 : Cond.methodLink "FoldedArchive" 182 yX10_obey ∈ GW := GW_t3 58 rfl rfl
theorem gw_630 : Cond.instanceMethod yX10_obey ∈ GW := GW_t3 60 rfl rfl
theorem gw_13 : Cond.selects yX10_obey.cls yX10_obey yX10_obey ∈ GW := GW_pr 13 (q := (yX10_obey, 15)) rfl
theorem cv_X10_182 : CV RX10 182 yX10_obey cX10_obey 2 none 1 := ⟨gw_628, gw_630, gw_13, gw_91, gw_631, by decide +kernel, by decide +kernel⟩
theorem gw_338 : Cond.fieldLink "FoldedArchive" 25 "FoldedArchive" "history" "LFoldedArchive$History;" ∈ GW := GW_t2 8 rfl rfl
theorem fl_X10_25 : FL RX10 25 10 3 "LFoldedArchive$History;" true := ⟨RX10, TX10, 15, tyX10, rfl, inG_X10, by decide, gw_338, tyX10_ok, nmX10, rfl, rfl⟩
theorem gw_734 : Cond.methodLink "FoldedArchive" 262 yX3_keep ∈ GW := GW_t3 164 rfl rfl
theorem gw_735 : Cond.instanceMethod yX3_keep ∈ GW := GW_t3 165 rfl rfl
theorem gw_736 : Cond.selects yX3_keep.cls yX3_keep yX3_keep ∈ GW := GW_t3 166 rfl rfl
theorem cv_X10_262 : CV RX10 262 yX3_keep cX3_keep 3 none 1 := ⟨gw_734, gw_735, gw_736, gw_96, gw_737, by decide +kernel, by decide +kernel⟩
theorem gw_339 : Cond.fieldLink "FoldedArchive" 32 "FoldedArchive" "flows" "LFoldedArchive$FlowSearch;" ∈ GW := GW_t2 9 rfl rfl
theorem fl_X10_32 : FL RX10 32 10 4 "LFoldedArchive$FlowSearch;" true := ⟨RX10, TX10, 15, tyX10, rfl, inG_X10, by decide, gw_339, tyX10_ok, nmX10, rfl, rfl⟩
theorem gw_744 : Cond.methodLink "FoldedArchive" 282 yX8_apply ∈ GW := GW_t3 174 rfl rfl
theorem gw_745 : Cond.instanceMethod yX8_apply ∈ GW := GW_t3 175 rfl rfl
theorem gw_746 : Cond.selects yX8_apply.cls yX8_apply yX8_apply ∈ GW := GW_t3 176 rfl rfl
theorem cv_X10_282 : CV RX10 282 yX8_apply cX8_apply 6 (some .int) 5 := ⟨gw_744, gw_745, gw_746, gw_92, gw_747, by decide +kernel, by decide +kernel⟩
theorem gw_552 : Cond.code yX10_change cX10_change 5 (some .int) ∈ GW := GW_t2 222 rfl rfl
theorem gw_549 : Cond.methodLink "FoldedArchive" 86 yX10_change ∈ GW := GW_t2 219 rfl rfl
theorem gw_551 : Cond.instanceMethod yX10_change ∈ GW := GW_t2 221 rfl rfl
theorem gw_8 : Cond.selects yX10_change.cls yX10_change yX10_change ∈ GW := GW_pr 8 (q := (yX10_change, 15)) rfl
theorem cv_X10_86 : CV RX10 86 yX10_change cX10_change 5 (some .int) 4 := ⟨gw_549, gw_551, gw_8, gw_91, gw_552, by decide +kernel, by decide +kernel⟩
theorem gw_548 : Cond.code yX10_addSection cX10_addSection 1 (some .int) ∈ GW := GW_t2 218 rfl rfl
theorem gw_894 : Cond.code yX10_pour cX10_pour 3 (some .int) ∈ GW := GW_t4 84 rfl rfl
theorem gw_901 : Cond.code yX10_tag cX10_tag 3 (some .int) ∈ GW := GW_t4 91 rfl rfl
theorem gw_908 : Cond.code yX10_untag cX10_untag 3 (some .int) ∈ GW := GW_t4 98 rfl rfl
theorem gw_205 : Cond.fieldLink "FoldedArchive" 90 "FoldedArchive$State" "strip" "LFoldedArchive$Strip;" ∈ GW := GW_t1 115 rfl rfl
theorem fl_X10_90 : FL RX10 90 8 0 "LFoldedArchive$Strip;" true := ⟨RX8, TX8, 3, tyX8, rfl, inG_X8, by decide, gw_205, tyX8_ok, nmX8, rfl, rfl⟩
theorem gw_143 : Cond.fieldLink "FoldedArchive" 94 "FoldedArchive$Strip" "count" "I" ∈ GW := GW_t1 53 rfl rfl
theorem fl_X10_94 : FL RX10 94 9 0 "I" false := ⟨RX9, TX9, 5, tyX9, rfl, inG_X9, by decide, gw_143, tyX9_ok, nmX9, rfl, rfl⟩
theorem gw_384 : Cond.code yX10_sectionCount cX10_sectionCount 1 (some .int) ∈ GW := GW_t2 54 rfl rfl
theorem gw_920 : Cond.methodLink "FoldedArchive" 296 yX9_has ∈ GW := GW_t4 110 rfl rfl
theorem cv_X10_296 : CV RX10 296 yX9_has cX9_has 2 (some .boolean) 1 := ⟨gw_920, gw_565, gw_566, gw_93, gw_567, by decide +kernel, by decide +kernel⟩
theorem gw_919 : Cond.code yX10_requireSection cX10_requireSection 2 none ∈ GW := GW_t4 109 rfl rfl
theorem gw_916 : Cond.methodLink "FoldedArchive" 99 yX10_requireSection ∈ GW := GW_t4 106 rfl rfl
theorem gw_918 : Cond.instanceMethod yX10_requireSection ∈ GW := GW_t4 108 rfl rfl
theorem gw_26 : Cond.selects yX10_requireSection.cls yX10_requireSection yX10_requireSection ∈ GW := GW_pr 26 (q := (yX10_requireSection, 15)) rfl
theorem cv_X10_99 : CV RX10 99 yX10_requireSection cX10_requireSection 2 none 1 := ⟨gw_916, gw_918, gw_26, gw_91, gw_919, by decide +kernel, by decide +kernel⟩
theorem gw_921 : Cond.methodLink "FoldedArchive" 102 yX9_waterOf ∈ GW := GW_t4 111 rfl rfl
theorem cv_X10_102 : CV RX10 102 yX9_waterOf cX9_waterOf 2 (some .int) 1 := ⟨gw_921, gw_569, gw_570, gw_93, gw_571, by decide +kernel, by decide +kernel⟩
theorem gw_915 : Cond.code yX10_water cX10_water 2 (some .int) ∈ GW := GW_t4 105 rfl rfl
theorem gw_933 : Cond.methodLink "FoldedArchive" 300 yX9_isTerm ∈ GW := GW_t4 123 rfl rfl
theorem cs_X10_300 : CS RX10 300 yX9_isTerm cX9_isTerm 1 (some .boolean) 1 := ⟨gw_933, gw_578, gw_93, gw_579, by decide +kernel, by decide +kernel⟩
theorem gw_932 : Cond.code yX10_requireTerm cX10_requireTerm 2 none ∈ GW := GW_t4 122 rfl rfl
theorem gw_929 : Cond.methodLink "FoldedArchive" 106 yX10_requireTerm ∈ GW := GW_t4 119 rfl rfl
theorem gw_931 : Cond.instanceMethod yX10_requireTerm ∈ GW := GW_t4 121 rfl rfl
theorem gw_27 : Cond.selects yX10_requireTerm.cls yX10_requireTerm yX10_requireTerm ∈ GW := GW_pr 27 (q := (yX10_requireTerm, 15)) rfl
theorem cv_X10_106 : CV RX10 106 yX10_requireTerm cX10_requireTerm 2 none 1 := ⟨gw_929, gw_931, gw_27, gw_91, gw_932, by decide +kernel, by decide +kernel⟩
theorem gw_934 : Cond.methodLink "FoldedArchive" 109 yX9_bears ∈ GW := GW_t4 124 rfl rfl
theorem cv_X10_109 : CV RX10 109 yX9_bears cX9_bears 3 (some .boolean) 2 := ⟨gw_934, gw_581, gw_582, gw_93, gw_583, by decide +kernel, by decide +kernel⟩
theorem gw_928 : Cond.code yX10_hasTerm cX10_hasTerm 3 (some .boolean) ∈ GW := GW_t4 118 rfl rfl
theorem gw_942 : Cond.methodLink "FoldedArchive" 113 yX9_bearersOf ∈ GW := GW_t4 132 rfl rfl
theorem cv_X10_113 : CV RX10 113 yX9_bearersOf cX9_bearersOf 4 (some .int) 1 := ⟨gw_942, gw_943, gw_944, gw_93, gw_945, by decide +kernel, by decide +kernel⟩
theorem gw_947 : Cond.methodLink "FoldedArchive" 116 yJ6_bitCount_0f7a4 ∈ GW := GW_t4 137 rfl rfl
theorem cs_X10_116 : CS RX10 116 yJ6_bitCount_0f7a4 cJ6_bitCount_0f7a4 1 (some .int) 1 := ⟨gw_947, gw_593, gw_104, gw_594, by decide +kernel, by decide +kernel⟩
theorem gw_941 : Cond.code yX10_sectionsWith cX10_sectionsWith 2 (some .int) ∈ GW := GW_t4 131 rfl rfl
theorem gw_956 : Cond.methodLink "FoldedArchive" 121 yX9_sectionAtRank ∈ GW := GW_t4 146 rfl rfl
theorem gw_957 : Cond.instanceMethod yX9_sectionAtRank ∈ GW := GW_t4 147 rfl rfl
theorem gw_958 : Cond.selects yX9_sectionAtRank.cls yX9_sectionAtRank yX9_sectionAtRank ∈ GW := GW_t4 148 rfl rfl
theorem cv_X10_121 : CV RX10 121 yX9_sectionAtRank cX9_sectionAtRank 3 (some .int) 1 := ⟨gw_956, gw_957, gw_958, gw_93, gw_959, by decide +kernel, by decide +kernel⟩
theorem gw_968 : Cond.classLink "FoldedArchive" 124 "java/util/NoSuchElementException" ∈ GW := GW_t4 158 rfl rfl
theorem gw_114 : Cond.initialized "java/util/NoSuchElementException" ∈ GW := GW_t1 24 rfl rfl
theorem xg_X10_124 : ∀ w ∈ vx_at0 RX10 126 "java/util/NoSuchElementException" exN, w ∈ GW ∨ w ∈ NGW := GW_all _ (by decide +kernel)
theorem xo_X10_124 : ∀ w ∈ Cond.classLink RX10 124 "java/util/NoSuchElementException" :: Cond.initialized "java/util/NoSuchElementException" :: vx_at0 RX10 126 "java/util/NoSuchElementException" exN, vx_ot w = true := List.all_eq_true.mp (by decide +kernel)
theorem gw_955 : Cond.code yX10_sectionByWater cX10_sectionByWater 3 (some .int) ∈ GW := GW_t4 145 rfl rfl
theorem gw_989 : Cond.code yX10_fold cX10_fold 2 (some .int) ∈ GW := GW_t4 179 rfl rfl
theorem gw_996 : Cond.code yX10_unfold cX10_unfold 1 (some .int) ∈ GW := GW_t4 186 rfl rfl
theorem gw_207 : Cond.fieldLink "FoldedArchive" 127 "FoldedArchive$State" "pile" "LFoldedArchive$Pile;" ∈ GW := GW_t1 117 rfl rfl
theorem fl_X10_127 : FL RX10 127 8 1 "LFoldedArchive$Pile;" true := ⟨RX8, TX8, 3, tyX8, rfl, inG_X8, by decide, gw_207, tyX8_ok, nmX8, rfl, rfl⟩
theorem gw_171 : Cond.fieldLink "FoldedArchive" 131 "FoldedArchive$Pile" "folded" "I" ∈ GW := GW_t1 81 rfl rfl
theorem fl_X10_131 : FL RX10 131 4 0 "I" false := ⟨RX4, TX4, 2, tyX4, rfl, inG_X4, by decide, gw_171, tyX4_ok, nmX4, rfl, rfl⟩
theorem gw_388 : Cond.code yX10_foldedCount cX10_foldedCount 1 (some .int) ∈ GW := GW_t2 58 rfl rfl
theorem gw_1004 : Cond.methodLink "FoldedArchive" 136 yX4_layerHolding ∈ GW := GW_t4 194 rfl rfl
theorem cv_X10_136 : CV RX10 136 yX4_layerHolding cX4_layerHolding 2 (some .int) 1 := ⟨gw_1004, gw_420, gw_421, gw_94, gw_422, by decide +kernel, by decide +kernel⟩
theorem gw_1003 : Cond.code yX10_layerOf cX10_layerOf 3 (some .int) ∈ GW := GW_t4 193 rfl rfl
theorem gw_506 : Cond.methodLink "FoldedArchive" 139 yX4_sectionAt ∈ GW := GW_t2 176 rfl rfl
theorem cv_X10_139 : CV RX10 139 yX4_sectionAt cX4_sectionAt 3 (some .int) 1 := ⟨gw_506, gw_507, gw_508, gw_94, gw_509, by decide +kernel, by decide +kernel⟩
theorem gw_1011 : Cond.code yX10_sectionIn cX10_sectionIn 3 (some .int) ∈ GW := GW_t4 201 rfl rfl
theorem gw_1019 : Cond.methodLink "FoldedArchive" 145 yX8_judgeFold ∈ GW := GW_t4 209 rfl rfl
theorem cv_X10_145 : CV RX10 145 yX8_judgeFold cX8_judgeFold 3 (some .int) 1 := ⟨gw_1019, gw_599, gw_600, gw_92, gw_601, by decide +kernel, by decide +kernel⟩
theorem gw_1018 : Cond.code yX10_canFold cX10_canFold 3 (some .boolean) ∈ GW := GW_t4 208 rfl rfl
theorem gw_340 : Cond.fieldLink "FoldedArchive" 39 "FoldedArchive" "foldings" "LFoldedArchive$FoldingSearch;" ∈ GW := GW_t2 10 rfl rfl
theorem fl_X10_39 : FL RX10 39 10 5 "LFoldedArchive$FoldingSearch;" true := ⟨RX10, TX10, 15, tyX10, rfl, inG_X10, by decide, gw_340, tyX10_ok, nmX10, rfl, rfl⟩
theorem gw_393 : Cond.methodLink "FoldedArchive" 148 yX2_countByFolding ∈ GW := GW_t2 63 rfl rfl
theorem gw_394 : Cond.instanceMethod yX2_countByFolding ∈ GW := GW_t2 64 rfl rfl
theorem gw_395 : Cond.selects yX2_countByFolding.cls yX2_countByFolding yX2_countByFolding ∈ GW := GW_t2 65 rfl rfl
theorem cv_X10_148 : CV RX10 148 yX2_countByFolding cX2_countByFolding 3 (some .int) 2 := ⟨gw_393, gw_394, gw_395, gw_98, gw_396, by decide +kernel, by decide +kernel⟩
theorem gw_392 : Cond.code yX10_completions cX10_completions 1 (some .int) ∈ GW := GW_t2 62 rfl rfl
theorem gw_444 : Cond.methodLink "FoldedArchive" 152 yX2_countByOrders ∈ GW := GW_t2 114 rfl rfl
theorem gw_445 : Cond.instanceMethod yX2_countByOrders ∈ GW := GW_t2 115 rfl rfl
theorem gw_446 : Cond.selects yX2_countByOrders.cls yX2_countByOrders yX2_countByOrders ∈ GW := GW_t2 116 rfl rfl
theorem cv_X10_152 : CV RX10 152 yX2_countByOrders cX2_countByOrders 5 (some .int) 2 := ⟨gw_444, gw_445, gw_446, gw_98, gw_447, by decide +kernel, by decide +kernel⟩
theorem gw_443 : Cond.code yX10_completionsByOrders cX10_completionsByOrders 1 (some .int) ∈ GW := GW_t2 113 rfl rfl
theorem gw_1026 : Cond.code yX10_layPipe cX10_layPipe 4 (some .int) ∈ GW := GW_t4 216 rfl rfl
theorem gw_1033 : Cond.code yX10_removePipe cX10_removePipe 2 (some .int) ∈ GW := GW_t4 223 rfl rfl
theorem gw_1040 : Cond.code yX10_breakPipe cX10_breakPipe 2 (some .int) ∈ GW := GW_t4 230 rfl rfl
theorem gw_1047 : Cond.code yX10_mendPipe cX10_mendPipe 2 (some .int) ∈ GW := GW_t4 237 rfl rfl
theorem gw_209 : Cond.fieldLink "FoldedArchive" 155 "FoldedArchive$State" "pipes" "LFoldedArchive$Pipes;" ∈ GW := GW_t1 119 rfl rfl
theorem fl_X10_155 : FL RX10 155 8 2 "LFoldedArchive$Pipes;" true := ⟨RX8, TX8, 3, tyX8, rfl, inG_X8, by decide, gw_209, tyX8_ok, nmX8, rfl, rfl⟩
theorem gw_187 : Cond.fieldLink "FoldedArchive" 159 "FoldedArchive$Pipes" "count" "I" ∈ GW := GW_t1 97 rfl rfl
theorem fl_X10_159 : FL RX10 159 5 0 "I" false := ⟨RX5, TX5, 5, tyX5, rfl, inG_X5, by decide, gw_187, tyX5_ok, nmX5, rfl, rfl⟩
theorem gw_473 : Cond.code yX10_pipeCount cX10_pipeCount 1 (some .int) ∈ GW := GW_t2 143 rfl rfl
theorem gw_1059 : Cond.methodLink "FoldedArchive" 299 yX5_has ∈ GW := GW_t5 9 rfl rfl
theorem cv_X10_299 : CV RX10 299 yX5_has cX5_has 2 (some .boolean) 1 := ⟨gw_1059, gw_608, gw_609, gw_95, gw_610, by decide +kernel, by decide +kernel⟩
theorem gw_1058 : Cond.code yX10_requirePipe cX10_requirePipe 2 none ∈ GW := GW_t5 8 rfl rfl
theorem gw_1055 : Cond.methodLink "FoldedArchive" 162 yX10_requirePipe ∈ GW := GW_t5 5 rfl rfl
theorem gw_1057 : Cond.instanceMethod yX10_requirePipe ∈ GW := GW_t5 7 rfl rfl
theorem gw_30 : Cond.selects yX10_requirePipe.cls yX10_requirePipe yX10_requirePipe ∈ GW := GW_pr 30 (q := (yX10_requirePipe, 15)) rfl
theorem cv_X10_162 : CV RX10 162 yX10_requirePipe cX10_requirePipe 2 none 1 := ⟨gw_1055, gw_1057, gw_30, gw_91, gw_1058, by decide +kernel, by decide +kernel⟩
theorem gw_1060 : Cond.methodLink "FoldedArchive" 165 yX5_startOf ∈ GW := GW_t5 10 rfl rfl
theorem cv_X10_165 : CV RX10 165 yX5_startOf cX5_startOf 2 (some .int) 1 := ⟨gw_1060, gw_798, gw_799, gw_95, gw_800, by decide +kernel, by decide +kernel⟩
theorem gw_1054 : Cond.code yX10_pipeFrom cX10_pipeFrom 2 (some .int) ∈ GW := GW_t5 4 rfl rfl
theorem gw_1068 : Cond.methodLink "FoldedArchive" 168 yX5_endOf ∈ GW := GW_t5 18 rfl rfl
theorem cv_X10_168 : CV RX10 168 yX5_endOf cX5_endOf 2 (some .int) 1 := ⟨gw_1068, gw_802, gw_803, gw_95, gw_804, by decide +kernel, by decide +kernel⟩
theorem gw_1067 : Cond.code yX10_pipeTo cX10_pipeTo 2 (some .int) ∈ GW := GW_t5 17 rfl rfl
theorem gw_1076 : Cond.methodLink "FoldedArchive" 171 yX5_widthOf ∈ GW := GW_t5 26 rfl rfl
theorem cv_X10_171 : CV RX10 171 yX5_widthOf cX5_widthOf 2 (some .int) 1 := ⟨gw_1076, gw_621, gw_622, gw_95, gw_623, by decide +kernel, by decide +kernel⟩
theorem gw_1075 : Cond.code yX10_capacity cX10_capacity 2 (some .int) ∈ GW := GW_t5 25 rfl rfl
theorem gw_1084 : Cond.methodLink "FoldedArchive" 174 yX5_brokenAt ∈ GW := GW_t5 34 rfl rfl
theorem cv_X10_174 : CV RX10 174 yX5_brokenAt cX5_brokenAt 2 (some .boolean) 1 := ⟨gw_1084, gw_616, gw_617, gw_95, gw_618, by decide +kernel, by decide +kernel⟩
theorem gw_1083 : Cond.code yX10_isBroken cX10_isBroken 2 (some .boolean) ∈ GW := GW_t5 33 rfl rfl
theorem gw_1092 : Cond.methodLink "FoldedArchive" 178 yX8_judgeEnds ∈ GW := GW_t5 42 rfl rfl
theorem cv_X10_178 : CV RX10 178 yX8_judgeEnds cX8_judgeEnds 1 (some .int) 0 := ⟨gw_1092, gw_625, gw_626, gw_92, gw_627, by decide +kernel, by decide +kernel⟩
theorem gw_1093 : Cond.methodLink "FoldedArchive" 185 yX1_greatest ∈ GW := GW_t5 43 rfl rfl
theorem cv_X10_185 : CV RX10 185 yX1_greatest cX1_greatest 6 (some .int) 3 := ⟨gw_1093, gw_789, gw_790, gw_97, gw_791, by decide +kernel, by decide +kernel⟩
theorem gw_1091 : Cond.code yX10_greatestFlow cX10_greatestFlow 1 (some .int) ∈ GW := GW_t5 41 rfl rfl
theorem gw_1101 : Cond.methodLink "FoldedArchive" 189 yX1_smallest ∈ GW := GW_t5 51 rfl rfl
theorem gw_1102 : Cond.instanceMethod yX1_smallest ∈ GW := GW_t5 52 rfl rfl
theorem gw_1103 : Cond.selects yX1_smallest.cls yX1_smallest yX1_smallest ∈ GW := GW_t5 53 rfl rfl
theorem cv_X10_189 : CV RX10 189 yX1_smallest cX1_smallest 5 (some .int) 2 := ⟨gw_1101, gw_1102, gw_1103, gw_97, gw_1104, by decide +kernel, by decide +kernel⟩
theorem gw_1100 : Cond.code yX10_smallestCut cX10_smallestCut 1 (some .int) ∈ GW := GW_t5 50 rfl rfl
theorem gw_1117 : Cond.code yX10_lossOf cX10_lossOf 3 (some .int) ∈ GW := GW_t5 67 rfl rfl
theorem gw_1124 : Cond.code yX10_drain cX10_drain 1 (some .int) ∈ GW := GW_t5 74 rfl rfl
theorem gw_1131 : Cond.code yX10_seep cX10_seep 1 (some .int) ∈ GW := GW_t5 81 rfl rfl
theorem gw_478 : Cond.methodLink "FoldedArchive" 193 yX9_waterSum ∈ GW := GW_t2 148 rfl rfl
theorem gw_479 : Cond.instanceMethod yX9_waterSum ∈ GW := GW_t2 149 rfl rfl
theorem gw_480 : Cond.selects yX9_waterSum.cls yX9_waterSum yX9_waterSum ∈ GW := GW_t2 150 rfl rfl
theorem cv_X10_193 : CV RX10 193 yX9_waterSum cX9_waterSum 3 (some .int) 0 := ⟨gw_478, gw_479, gw_480, gw_93, gw_481, by decide +kernel, by decide +kernel⟩
theorem gw_477 : Cond.code yX10_totalWater cX10_totalWater 1 (some .int) ∈ GW := GW_t2 147 rfl rfl
theorem gw_145 : Cond.fieldLink "FoldedArchive" 196 "FoldedArchive$Strip" "pouredUnits" "I" ∈ GW := GW_t1 55 rfl rfl
theorem fl_X10_196 : FL RX10 196 9 1 "I" false := ⟨RX9, TX9, 5, tyX9, rfl, inG_X9, by decide, gw_145, tyX9_ok, nmX9, rfl, rfl⟩
theorem gw_147 : Cond.fieldLink "FoldedArchive" 199 "FoldedArchive$Strip" "leakedUnits" "I" ∈ GW := GW_t1 57 rfl rfl
theorem fl_X10_199 : FL RX10 199 9 2 "I" false := ⟨RX9, TX9, 5, tyX9, rfl, inG_X9, by decide, gw_147, tyX9_ok, nmX9, rfl, rfl⟩
theorem gw_485 : Cond.code yX10_totalWaterByAccounts cX10_totalWaterByAccounts 1 (some .int) ∈ GW := GW_t2 155 rfl rfl
theorem gw_489 : Cond.code yX10_poured cX10_poured 1 (some .int) ∈ GW := GW_t2 159 rfl rfl
theorem gw_493 : Cond.code yX10_leaked cX10_leaked 1 (some .int) ∈ GW := GW_t2 163 rfl rfl
theorem gw_1153 : Cond.classLink "FoldedArchive" 202 "java/lang/ArithmeticException" ∈ GW := GW_t5 103 rfl rfl
theorem gw_115 : Cond.initialized "java/lang/ArithmeticException" ∈ GW := GW_t1 25 rfl rfl
theorem xg_X10_202 : ∀ w ∈ vx_at0 RX10 204 "java/lang/ArithmeticException" exN, w ∈ GW ∨ w ∈ NGW := GW_all _ (by decide +kernel)
theorem xo_X10_202 : ∀ w ∈ Cond.classLink RX10 202 "java/lang/ArithmeticException" :: Cond.initialized "java/lang/ArithmeticException" :: vx_at0 RX10 204 "java/lang/ArithmeticException" exN, vx_ot w = true := List.all_eq_true.mp (by decide +kernel)
theorem gw_1152 : Cond.code yX10_meanWater cX10_meanWater 1 (some .double) ∈ GW := GW_t5 102 rfl rfl
theorem gw_1164 : Cond.code yX10_leakedShare cX10_leakedShare 1 (some .float) ∈ GW := GW_t5 114 rfl rfl
theorem gw_341 : Cond.fieldLink "FoldedArchive" 48 "FoldedArchive" "text" "LFoldedArchive$Row;" ∈ GW := GW_t2 11 rfl rfl
theorem fl_X10_48 : FL RX10 48 10 6 "LFoldedArchive$Row;" true := ⟨RX10, TX10, 15, tyX10, rfl, inG_X10, by decide, gw_341, tyX10_ok, nmX10, rfl, rfl⟩
theorem gw_1173 : Cond.methodLink "FoldedArchive" 205 yX6_isFull ∈ GW := GW_t5 123 rfl rfl
theorem gw_1174 : Cond.instanceMethod yX6_isFull ∈ GW := GW_t5 124 rfl rfl
theorem gw_1175 : Cond.selects yX6_isFull.cls yX6_isFull yX6_isFull ∈ GW := GW_t5 125 rfl rfl
theorem cv_X10_205 : CV RX10 205 yX6_isFull cX6_isFull 1 (some .boolean) 0 := ⟨gw_1173, gw_1174, gw_1175, gw_99, gw_1176, by decide +kernel, by decide +kernel⟩
theorem gw_1192 : Cond.methodLink "FoldedArchive" 212 yX6_put ∈ GW := GW_t5 142 rfl rfl
theorem cv_X10_212 : CV RX10 212 yX6_put cX6_put 2 none 1 := ⟨gw_1192, gw_515, gw_516, gw_99, gw_517, by decide +kernel, by decide +kernel⟩
theorem gw_281 : Cond.fieldLink "FoldedArchive" 216 "FoldedArchive$Row" "length" "I" ∈ GW := GW_t1 191 rfl rfl
theorem fl_X10_216 : FL RX10 216 6 1 "I" false := ⟨RX6, TX6, 2, tyX6, rfl, inG_X6, by decide, gw_281, tyX6_ok, nmX6, rfl, rfl⟩
theorem gw_1177 : Cond.classLink "FoldedArchive" 209 "java/lang/IllegalStateException" ∈ GW := GW_t5 127 rfl rfl
theorem gw_116 : Cond.initialized "java/lang/IllegalStateException" ∈ GW := GW_t1 26 rfl rfl
theorem xg_X10_209 : ∀ w ∈ vx_at0 RX10 211 "java/lang/IllegalStateException" exN, w ∈ GW ∨ w ∈ NGW := GW_all _ (by decide +kernel)
theorem xo_X10_209 : ∀ w ∈ Cond.classLink RX10 209 "java/lang/IllegalStateException" :: Cond.initialized "java/lang/IllegalStateException" :: vx_at0 RX10 211 "java/lang/IllegalStateException" exN, vx_ot w = true := List.all_eq_true.mp (by decide +kernel)
theorem gw_1172 : Cond.code yX10_feed cX10_feed 2 (some .int) ∈ GW := GW_t5 122 rfl rfl
theorem gw_498 : Cond.methodLink "FoldedArchive" 219 yX6_empty ∈ GW := GW_t2 168 rfl rfl
theorem gw_499 : Cond.instanceMethod yX6_empty ∈ GW := GW_t2 169 rfl rfl
theorem gw_500 : Cond.selects yX6_empty.cls yX6_empty yX6_empty ∈ GW := GW_t2 170 rfl rfl
theorem cv_X10_219 : CV RX10 219 yX6_empty cX6_empty 1 none 0 := ⟨gw_498, gw_499, gw_500, gw_99, gw_501, by decide +kernel, by decide +kernel⟩
theorem gw_497 : Cond.code yX10_clearText cX10_clearText 2 (some .int) ∈ GW := GW_t2 167 rfl rfl
theorem gw_346 : Cond.fieldLink "FoldedArchive" 73 "FoldedArchive" "keptFault" "I" ∈ GW := GW_t2 16 rfl rfl
theorem fl_X10_73 : FL RX10 73 10 11 "I" false := ⟨RX10, TX10, 15, tyX10, rfl, inG_X10, by decide, gw_346, tyX10_ok, nmX10, rfl, rfl⟩
theorem gw_1240 : Cond.code yX10_refuseFault cX10_refuseFault 2 none ∈ GW := GW_t5 190 rfl rfl
theorem gw_343 : Cond.fieldLink "FoldedArchive" 58 "FoldedArchive" "searches" "LFoldedArchive$SearchReader;" ∈ GW := GW_t2 13 rfl rfl
theorem fl_X10_58 : FL RX10 58 10 8 "LFoldedArchive$SearchReader;" true := ⟨RX10, TX10, 15, tyX10, rfl, inG_X10, by decide, gw_343, tyX10_ok, nmX10, rfl, rfl⟩
theorem gw_1200 : Cond.methodLink "FoldedArchive" 222 yX7_askForAll ∈ GW := GW_t5 150 rfl rfl
theorem gw_1201 : Cond.instanceMethod yX7_askForAll ∈ GW := GW_t5 151 rfl rfl
theorem gw_1202 : Cond.selects yX7_askForAll.cls yX7_askForAll yX7_askForAll ∈ GW := GW_t5 152 rfl rfl
theorem cv_X10_222 : CV RX10 222 yX7_askForAll cX7_askForAll 3 none 1 := ⟨gw_1200, gw_1201, gw_1202, gw_101, gw_1203, by decide +kernel, by decide +kernel⟩
theorem gw_1205 : Cond.methodLink "FoldedArchive" 226 yX7_read ∈ GW := GW_t5 155 rfl rfl
theorem gw_1206 : Cond.instanceMethod yX7_read ∈ GW := GW_t5 156 rfl rfl
theorem gw_1207 : Cond.selects yX7_read.cls yX7_read yX7_read ∈ GW := GW_t5 157 rfl rfl
theorem cv_X10_226 : CV RX10 226 yX7_read cX7_read 3 (some .int) 1 := ⟨gw_1205, gw_1206, gw_1207, gw_101, gw_1208, by decide +kernel, by decide +kernel⟩
theorem gw_298 : Cond.fieldLink "FoldedArchive" 230 "FoldedArchive$SearchReader" "fault" "I" ∈ GW := GW_t1 208 rfl rfl
theorem fl_X10_230 : FL RX10 230 7 3 "I" false := ⟨RX7, TX7, 4, tyX7, rfl, inG_X7, by decide, gw_298, tyX7_ok, nmX7, rfl, rfl⟩
theorem gw_1237 : Cond.methodLink "FoldedArchive" 233 yX10_refuseFault ∈ GW := GW_t5 187 rfl rfl
theorem gw_1239 : Cond.instanceMethod yX10_refuseFault ∈ GW := GW_t5 189 rfl rfl
theorem gw_36 : Cond.selects yX10_refuseFault.cls yX10_refuseFault yX10_refuseFault ∈ GW := GW_pr 36 (q := (yX10_refuseFault, 15)) rfl
theorem cv_X10_233 : CV RX10 233 yX10_refuseFault cX10_refuseFault 2 none 1 := ⟨gw_1237, gw_1239, gw_36, gw_91, gw_1240, by decide +kernel, by decide +kernel⟩
theorem gw_1199 : Cond.code yX10_search cX10_search 2 (some .int) ∈ GW := GW_t5 149 rfl rfl
theorem gw_1248 : Cond.methodLink "FoldedArchive" 236 yX7_askForOne ∈ GW := GW_t5 198 rfl rfl
theorem gw_1249 : Cond.instanceMethod yX7_askForOne ∈ GW := GW_t5 199 rfl rfl
theorem gw_1250 : Cond.selects yX7_askForOne.cls yX7_askForOne yX7_askForOne ∈ GW := GW_t5 200 rfl rfl
theorem cv_X10_236 : CV RX10 236 yX7_askForOne cX7_askForOne 4 none 2 := ⟨gw_1248, gw_1249, gw_1250, gw_101, gw_1251, by decide +kernel, by decide +kernel⟩
theorem gw_1247 : Cond.code yX10_matches cX10_matches 3 (some .boolean) ∈ GW := GW_t5 197 rfl rfl
theorem gw_344 : Cond.fieldLink "FoldedArchive" 65 "FoldedArchive" "commands" "LFoldedArchive$CommandReader;" ∈ GW := GW_t2 14 rfl rfl
theorem fl_X10_65 : FL RX10 65 10 9 "LFoldedArchive$CommandReader;" true := ⟨RX10, TX10, 15, tyX10, rfl, inG_X10, by decide, gw_344, tyX10_ok, nmX10, rfl, rfl⟩
theorem gw_1364 : Cond.methodLink "FoldedArchive" 286 yX0_kindOf ∈ GW := GW_t6 74 rfl rfl
theorem gw_1365 : Cond.instanceMethod yX0_kindOf ∈ GW := GW_t6 75 rfl rfl
theorem gw_1366 : Cond.selects yX0_kindOf.cls yX0_kindOf yX0_kindOf ∈ GW := GW_t6 76 rfl rfl
theorem cv_X10_286 : CV RX10 286 yX0_kindOf cX0_kindOf 2 (some .int) 1 := ⟨gw_1364, gw_1365, gw_1366, gw_102, gw_1367, by decide +kernel, by decide +kernel⟩
theorem gw_1368 : Cond.methodLink "FoldedArchive" 289 yX0_operandOf ∈ GW := GW_t6 78 rfl rfl
theorem gw_1369 : Cond.instanceMethod yX0_operandOf ∈ GW := GW_t6 79 rfl rfl
theorem gw_1370 : Cond.selects yX0_operandOf.cls yX0_operandOf yX0_operandOf ∈ GW := GW_t6 80 rfl rfl
theorem cv_X10_289 : CV RX10 289 yX0_operandOf cX0_operandOf 4 (some .int) 2 := ⟨gw_1368, gw_1369, gw_1370, gw_102, gw_1371, by decide +kernel, by decide +kernel⟩
theorem gw_1363 : Cond.code yX10_runCommand cX10_runCommand 7 (some .int) ∈ GW := GW_t6 73 rfl rfl
theorem gw_1374 : Cond.code yX10_causeOf cX10_causeOf 1 (some .int) ∈ GW := GW_t6 84 rfl rfl
theorem gw_1260 : Cond.methodLink "FoldedArchive" 240 yX0_read ∈ GW := GW_t5 210 rfl rfl
theorem gw_1261 : Cond.instanceMethod yX0_read ∈ GW := GW_t5 211 rfl rfl
theorem gw_1262 : Cond.selects yX0_read.cls yX0_read yX0_read ∈ GW := GW_t5 212 rfl rfl
theorem cv_X10_240 : CV RX10 240 yX0_read cX0_read 4 none 1 := ⟨gw_1260, gw_1261, gw_1262, gw_102, gw_1263, by decide +kernel, by decide +kernel⟩
theorem gw_319 : Cond.fieldLink "FoldedArchive" 243 "FoldedArchive$CommandReader" "fault" "I" ∈ GW := GW_t1 229 rfl rfl
theorem fl_X10_243 : FL RX10 243 0 3 "I" false := ⟨RX0, TX0, 6, tyX0, rfl, inG_X0, by decide, gw_319, tyX0_ok, nmX0, rfl, rfl⟩
theorem gw_336 : Cond.fieldLink "FoldedArchive" 16 "FoldedArchive" "beforeText" "LFoldedArchive$State;" ∈ GW := GW_t2 6 rfl rfl
theorem fl_X10_16 : FL RX10 16 10 1 "LFoldedArchive$State;" true := ⟨RX10, TX10, 15, tyX10, rfl, inG_X10, by decide, gw_336, tyX10_ok, nmX10, rfl, rfl⟩
theorem gw_526 : Cond.methodLink "FoldedArchive" 244 yX8_copyFrom ∈ GW := GW_t2 196 rfl rfl
theorem cv_X10_244 : CV RX10 244 yX8_copyFrom cX8_copyFrom 2 none 1 := ⟨gw_526, gw_527, gw_528, gw_92, gw_529, by decide +kernel, by decide +kernel⟩
theorem tt_12 : TT[12]? = some (0, 8, [some 13, some 16, some 18]) := by decide +kernel
theorem tt_13 : TT[13]? = some (0, 9, [none, none, none, some 14, some 15]) := by decide +kernel
theorem tt_14 : TT[14]? = some (1, 7, []) := by decide +kernel
theorem tt_15 : TT[15]? = some (1, 7, []) := by decide +kernel
theorem is9_13 : isX9 13 := ⟨tt_13, tt_14, tt_15⟩
theorem tt_16 : TT[16]? = some (0, 4, [none, some 17]) := by decide +kernel
theorem tt_17 : TT[17]? = some (1, 7, []) := by decide +kernel
theorem is4_16 : isX4 16 := ⟨tt_16, tt_17⟩
theorem tt_18 : TT[18]? = some (0, 5, [none, some 19, some 20, some 21, some 22]) := by decide +kernel
theorem tt_19 : TT[19]? = some (1, 10, []) := by decide +kernel
theorem tt_20 : TT[20]? = some (1, 10, []) := by decide +kernel
theorem tt_21 : TT[21]? = some (1, 10, []) := by decide +kernel
theorem tt_22 : TT[22]? = some (2, 10, []) := by decide +kernel
theorem is5_18 : isX5 18 := ⟨tt_18, tt_19, tt_20, tt_21, tt_22⟩
theorem is8_12 : isX8 12 := ⟨tt_12, is9_13, is4_16, is5_18⟩
theorem gw_317 : Cond.fieldLink "FoldedArchive" 248 "FoldedArchive$CommandReader" "count" "I" ∈ GW := GW_t1 227 rfl rfl
theorem fl_X10_248 : FL RX10 248 0 2 "I" false := ⟨RX0, TX0, 6, tyX0, rfl, inG_X0, by decide, gw_317, tyX0_ok, nmX0, rfl, rfl⟩
theorem gw_1360 : Cond.methodLink "FoldedArchive" 249 yX10_runCommand ∈ GW := GW_t6 70 rfl rfl
theorem gw_1362 : Cond.instanceMethod yX10_runCommand ∈ GW := GW_t6 72 rfl rfl
theorem gw_43 : Cond.selects yX10_runCommand.cls yX10_runCommand yX10_runCommand ∈ GW := GW_pr 43 (q := (yX10_runCommand, 15)) rfl
theorem cv_X10_249 : CV RX10 249 yX10_runCommand cX10_runCommand 7 (some .int) 1 := ⟨gw_1360, gw_1362, gw_43, gw_91, gw_1363, by decide +kernel, by decide +kernel⟩
theorem gw_1372 : Cond.methodLink "FoldedArchive" 252 yX10_causeOf ∈ GW := GW_t6 82 rfl rfl
theorem gw_1373 : Cond.static yX10_causeOf ∈ GW := GW_t6 83 rfl rfl
theorem cs_X10_252 : CS RX10 252 yX10_causeOf cX10_causeOf 1 (some .int) 1 := ⟨gw_1372, gw_1373, gw_91, gw_1374, by decide +kernel, by decide +kernel⟩
theorem gw_1259 : Cond.code yX10_execute cX10_execute 3 (some .int) ∈ GW := GW_t5 209 rfl rfl
theorem gw_1381 : Cond.code yX10_faultPosition cX10_faultPosition 1 (some .int) ∈ GW := GW_t6 91 rfl rfl
theorem gw_342 : Cond.fieldLink "FoldedArchive" 52 "FoldedArchive" "line" "LFoldedArchive$Row;" ∈ GW := GW_t2 12 rfl rfl
theorem fl_X10_52 : FL RX10 52 10 7 "LFoldedArchive$Row;" true := ⟨RX10, TX10, 15, tyX10, rfl, inG_X10, by decide, gw_342, tyX10_ok, nmX10, rfl, rfl⟩
theorem tt_134 : TT[134]? = some (0, 6, [some 135, none]) := by decide +kernel
theorem tt_135 : TT[135]? = some (3, 14, []) := by decide +kernel
theorem is6_134 : isX6 134 := ⟨tt_134, tt_135⟩
theorem gw_510 : Cond.methodLink "FoldedArchive" 265 yX6_putNumber ∈ GW := GW_t2 180 rfl rfl
theorem gw_511 : Cond.instanceMethod yX6_putNumber ∈ GW := GW_t2 181 rfl rfl
theorem gw_512 : Cond.selects yX6_putNumber.cls yX6_putNumber yX6_putNumber ∈ GW := GW_t2 182 rfl rfl
theorem cv_X10_265 : CV RX10 265 yX6_putNumber cX6_putNumber 2 none 1 := ⟨gw_510, gw_511, gw_512, gw_99, gw_513, by decide +kernel, by decide +kernel⟩
theorem gw_1388 : Cond.code yX10_writeSection cX10_writeSection 3 (some .int) ∈ GW := GW_t6 98 rfl rfl
theorem gw_505 : Cond.code yX10_writePile cX10_writePile 2 (some .int) ∈ GW := GW_t2 175 rfl rfl
theorem gw_1396 : Cond.methodLink "FoldedArchive" 268 yX6_at ∈ GW := GW_t6 106 rfl rfl
theorem cv_X10_268 : CV RX10 268 yX6_at cX6_at 2 (some .char) 1 := ⟨gw_1396, gw_1222, gw_1223, gw_99, gw_1224, by decide +kernel, by decide +kernel⟩
theorem gw_1395 : Cond.code yX10_lineCharacter cX10_lineCharacter 2 (some .char) ∈ GW := GW_t6 105 rfl rfl
theorem gw_1403 : Cond.code yX10_denial cX10_denial 1 (some .int) ∈ GW := GW_t6 113 rfl rfl
theorem gw_1410 : Cond.code yX10_denialDetail cX10_denialDetail 1 (some .int) ∈ GW := GW_t6 120 rfl rfl
theorem gw_1417 : Cond.code yX10_denialCause cX10_denialCause 1 (some .int) ∈ GW := GW_t6 127 rfl rfl
theorem gw_229 : Cond.fieldLink "FoldedArchive" 272 "FoldedArchive$History" "count" "I" ∈ GW := GW_t1 139 rfl rfl
theorem fl_X10_272 : FL RX10 272 3 2 "I" false := ⟨RX3, TX3, 3, tyX3, rfl, inG_X3, by decide, gw_229, tyX3_ok, nmX3, rfl, rfl⟩
theorem gw_1425 : Cond.methodLink "FoldedArchive" 273 yX3_takeBack ∈ GW := GW_t6 135 rfl rfl
theorem gw_1426 : Cond.instanceMethod yX3_takeBack ∈ GW := GW_t6 136 rfl rfl
theorem gw_1427 : Cond.selects yX3_takeBack.cls yX3_takeBack yX3_takeBack ∈ GW := GW_t6 137 rfl rfl
theorem cv_X10_273 : CV RX10 273 yX3_takeBack cX3_takeBack 3 none 1 := ⟨gw_1425, gw_1426, gw_1427, gw_96, gw_1428, by decide +kernel, by decide +kernel⟩
theorem gw_1424 : Cond.code yX10_undo cX10_undo 1 (some .int) ∈ GW := GW_t6 134 rfl rfl
theorem gw_521 : Cond.code yX10_undoCount cX10_undoCount 1 (some .int) ∈ GW := GW_t2 191 rfl rfl
theorem gw_337 : Cond.fieldLink "FoldedArchive" 19 "FoldedArchive" "snapshot" "LFoldedArchive$State;" ∈ GW := GW_t2 7 rfl rfl
theorem fl_X10_19 : FL RX10 19 10 2 "LFoldedArchive$State;" true := ⟨RX10, TX10, 15, tyX10, rfl, inG_X10, by decide, gw_337, tyX10_ok, nmX10, rfl, rfl⟩
theorem tt_23 : TT[23]? = some (0, 8, [some 24, some 27, some 29]) := by decide +kernel
theorem tt_24 : TT[24]? = some (0, 9, [none, none, none, some 25, some 26]) := by decide +kernel
theorem tt_25 : TT[25]? = some (1, 7, []) := by decide +kernel
theorem tt_26 : TT[26]? = some (1, 7, []) := by decide +kernel
theorem is9_24 : isX9 24 := ⟨tt_24, tt_25, tt_26⟩
theorem tt_27 : TT[27]? = some (0, 4, [none, some 28]) := by decide +kernel
theorem tt_28 : TT[28]? = some (1, 7, []) := by decide +kernel
theorem is4_27 : isX4 27 := ⟨tt_27, tt_28⟩
theorem tt_29 : TT[29]? = some (0, 5, [none, some 30, some 31, some 32, some 33]) := by decide +kernel
theorem tt_30 : TT[30]? = some (1, 10, []) := by decide +kernel
theorem tt_31 : TT[31]? = some (1, 10, []) := by decide +kernel
theorem tt_32 : TT[32]? = some (1, 10, []) := by decide +kernel
theorem tt_33 : TT[33]? = some (2, 10, []) := by decide +kernel
theorem is5_29 : isX5 29 := ⟨tt_29, tt_30, tt_31, tt_32, tt_33⟩
theorem is8_23 : isX8 23 := ⟨tt_23, is9_24, is4_27, is5_29⟩
theorem gw_345 : Cond.fieldLink "FoldedArchive" 69 "FoldedArchive" "snapshotSaved" "Z" ∈ GW := GW_t2 15 rfl rfl
theorem fl_X10_69 : FL RX10 69 10 10 "Z" false := ⟨RX10, TX10, 15, tyX10, rfl, inG_X10, by decide, gw_345, tyX10_ok, nmX10, rfl, rfl⟩
theorem gw_525 : Cond.code yX10_saveSnapshot cX10_saveSnapshot 1 (some .int) ∈ GW := GW_t2 195 rfl rfl
theorem gw_1436 : Cond.methodLink "FoldedArchive" 276 yX3_forget ∈ GW := GW_t6 146 rfl rfl
theorem gw_1437 : Cond.instanceMethod yX3_forget ∈ GW := GW_t6 147 rfl rfl
theorem gw_1438 : Cond.selects yX3_forget.cls yX3_forget yX3_forget ∈ GW := GW_t6 148 rfl rfl
theorem cv_X10_276 : CV RX10 276 yX3_forget cX3_forget 1 none 0 := ⟨gw_1436, gw_1437, gw_1438, gw_96, gw_1439, by decide +kernel, by decide +kernel⟩
theorem gw_1435 : Cond.code yX10_restoreSnapshot cX10_restoreSnapshot 1 (some .int) ∈ GW := GW_t6 145 rfl rfl
theorem gw_1446 : Cond.fieldLink "FoldedArchiveModel" 38 "FoldedArchiveModel" "thrown" "I" ∈ GW := GW_t6 156 rfl rfl
theorem gw_1469 : Cond.lays "FoldedArchiveModel" "FoldedArchiveModel" "thrown" "I" ∈ GW := GW_t6 179 rfl rfl
theorem gw_1471 : Cond.laysFinal "FoldedArchiveModel" "FoldedArchiveModel" "s" "[I" ∈ GW := GW_t6 181 rfl rfl
theorem gw_1473 : Cond.laysFinal "FoldedArchiveModel" "FoldedArchiveModel" "frame" "[I" ∈ GW := GW_t6 183 rfl rfl
theorem gw_1475 : Cond.laysFinal "FoldedArchiveModel" "FoldedArchiveModel" "saved" "[I" ∈ GW := GW_t6 185 rfl rfl
theorem gw_1477 : Cond.laysFinal "FoldedArchiveModel" "FoldedArchiveModel" "history" "[I" ∈ GW := GW_t6 187 rfl rfl
theorem gw_1479 : Cond.lays "FoldedArchiveModel" "FoldedArchiveModel" "kept" "I" ∈ GW := GW_t6 189 rfl rfl
theorem gw_1481 : Cond.lays "FoldedArchiveModel" "FoldedArchiveModel" "hasSaved" "Z" ∈ GW := GW_t6 191 rfl rfl
theorem gw_1483 : Cond.laysFinal "FoldedArchiveModel" "FoldedArchiveModel" "text" "[I" ∈ GW := GW_t6 193 rfl rfl
theorem gw_1485 : Cond.laysFinal "FoldedArchiveModel" "FoldedArchiveModel" "told" "[I" ∈ GW := GW_t6 195 rfl rfl
theorem gw_1487 : Cond.laysFinal "FoldedArchiveModel" "FoldedArchiveModel" "out" "[I" ∈ GW := GW_t6 197 rfl rfl
theorem gw_1489 : Cond.laysFinal "FoldedArchiveModel" "FoldedArchiveModel" "layers" "[I" ∈ GW := GW_t6 199 rfl rfl
theorem gw_1491 : Cond.lays "FoldedArchiveModel" "FoldedArchiveModel" "fed" "I" ∈ GW := GW_t6 201 rfl rfl
theorem gw_1493 : Cond.lays "FoldedArchiveModel" "FoldedArchiveModel" "outLength" "I" ∈ GW := GW_t6 203 rfl rfl
theorem gw_1495 : Cond.lays "FoldedArchiveModel" "FoldedArchiveModel" "faultAt" "I" ∈ GW := GW_t6 205 rfl rfl
theorem gw_1497 : Cond.lays "FoldedArchiveModel" "FoldedArchiveModel" "answer" "I" ∈ GW := GW_t6 207 rfl rfl
theorem gw_1499 : Cond.lays "FoldedArchiveModel" "FoldedArchiveModel" "why" "I" ∈ GW := GW_t6 209 rfl rfl
theorem gw_1501 : Cond.lays "FoldedArchiveModel" "FoldedArchiveModel" "detail" "I" ∈ GW := GW_t6 211 rfl rfl
theorem gw_1503 : Cond.lays "FoldedArchiveModel" "FoldedArchiveModel" "cause" "I" ∈ GW := GW_t6 213 rfl rfl
theorem gw_1505 : Cond.lays "FoldedArchiveModel" "FoldedArchiveModel" "spot" "I" ∈ GW := GW_t6 215 rfl rfl
theorem gw_1507 : Cond.lays "FoldedArchiveModel" "FoldedArchiveModel" "end" "I" ∈ GW := GW_t6 217 rfl rfl
theorem gw_1509 : Cond.lays "FoldedArchiveModel" "FoldedArchiveModel" "commands" "I" ∈ GW := GW_t6 219 rfl rfl
theorem gw_1511 : Cond.lays "FoldedArchiveModel" "FoldedArchiveModel" "open" "I" ∈ GW := GW_t6 221 rfl rfl
theorem gw_1513 : Cond.lays "FoldedArchiveModel" "FoldedArchiveModel" "isWrong" "Z" ∈ GW := GW_t6 223 rfl rfl
theorem inG_X11 : ∀ w ∈ u_ws RX11 TX11 23, w ∈ GW := by
  have e : u_ws RX11 TX11 23 = [u_lay RX11 TX11 0, u_lay RX11 TX11 1, u_lay RX11 TX11 2, u_lay RX11 TX11 3, u_lay RX11 TX11 4, u_lay RX11 TX11 5, u_lay RX11 TX11 6, u_lay RX11 TX11 7, u_lay RX11 TX11 8, u_lay RX11 TX11 9, u_lay RX11 TX11 10, u_lay RX11 TX11 11, u_lay RX11 TX11 12, u_lay RX11 TX11 13, u_lay RX11 TX11 14, u_lay RX11 TX11 15, u_lay RX11 TX11 16, u_lay RX11 TX11 17, u_lay RX11 TX11 18, u_lay RX11 TX11 19, u_lay RX11 TX11 20, u_lay RX11 TX11 21, u_lay RX11 TX11 22] := rfl
  rw [e]
  exact List.forall_mem_cons.mpr ⟨gw_1469, List.forall_mem_cons.mpr ⟨gw_1471, List.forall_mem_cons.mpr ⟨gw_1473, List.forall_mem_cons.mpr ⟨gw_1475, List.forall_mem_cons.mpr ⟨gw_1477, List.forall_mem_cons.mpr ⟨gw_1479, List.forall_mem_cons.mpr ⟨gw_1481, List.forall_mem_cons.mpr ⟨gw_1483, List.forall_mem_cons.mpr ⟨gw_1485, List.forall_mem_cons.mpr ⟨gw_1487, List.forall_mem_cons.mpr ⟨gw_1489, List.forall_mem_cons.mpr ⟨gw_1491, List.forall_mem_cons.mpr ⟨gw_1493, List.forall_mem_cons.mpr ⟨gw_1495, List.forall_mem_cons.mpr ⟨gw_1497, List.forall_mem_cons.mpr ⟨gw_1499, List.forall_mem_cons.mpr ⟨gw_1501, List.forall_mem_cons.mpr ⟨gw_1503, List.forall_mem_cons.mpr ⟨gw_1505, List.forall_mem_cons.mpr ⟨gw_1507, List.forall_mem_cons.mpr ⟨gw_1509, List.forall_mem_cons.mpr ⟨gw_1511, List.forall_mem_cons.mpr ⟨gw_1513, fun _ h => absurd h List.not_mem_nil⟩⟩⟩⟩⟩⟩⟩⟩⟩⟩⟩⟩⟩⟩⟩⟩⟩⟩⟩⟩⟩⟩⟩
theorem fl_X11_38 : FL RX11 38 11 0 "I" false := ⟨RX11, TX11, 23, tyX11, rfl, inG_X11, by decide, gw_1446, tyX11_ok, nmX11, rfl, rfl⟩
theorem tt_141 : TT[141]? = some (0, 11, [none, some 142, some 143, some 144, some 145, none, none, some 146, some 147, some 148, some 149, none, none, none, none, none, none, none, none, none, none, none, none]) := by decide +kernel
theorem gw_1519 : Cond.code yX11_thrown cX11_thrown 1 (some .int) ∈ GW := GW_t6 229 rfl rfl
theorem gw_1551 : Cond.code yX11_fails cX11_fails 2 (some .int) ∈ GW := GW_t7 21 rfl rfl
theorem gw_1566 : Cond.code yX11_in cX11_in 3 (some .boolean) ∈ GW := GW_t7 36 rfl rfl
theorem gw_1448 : Cond.fieldLink "FoldedArchiveModel" 13 "FoldedArchiveModel" "frame" "[I" ∈ GW := GW_t6 158 rfl rfl
theorem fl_X11_13 : FL RX11 13 11 2 "[I" true := ⟨RX11, TX11, 23, tyX11, rfl, inG_X11, by decide, gw_1448, tyX11_ok, nmX11, rfl, rfl⟩
theorem gw_1447 : Cond.fieldLink "FoldedArchiveModel" 7 "FoldedArchiveModel" "s" "[I" ∈ GW := GW_t6 157 rfl rfl
theorem fl_X11_7 : FL RX11 7 11 1 "[I" true := ⟨RX11, TX11, 23, tyX11, rfl, inG_X11, by decide, gw_1447, tyX11_ok, nmX11, rfl, rfl⟩
theorem tt_142 : TT[142]? = some (1, 66, []) := by decide +kernel
theorem tt_143 : TT[143]? = some (1, 66, []) := by decide +kernel
theorem gw_1527 : Cond.code yX11_remembers cX11_remembers 2 none ∈ GW := GW_t6 237 rfl rfl
theorem gw_1451 : Cond.fieldLink "FoldedArchiveModel" 41 "FoldedArchiveModel" "kept" "I" ∈ GW := GW_t6 161 rfl rfl
theorem fl_X11_41 : FL RX11 41 11 5 "I" false := ⟨RX11, TX11, 23, tyX11, rfl, inG_X11, by decide, gw_1451, tyX11_ok, nmX11, rfl, rfl⟩
theorem gw_1450 : Cond.fieldLink "FoldedArchiveModel" 19 "FoldedArchiveModel" "history" "[I" ∈ GW := GW_t6 160 rfl rfl
theorem fl_X11_19 : FL RX11 19 11 4 "[I" true := ⟨RX11, TX11, 23, tyX11, rfl, inG_X11, by decide, gw_1450, tyX11_ok, nmX11, rfl, rfl⟩
theorem tt_145 : TT[145]? = some (1, 528, []) := by decide +kernel
theorem gw_1547 : Cond.code yX11_changed cX11_changed 3 (some .int) ∈ GW := GW_t7 17 rfl rfl
theorem gw_1460 : Cond.fieldLink "FoldedArchiveModel" 44 "FoldedArchiveModel" "answer" "I" ∈ GW := GW_t6 170 rfl rfl
theorem fl_X11_44 : FL RX11 44 11 14 "I" false := ⟨RX11, TX11, 23, tyX11, rfl, inG_X11, by decide, gw_1460, tyX11_ok, nmX11, rfl, rfl⟩
theorem gw_1539 : Cond.code yX11_done cX11_done 2 (some .int) ∈ GW := GW_t7 9 rfl rfl
theorem gw_1461 : Cond.fieldLink "FoldedArchiveModel" 47 "FoldedArchiveModel" "why" "I" ∈ GW := GW_t6 171 rfl rfl
theorem fl_X11_47 : FL RX11 47 11 15 "I" false := ⟨RX11, TX11, 23, tyX11, rfl, inG_X11, by decide, gw_1461, tyX11_ok, nmX11, rfl, rfl⟩
theorem gw_1462 : Cond.fieldLink "FoldedArchiveModel" 50 "FoldedArchiveModel" "detail" "I" ∈ GW := GW_t6 172 rfl rfl
theorem fl_X11_50 : FL RX11 50 11 16 "I" false := ⟨RX11, TX11, 23, tyX11, rfl, inG_X11, by decide, gw_1462, tyX11_ok, nmX11, rfl, rfl⟩
theorem gw_1463 : Cond.fieldLink "FoldedArchiveModel" 53 "FoldedArchiveModel" "cause" "I" ∈ GW := GW_t6 173 rfl rfl
theorem fl_X11_53 : FL RX11 53 11 17 "I" false := ⟨RX11, TX11, 23, tyX11, rfl, inG_X11, by decide, gw_1463, tyX11_ok, nmX11, rfl, rfl⟩
theorem gw_1535 : Cond.code yX11_denied cX11_denied 3 (some .int) ∈ GW := GW_t7 5 rfl rfl
theorem gw_1548 : Cond.methodLink "FoldedArchiveModel" 60 yX11_fails ∈ GW := GW_t7 18 rfl rfl
theorem gw_1550 : Cond.instanceMethod yX11_fails ∈ GW := GW_t7 20 rfl rfl
theorem gw_50 : Cond.selects yX11_fails.cls yX11_fails yX11_fails ∈ GW := GW_pr 50 (q := (yX11_fails, 23)) rfl
theorem gw_103 : Cond.initialized "FoldedArchiveModel" ∈ GW := GW_t1 13 rfl rfl
theorem cv_X11_60 : CV RX11 60 yX11_fails cX11_fails 2 (some .int) 1 := ⟨gw_1548, gw_1550, gw_50, gw_103, gw_1551, by decide +kernel, by decide +kernel⟩
theorem gw_1544 : Cond.methodLink "FoldedArchiveModel" 56 yX11_changed ∈ GW := GW_t7 14 rfl rfl
theorem gw_1546 : Cond.instanceMethod yX11_changed ∈ GW := GW_t7 16 rfl rfl
theorem gw_49 : Cond.selects yX11_changed.cls yX11_changed yX11_changed ∈ GW := GW_pr 49 (q := (yX11_changed, 23)) rfl
theorem cv_X11_56 : CV RX11 56 yX11_changed cX11_changed 3 (some .int) 1 := ⟨gw_1544, gw_1546, gw_49, gw_103, gw_1547, by decide +kernel, by decide +kernel⟩
theorem gw_1543 : Cond.code yX11_ends cX11_ends 3 (some .int) ∈ GW := GW_t7 13 rfl rfl
theorem gw_1564 : Cond.methodLink "FoldedArchiveModel" 63 yX11_in ∈ GW := GW_t7 34 rfl rfl
theorem gw_1565 : Cond.static yX11_in ∈ GW := GW_t7 35 rfl rfl
theorem cs_X11_63 : CS RX11 63 yX11_in cX11_in 3 (some .boolean) 3 := ⟨gw_1564, gw_1565, gw_103, gw_1566, by decide +kernel, by decide +kernel⟩
theorem gw_1563 : Cond.code yX11_isSection cX11_isSection 2 (some .boolean) ∈ GW := GW_t7 33 rfl rfl
theorem gw_1694 : Cond.code yX11_isPipe cX11_isPipe 2 (some .boolean) ∈ GW := GW_t7 164 rfl rfl
theorem gw_1577 : Cond.code yX11_isTerm cX11_isTerm 1 (some .boolean) ∈ GW := GW_t7 47 rfl rfl
theorem gw_1581 : Cond.code yX11_has cX11_has 3 (some .boolean) ∈ GW := GW_t7 51 rfl rfl
theorem gw_1578 : Cond.methodLink "FoldedArchiveModel" 67 yX11_has ∈ GW := GW_t7 48 rfl rfl
theorem gw_1580 : Cond.instanceMethod yX11_has ∈ GW := GW_t7 50 rfl rfl
theorem gw_54 : Cond.selects yX11_has.cls yX11_has yX11_has ∈ GW := GW_pr 54 (q := (yX11_has, 23)) rfl
theorem cv_X11_67 : CV RX11 67 yX11_has cX11_has 3 (some .boolean) 2 := ⟨gw_1578, gw_1580, gw_54, gw_103, gw_1581, by decide +kernel, by decide +kernel⟩
theorem gw_1585 : Cond.code yX11_terms cX11_terms 4 (some .int) ∈ GW := GW_t7 55 rfl rfl
theorem gw_1706 : Cond.code yX11_pipe cX11_pipe 3 (some .int) ∈ GW := GW_t7 176 rfl rfl
theorem gw_1703 : Cond.methodLink "FoldedArchiveModel" 71 yX11_pipe ∈ GW := GW_t7 173 rfl rfl
theorem gw_1705 : Cond.instanceMethod yX11_pipe ∈ GW := GW_t7 175 rfl rfl
theorem gw_68 : Cond.selects yX11_pipe.cls yX11_pipe yX11_pipe ∈ GW := GW_pr 68 (q := (yX11_pipe, 23)) rfl
theorem cv_X11_71 : CV RX11 71 yX11_pipe cX11_pipe 3 (some .int) 2 := ⟨gw_1703, gw_1705, gw_68, gw_103, gw_1706, by decide +kernel, by decide +kernel⟩
theorem gw_1710 : Cond.code yX11_broken cX11_broken 3 (some .int) ∈ GW := GW_t7 180 rfl rfl
theorem gw_1456 : Cond.fieldLink "FoldedArchiveModel" 31 "FoldedArchiveModel" "layers" "[I" ∈ GW := GW_t6 166 rfl rfl
theorem fl_X11_31 : FL RX11 31 11 10 "[I" true := ⟨RX11, TX11, 23, tyX11, rfl, inG_X11, by decide, gw_1456, tyX11_ok, nmX11, rfl, rfl⟩
theorem tt_149 : TT[149]? = some (1, 7, []) := by decide +kernel
theorem gw_1629 : Cond.code yX11_lays cX11_lays 3 none ∈ GW := GW_t7 99 rfl rfl
theorem gw_1626 : Cond.methodLink "FoldedArchiveModel" 75 yX11_lays ∈ GW := GW_t7 96 rfl rfl
theorem gw_1628 : Cond.instanceMethod yX11_lays ∈ GW := GW_t7 98 rfl rfl
theorem gw_59 : Cond.selects yX11_lays.cls yX11_lays yX11_lays ∈ GW := GW_pr 59 (q := (yX11_lays, 23)) rfl
theorem cv_X11_75 : CV RX11 75 yX11_lays cX11_lays 3 none 1 := ⟨gw_1626, gw_1628, gw_59, gw_103, gw_1629, by decide +kernel, by decide +kernel⟩
theorem gw_1625 : Cond.code yX11_crossed cX11_crossed 8 (some .int) ∈ GW := GW_t7 95 rfl rfl
theorem gw_1633 : Cond.code yX11_puts cX11_puts 4 none ∈ GW := GW_t7 103 rfl rfl
theorem gw_1645 : Cond.code yX11_takes cX11_takes 4 (some .int) ∈ GW := GW_t7 115 rfl rfl
theorem gw_1622 : Cond.methodLink "FoldedArchiveModel" 79 yX11_crossed ∈ GW := GW_t7 92 rfl rfl
theorem gw_1624 : Cond.instanceMethod yX11_crossed ∈ GW := GW_t7 94 rfl rfl
theorem gw_58 : Cond.selects yX11_crossed.cls yX11_crossed yX11_crossed ∈ GW := GW_pr 58 (q := (yX11_crossed, 23)) rfl
theorem cv_X11_79 : CV RX11 79 yX11_crossed cX11_crossed 8 (some .int) 1 := ⟨gw_1622, gw_1624, gw_58, gw_103, gw_1625, by decide +kernel, by decide +kernel⟩
theorem gw_1630 : Cond.methodLink "FoldedArchiveModel" 82 yX11_puts ∈ GW := GW_t7 100 rfl rfl
theorem gw_1632 : Cond.instanceMethod yX11_puts ∈ GW := GW_t7 102 rfl rfl
theorem gw_60 : Cond.selects yX11_puts.cls yX11_puts yX11_puts ∈ GW := GW_pr 60 (q := (yX11_puts, 23)) rfl
theorem cv_X11_82 : CV RX11 82 yX11_puts cX11_puts 4 none 1 := ⟨gw_1630, gw_1632, gw_60, gw_103, gw_1633, by decide +kernel, by decide +kernel⟩
theorem gw_1666 : Cond.methodLink "FoldedArchiveModel" 85 yX11_ways ∈ GW := GW_t7 136 rfl rfl
theorem gw_1668 : Cond.instanceMethod yX11_ways ∈ GW := GW_t7 138 rfl rfl
theorem gw_63 : Cond.selects yX11_ways.cls yX11_ways yX11_ways ∈ GW := GW_pr 63 (q := (yX11_ways, 23)) rfl
theorem gw_1669 : Cond.code yX11_ways cX11_ways 5 (some .int) ∈ GW := GW_t7 139 rfl rfl
theorem cv_X11_85 : CV RX11 85 yX11_ways cX11_ways 5 (some .int) 0 := ⟨gw_1666, gw_1668, gw_63, gw_103, gw_1669, by decide +kernel, by decide +kernel⟩
theorem gw_1642 : Cond.methodLink "FoldedArchiveModel" 89 yX11_takes ∈ GW := GW_t7 112 rfl rfl
theorem gw_1644 : Cond.instanceMethod yX11_takes ∈ GW := GW_t7 114 rfl rfl
theorem gw_62 : Cond.selects yX11_takes.cls yX11_takes yX11_takes ∈ GW := GW_pr 62 (q := (yX11_takes, 23)) rfl
theorem cv_X11_89 : CV RX11 89 yX11_takes cX11_takes 4 (some .int) 0 := ⟨gw_1642, gw_1644, gw_62, gw_103, gw_1645, by decide +kernel, by decide +kernel⟩
theorem gw_1746 : Cond.code yX11_cut cX11_cut 8 (some .int) ∈ GW := GW_t7 216 rfl rfl
theorem gw_1536 : Cond.methodLink "FoldedArchiveModel" 95 yX11_done ∈ GW := GW_t7 6 rfl rfl
theorem gw_1538 : Cond.instanceMethod yX11_done ∈ GW := GW_t7 8 rfl rfl
theorem gw_47 : Cond.selects yX11_done.cls yX11_done yX11_done ∈ GW := GW_pr 47 (q := (yX11_done, 23)) rfl
theorem cv_X11_95 : CV RX11 95 yX11_done cX11_done 2 (some .int) 1 := ⟨gw_1536, gw_1538, gw_47, gw_103, gw_1539, by decide +kernel, by decide +kernel⟩
theorem gw_1532 : Cond.methodLink "FoldedArchiveModel" 92 yX11_denied ∈ GW := GW_t7 2 rfl rfl
theorem gw_1534 : Cond.instanceMethod yX11_denied ∈ GW := GW_t7 4 rfl rfl
theorem gw_46 : Cond.selects yX11_denied.cls yX11_denied yX11_denied ∈ GW := GW_pr 46 (q := (yX11_denied, 23)) rfl
theorem cv_X11_92 : CV RX11 92 yX11_denied cX11_denied 3 (some .int) 2 := ⟨gw_1532, gw_1534, gw_46, gw_103, gw_1535, by decide +kernel, by decide +kernel⟩
theorem gw_1531 : Cond.code yX11_adds cX11_adds 2 (some .int) ∈ GW := GW_t7 1 rfl rfl
theorem gw_1560 : Cond.methodLink "FoldedArchiveModel" 98 yX11_isSection ∈ GW := GW_t7 30 rfl rfl
theorem gw_1562 : Cond.instanceMethod yX11_isSection ∈ GW := GW_t7 32 rfl rfl
theorem gw_52 : Cond.selects yX11_isSection.cls yX11_isSection yX11_isSection ∈ GW := GW_pr 52 (q := (yX11_isSection, 23)) rfl
theorem cv_X11_98 : CV RX11 98 yX11_isSection cX11_isSection 2 (some .boolean) 1 := ⟨gw_1560, gw_1562, gw_52, gw_103, gw_1563, by decide +kernel, by decide +kernel⟩
theorem gw_1559 : Cond.code yX11_pours cX11_pours 3 (some .int) ∈ GW := GW_t7 29 rfl rfl
theorem gw_1575 : Cond.methodLink "FoldedArchiveModel" 102 yX11_isTerm ∈ GW := GW_t7 45 rfl rfl
theorem gw_1576 : Cond.static yX11_isTerm ∈ GW := GW_t7 46 rfl rfl
theorem cs_X11_102 : CS RX11 102 yX11_isTerm cX11_isTerm 1 (some .boolean) 1 := ⟨gw_1575, gw_1576, gw_103, gw_1577, by decide +kernel, by decide +kernel⟩
theorem gw_1582 : Cond.methodLink "FoldedArchiveModel" 105 yX11_terms ∈ GW := GW_t7 52 rfl rfl
theorem gw_1584 : Cond.instanceMethod yX11_terms ∈ GW := GW_t7 54 rfl rfl
theorem gw_55 : Cond.selects yX11_terms.cls yX11_terms yX11_terms ∈ GW := GW_pr 55 (q := (yX11_terms, 23)) rfl
theorem cv_X11_105 : CV RX11 105 yX11_terms cX11_terms 4 (some .int) 1 := ⟨gw_1582, gw_1584, gw_55, gw_103, gw_1585, by decide +kernel, by decide +kernel⟩
theorem gw_1574 : Cond.code yX11_tags cX11_tags 4 (some .int) ∈ GW := GW_t7 44 rfl rfl
theorem gw_1621 : Cond.code yX11_folds cX11_folds 3 (some .int) ∈ GW := GW_t7 91 rfl rfl
theorem gw_1641 : Cond.code yX11_opens cX11_opens 1 (some .int) ∈ GW := GW_t7 111 rfl rfl
theorem gw_1682 : Cond.code yX11_pipes cX11_pipes 5 (some .int) ∈ GW := GW_t7 152 rfl rfl
theorem gw_1691 : Cond.methodLink "FoldedArchiveModel" 108 yX11_isPipe ∈ GW := GW_t7 161 rfl rfl
theorem gw_1693 : Cond.instanceMethod yX11_isPipe ∈ GW := GW_t7 163 rfl rfl
theorem gw_66 : Cond.selects yX11_isPipe.cls yX11_isPipe yX11_isPipe ∈ GW := GW_pr 66 (q := (yX11_isPipe, 23)) rfl
theorem cv_X11_108 : CV RX11 108 yX11_isPipe cX11_isPipe 2 (some .boolean) 1 := ⟨gw_1691, gw_1693, gw_66, gw_103, gw_1694, by decide +kernel, by decide +kernel⟩
theorem gw_1690 : Cond.code yX11_cuts cX11_cuts 4 (some .int) ∈ GW := GW_t7 160 rfl rfl
theorem gw_1707 : Cond.methodLink "FoldedArchiveModel" 111 yX11_broken ∈ GW := GW_t7 177 rfl rfl
theorem gw_1709 : Cond.instanceMethod yX11_broken ∈ GW := GW_t7 179 rfl rfl
theorem gw_69 : Cond.selects yX11_broken.cls yX11_broken yX11_broken ∈ GW := GW_pr 69 (q := (yX11_broken, 23)) rfl
theorem cv_X11_111 : CV RX11 111 yX11_broken cX11_broken 3 (some .int) 0 := ⟨gw_1707, gw_1709, gw_69, gw_103, gw_1710, by decide +kernel, by decide +kernel⟩
theorem gw_1702 : Cond.code yX11_turns cX11_turns 3 (some .int) ∈ GW := GW_t7 172 rfl rfl
theorem gw_1767 : Cond.code yX11_comes cX11_comes 4 none ∈ GW := GW_t7 237 rfl rfl
theorem gw_1743 : Cond.methodLink "FoldedArchiveModel" 114 yX11_cut ∈ GW := GW_t7 213 rfl rfl
theorem gw_1745 : Cond.instanceMethod yX11_cut ∈ GW := GW_t7 215 rfl rfl
theorem gw_71 : Cond.selects yX11_cut.cls yX11_cut yX11_cut ∈ GW := GW_pr 71 (q := (yX11_cut, 23)) rfl
theorem cv_X11_114 : CV RX11 114 yX11_cut cX11_cut 8 (some .int) 1 := ⟨gw_1743, gw_1745, gw_71, gw_103, gw_1746, by decide +kernel, by decide +kernel⟩
theorem gw_1764 : Cond.methodLink "FoldedArchiveModel" 117 yX11_comes ∈ GW := GW_t7 234 rfl rfl
theorem gw_1766 : Cond.instanceMethod yX11_comes ∈ GW := GW_t7 236 rfl rfl
theorem gw_73 : Cond.selects yX11_comes.cls yX11_comes yX11_comes ∈ GW := GW_pr 73 (q := (yX11_comes, 23)) rfl
theorem cv_X11_117 : CV RX11 117 yX11_comes cX11_comes 4 none 2 := ⟨gw_1764, gw_1766, gw_73, gw_103, gw_1767, by decide +kernel, by decide +kernel⟩
theorem gw_1763 : Cond.code yX11_drains cX11_drains 5 (some .int) ∈ GW := GW_t7 233 rfl rfl
theorem gw_1775 : Cond.code yX11_seeps cX11_seeps 5 (some .int) ∈ GW := GW_t8 5 rfl rfl
theorem gw_1524 : Cond.methodLink "FoldedArchiveModel" 121 yX11_remembers ∈ GW := GW_t6 234 rfl rfl
theorem gw_1526 : Cond.instanceMethod yX11_remembers ∈ GW := GW_t6 236 rfl rfl
theorem gw_44 : Cond.selects yX11_remembers.cls yX11_remembers yX11_remembers ∈ GW := GW_pr 44 (q := (yX11_remembers, 23)) rfl
theorem cv_X11_121 : CV RX11 121 yX11_remembers cX11_remembers 2 none 0 := ⟨gw_1524, gw_1526, gw_44, gw_103, gw_1527, by decide +kernel, by decide +kernel⟩
theorem gw_1528 : Cond.methodLink "FoldedArchiveModel" 124 yX11_adds ∈ GW := GW_t6 238 rfl rfl
theorem gw_1530 : Cond.instanceMethod yX11_adds ∈ GW := GW_t7 0 rfl rfl
theorem gw_45 : Cond.selects yX11_adds.cls yX11_adds yX11_adds ∈ GW := GW_pr 45 (q := (yX11_adds, 23)) rfl
theorem cv_X11_124 : CV RX11 124 yX11_adds cX11_adds 2 (some .int) 0 := ⟨gw_1528, gw_1530, gw_45, gw_103, gw_1531, by decide +kernel, by decide +kernel⟩
theorem gw_1540 : Cond.methodLink "FoldedArchiveModel" 127 yX11_ends ∈ GW := GW_t7 10 rfl rfl
theorem gw_1542 : Cond.instanceMethod yX11_ends ∈ GW := GW_t7 12 rfl rfl
theorem gw_48 : Cond.selects yX11_ends.cls yX11_ends yX11_ends ∈ GW := GW_pr 48 (q := (yX11_ends, 23)) rfl
theorem cv_X11_127 : CV RX11 127 yX11_ends cX11_ends 3 (some .int) 2 := ⟨gw_1540, gw_1542, gw_48, gw_103, gw_1543, by decide +kernel, by decide +kernel⟩
theorem gw_1523 : Cond.code yX11_addSection cX11_addSection 1 (some .int) ∈ GW := GW_t6 233 rfl rfl
theorem gw_1556 : Cond.methodLink "FoldedArchiveModel" 130 yX11_pours ∈ GW := GW_t7 26 rfl rfl
theorem gw_1558 : Cond.instanceMethod yX11_pours ∈ GW := GW_t7 28 rfl rfl
theorem gw_51 : Cond.selects yX11_pours.cls yX11_pours yX11_pours ∈ GW := GW_pr 51 (q := (yX11_pours, 23)) rfl
theorem cv_X11_130 : CV RX11 130 yX11_pours cX11_pours 3 (some .int) 2 := ⟨gw_1556, gw_1558, gw_51, gw_103, gw_1559, by decide +kernel, by decide +kernel⟩
theorem gw_1555 : Cond.code yX11_pour cX11_pour 3 (some .int) ∈ GW := GW_t7 25 rfl rfl
theorem gw_1571 : Cond.methodLink "FoldedArchiveModel" 133 yX11_tags ∈ GW := GW_t7 41 rfl rfl
theorem gw_1573 : Cond.instanceMethod yX11_tags ∈ GW := GW_t7 43 rfl rfl
theorem gw_53 : Cond.selects yX11_tags.cls yX11_tags yX11_tags ∈ GW := GW_pr 53 (q := (yX11_tags, 23)) rfl
theorem cv_X11_133 : CV RX11 133 yX11_tags cX11_tags 4 (some .int) 3 := ⟨gw_1571, gw_1573, gw_53, gw_103, gw_1574, by decide +kernel, by decide +kernel⟩
theorem gw_1570 : Cond.code yX11_tag cX11_tag 3 (some .int) ∈ GW := GW_t7 40 rfl rfl
theorem gw_1589 : Cond.code yX11_untag cX11_untag 3 (some .int) ∈ GW := GW_t7 59 rfl rfl
theorem gw_1593 : Cond.code yX11_sectionCount cX11_sectionCount 1 (some .int) ∈ GW := GW_t7 63 rfl rfl
theorem gw_1597 : Cond.code yX11_water cX11_water 2 (some .int) ∈ GW := GW_t7 67 rfl rfl
theorem gw_1601 : Cond.code yX11_hasTerm cX11_hasTerm 3 (some .boolean) ∈ GW := GW_t7 71 rfl rfl
theorem gw_1605 : Cond.code yX11_sectionsWith cX11_sectionsWith 4 (some .int) ∈ GW := GW_t7 75 rfl rfl
theorem gw_1613 : Cond.code yX11_isAhead cX11_isAhead 3 (some .boolean) ∈ GW := GW_t7 83 rfl rfl
theorem gw_1610 : Cond.methodLink "FoldedArchiveModel" 137 yX11_isAhead ∈ GW := GW_t7 80 rfl rfl
theorem gw_1612 : Cond.instanceMethod yX11_isAhead ∈ GW := GW_t7 82 rfl rfl
theorem gw_56 : Cond.selects yX11_isAhead.cls yX11_isAhead yX11_isAhead ∈ GW := GW_pr 56 (q := (yX11_isAhead, 23)) rfl
theorem cv_X11_137 : CV RX11 137 yX11_isAhead cX11_isAhead 3 (some .boolean) 2 := ⟨gw_1610, gw_1612, gw_56, gw_103, gw_1613, by decide +kernel, by decide +kernel⟩
theorem gw_1609 : Cond.code yX11_sectionByWater cX11_sectionByWater 5 (some .int) ∈ GW := GW_t7 79 rfl rfl
theorem gw_1618 : Cond.methodLink "FoldedArchiveModel" 140 yX11_folds ∈ GW := GW_t7 88 rfl rfl
theorem gw_1620 : Cond.instanceMethod yX11_folds ∈ GW := GW_t7 90 rfl rfl
theorem gw_57 : Cond.selects yX11_folds.cls yX11_folds yX11_folds ∈ GW := GW_pr 57 (q := (yX11_folds, 23)) rfl
theorem cv_X11_140 : CV RX11 140 yX11_folds cX11_folds 3 (some .int) 1 := ⟨gw_1618, gw_1620, gw_57, gw_103, gw_1621, by decide +kernel, by decide +kernel⟩
theorem gw_1617 : Cond.code yX11_fold cX11_fold 2 (some .int) ∈ GW := GW_t7 87 rfl rfl
theorem gw_1638 : Cond.methodLink "FoldedArchiveModel" 143 yX11_opens ∈ GW := GW_t7 108 rfl rfl
theorem gw_1640 : Cond.instanceMethod yX11_opens ∈ GW := GW_t7 110 rfl rfl
theorem gw_61 : Cond.selects yX11_opens.cls yX11_opens yX11_opens ∈ GW := GW_pr 61 (q := (yX11_opens, 23)) rfl
theorem cv_X11_143 : CV RX11 143 yX11_opens cX11_opens 1 (some .int) 0 := ⟨gw_1638, gw_1640, gw_61, gw_103, gw_1641, by decide +kernel, by decide +kernel⟩
theorem gw_1637 : Cond.code yX11_unfold cX11_unfold 1 (some .int) ∈ GW := GW_t7 107 rfl rfl
theorem gw_1649 : Cond.code yX11_foldedCount cX11_foldedCount 1 (some .int) ∈ GW := GW_t7 119 rfl rfl
theorem gw_1653 : Cond.code yX11_layerOf cX11_layerOf 3 (some .int) ∈ GW := GW_t7 123 rfl rfl
theorem gw_1657 : Cond.code yX11_sectionIn cX11_sectionIn 2 (some .int) ∈ GW := GW_t7 127 rfl rfl
theorem gw_1661 : Cond.code yX11_canFold cX11_canFold 2 (some .boolean) ∈ GW := GW_t7 131 rfl rfl
theorem gw_1665 : Cond.code yX11_completions cX11_completions 1 (some .int) ∈ GW := GW_t7 135 rfl rfl
theorem gw_1674 : Cond.methodLink "FoldedArchiveModel" 146 yX11_completions ∈ GW := GW_t7 144 rfl rfl
theorem gw_1663 : Cond.instanceMethod yX11_completions ∈ GW := GW_t7 133 rfl rfl
theorem gw_1664 : Cond.selects yX11_completions.cls yX11_completions yX11_completions ∈ GW := GW_t7 134 rfl rfl
theorem cv_X11_146 : CV RX11 146 yX11_completions cX11_completions 1 (some .int) 0 := ⟨gw_1674, gw_1663, gw_1664, gw_103, gw_1665, by decide +kernel, by decide +kernel⟩
theorem gw_1673 : Cond.code yX11_completionsByOrders cX11_completionsByOrders 1 (some .int) ∈ GW := GW_t7 143 rfl rfl
theorem gw_1679 : Cond.methodLink "FoldedArchiveModel" 149 yX11_pipes ∈ GW := GW_t7 149 rfl rfl
theorem gw_1681 : Cond.instanceMethod yX11_pipes ∈ GW := GW_t7 151 rfl rfl
theorem gw_64 : Cond.selects yX11_pipes.cls yX11_pipes yX11_pipes ∈ GW := GW_pr 64 (q := (yX11_pipes, 23)) rfl
theorem cv_X11_149 : CV RX11 149 yX11_pipes cX11_pipes 5 (some .int) 3 := ⟨gw_1679, gw_1681, gw_64, gw_103, gw_1682, by decide +kernel, by decide +kernel⟩
theorem gw_1678 : Cond.code yX11_layPipe cX11_layPipe 4 (some .int) ∈ GW := GW_t7 148 rfl rfl
theorem gw_1687 : Cond.methodLink "FoldedArchiveModel" 153 yX11_cuts ∈ GW := GW_t7 157 rfl rfl
theorem gw_1689 : Cond.instanceMethod yX11_cuts ∈ GW := GW_t7 159 rfl rfl
theorem gw_65 : Cond.selects yX11_cuts.cls yX11_cuts yX11_cuts ∈ GW := GW_pr 65 (q := (yX11_cuts, 23)) rfl
theorem cv_X11_153 : CV RX11 153 yX11_cuts cX11_cuts 4 (some .int) 1 := ⟨gw_1687, gw_1689, gw_65, gw_103, gw_1690, by decide +kernel, by decide +kernel⟩
theorem gw_1686 : Cond.code yX11_removePipe cX11_removePipe 2 (some .int) ∈ GW := GW_t7 156 rfl rfl
theorem gw_1699 : Cond.methodLink "FoldedArchiveModel" 156 yX11_turns ∈ GW := GW_t7 169 rfl rfl
theorem gw_1701 : Cond.instanceMethod yX11_turns ∈ GW := GW_t7 171 rfl rfl
theorem gw_67 : Cond.selects yX11_turns.cls yX11_turns yX11_turns ∈ GW := GW_pr 67 (q := (yX11_turns, 23)) rfl
theorem cv_X11_156 : CV RX11 156 yX11_turns cX11_turns 3 (some .int) 2 := ⟨gw_1699, gw_1701, gw_67, gw_103, gw_1702, by decide +kernel, by decide +kernel⟩
theorem gw_1698 : Cond.code yX11_breakPipe cX11_breakPipe 2 (some .int) ∈ GW := GW_t7 168 rfl rfl
theorem gw_1714 : Cond.code yX11_mendPipe cX11_mendPipe 2 (some .int) ∈ GW := GW_t7 184 rfl rfl
theorem gw_1718 : Cond.code yX11_pipeCount cX11_pipeCount 1 (some .int) ∈ GW := GW_t7 188 rfl rfl
theorem gw_1726 : Cond.code yX11_asked cX11_asked 3 (some .int) ∈ GW := GW_t7 196 rfl rfl
theorem gw_1723 : Cond.methodLink "FoldedArchiveModel" 159 yX11_asked ∈ GW := GW_t7 193 rfl rfl
theorem gw_1725 : Cond.instanceMethod yX11_asked ∈ GW := GW_t7 195 rfl rfl
theorem gw_70 : Cond.selects yX11_asked.cls yX11_asked yX11_asked ∈ GW := GW_pr 70 (q := (yX11_asked, 23)) rfl
theorem cv_X11_159 : CV RX11 159 yX11_asked cX11_asked 3 (some .int) 2 := ⟨gw_1723, gw_1725, gw_70, gw_103, gw_1726, by decide +kernel, by decide +kernel⟩
theorem gw_1722 : Cond.code yX11_pipeFrom cX11_pipeFrom 2 (some .int) ∈ GW := GW_t7 192 rfl rfl
theorem gw_1730 : Cond.code yX11_pipeTo cX11_pipeTo 2 (some .int) ∈ GW := GW_t7 200 rfl rfl
theorem gw_1734 : Cond.code yX11_capacity cX11_capacity 2 (some .int) ∈ GW := GW_t7 204 rfl rfl
theorem gw_1738 : Cond.code yX11_isBroken cX11_isBroken 2 (some .boolean) ∈ GW := GW_t7 208 rfl rfl
theorem gw_1742 : Cond.code yX11_greatestFlow cX11_greatestFlow 2 (some .int) ∈ GW := GW_t7 212 rfl rfl
theorem gw_1751 : Cond.methodLink "FoldedArchiveModel" 162 yX11_greatestFlow ∈ GW := GW_t7 221 rfl rfl
theorem gw_1740 : Cond.instanceMethod yX11_greatestFlow ∈ GW := GW_t7 210 rfl rfl
theorem gw_1741 : Cond.selects yX11_greatestFlow.cls yX11_greatestFlow yX11_greatestFlow ∈ GW := GW_t7 211 rfl rfl
theorem cv_X11_162 : CV RX11 162 yX11_greatestFlow cX11_greatestFlow 2 (some .int) 0 := ⟨gw_1751, gw_1740, gw_1741, gw_103, gw_1742, by decide +kernel, by decide +kernel⟩
theorem gw_1750 : Cond.code yX11_smallestCut cX11_smallestCut 1 (some .int) ∈ GW := GW_t7 220 rfl rfl
theorem gw_1755 : Cond.code yX11_lossOf cX11_lossOf 2 (some .int) ∈ GW := GW_t7 225 rfl rfl
theorem gw_1760 : Cond.methodLink "FoldedArchiveModel" 165 yX11_drains ∈ GW := GW_t7 230 rfl rfl
theorem gw_1762 : Cond.instanceMethod yX11_drains ∈ GW := GW_t7 232 rfl rfl
theorem gw_72 : Cond.selects yX11_drains.cls yX11_drains yX11_drains ∈ GW := GW_pr 72 (q := (yX11_drains, 23)) rfl
theorem cv_X11_165 : CV RX11 165 yX11_drains cX11_drains 5 (some .int) 0 := ⟨gw_1760, gw_1762, gw_72, gw_103, gw_1763, by decide +kernel, by decide +kernel⟩
theorem gw_1759 : Cond.code yX11_drain cX11_drain 1 (some .int) ∈ GW := GW_t7 229 rfl rfl
theorem gw_1772 : Cond.methodLink "FoldedArchiveModel" 168 yX11_seeps ∈ GW := GW_t8 2 rfl rfl
theorem gw_1774 : Cond.instanceMethod yX11_seeps ∈ GW := GW_t8 4 rfl rfl
theorem gw_74 : Cond.selects yX11_seeps.cls yX11_seeps yX11_seeps ∈ GW := GW_pr 74 (q := (yX11_seeps, 23)) rfl
theorem cv_X11_168 : CV RX11 168 yX11_seeps cX11_seeps 5 (some .int) 0 := ⟨gw_1772, gw_1774, gw_74, gw_103, gw_1775, by decide +kernel, by decide +kernel⟩
theorem gw_1771 : Cond.code yX11_seep cX11_seep 1 (some .int) ∈ GW := GW_t8 1 rfl rfl
theorem gw_1783 : Cond.code yX11_all cX11_all 3 (some .int) ∈ GW := GW_t8 13 rfl rfl
theorem gw_1780 : Cond.methodLink "FoldedArchiveModel" 171 yX11_all ∈ GW := GW_t8 10 rfl rfl
theorem gw_1782 : Cond.instanceMethod yX11_all ∈ GW := GW_t8 12 rfl rfl
theorem gw_75 : Cond.selects yX11_all.cls yX11_all yX11_all ∈ GW := GW_pr 75 (q := (yX11_all, 23)) rfl
theorem cv_X11_171 : CV RX11 171 yX11_all cX11_all 3 (some .int) 0 := ⟨gw_1780, gw_1782, gw_75, gw_103, gw_1783, by decide +kernel, by decide +kernel⟩
theorem gw_1779 : Cond.code yX11_totalWater cX11_totalWater 1 (some .int) ∈ GW := GW_t8 9 rfl rfl
theorem gw_1788 : Cond.methodLink "FoldedArchiveModel" 174 yX11_totalWater ∈ GW := GW_t8 18 rfl rfl
theorem gw_1777 : Cond.instanceMethod yX11_totalWater ∈ GW := GW_t8 7 rfl rfl
theorem gw_1778 : Cond.selects yX11_totalWater.cls yX11_totalWater yX11_totalWater ∈ GW := GW_t8 8 rfl rfl
theorem cv_X11_174 : CV RX11 174 yX11_totalWater cX11_totalWater 1 (some .int) 0 := ⟨gw_1788, gw_1777, gw_1778, gw_103, gw_1779, by decide +kernel, by decide +kernel⟩
theorem gw_1787 : Cond.code yX11_totalWaterByAccounts cX11_totalWaterByAccounts 1 (some .int) ∈ GW := GW_t8 17 rfl rfl
theorem gw_1792 : Cond.code yX11_poured cX11_poured 1 (some .int) ∈ GW := GW_t8 22 rfl rfl
theorem gw_1796 : Cond.code yX11_leaked cX11_leaked 1 (some .int) ∈ GW := GW_t8 26 rfl rfl
theorem gw_1800 : Cond.code yX11_meanWater cX11_meanWater 1 (some .double) ∈ GW := GW_t8 30 rfl rfl
theorem gw_1804 : Cond.code yX11_leakedShare cX11_leakedShare 1 (some .float) ∈ GW := GW_t8 34 rfl rfl
theorem gw_1457 : Cond.fieldLink "FoldedArchiveModel" 177 "FoldedArchiveModel" "fed" "I" ∈ GW := GW_t6 167 rfl rfl
theorem fl_X11_177 : FL RX11 177 11 11 "I" false := ⟨RX11, TX11, 23, tyX11, rfl, inG_X11, by decide, gw_1457, tyX11_ok, nmX11, rfl, rfl⟩
theorem gw_1453 : Cond.fieldLink "FoldedArchiveModel" 22 "FoldedArchiveModel" "text" "[I" ∈ GW := GW_t6 163 rfl rfl
theorem fl_X11_22 : FL RX11 22 11 7 "[I" true := ⟨RX11, TX11, 23, tyX11, rfl, inG_X11, by decide, gw_1453, tyX11_ok, nmX11, rfl, rfl⟩
theorem tt_146 : TT[146]? = some (1, 60, []) := by decide +kernel
theorem gw_1808 : Cond.code yX11_feed cX11_feed 2 (some .int) ∈ GW := GW_t8 38 rfl rfl
theorem gw_1812 : Cond.code yX11_clearText cX11_clearText 2 (some .int) ∈ GW := GW_t8 42 rfl rfl
theorem gw_1464 : Cond.fieldLink "FoldedArchiveModel" 180 "FoldedArchiveModel" "spot" "I" ∈ GW := GW_t6 174 rfl rfl
theorem fl_X11_180 : FL RX11 180 11 18 "I" false := ⟨RX11, TX11, 23, tyX11, rfl, inG_X11, by decide, gw_1464, tyX11_ok, nmX11, rfl, rfl⟩
theorem gw_1465 : Cond.fieldLink "FoldedArchiveModel" 183 "FoldedArchiveModel" "end" "I" ∈ GW := GW_t6 175 rfl rfl
theorem fl_X11_183 : FL RX11 183 11 19 "I" false := ⟨RX11, TX11, 23, tyX11, rfl, inG_X11, by decide, gw_1465, tyX11_ok, nmX11, rfl, rfl⟩
theorem gw_1836 : Cond.code yX11_here cX11_here 2 (some .int) ∈ GW := GW_t8 66 rfl rfl
theorem gw_1840 : Cond.code yX11_every cX11_every 1 (some .int) ∈ GW := GW_t8 70 rfl rfl
theorem gw_1833 : Cond.methodLink "FoldedArchiveModel" 186 yX11_here ∈ GW := GW_t8 63 rfl rfl
theorem gw_1835 : Cond.instanceMethod yX11_here ∈ GW := GW_t8 65 rfl rfl
theorem gw_80 : Cond.selects yX11_here.cls yX11_here yX11_here ∈ GW := GW_pr 80 (q := (yX11_here, 23)) rfl
theorem cv_X11_186 : CV RX11 186 yX11_here cX11_here 2 (some .int) 1 := ⟨gw_1833, gw_1835, gw_80, gw_103, gw_1836, by decide +kernel, by decide +kernel⟩
theorem gw_1848 : Cond.code yX11_isFactor cX11_isFactor 1 (some .boolean) ∈ GW := GW_t8 78 rfl rfl
theorem gw_1468 : Cond.fieldLink "FoldedArchiveModel" 189 "FoldedArchiveModel" "isWrong" "Z" ∈ GW := GW_t6 178 rfl rfl
theorem fl_X11_189 : FL RX11 189 11 22 "Z" false := ⟨RX11, TX11, 23, tyX11, rfl, inG_X11, by decide, gw_1468, tyX11_ok, nmX11, rfl, rfl⟩
theorem gw_1844 : Cond.code yX11_wrongSet cX11_wrongSet 1 (some .int) ∈ GW := GW_t8 74 rfl rfl
theorem gw_1829 : Cond.methodLink "FoldedArchiveModel" 196 yX11_factor ∈ GW := GW_t8 59 rfl rfl
theorem gw_1831 : Cond.instanceMethod yX11_factor ∈ GW := GW_t8 61 rfl rfl
theorem gw_79 : Cond.selects yX11_factor.cls yX11_factor yX11_factor ∈ GW := GW_pr 79 (q := (yX11_factor, 23)) rfl
theorem gw_1832 : Cond.code yX11_factor cX11_factor 4 (some .int) ∈ GW := GW_t8 62 rfl rfl
theorem cv_X11_196 : CV RX11 196 yX11_factor cX11_factor 4 (some .int) 0 := ⟨gw_1829, gw_1831, gw_79, gw_103, gw_1832, by decide +kernel, by decide +kernel⟩
theorem gw_1845 : Cond.methodLink "FoldedArchiveModel" 208 yX11_isFactor ∈ GW := GW_t8 75 rfl rfl
theorem gw_1847 : Cond.instanceMethod yX11_isFactor ∈ GW := GW_t8 77 rfl rfl
theorem gw_83 : Cond.selects yX11_isFactor.cls yX11_isFactor yX11_isFactor ∈ GW := GW_pr 83 (q := (yX11_isFactor, 23)) rfl
theorem cv_X11_208 : CV RX11 208 yX11_isFactor cX11_isFactor 1 (some .boolean) 0 := ⟨gw_1845, gw_1847, gw_83, gw_103, gw_1848, by decide +kernel, by decide +kernel⟩
theorem gw_1828 : Cond.code yX11_product cX11_product 2 (some .int) ∈ GW := GW_t8 58 rfl rfl
theorem gw_1825 : Cond.methodLink "FoldedArchiveModel" 212 yX11_product ∈ GW := GW_t8 55 rfl rfl
theorem gw_1827 : Cond.instanceMethod yX11_product ∈ GW := GW_t8 57 rfl rfl
theorem gw_78 : Cond.selects yX11_product.cls yX11_product yX11_product ∈ GW := GW_pr 78 (q := (yX11_product, 23)) rfl
theorem cv_X11_212 : CV RX11 212 yX11_product cX11_product 2 (some .int) 0 := ⟨gw_1825, gw_1827, gw_78, gw_103, gw_1828, by decide +kernel, by decide +kernel⟩
theorem gw_1824 : Cond.code yX11_sums cX11_sums 2 (some .int) ∈ GW := GW_t8 54 rfl rfl
theorem gw_1841 : Cond.methodLink "FoldedArchiveModel" 202 yX11_wrongSet ∈ GW := GW_t8 71 rfl rfl
theorem gw_1843 : Cond.instanceMethod yX11_wrongSet ∈ GW := GW_t8 73 rfl rfl
theorem gw_82 : Cond.selects yX11_wrongSet.cls yX11_wrongSet yX11_wrongSet ∈ GW := GW_pr 82 (q := (yX11_wrongSet, 23)) rfl
theorem cv_X11_202 : CV RX11 202 yX11_wrongSet cX11_wrongSet 1 (some .int) 0 := ⟨gw_1841, gw_1843, gw_82, gw_103, gw_1844, by decide +kernel, by decide +kernel⟩
theorem gw_1467 : Cond.fieldLink "FoldedArchiveModel" 199 "FoldedArchiveModel" "open" "I" ∈ GW := GW_t6 177 rfl rfl
theorem fl_X11_199 : FL RX11 199 11 21 "I" false := ⟨RX11, TX11, 23, tyX11, rfl, inG_X11, by decide, gw_1467, tyX11_ok, nmX11, rfl, rfl⟩
theorem gw_1821 : Cond.methodLink "FoldedArchiveModel" 205 yX11_sums ∈ GW := GW_t8 51 rfl rfl
theorem gw_1823 : Cond.instanceMethod yX11_sums ∈ GW := GW_t8 53 rfl rfl
theorem gw_77 : Cond.selects yX11_sums.cls yX11_sums yX11_sums ∈ GW := GW_pr 77 (q := (yX11_sums, 23)) rfl
theorem cv_X11_205 : CV RX11 205 yX11_sums cX11_sums 2 (some .int) 0 := ⟨gw_1821, gw_1823, gw_77, gw_103, gw_1824, by decide +kernel, by decide +kernel⟩
theorem gw_1837 : Cond.methodLink "FoldedArchiveModel" 193 yX11_every ∈ GW := GW_t8 67 rfl rfl
theorem gw_1839 : Cond.instanceMethod yX11_every ∈ GW := GW_t8 69 rfl rfl
theorem gw_81 : Cond.selects yX11_every.cls yX11_every yX11_every ∈ GW := GW_pr 81 (q := (yX11_every, 23)) rfl
theorem cv_X11_193 : CV RX11 193 yX11_every cX11_every 1 (some .int) 0 := ⟨gw_1837, gw_1839, gw_81, gw_103, gw_1840, by decide +kernel, by decide +kernel⟩
theorem gw_1459 : Cond.fieldLink "FoldedArchiveModel" 34 "FoldedArchiveModel" "faultAt" "I" ∈ GW := GW_t6 169 rfl rfl
theorem fl_X11_34 : FL RX11 34 11 13 "I" false := ⟨RX11, TX11, 23, tyX11, rfl, inG_X11, by decide, gw_1459, tyX11_ok, nmX11, rfl, rfl⟩
theorem gw_1820 : Cond.code yX11_found cX11_found 2 (some .int) ∈ GW := GW_t8 50 rfl rfl
theorem gw_1817 : Cond.methodLink "FoldedArchiveModel" 215 yX11_found ∈ GW := GW_t8 47 rfl rfl
theorem gw_1819 : Cond.instanceMethod yX11_found ∈ GW := GW_t8 49 rfl rfl
theorem gw_76 : Cond.selects yX11_found.cls yX11_found yX11_found ∈ GW := GW_pr 76 (q := (yX11_found, 23)) rfl
theorem cv_X11_215 : CV RX11 215 yX11_found cX11_found 2 (some .int) 0 := ⟨gw_1817, gw_1819, gw_76, gw_103, gw_1820, by decide +kernel, by decide +kernel⟩
theorem gw_1816 : Cond.code yX11_search cX11_search 4 (some .int) ∈ GW := GW_t8 46 rfl rfl
theorem gw_1852 : Cond.code yX11_matches cX11_matches 3 (some .boolean) ∈ GW := GW_t8 82 rfl rfl
theorem gw_1866 : Cond.methodLink "FoldedArchiveModel" 218 yJ0_length_8abf5 ∈ GW := GW_t8 96 rfl rfl
theorem cv_X11_218 : CV RX11 218 yJ0_length_8abf5 cJ0_length_8abf5 1 (some .int) 0 := ⟨gw_1866, gw_1288, gw_1289, gw_113, gw_1290, by decide +kernel, by decide +kernel⟩
theorem gw_1867 : Cond.methodLink "FoldedArchiveModel" 223 yJ0_charAt_5068e ∈ GW := GW_t8 97 rfl rfl
theorem cv_X11_223 : CV RX11 223 yJ0_charAt_5068e cJ0_charAt_5068e 2 (some .char) 1 := ⟨gw_1867, gw_1298, gw_1299, gw_113, gw_1300, by decide +kernel, by decide +kernel⟩
theorem gw_1865 : Cond.code yX11_says cX11_says 3 none ∈ GW := GW_t8 95 rfl rfl
theorem gw_1862 : Cond.methodLink "FoldedArchiveModel" 227 yX11_says ∈ GW := GW_t8 92 rfl rfl
theorem gw_1864 : Cond.instanceMethod yX11_says ∈ GW := GW_t8 94 rfl rfl
theorem gw_85 : Cond.selects yX11_says.cls yX11_says yX11_says ∈ GW := GW_pr 85 (q := (yX11_says, 23)) rfl
theorem cv_X11_227 : CV RX11 227 yX11_says cX11_says 3 none 1 := ⟨gw_1862, gw_1864, gw_85, gw_103, gw_1865, by decide +kernel, by decide +kernel⟩
theorem gw_1454 : Cond.fieldLink "FoldedArchiveModel" 25 "FoldedArchiveModel" "told" "[I" ∈ GW := GW_t6 164 rfl rfl
theorem fl_X11_25 : FL RX11 25 11 8 "[I" true := ⟨RX11, TX11, 23, tyX11, rfl, inG_X11, by decide, gw_1454, tyX11_ok, nmX11, rfl, rfl⟩
theorem gw_1466 : Cond.fieldLink "FoldedArchiveModel" 231 "FoldedArchiveModel" "commands" "I" ∈ GW := GW_t6 176 rfl rfl
theorem fl_X11_231 : FL RX11 231 11 20 "I" false := ⟨RX11, TX11, 23, tyX11, rfl, inG_X11, by decide, gw_1466, tyX11_ok, nmX11, rfl, rfl⟩
theorem tt_147 : TT[147]? = some (1, 240, []) := by decide +kernel
theorem gw_1873 : Cond.code yX11_number cX11_number 6 none ∈ GW := GW_t8 103 rfl rfl
theorem gw_1870 : Cond.methodLink "FoldedArchiveModel" 234 yX11_number ∈ GW := GW_t8 100 rfl rfl
theorem gw_1872 : Cond.instanceMethod yX11_number ∈ GW := GW_t8 102 rfl rfl
theorem gw_86 : Cond.selects yX11_number.cls yX11_number yX11_number ∈ GW := GW_pr 86 (q := (yX11_number, 23)) rfl
theorem cv_X11_234 : CV RX11 234 yX11_number cX11_number 6 none 3 := ⟨gw_1870, gw_1872, gw_86, gw_103, gw_1873, by decide +kernel, by decide +kernel⟩
theorem gw_1880 : Cond.code yX11_term cX11_term 2 none ∈ GW := GW_t8 110 rfl rfl
theorem gw_1877 : Cond.methodLink "FoldedArchiveModel" 250 yX11_term ∈ GW := GW_t8 107 rfl rfl
theorem gw_1879 : Cond.instanceMethod yX11_term ∈ GW := GW_t8 109 rfl rfl
theorem gw_87 : Cond.selects yX11_term.cls yX11_term yX11_term ∈ GW := GW_pr 87 (q := (yX11_term, 23)) rfl
theorem cv_X11_250 : CV RX11 250 yX11_term cX11_term 2 none 1 := ⟨gw_1877, gw_1879, gw_87, gw_103, gw_1880, by decide +kernel, by decide +kernel⟩
theorem gw_1860 : Cond.code yX11_readsOne cX11_readsOne 3 none ∈ GW := GW_t8 90 rfl rfl
theorem gw_1892 : Cond.code yX11_does cX11_does 5 (some .int) ∈ GW := GW_t8 122 rfl rfl
theorem gw_1857 : Cond.methodLink "FoldedArchiveModel" 268 yX11_readsOne ∈ GW := GW_t8 87 rfl rfl
theorem gw_1859 : Cond.instanceMethod yX11_readsOne ∈ GW := GW_t8 89 rfl rfl
theorem gw_84 : Cond.selects yX11_readsOne.cls yX11_readsOne yX11_readsOne ∈ GW := GW_pr 84 (q := (yX11_readsOne, 23)) rfl
theorem cv_X11_268 : CV RX11 268 yX11_readsOne cX11_readsOne 3 none 0 := ⟨gw_1857, gw_1859, gw_84, gw_103, gw_1860, by decide +kernel, by decide +kernel⟩
theorem gw_1889 : Cond.methodLink "FoldedArchiveModel" 271 yX11_does ∈ GW := GW_t8 119 rfl rfl
theorem gw_1891 : Cond.instanceMethod yX11_does ∈ GW := GW_t8 121 rfl rfl
theorem gw_88 : Cond.selects yX11_does.cls yX11_does yX11_does ∈ GW := GW_pr 88 (q := (yX11_does, 23)) rfl
theorem cv_X11_271 : CV RX11 271 yX11_does cX11_does 5 (some .int) 1 := ⟨gw_1889, gw_1891, gw_88, gw_103, gw_1892, by decide +kernel, by decide +kernel⟩
theorem gw_1856 : Cond.code yX11_execute cX11_execute 4 (some .int) ∈ GW := GW_t8 86 rfl rfl
theorem gw_1896 : Cond.code yX11_faultPosition cX11_faultPosition 1 (some .int) ∈ GW := GW_t8 126 rfl rfl
theorem gw_1455 : Cond.fieldLink "FoldedArchiveModel" 28 "FoldedArchiveModel" "out" "[I" ∈ GW := GW_t6 165 rfl rfl
theorem fl_X11_28 : FL RX11 28 11 9 "[I" true := ⟨RX11, TX11, 23, tyX11, rfl, inG_X11, by decide, gw_1455, tyX11_ok, nmX11, rfl, rfl⟩
theorem gw_1458 : Cond.fieldLink "FoldedArchiveModel" 274 "FoldedArchiveModel" "outLength" "I" ∈ GW := GW_t6 168 rfl rfl
theorem fl_X11_274 : FL RX11 274 11 12 "I" false := ⟨RX11, TX11, 23, tyX11, rfl, inG_X11, by decide, gw_1458, tyX11_ok, nmX11, rfl, rfl⟩
theorem tt_148 : TT[148]? = some (1, 40, []) := by decide +kernel
theorem gw_1904 : Cond.code yX11_writes cX11_writes 2 none ∈ GW := GW_t8 134 rfl rfl
theorem gw_1901 : Cond.methodLink "FoldedArchiveModel" 277 yX11_writes ∈ GW := GW_t8 131 rfl rfl
theorem gw_1903 : Cond.instanceMethod yX11_writes ∈ GW := GW_t8 133 rfl rfl
theorem gw_89 : Cond.selects yX11_writes.cls yX11_writes yX11_writes ∈ GW := GW_pr 89 (q := (yX11_writes, 23)) rfl
theorem cv_X11_277 : CV RX11 277 yX11_writes cX11_writes 2 none 1 := ⟨gw_1901, gw_1903, gw_89, gw_103, gw_1904, by decide +kernel, by decide +kernel⟩
theorem gw_1900 : Cond.code yX11_writeSection cX11_writeSection 4 (some .int) ∈ GW := GW_t8 130 rfl rfl
theorem gw_1908 : Cond.code yX11_writePile cX11_writePile 2 (some .int) ∈ GW := GW_t8 138 rfl rfl
theorem gw_1912 : Cond.code yX11_lineCharacter cX11_lineCharacter 2 (some .char) ∈ GW := GW_t8 142 rfl rfl
theorem gw_1916 : Cond.code yX11_denial cX11_denial 1 (some .int) ∈ GW := GW_t8 146 rfl rfl
theorem gw_1920 : Cond.code yX11_denialDetail cX11_denialDetail 1 (some .int) ∈ GW := GW_t8 150 rfl rfl
theorem gw_1924 : Cond.code yX11_denialCause cX11_denialCause 1 (some .int) ∈ GW := GW_t8 154 rfl rfl
theorem gw_1928 : Cond.code yX11_undo cX11_undo 2 (some .int) ∈ GW := GW_t8 158 rfl rfl
theorem gw_1932 : Cond.code yX11_undoCount cX11_undoCount 1 (some .int) ∈ GW := GW_t8 162 rfl rfl
theorem gw_1452 : Cond.fieldLink "FoldedArchiveModel" 280 "FoldedArchiveModel" "hasSaved" "Z" ∈ GW := GW_t6 162 rfl rfl
theorem fl_X11_280 : FL RX11 280 11 6 "Z" false := ⟨RX11, TX11, 23, tyX11, rfl, inG_X11, by decide, gw_1452, tyX11_ok, nmX11, rfl, rfl⟩
theorem gw_1449 : Cond.fieldLink "FoldedArchiveModel" 16 "FoldedArchiveModel" "saved" "[I" ∈ GW := GW_t6 159 rfl rfl
theorem fl_X11_16 : FL RX11 16 11 3 "[I" true := ⟨RX11, TX11, 23, tyX11, rfl, inG_X11, by decide, gw_1449, tyX11_ok, nmX11, rfl, rfl⟩
theorem tt_144 : TT[144]? = some (1, 66, []) := by decide +kernel
theorem gw_1936 : Cond.code yX11_saveSnapshot cX11_saveSnapshot 2 (some .int) ∈ GW := GW_t8 166 rfl rfl
theorem gw_1940 : Cond.code yX11_restoreSnapshot cX11_restoreSnapshot 2 (some .int) ∈ GW := GW_t8 170 rfl rfl
theorem gw_545 : Cond.methodLink "FoldedArchiveLaw" 7 yX10_addSection ∈ GW := GW_t2 215 rfl rfl
theorem gw_546 : Cond.instanceMethod yX10_addSection ∈ GW := GW_t2 216 rfl rfl
theorem gw_547 : Cond.selects yX10_addSection.cls yX10_addSection yX10_addSection ∈ GW := GW_t2 217 rfl rfl
theorem cv_L_7 : CV RL 7 yX10_addSection cX10_addSection 1 (some .int) 0 := ⟨gw_545, gw_546, gw_547, gw_91, gw_548, by decide +kernel, by decide +kernel⟩
theorem gw_544 : Cond.classLink "FoldedArchiveLaw" 13 "java/lang/UnsupportedOperationException" ∈ GW := GW_t2 214 rfl rfl
theorem gw_543 : Cond.codeWith yL_addSection cL_addSection 3 (some .int) [(0, 8, 11, 13)] ∈ GW := GW_t2 213 rfl rfl
theorem gw_891 : Cond.methodLink "FoldedArchiveLaw" 15 yX10_pour ∈ GW := GW_t4 81 rfl rfl
theorem gw_892 : Cond.instanceMethod yX10_pour ∈ GW := GW_t4 82 rfl rfl
theorem gw_893 : Cond.selects yX10_pour.cls yX10_pour yX10_pour ∈ GW := GW_t4 83 rfl rfl
theorem cv_L_15 : CV RL 15 yX10_pour cX10_pour 3 (some .int) 2 := ⟨gw_891, gw_892, gw_893, gw_91, gw_894, by decide +kernel, by decide +kernel⟩
theorem gw_857 : Cond.classLink "FoldedArchiveLaw" 19 "java/lang/IndexOutOfBoundsException" ∈ GW := GW_t4 47 rfl rfl
theorem gw_890 : Cond.classLink "FoldedArchiveLaw" 21 "java/lang/IllegalArgumentException" ∈ GW := GW_t4 80 rfl rfl
theorem gw_856 : Cond.codeWith yL_pour cL_pour 5 (some .int) [(0, 10, 13, 19), (0, 10, 17, 21), (0, 10, 21, 13)] ∈ GW := GW_t4 46 rfl rfl
theorem gw_898 : Cond.methodLink "FoldedArchiveLaw" 23 yX10_tag ∈ GW := GW_t4 88 rfl rfl
theorem gw_899 : Cond.instanceMethod yX10_tag ∈ GW := GW_t4 89 rfl rfl
theorem gw_900 : Cond.selects yX10_tag.cls yX10_tag yX10_tag ∈ GW := GW_t4 90 rfl rfl
theorem cv_L_23 : CV RL 23 yX10_tag cX10_tag 3 (some .int) 2 := ⟨gw_898, gw_899, gw_900, gw_91, gw_901, by decide +kernel, by decide +kernel⟩
theorem gw_897 : Cond.codeWith yL_tag cL_tag 5 (some .int) [(0, 10, 13, 19), (0, 10, 17, 21), (0, 10, 21, 13)] ∈ GW := GW_t4 87 rfl rfl
theorem gw_905 : Cond.methodLink "FoldedArchiveLaw" 27 yX10_untag ∈ GW := GW_t4 95 rfl rfl
theorem gw_906 : Cond.instanceMethod yX10_untag ∈ GW := GW_t4 96 rfl rfl
theorem gw_907 : Cond.selects yX10_untag.cls yX10_untag yX10_untag ∈ GW := GW_t4 97 rfl rfl
theorem cv_L_27 : CV RL 27 yX10_untag cX10_untag 3 (some .int) 2 := ⟨gw_905, gw_906, gw_907, gw_91, gw_908, by decide +kernel, by decide +kernel⟩
theorem gw_904 : Cond.codeWith yL_untag cL_untag 5 (some .int) [(0, 10, 13, 19), (0, 10, 17, 21), (0, 10, 21, 13)] ∈ GW := GW_t4 94 rfl rfl
theorem gw_912 : Cond.methodLink "FoldedArchiveLaw" 30 yX10_water ∈ GW := GW_t4 102 rfl rfl
theorem gw_913 : Cond.instanceMethod yX10_water ∈ GW := GW_t4 103 rfl rfl
theorem gw_914 : Cond.selects yX10_water.cls yX10_water yX10_water ∈ GW := GW_t4 104 rfl rfl
theorem cv_L_30 : CV RL 30 yX10_water cX10_water 2 (some .int) 1 := ⟨gw_912, gw_913, gw_914, gw_91, gw_915, by decide +kernel, by decide +kernel⟩
theorem gw_911 : Cond.codeWith yL_water cL_water 4 (some .int) [(0, 9, 12, 19)] ∈ GW := GW_t4 101 rfl rfl
theorem gw_925 : Cond.methodLink "FoldedArchiveLaw" 34 yX10_hasTerm ∈ GW := GW_t4 115 rfl rfl
theorem gw_926 : Cond.instanceMethod yX10_hasTerm ∈ GW := GW_t4 116 rfl rfl
theorem gw_927 : Cond.selects yX10_hasTerm.cls yX10_hasTerm yX10_hasTerm ∈ GW := GW_t4 117 rfl rfl
theorem cv_L_34 : CV RL 34 yX10_hasTerm cX10_hasTerm 3 (some .boolean) 2 := ⟨gw_925, gw_926, gw_927, gw_91, gw_928, by decide +kernel, by decide +kernel⟩
theorem gw_924 : Cond.codeWith yL_hasTerm cL_hasTerm 5 (some .int) [(0, 17, 20, 19), (0, 17, 24, 21)] ∈ GW := GW_t4 114 rfl rfl
theorem gw_938 : Cond.methodLink "FoldedArchiveLaw" 38 yX10_sectionsWith ∈ GW := GW_t4 128 rfl rfl
theorem gw_939 : Cond.instanceMethod yX10_sectionsWith ∈ GW := GW_t4 129 rfl rfl
theorem gw_940 : Cond.selects yX10_sectionsWith.cls yX10_sectionsWith yX10_sectionsWith ∈ GW := GW_t4 130 rfl rfl
theorem cv_L_38 : CV RL 38 yX10_sectionsWith cX10_sectionsWith 2 (some .int) 1 := ⟨gw_938, gw_939, gw_940, gw_91, gw_941, by decide +kernel, by decide +kernel⟩
theorem gw_937 : Cond.codeWith yL_sectionsWith cL_sectionsWith 4 (some .int) [(0, 9, 12, 21)] ∈ GW := GW_t4 127 rfl rfl
theorem gw_952 : Cond.methodLink "FoldedArchiveLaw" 42 yX10_sectionByWater ∈ GW := GW_t4 142 rfl rfl
theorem gw_953 : Cond.instanceMethod yX10_sectionByWater ∈ GW := GW_t4 143 rfl rfl
theorem gw_954 : Cond.selects yX10_sectionByWater.cls yX10_sectionByWater yX10_sectionByWater ∈ GW := GW_t4 144 rfl rfl
theorem cv_L_42 : CV RL 42 yX10_sectionByWater cX10_sectionByWater 3 (some .int) 1 := ⟨gw_952, gw_953, gw_954, gw_91, gw_955, by decide +kernel, by decide +kernel⟩
theorem gw_951 : Cond.classLink "FoldedArchiveLaw" 45 "java/util/NoSuchElementException" ∈ GW := GW_t4 141 rfl rfl
theorem gw_950 : Cond.codeWith yL_sectionByWater cL_sectionByWater 4 (some .int) [(0, 9, 12, 45)] ∈ GW := GW_t4 140 rfl rfl
theorem gw_986 : Cond.methodLink "FoldedArchiveLaw" 47 yX10_fold ∈ GW := GW_t4 176 rfl rfl
theorem gw_987 : Cond.instanceMethod yX10_fold ∈ GW := GW_t4 177 rfl rfl
theorem gw_988 : Cond.selects yX10_fold.cls yX10_fold yX10_fold ∈ GW := GW_t4 178 rfl rfl
theorem cv_L_47 : CV RL 47 yX10_fold cX10_fold 2 (some .int) 1 := ⟨gw_986, gw_987, gw_988, gw_91, gw_989, by decide +kernel, by decide +kernel⟩
theorem gw_985 : Cond.codeWith yL_fold cL_fold 4 (some .int) [(0, 9, 12, 19), (0, 9, 15, 13)] ∈ GW := GW_t4 175 rfl rfl
theorem gw_993 : Cond.methodLink "FoldedArchiveLaw" 50 yX10_unfold ∈ GW := GW_t4 183 rfl rfl
theorem gw_994 : Cond.instanceMethod yX10_unfold ∈ GW := GW_t4 184 rfl rfl
theorem gw_995 : Cond.selects yX10_unfold.cls yX10_unfold yX10_unfold ∈ GW := GW_t4 185 rfl rfl
theorem cv_L_50 : CV RL 50 yX10_unfold cX10_unfold 1 (some .int) 0 := ⟨gw_993, gw_994, gw_995, gw_91, gw_996, by decide +kernel, by decide +kernel⟩
theorem gw_992 : Cond.codeWith yL_unfold cL_unfold 3 (some .int) [(0, 8, 11, 13)] ∈ GW := GW_t4 182 rfl rfl
theorem gw_1000 : Cond.methodLink "FoldedArchiveLaw" 53 yX10_layerOf ∈ GW := GW_t4 190 rfl rfl
theorem gw_1001 : Cond.instanceMethod yX10_layerOf ∈ GW := GW_t4 191 rfl rfl
theorem gw_1002 : Cond.selects yX10_layerOf.cls yX10_layerOf yX10_layerOf ∈ GW := GW_t4 192 rfl rfl
theorem cv_L_53 : CV RL 53 yX10_layerOf cX10_layerOf 3 (some .int) 1 := ⟨gw_1000, gw_1001, gw_1002, gw_91, gw_1003, by decide +kernel, by decide +kernel⟩
theorem gw_999 : Cond.codeWith yL_layerOf cL_layerOf 4 (some .int) [(0, 9, 12, 19), (0, 9, 15, 45)] ∈ GW := GW_t4 189 rfl rfl
theorem gw_1008 : Cond.methodLink "FoldedArchiveLaw" 56 yX10_sectionIn ∈ GW := GW_t4 198 rfl rfl
theorem gw_1009 : Cond.instanceMethod yX10_sectionIn ∈ GW := GW_t4 199 rfl rfl
theorem gw_1010 : Cond.selects yX10_sectionIn.cls yX10_sectionIn yX10_sectionIn ∈ GW := GW_t4 200 rfl rfl
theorem cv_L_56 : CV RL 56 yX10_sectionIn cX10_sectionIn 3 (some .int) 1 := ⟨gw_1008, gw_1009, gw_1010, gw_91, gw_1011, by decide +kernel, by decide +kernel⟩
theorem gw_1007 : Cond.codeWith yL_sectionIn cL_sectionIn 4 (some .int) [(0, 9, 12, 19)] ∈ GW := GW_t4 197 rfl rfl
theorem gw_1015 : Cond.methodLink "FoldedArchiveLaw" 59 yX10_canFold ∈ GW := GW_t4 205 rfl rfl
theorem gw_1016 : Cond.instanceMethod yX10_canFold ∈ GW := GW_t4 206 rfl rfl
theorem gw_1017 : Cond.selects yX10_canFold.cls yX10_canFold yX10_canFold ∈ GW := GW_t4 207 rfl rfl
theorem cv_L_59 : CV RL 59 yX10_canFold cX10_canFold 3 (some .boolean) 1 := ⟨gw_1015, gw_1016, gw_1017, gw_91, gw_1018, by decide +kernel, by decide +kernel⟩
theorem gw_1014 : Cond.codeWith yL_canFold cL_canFold 4 (some .int) [(0, 16, 19, 19)] ∈ GW := GW_t4 204 rfl rfl
theorem gw_1023 : Cond.methodLink "FoldedArchiveLaw" 63 yX10_layPipe ∈ GW := GW_t4 213 rfl rfl
theorem gw_1024 : Cond.instanceMethod yX10_layPipe ∈ GW := GW_t4 214 rfl rfl
theorem gw_1025 : Cond.selects yX10_layPipe.cls yX10_layPipe yX10_layPipe ∈ GW := GW_t4 215 rfl rfl
theorem cv_L_63 : CV RL 63 yX10_layPipe cX10_layPipe 4 (some .int) 3 := ⟨gw_1023, gw_1024, gw_1025, gw_91, gw_1026, by decide +kernel, by decide +kernel⟩
theorem gw_1022 : Cond.codeWith yL_layPipe cL_layPipe 6 (some .int) [(0, 12, 15, 19), (0, 12, 19, 21), (0, 12, 23, 13)] ∈ GW := GW_t4 212 rfl rfl
theorem gw_1030 : Cond.methodLink "FoldedArchiveLaw" 67 yX10_removePipe ∈ GW := GW_t4 220 rfl rfl
theorem gw_1031 : Cond.instanceMethod yX10_removePipe ∈ GW := GW_t4 221 rfl rfl
theorem gw_1032 : Cond.selects yX10_removePipe.cls yX10_removePipe yX10_removePipe ∈ GW := GW_t4 222 rfl rfl
theorem cv_L_67 : CV RL 67 yX10_removePipe cX10_removePipe 2 (some .int) 1 := ⟨gw_1030, gw_1031, gw_1032, gw_91, gw_1033, by decide +kernel, by decide +kernel⟩
theorem gw_1029 : Cond.codeWith yL_removePipe cL_removePipe 4 (some .int) [(0, 9, 12, 19)] ∈ GW := GW_t4 219 rfl rfl
theorem gw_1037 : Cond.methodLink "FoldedArchiveLaw" 70 yX10_breakPipe ∈ GW := GW_t4 227 rfl rfl
theorem gw_1038 : Cond.instanceMethod yX10_breakPipe ∈ GW := GW_t4 228 rfl rfl
theorem gw_1039 : Cond.selects yX10_breakPipe.cls yX10_breakPipe yX10_breakPipe ∈ GW := GW_t4 229 rfl rfl
theorem cv_L_70 : CV RL 70 yX10_breakPipe cX10_breakPipe 2 (some .int) 1 := ⟨gw_1037, gw_1038, gw_1039, gw_91, gw_1040, by decide +kernel, by decide +kernel⟩
theorem gw_1036 : Cond.codeWith yL_breakPipe cL_breakPipe 4 (some .int) [(0, 9, 12, 19), (0, 9, 15, 13)] ∈ GW := GW_t4 226 rfl rfl
theorem gw_1044 : Cond.methodLink "FoldedArchiveLaw" 73 yX10_mendPipe ∈ GW := GW_t4 234 rfl rfl
theorem gw_1045 : Cond.instanceMethod yX10_mendPipe ∈ GW := GW_t4 235 rfl rfl
theorem gw_1046 : Cond.selects yX10_mendPipe.cls yX10_mendPipe yX10_mendPipe ∈ GW := GW_t4 236 rfl rfl
theorem cv_L_73 : CV RL 73 yX10_mendPipe cX10_mendPipe 2 (some .int) 1 := ⟨gw_1044, gw_1045, gw_1046, gw_91, gw_1047, by decide +kernel, by decide +kernel⟩
theorem gw_1043 : Cond.codeWith yL_mendPipe cL_mendPipe 4 (some .int) [(0, 9, 12, 19), (0, 9, 15, 13)] ∈ GW := GW_t4 233 rfl rfl
theorem gw_1051 : Cond.methodLink "FoldedArchiveLaw" 76 yX10_pipeFrom ∈ GW := GW_t5 1 rfl rfl
theorem gw_1052 : Cond.instanceMethod yX10_pipeFrom ∈ GW := GW_t5 2 rfl rfl
theorem gw_1053 : Cond.selects yX10_pipeFrom.cls yX10_pipeFrom yX10_pipeFrom ∈ GW := GW_t5 3 rfl rfl
theorem cv_L_76 : CV RL 76 yX10_pipeFrom cX10_pipeFrom 2 (some .int) 1 := ⟨gw_1051, gw_1052, gw_1053, gw_91, gw_1054, by decide +kernel, by decide +kernel⟩
theorem gw_1050 : Cond.codeWith yL_pipeFrom cL_pipeFrom 4 (some .int) [(0, 9, 12, 19)] ∈ GW := GW_t5 0 rfl rfl
theorem gw_1064 : Cond.methodLink "FoldedArchiveLaw" 79 yX10_pipeTo ∈ GW := GW_t5 14 rfl rfl
theorem gw_1065 : Cond.instanceMethod yX10_pipeTo ∈ GW := GW_t5 15 rfl rfl
theorem gw_1066 : Cond.selects yX10_pipeTo.cls yX10_pipeTo yX10_pipeTo ∈ GW := GW_t5 16 rfl rfl
theorem cv_L_79 : CV RL 79 yX10_pipeTo cX10_pipeTo 2 (some .int) 1 := ⟨gw_1064, gw_1065, gw_1066, gw_91, gw_1067, by decide +kernel, by decide +kernel⟩
theorem gw_1063 : Cond.codeWith yL_pipeTo cL_pipeTo 4 (some .int) [(0, 9, 12, 19)] ∈ GW := GW_t5 13 rfl rfl
theorem gw_1072 : Cond.methodLink "FoldedArchiveLaw" 82 yX10_capacity ∈ GW := GW_t5 22 rfl rfl
theorem gw_1073 : Cond.instanceMethod yX10_capacity ∈ GW := GW_t5 23 rfl rfl
theorem gw_1074 : Cond.selects yX10_capacity.cls yX10_capacity yX10_capacity ∈ GW := GW_t5 24 rfl rfl
theorem cv_L_82 : CV RL 82 yX10_capacity cX10_capacity 2 (some .int) 1 := ⟨gw_1072, gw_1073, gw_1074, gw_91, gw_1075, by decide +kernel, by decide +kernel⟩
theorem gw_1071 : Cond.codeWith yL_capacity cL_capacity 4 (some .int) [(0, 9, 12, 19)] ∈ GW := GW_t5 21 rfl rfl
theorem gw_1080 : Cond.methodLink "FoldedArchiveLaw" 85 yX10_isBroken ∈ GW := GW_t5 30 rfl rfl
theorem gw_1081 : Cond.instanceMethod yX10_isBroken ∈ GW := GW_t5 31 rfl rfl
theorem gw_1082 : Cond.selects yX10_isBroken.cls yX10_isBroken yX10_isBroken ∈ GW := GW_t5 32 rfl rfl
theorem cv_L_85 : CV RL 85 yX10_isBroken cX10_isBroken 2 (some .boolean) 1 := ⟨gw_1080, gw_1081, gw_1082, gw_91, gw_1083, by decide +kernel, by decide +kernel⟩
theorem gw_1079 : Cond.codeWith yL_isBroken cL_isBroken 4 (some .int) [(0, 16, 19, 19)] ∈ GW := GW_t5 29 rfl rfl
theorem gw_1088 : Cond.methodLink "FoldedArchiveLaw" 88 yX10_greatestFlow ∈ GW := GW_t5 38 rfl rfl
theorem gw_1089 : Cond.instanceMethod yX10_greatestFlow ∈ GW := GW_t5 39 rfl rfl
theorem gw_1090 : Cond.selects yX10_greatestFlow.cls yX10_greatestFlow yX10_greatestFlow ∈ GW := GW_t5 40 rfl rfl
theorem cv_L_88 : CV RL 88 yX10_greatestFlow cX10_greatestFlow 1 (some .int) 0 := ⟨gw_1088, gw_1089, gw_1090, gw_91, gw_1091, by decide +kernel, by decide +kernel⟩
theorem gw_1087 : Cond.codeWith yL_greatestFlow cL_greatestFlow 3 (some .int) [(0, 8, 11, 13)] ∈ GW := GW_t5 37 rfl rfl
theorem gw_1097 : Cond.methodLink "FoldedArchiveLaw" 91 yX10_smallestCut ∈ GW := GW_t5 47 rfl rfl
theorem gw_1098 : Cond.instanceMethod yX10_smallestCut ∈ GW := GW_t5 48 rfl rfl
theorem gw_1099 : Cond.selects yX10_smallestCut.cls yX10_smallestCut yX10_smallestCut ∈ GW := GW_t5 49 rfl rfl
theorem cv_L_91 : CV RL 91 yX10_smallestCut cX10_smallestCut 1 (some .int) 0 := ⟨gw_1097, gw_1098, gw_1099, gw_91, gw_1100, by decide +kernel, by decide +kernel⟩
theorem gw_1096 : Cond.codeWith yL_smallestCut cL_smallestCut 3 (some .int) [(0, 8, 11, 13)] ∈ GW := GW_t5 46 rfl rfl
theorem gw_1114 : Cond.methodLink "FoldedArchiveLaw" 94 yX10_lossOf ∈ GW := GW_t5 64 rfl rfl
theorem gw_1115 : Cond.instanceMethod yX10_lossOf ∈ GW := GW_t5 65 rfl rfl
theorem gw_1116 : Cond.selects yX10_lossOf.cls yX10_lossOf yX10_lossOf ∈ GW := GW_t5 66 rfl rfl
theorem cv_L_94 : CV RL 94 yX10_lossOf cX10_lossOf 3 (some .int) 1 := ⟨gw_1114, gw_1115, gw_1116, gw_91, gw_1117, by decide +kernel, by decide +kernel⟩
theorem gw_1113 : Cond.codeWith yL_lossOf cL_lossOf 4 (some .int) [(0, 9, 12, 19)] ∈ GW := GW_t5 63 rfl rfl
theorem gw_1121 : Cond.methodLink "FoldedArchiveLaw" 97 yX10_drain ∈ GW := GW_t5 71 rfl rfl
theorem gw_1122 : Cond.instanceMethod yX10_drain ∈ GW := GW_t5 72 rfl rfl
theorem gw_1123 : Cond.selects yX10_drain.cls yX10_drain yX10_drain ∈ GW := GW_t5 73 rfl rfl
theorem cv_L_97 : CV RL 97 yX10_drain cX10_drain 1 (some .int) 0 := ⟨gw_1121, gw_1122, gw_1123, gw_91, gw_1124, by decide +kernel, by decide +kernel⟩
theorem gw_1120 : Cond.codeWith yL_drain cL_drain 3 (some .int) [(0, 8, 11, 13)] ∈ GW := GW_t5 70 rfl rfl
theorem gw_1128 : Cond.methodLink "FoldedArchiveLaw" 100 yX10_seep ∈ GW := GW_t5 78 rfl rfl
theorem gw_1129 : Cond.instanceMethod yX10_seep ∈ GW := GW_t5 79 rfl rfl
theorem gw_1130 : Cond.selects yX10_seep.cls yX10_seep yX10_seep ∈ GW := GW_t5 80 rfl rfl
theorem cv_L_100 : CV RL 100 yX10_seep cX10_seep 1 (some .int) 0 := ⟨gw_1128, gw_1129, gw_1130, gw_91, gw_1131, by decide +kernel, by decide +kernel⟩
theorem gw_1127 : Cond.codeWith yL_seep cL_seep 3 (some .int) [(0, 8, 11, 13)] ∈ GW := GW_t5 77 rfl rfl
theorem gw_1149 : Cond.methodLink "FoldedArchiveLaw" 103 yX10_meanWater ∈ GW := GW_t5 99 rfl rfl
theorem gw_1150 : Cond.instanceMethod yX10_meanWater ∈ GW := GW_t5 100 rfl rfl
theorem gw_1151 : Cond.selects yX10_meanWater.cls yX10_meanWater yX10_meanWater ∈ GW := GW_t5 101 rfl rfl
theorem cv_L_103 : CV RL 103 yX10_meanWater cX10_meanWater 1 (some .double) 0 := ⟨gw_1149, gw_1150, gw_1151, gw_91, gw_1152, by decide +kernel, by decide +kernel⟩
theorem gw_1135 : Cond.classLink "FoldedArchiveLaw" 107 "java/lang/ArithmeticException" ∈ GW := GW_t5 85 rfl rfl
theorem gw_1134 : Cond.codeWith yL_meanWater cL_meanWater 3 (some .int) [(0, 7, 10, 107)] ∈ GW := GW_t5 84 rfl rfl
theorem gw_1161 : Cond.methodLink "FoldedArchiveLaw" 109 yX10_leakedShare ∈ GW := GW_t5 111 rfl rfl
theorem gw_1162 : Cond.instanceMethod yX10_leakedShare ∈ GW := GW_t5 112 rfl rfl
theorem gw_1163 : Cond.selects yX10_leakedShare.cls yX10_leakedShare yX10_leakedShare ∈ GW := GW_t5 113 rfl rfl
theorem cv_L_109 : CV RL 109 yX10_leakedShare cX10_leakedShare 1 (some .float) 0 := ⟨gw_1161, gw_1162, gw_1163, gw_91, gw_1164, by decide +kernel, by decide +kernel⟩
theorem gw_1160 : Cond.codeWith yL_leakedShare cL_leakedShare 3 (some .int) [(0, 8, 11, 107)] ∈ GW := GW_t5 110 rfl rfl
theorem gw_1169 : Cond.methodLink "FoldedArchiveLaw" 113 yX10_feed ∈ GW := GW_t5 119 rfl rfl
theorem gw_1170 : Cond.instanceMethod yX10_feed ∈ GW := GW_t5 120 rfl rfl
theorem gw_1171 : Cond.selects yX10_feed.cls yX10_feed yX10_feed ∈ GW := GW_t5 121 rfl rfl
theorem cv_L_113 : CV RL 113 yX10_feed cX10_feed 2 (some .int) 1 := ⟨gw_1169, gw_1170, gw_1171, gw_91, gw_1172, by decide +kernel, by decide +kernel⟩
theorem gw_1168 : Cond.classLink "FoldedArchiveLaw" 116 "java/lang/IllegalStateException" ∈ GW := GW_t5 118 rfl rfl
theorem gw_1167 : Cond.codeWith yL_feed cL_feed 4 (some .int) [(0, 9, 12, 116)] ∈ GW := GW_t5 117 rfl rfl
theorem gw_1196 : Cond.methodLink "FoldedArchiveLaw" 118 yX10_search ∈ GW := GW_t5 146 rfl rfl
theorem gw_1197 : Cond.instanceMethod yX10_search ∈ GW := GW_t5 147 rfl rfl
theorem gw_1198 : Cond.selects yX10_search.cls yX10_search yX10_search ∈ GW := GW_t5 148 rfl rfl
theorem cv_L_118 : CV RL 118 yX10_search cX10_search 2 (some .int) 0 := ⟨gw_1196, gw_1197, gw_1198, gw_91, gw_1199, by decide +kernel, by decide +kernel⟩
theorem gw_1195 : Cond.codeWith yL_search cL_search 3 (some .int) [(0, 8, 11, 21)] ∈ GW := GW_t5 145 rfl rfl
theorem gw_1244 : Cond.methodLink "FoldedArchiveLaw" 121 yX10_matches ∈ GW := GW_t5 194 rfl rfl
theorem gw_1245 : Cond.instanceMethod yX10_matches ∈ GW := GW_t5 195 rfl rfl
theorem gw_1246 : Cond.selects yX10_matches.cls yX10_matches yX10_matches ∈ GW := GW_t5 196 rfl rfl
theorem cv_L_121 : CV RL 121 yX10_matches cX10_matches 3 (some .boolean) 1 := ⟨gw_1244, gw_1245, gw_1246, gw_91, gw_1247, by decide +kernel, by decide +kernel⟩
theorem gw_1243 : Cond.codeWith yL_matches cL_matches 4 (some .int) [(0, 16, 19, 19), (0, 16, 22, 21)] ∈ GW := GW_t5 193 rfl rfl
theorem gw_1256 : Cond.methodLink "FoldedArchiveLaw" 124 yX10_execute ∈ GW := GW_t5 206 rfl rfl
theorem gw_1257 : Cond.instanceMethod yX10_execute ∈ GW := GW_t5 207 rfl rfl
theorem gw_1258 : Cond.selects yX10_execute.cls yX10_execute yX10_execute ∈ GW := GW_t5 208 rfl rfl
theorem cv_L_124 : CV RL 124 yX10_execute cX10_execute 3 (some .int) 0 := ⟨gw_1256, gw_1257, gw_1258, gw_91, gw_1259, by decide +kernel, by decide +kernel⟩
theorem gw_1255 : Cond.codeWith yL_execute cL_execute 3 (some .int) [(0, 8, 11, 21), (0, 8, 14, 13)] ∈ GW := GW_t5 205 rfl rfl
theorem gw_1378 : Cond.methodLink "FoldedArchiveLaw" 127 yX10_faultPosition ∈ GW := GW_t6 88 rfl rfl
theorem gw_1379 : Cond.instanceMethod yX10_faultPosition ∈ GW := GW_t6 89 rfl rfl
theorem gw_1380 : Cond.selects yX10_faultPosition.cls yX10_faultPosition yX10_faultPosition ∈ GW := GW_t6 90 rfl rfl
theorem cv_L_127 : CV RL 127 yX10_faultPosition cX10_faultPosition 1 (some .int) 0 := ⟨gw_1378, gw_1379, gw_1380, gw_91, gw_1381, by decide +kernel, by decide +kernel⟩
theorem gw_1377 : Cond.codeWith yL_faultPosition cL_faultPosition 3 (some .int) [(0, 8, 11, 45)] ∈ GW := GW_t6 87 rfl rfl
theorem gw_1385 : Cond.methodLink "FoldedArchiveLaw" 130 yX10_writeSection ∈ GW := GW_t6 95 rfl rfl
theorem gw_1386 : Cond.instanceMethod yX10_writeSection ∈ GW := GW_t6 96 rfl rfl
theorem gw_1387 : Cond.selects yX10_writeSection.cls yX10_writeSection yX10_writeSection ∈ GW := GW_t6 97 rfl rfl
theorem cv_L_130 : CV RL 130 yX10_writeSection cX10_writeSection 3 (some .int) 1 := ⟨gw_1385, gw_1386, gw_1387, gw_91, gw_1388, by decide +kernel, by decide +kernel⟩
theorem gw_1384 : Cond.codeWith yL_writeSection cL_writeSection 4 (some .int) [(0, 9, 12, 19)] ∈ GW := GW_t6 94 rfl rfl
theorem gw_1392 : Cond.methodLink "FoldedArchiveLaw" 133 yX10_lineCharacter ∈ GW := GW_t6 102 rfl rfl
theorem gw_1393 : Cond.instanceMethod yX10_lineCharacter ∈ GW := GW_t6 103 rfl rfl
theorem gw_1394 : Cond.selects yX10_lineCharacter.cls yX10_lineCharacter yX10_lineCharacter ∈ GW := GW_t6 104 rfl rfl
theorem cv_L_133 : CV RL 133 yX10_lineCharacter cX10_lineCharacter 2 (some .char) 1 := ⟨gw_1392, gw_1393, gw_1394, gw_91, gw_1395, by decide +kernel, by decide +kernel⟩
theorem gw_1391 : Cond.codeWith yL_lineCharacter cL_lineCharacter 4 (some .int) [(0, 9, 12, 19)] ∈ GW := GW_t6 101 rfl rfl
theorem gw_1400 : Cond.methodLink "FoldedArchiveLaw" 137 yX10_denial ∈ GW := GW_t6 110 rfl rfl
theorem gw_1401 : Cond.instanceMethod yX10_denial ∈ GW := GW_t6 111 rfl rfl
theorem gw_1402 : Cond.selects yX10_denial.cls yX10_denial yX10_denial ∈ GW := GW_t6 112 rfl rfl
theorem cv_L_137 : CV RL 137 yX10_denial cX10_denial 1 (some .int) 0 := ⟨gw_1400, gw_1401, gw_1402, gw_91, gw_1403, by decide +kernel, by decide +kernel⟩
theorem gw_1399 : Cond.codeWith yL_denial cL_denial 3 (some .int) [(0, 8, 11, 45)] ∈ GW := GW_t6 109 rfl rfl
theorem gw_1407 : Cond.methodLink "FoldedArchiveLaw" 140 yX10_denialDetail ∈ GW := GW_t6 117 rfl rfl
theorem gw_1408 : Cond.instanceMethod yX10_denialDetail ∈ GW := GW_t6 118 rfl rfl
theorem gw_1409 : Cond.selects yX10_denialDetail.cls yX10_denialDetail yX10_denialDetail ∈ GW := GW_t6 119 rfl rfl
theorem cv_L_140 : CV RL 140 yX10_denialDetail cX10_denialDetail 1 (some .int) 0 := ⟨gw_1407, gw_1408, gw_1409, gw_91, gw_1410, by decide +kernel, by decide +kernel⟩
theorem gw_1406 : Cond.codeWith yL_denialDetail cL_denialDetail 3 (some .int) [(0, 8, 11, 45)] ∈ GW := GW_t6 116 rfl rfl
theorem gw_1414 : Cond.methodLink "FoldedArchiveLaw" 143 yX10_denialCause ∈ GW := GW_t6 124 rfl rfl
theorem gw_1415 : Cond.instanceMethod yX10_denialCause ∈ GW := GW_t6 125 rfl rfl
theorem gw_1416 : Cond.selects yX10_denialCause.cls yX10_denialCause yX10_denialCause ∈ GW := GW_t6 126 rfl rfl
theorem cv_L_143 : CV RL 143 yX10_denialCause cX10_denialCause 1 (some .int) 0 := ⟨gw_1414, gw_1415, gw_1416, gw_91, gw_1417, by decide +kernel, by decide +kernel⟩
theorem gw_1413 : Cond.codeWith yL_denialCause cL_denialCause 3 (some .int) [(0, 8, 11, 45)] ∈ GW := GW_t6 123 rfl rfl
theorem gw_1421 : Cond.methodLink "FoldedArchiveLaw" 146 yX10_undo ∈ GW := GW_t6 131 rfl rfl
theorem gw_1422 : Cond.instanceMethod yX10_undo ∈ GW := GW_t6 132 rfl rfl
theorem gw_1423 : Cond.selects yX10_undo.cls yX10_undo yX10_undo ∈ GW := GW_t6 133 rfl rfl
theorem cv_L_146 : CV RL 146 yX10_undo cX10_undo 1 (some .int) 0 := ⟨gw_1421, gw_1422, gw_1423, gw_91, gw_1424, by decide +kernel, by decide +kernel⟩
theorem gw_1420 : Cond.codeWith yL_undo cL_undo 3 (some .int) [(0, 8, 11, 116)] ∈ GW := GW_t6 130 rfl rfl
theorem gw_1432 : Cond.methodLink "FoldedArchiveLaw" 149 yX10_restoreSnapshot ∈ GW := GW_t6 142 rfl rfl
theorem gw_1433 : Cond.instanceMethod yX10_restoreSnapshot ∈ GW := GW_t6 143 rfl rfl
theorem gw_1434 : Cond.selects yX10_restoreSnapshot.cls yX10_restoreSnapshot yX10_restoreSnapshot ∈ GW := GW_t6 144 rfl rfl
theorem cv_L_149 : CV RL 149 yX10_restoreSnapshot cX10_restoreSnapshot 1 (some .int) 0 := ⟨gw_1432, gw_1433, gw_1434, gw_91, gw_1435, by decide +kernel, by decide +kernel⟩
theorem gw_1431 : Cond.codeWith yL_restoreSnapshot cL_restoreSnapshot 3 (some .int) [(0, 8, 11, 116)] ∈ GW := GW_t6 141 rfl rfl
theorem tt_36 : TT[36]? = some (0, 8, [some 37, some 40, some 42]) := by decide +kernel
theorem tt_37 : TT[37]? = some (0, 9, [none, none, none, some 38, some 39]) := by decide +kernel
theorem tt_38 : TT[38]? = some (1, 7, []) := by decide +kernel
theorem tt_39 : TT[39]? = some (1, 7, []) := by decide +kernel
theorem is9_37 : isX9 37 := ⟨tt_37, tt_38, tt_39⟩
theorem tt_40 : TT[40]? = some (0, 4, [none, some 41]) := by decide +kernel
theorem tt_41 : TT[41]? = some (1, 7, []) := by decide +kernel
theorem is4_40 : isX4 40 := ⟨tt_40, tt_41⟩
theorem tt_42 : TT[42]? = some (0, 5, [none, some 43, some 44, some 45, some 46]) := by decide +kernel
theorem tt_43 : TT[43]? = some (1, 10, []) := by decide +kernel
theorem tt_44 : TT[44]? = some (1, 10, []) := by decide +kernel
theorem tt_45 : TT[45]? = some (1, 10, []) := by decide +kernel
theorem tt_46 : TT[46]? = some (2, 10, []) := by decide +kernel
theorem is5_42 : isX5 42 := ⟨tt_42, tt_43, tt_44, tt_45, tt_46⟩
theorem is8_36 : isX8 36 := ⟨tt_36, is9_37, is4_40, is5_42⟩
theorem tt_47 : TT[47]? = some (0, 8, [some 48, some 51, some 53]) := by decide +kernel
theorem tt_48 : TT[48]? = some (0, 9, [none, none, none, some 49, some 50]) := by decide +kernel
theorem tt_49 : TT[49]? = some (1, 7, []) := by decide +kernel
theorem tt_50 : TT[50]? = some (1, 7, []) := by decide +kernel
theorem is9_48 : isX9 48 := ⟨tt_48, tt_49, tt_50⟩
theorem tt_51 : TT[51]? = some (0, 4, [none, some 52]) := by decide +kernel
theorem tt_52 : TT[52]? = some (1, 7, []) := by decide +kernel
theorem is4_51 : isX4 51 := ⟨tt_51, tt_52⟩
theorem tt_53 : TT[53]? = some (0, 5, [none, some 54, some 55, some 56, some 57]) := by decide +kernel
theorem tt_54 : TT[54]? = some (1, 10, []) := by decide +kernel
theorem tt_55 : TT[55]? = some (1, 10, []) := by decide +kernel
theorem tt_56 : TT[56]? = some (1, 10, []) := by decide +kernel
theorem tt_57 : TT[57]? = some (2, 10, []) := by decide +kernel
theorem is5_53 : isX5 53 := ⟨tt_53, tt_54, tt_55, tt_56, tt_57⟩
theorem is8_47 : isX8 47 := ⟨tt_47, is9_48, is4_51, is5_53⟩
theorem tt_58 : TT[58]? = some (0, 8, [some 59, some 62, some 64]) := by decide +kernel
theorem tt_59 : TT[59]? = some (0, 9, [none, none, none, some 60, some 61]) := by decide +kernel
theorem tt_60 : TT[60]? = some (1, 7, []) := by decide +kernel
theorem tt_61 : TT[61]? = some (1, 7, []) := by decide +kernel
theorem is9_59 : isX9 59 := ⟨tt_59, tt_60, tt_61⟩
theorem tt_62 : TT[62]? = some (0, 4, [none, some 63]) := by decide +kernel
theorem tt_63 : TT[63]? = some (1, 7, []) := by decide +kernel
theorem is4_62 : isX4 62 := ⟨tt_62, tt_63⟩
theorem tt_64 : TT[64]? = some (0, 5, [none, some 65, some 66, some 67, some 68]) := by decide +kernel
theorem tt_65 : TT[65]? = some (1, 10, []) := by decide +kernel
theorem tt_66 : TT[66]? = some (1, 10, []) := by decide +kernel
theorem tt_67 : TT[67]? = some (1, 10, []) := by decide +kernel
theorem tt_68 : TT[68]? = some (2, 10, []) := by decide +kernel
theorem is5_64 : isX5 64 := ⟨tt_64, tt_65, tt_66, tt_67, tt_68⟩
theorem is8_58 : isX8 58 := ⟨tt_58, is9_59, is4_62, is5_64⟩
theorem tt_69 : TT[69]? = some (0, 8, [some 70, some 73, some 75]) := by decide +kernel
theorem tt_70 : TT[70]? = some (0, 9, [none, none, none, some 71, some 72]) := by decide +kernel
theorem tt_71 : TT[71]? = some (1, 7, []) := by decide +kernel
theorem tt_72 : TT[72]? = some (1, 7, []) := by decide +kernel
theorem is9_70 : isX9 70 := ⟨tt_70, tt_71, tt_72⟩
theorem tt_73 : TT[73]? = some (0, 4, [none, some 74]) := by decide +kernel
theorem tt_74 : TT[74]? = some (1, 7, []) := by decide +kernel
theorem is4_73 : isX4 73 := ⟨tt_73, tt_74⟩
theorem tt_75 : TT[75]? = some (0, 5, [none, some 76, some 77, some 78, some 79]) := by decide +kernel
theorem tt_76 : TT[76]? = some (1, 10, []) := by decide +kernel
theorem tt_77 : TT[77]? = some (1, 10, []) := by decide +kernel
theorem tt_78 : TT[78]? = some (1, 10, []) := by decide +kernel
theorem tt_79 : TT[79]? = some (2, 10, []) := by decide +kernel
theorem is5_75 : isX5 75 := ⟨tt_75, tt_76, tt_77, tt_78, tt_79⟩
theorem is8_69 : isX8 69 := ⟨tt_69, is9_70, is4_73, is5_75⟩
theorem tt_80 : TT[80]? = some (0, 8, [some 81, some 84, some 86]) := by decide +kernel
theorem tt_81 : TT[81]? = some (0, 9, [none, none, none, some 82, some 83]) := by decide +kernel
theorem tt_82 : TT[82]? = some (1, 7, []) := by decide +kernel
theorem tt_83 : TT[83]? = some (1, 7, []) := by decide +kernel
theorem is9_81 : isX9 81 := ⟨tt_81, tt_82, tt_83⟩
theorem tt_84 : TT[84]? = some (0, 4, [none, some 85]) := by decide +kernel
theorem tt_85 : TT[85]? = some (1, 7, []) := by decide +kernel
theorem is4_84 : isX4 84 := ⟨tt_84, tt_85⟩
theorem tt_86 : TT[86]? = some (0, 5, [none, some 87, some 88, some 89, some 90]) := by decide +kernel
theorem tt_87 : TT[87]? = some (1, 10, []) := by decide +kernel
theorem tt_88 : TT[88]? = some (1, 10, []) := by decide +kernel
theorem tt_89 : TT[89]? = some (1, 10, []) := by decide +kernel
theorem tt_90 : TT[90]? = some (2, 10, []) := by decide +kernel
theorem is5_86 : isX5 86 := ⟨tt_86, tt_87, tt_88, tt_89, tt_90⟩
theorem is8_80 : isX8 80 := ⟨tt_80, is9_81, is4_84, is5_86⟩
theorem tt_91 : TT[91]? = some (0, 8, [some 92, some 95, some 97]) := by decide +kernel
theorem tt_92 : TT[92]? = some (0, 9, [none, none, none, some 93, some 94]) := by decide +kernel
theorem tt_93 : TT[93]? = some (1, 7, []) := by decide +kernel
theorem tt_94 : TT[94]? = some (1, 7, []) := by decide +kernel
theorem is9_92 : isX9 92 := ⟨tt_92, tt_93, tt_94⟩
theorem tt_95 : TT[95]? = some (0, 4, [none, some 96]) := by decide +kernel
theorem tt_96 : TT[96]? = some (1, 7, []) := by decide +kernel
theorem is4_95 : isX4 95 := ⟨tt_95, tt_96⟩
theorem tt_97 : TT[97]? = some (0, 5, [none, some 98, some 99, some 100, some 101]) := by decide +kernel
theorem tt_98 : TT[98]? = some (1, 10, []) := by decide +kernel
theorem tt_99 : TT[99]? = some (1, 10, []) := by decide +kernel
theorem tt_100 : TT[100]? = some (1, 10, []) := by decide +kernel
theorem tt_101 : TT[101]? = some (2, 10, []) := by decide +kernel
theorem is5_97 : isX5 97 := ⟨tt_97, tt_98, tt_99, tt_100, tt_101⟩
theorem is8_91 : isX8 91 := ⟨tt_91, is9_92, is4_95, is5_97⟩
theorem tt_102 : TT[102]? = some (0, 8, [some 103, some 106, some 108]) := by decide +kernel
theorem tt_103 : TT[103]? = some (0, 9, [none, none, none, some 104, some 105]) := by decide +kernel
theorem tt_104 : TT[104]? = some (1, 7, []) := by decide +kernel
theorem tt_105 : TT[105]? = some (1, 7, []) := by decide +kernel
theorem is9_103 : isX9 103 := ⟨tt_103, tt_104, tt_105⟩
theorem tt_106 : TT[106]? = some (0, 4, [none, some 107]) := by decide +kernel
theorem tt_107 : TT[107]? = some (1, 7, []) := by decide +kernel
theorem is4_106 : isX4 106 := ⟨tt_106, tt_107⟩
theorem tt_108 : TT[108]? = some (0, 5, [none, some 109, some 110, some 111, some 112]) := by decide +kernel
theorem tt_109 : TT[109]? = some (1, 10, []) := by decide +kernel
theorem tt_110 : TT[110]? = some (1, 10, []) := by decide +kernel
theorem tt_111 : TT[111]? = some (1, 10, []) := by decide +kernel
theorem tt_112 : TT[112]? = some (2, 10, []) := by decide +kernel
theorem is5_108 : isX5 108 := ⟨tt_108, tt_109, tt_110, tt_111, tt_112⟩
theorem is8_102 : isX8 102 := ⟨tt_102, is9_103, is4_106, is5_108⟩
theorem tt_113 : TT[113]? = some (0, 8, [some 114, some 117, some 119]) := by decide +kernel
theorem tt_114 : TT[114]? = some (0, 9, [none, none, none, some 115, some 116]) := by decide +kernel
theorem tt_115 : TT[115]? = some (1, 7, []) := by decide +kernel
theorem tt_116 : TT[116]? = some (1, 7, []) := by decide +kernel
theorem is9_114 : isX9 114 := ⟨tt_114, tt_115, tt_116⟩
theorem tt_117 : TT[117]? = some (0, 4, [none, some 118]) := by decide +kernel
theorem tt_118 : TT[118]? = some (1, 7, []) := by decide +kernel
theorem is4_117 : isX4 117 := ⟨tt_117, tt_118⟩
theorem tt_119 : TT[119]? = some (0, 5, [none, some 120, some 121, some 122, some 123]) := by decide +kernel
theorem tt_120 : TT[120]? = some (1, 10, []) := by decide +kernel
theorem tt_121 : TT[121]? = some (1, 10, []) := by decide +kernel
theorem tt_122 : TT[122]? = some (1, 10, []) := by decide +kernel
theorem tt_123 : TT[123]? = some (2, 10, []) := by decide +kernel
theorem is5_119 : isX5 119 := ⟨tt_119, tt_120, tt_121, tt_122, tt_123⟩
theorem is8_113 : isX8 113 := ⟨tt_113, is9_114, is4_117, is5_119⟩
theorem gw_541 : Cond.methodLink "FoldedArchiveLaw" 156 yL_addSection ∈ GW := GW_t2 211 rfl rfl
theorem gw_542 : Cond.static yL_addSection ∈ GW := GW_t2 212 rfl rfl
theorem gw_90 : Cond.initialized "FoldedArchiveLaw" ∈ GW := GW_t1 0 rfl rfl
theorem ch_L_156 : CSH RL 156 yL_addSection cL_addSection 3 (some .int) [(0, 8, 11, 13)] 2 := ⟨gw_541, gw_542, gw_90, gw_543, by decide +kernel, by decide +kernel⟩
theorem gw_1520 : Cond.methodLink "FoldedArchiveLaw" 161 yX11_addSection ∈ GW := GW_t6 230 rfl rfl
theorem gw_1521 : Cond.instanceMethod yX11_addSection ∈ GW := GW_t6 231 rfl rfl
theorem gw_1522 : Cond.selects yX11_addSection.cls yX11_addSection yX11_addSection ∈ GW := GW_t6 232 rfl rfl
theorem cv_L_161 : CV RL 161 yX11_addSection cX11_addSection 1 (some .int) 0 := ⟨gw_1520, gw_1521, gw_1522, gw_103, gw_1523, by decide +kernel, by decide +kernel⟩
theorem gw_1516 : Cond.methodLink "FoldedArchiveLaw" 162 yX11_thrown ∈ GW := GW_t6 226 rfl rfl
theorem gw_1517 : Cond.instanceMethod yX11_thrown ∈ GW := GW_t6 227 rfl rfl
theorem gw_1518 : Cond.selects yX11_thrown.cls yX11_thrown yX11_thrown ∈ GW := GW_t6 228 rfl rfl
theorem cv_L_162 : CV RL 162 yX11_thrown cX11_thrown 1 (some .int) 0 := ⟨gw_1516, gw_1517, gw_1518, gw_103, gw_1519, by decide +kernel, by decide +kernel⟩
theorem gw_854 : Cond.methodLink "FoldedArchiveLaw" 165 yL_pour ∈ GW := GW_t4 44 rfl rfl
theorem gw_855 : Cond.static yL_pour ∈ GW := GW_t4 45 rfl rfl
theorem ch_L_165 : CSH RL 165 yL_pour cL_pour 5 (some .int) [(0, 10, 13, 19), (0, 10, 17, 21), (0, 10, 21, 13)] 4 := ⟨gw_854, gw_855, gw_90, gw_856, by decide +kernel, by decide +kernel⟩
theorem gw_1552 : Cond.methodLink "FoldedArchiveLaw" 168 yX11_pour ∈ GW := GW_t7 22 rfl rfl
theorem gw_1553 : Cond.instanceMethod yX11_pour ∈ GW := GW_t7 23 rfl rfl
theorem gw_1554 : Cond.selects yX11_pour.cls yX11_pour yX11_pour ∈ GW := GW_t7 24 rfl rfl
theorem cv_L_168 : CV RL 168 yX11_pour cX11_pour 3 (some .int) 2 := ⟨gw_1552, gw_1553, gw_1554, gw_103, gw_1555, by decide +kernel, by decide +kernel⟩
theorem gw_895 : Cond.methodLink "FoldedArchiveLaw" 169 yL_tag ∈ GW := GW_t4 85 rfl rfl
theorem gw_896 : Cond.static yL_tag ∈ GW := GW_t4 86 rfl rfl
theorem ch_L_169 : CSH RL 169 yL_tag cL_tag 5 (some .int) [(0, 10, 13, 19), (0, 10, 17, 21), (0, 10, 21, 13)] 4 := ⟨gw_895, gw_896, gw_90, gw_897, by decide +kernel, by decide +kernel⟩
theorem gw_1567 : Cond.methodLink "FoldedArchiveLaw" 172 yX11_tag ∈ GW := GW_t7 37 rfl rfl
theorem gw_1568 : Cond.instanceMethod yX11_tag ∈ GW := GW_t7 38 rfl rfl
theorem gw_1569 : Cond.selects yX11_tag.cls yX11_tag yX11_tag ∈ GW := GW_t7 39 rfl rfl
theorem cv_L_172 : CV RL 172 yX11_tag cX11_tag 3 (some .int) 2 := ⟨gw_1567, gw_1568, gw_1569, gw_103, gw_1570, by decide +kernel, by decide +kernel⟩
theorem gw_902 : Cond.methodLink "FoldedArchiveLaw" 173 yL_untag ∈ GW := GW_t4 92 rfl rfl
theorem gw_903 : Cond.static yL_untag ∈ GW := GW_t4 93 rfl rfl
theorem ch_L_173 : CSH RL 173 yL_untag cL_untag 5 (some .int) [(0, 10, 13, 19), (0, 10, 17, 21), (0, 10, 21, 13)] 4 := ⟨gw_902, gw_903, gw_90, gw_904, by decide +kernel, by decide +kernel⟩
theorem gw_1586 : Cond.methodLink "FoldedArchiveLaw" 175 yX11_untag ∈ GW := GW_t7 56 rfl rfl
theorem gw_1587 : Cond.instanceMethod yX11_untag ∈ GW := GW_t7 57 rfl rfl
theorem gw_1588 : Cond.selects yX11_untag.cls yX11_untag yX11_untag ∈ GW := GW_t7 58 rfl rfl
theorem cv_L_175 : CV RL 175 yX11_untag cX11_untag 3 (some .int) 2 := ⟨gw_1586, gw_1587, gw_1588, gw_103, gw_1589, by decide +kernel, by decide +kernel⟩
theorem gw_381 : Cond.methodLink "FoldedArchiveLaw" 176 yX10_sectionCount ∈ GW := GW_t2 51 rfl rfl
theorem gw_382 : Cond.instanceMethod yX10_sectionCount ∈ GW := GW_t2 52 rfl rfl
theorem gw_383 : Cond.selects yX10_sectionCount.cls yX10_sectionCount yX10_sectionCount ∈ GW := GW_t2 53 rfl rfl
theorem cv_L_176 : CV RL 176 yX10_sectionCount cX10_sectionCount 1 (some .int) 0 := ⟨gw_381, gw_382, gw_383, gw_91, gw_384, by decide +kernel, by decide +kernel⟩
theorem gw_1590 : Cond.methodLink "FoldedArchiveLaw" 179 yX11_sectionCount ∈ GW := GW_t7 60 rfl rfl
theorem gw_1591 : Cond.instanceMethod yX11_sectionCount ∈ GW := GW_t7 61 rfl rfl
theorem gw_1592 : Cond.selects yX11_sectionCount.cls yX11_sectionCount yX11_sectionCount ∈ GW := GW_t7 62 rfl rfl
theorem cv_L_179 : CV RL 179 yX11_sectionCount cX11_sectionCount 1 (some .int) 0 := ⟨gw_1590, gw_1591, gw_1592, gw_103, gw_1593, by decide +kernel, by decide +kernel⟩
theorem gw_909 : Cond.methodLink "FoldedArchiveLaw" 180 yL_water ∈ GW := GW_t4 99 rfl rfl
theorem gw_910 : Cond.static yL_water ∈ GW := GW_t4 100 rfl rfl
theorem ch_L_180 : CSH RL 180 yL_water cL_water 4 (some .int) [(0, 9, 12, 19)] 3 := ⟨gw_909, gw_910, gw_90, gw_911, by decide +kernel, by decide +kernel⟩
theorem gw_1594 : Cond.methodLink "FoldedArchiveLaw" 183 yX11_water ∈ GW := GW_t7 64 rfl rfl
theorem gw_1595 : Cond.instanceMethod yX11_water ∈ GW := GW_t7 65 rfl rfl
theorem gw_1596 : Cond.selects yX11_water.cls yX11_water yX11_water ∈ GW := GW_t7 66 rfl rfl
theorem cv_L_183 : CV RL 183 yX11_water cX11_water 2 (some .int) 1 := ⟨gw_1594, gw_1595, gw_1596, gw_103, gw_1597, by decide +kernel, by decide +kernel⟩
theorem gw_922 : Cond.methodLink "FoldedArchiveLaw" 184 yL_hasTerm ∈ GW := GW_t4 112 rfl rfl
theorem gw_923 : Cond.static yL_hasTerm ∈ GW := GW_t4 113 rfl rfl
theorem ch_L_184 : CSH RL 184 yL_hasTerm cL_hasTerm 5 (some .int) [(0, 17, 20, 19), (0, 17, 24, 21)] 4 := ⟨gw_922, gw_923, gw_90, gw_924, by decide +kernel, by decide +kernel⟩
theorem gw_1598 : Cond.methodLink "FoldedArchiveLaw" 186 yX11_hasTerm ∈ GW := GW_t7 68 rfl rfl
theorem gw_1599 : Cond.instanceMethod yX11_hasTerm ∈ GW := GW_t7 69 rfl rfl
theorem gw_1600 : Cond.selects yX11_hasTerm.cls yX11_hasTerm yX11_hasTerm ∈ GW := GW_t7 70 rfl rfl
theorem cv_L_186 : CV RL 186 yX11_hasTerm cX11_hasTerm 3 (some .boolean) 2 := ⟨gw_1598, gw_1599, gw_1600, gw_103, gw_1601, by decide +kernel, by decide +kernel⟩
theorem gw_935 : Cond.methodLink "FoldedArchiveLaw" 187 yL_sectionsWith ∈ GW := GW_t4 125 rfl rfl
theorem gw_936 : Cond.static yL_sectionsWith ∈ GW := GW_t4 126 rfl rfl
theorem ch_L_187 : CSH RL 187 yL_sectionsWith cL_sectionsWith 4 (some .int) [(0, 9, 12, 21)] 3 := ⟨gw_935, gw_936, gw_90, gw_937, by decide +kernel, by decide +kernel⟩
theorem gw_1602 : Cond.methodLink "FoldedArchiveLaw" 190 yX11_sectionsWith ∈ GW := GW_t7 72 rfl rfl
theorem gw_1603 : Cond.instanceMethod yX11_sectionsWith ∈ GW := GW_t7 73 rfl rfl
theorem gw_1604 : Cond.selects yX11_sectionsWith.cls yX11_sectionsWith yX11_sectionsWith ∈ GW := GW_t7 74 rfl rfl
theorem cv_L_190 : CV RL 190 yX11_sectionsWith cX11_sectionsWith 4 (some .int) 1 := ⟨gw_1602, gw_1603, gw_1604, gw_103, gw_1605, by decide +kernel, by decide +kernel⟩
theorem gw_948 : Cond.methodLink "FoldedArchiveLaw" 191 yL_sectionByWater ∈ GW := GW_t4 138 rfl rfl
theorem gw_949 : Cond.static yL_sectionByWater ∈ GW := GW_t4 139 rfl rfl
theorem ch_L_191 : CSH RL 191 yL_sectionByWater cL_sectionByWater 4 (some .int) [(0, 9, 12, 45)] 3 := ⟨gw_948, gw_949, gw_90, gw_950, by decide +kernel, by decide +kernel⟩
theorem gw_1606 : Cond.methodLink "FoldedArchiveLaw" 193 yX11_sectionByWater ∈ GW := GW_t7 76 rfl rfl
theorem gw_1607 : Cond.instanceMethod yX11_sectionByWater ∈ GW := GW_t7 77 rfl rfl
theorem gw_1608 : Cond.selects yX11_sectionByWater.cls yX11_sectionByWater yX11_sectionByWater ∈ GW := GW_t7 78 rfl rfl
theorem cv_L_193 : CV RL 193 yX11_sectionByWater cX11_sectionByWater 5 (some .int) 1 := ⟨gw_1606, gw_1607, gw_1608, gw_103, gw_1609, by decide +kernel, by decide +kernel⟩
theorem gw_983 : Cond.methodLink "FoldedArchiveLaw" 194 yL_fold ∈ GW := GW_t4 173 rfl rfl
theorem gw_984 : Cond.static yL_fold ∈ GW := GW_t4 174 rfl rfl
theorem ch_L_194 : CSH RL 194 yL_fold cL_fold 4 (some .int) [(0, 9, 12, 19), (0, 9, 15, 13)] 3 := ⟨gw_983, gw_984, gw_90, gw_985, by decide +kernel, by decide +kernel⟩
theorem gw_1614 : Cond.methodLink "FoldedArchiveLaw" 196 yX11_fold ∈ GW := GW_t7 84 rfl rfl
theorem gw_1615 : Cond.instanceMethod yX11_fold ∈ GW := GW_t7 85 rfl rfl
theorem gw_1616 : Cond.selects yX11_fold.cls yX11_fold yX11_fold ∈ GW := GW_t7 86 rfl rfl
theorem cv_L_196 : CV RL 196 yX11_fold cX11_fold 2 (some .int) 1 := ⟨gw_1614, gw_1615, gw_1616, gw_103, gw_1617, by decide +kernel, by decide +kernel⟩
theorem gw_990 : Cond.methodLink "FoldedArchiveLaw" 197 yL_unfold ∈ GW := GW_t4 180 rfl rfl
theorem gw_991 : Cond.static yL_unfold ∈ GW := GW_t4 181 rfl rfl
theorem ch_L_197 : CSH RL 197 yL_unfold cL_unfold 3 (some .int) [(0, 8, 11, 13)] 2 := ⟨gw_990, gw_991, gw_90, gw_992, by decide +kernel, by decide +kernel⟩
theorem gw_1634 : Cond.methodLink "FoldedArchiveLaw" 199 yX11_unfold ∈ GW := GW_t7 104 rfl rfl
theorem gw_1635 : Cond.instanceMethod yX11_unfold ∈ GW := GW_t7 105 rfl rfl
theorem gw_1636 : Cond.selects yX11_unfold.cls yX11_unfold yX11_unfold ∈ GW := GW_t7 106 rfl rfl
theorem cv_L_199 : CV RL 199 yX11_unfold cX11_unfold 1 (some .int) 0 := ⟨gw_1634, gw_1635, gw_1636, gw_103, gw_1637, by decide +kernel, by decide +kernel⟩
theorem gw_385 : Cond.methodLink "FoldedArchiveLaw" 200 yX10_foldedCount ∈ GW := GW_t2 55 rfl rfl
theorem gw_386 : Cond.instanceMethod yX10_foldedCount ∈ GW := GW_t2 56 rfl rfl
theorem gw_387 : Cond.selects yX10_foldedCount.cls yX10_foldedCount yX10_foldedCount ∈ GW := GW_t2 57 rfl rfl
theorem cv_L_200 : CV RL 200 yX10_foldedCount cX10_foldedCount 1 (some .int) 0 := ⟨gw_385, gw_386, gw_387, gw_91, gw_388, by decide +kernel, by decide +kernel⟩
theorem gw_1646 : Cond.methodLink "FoldedArchiveLaw" 203 yX11_foldedCount ∈ GW := GW_t7 116 rfl rfl
theorem gw_1647 : Cond.instanceMethod yX11_foldedCount ∈ GW := GW_t7 117 rfl rfl
theorem gw_1648 : Cond.selects yX11_foldedCount.cls yX11_foldedCount yX11_foldedCount ∈ GW := GW_t7 118 rfl rfl
theorem cv_L_203 : CV RL 203 yX11_foldedCount cX11_foldedCount 1 (some .int) 0 := ⟨gw_1646, gw_1647, gw_1648, gw_103, gw_1649, by decide +kernel, by decide +kernel⟩
theorem gw_997 : Cond.methodLink "FoldedArchiveLaw" 204 yL_layerOf ∈ GW := GW_t4 187 rfl rfl
theorem gw_998 : Cond.static yL_layerOf ∈ GW := GW_t4 188 rfl rfl
theorem ch_L_204 : CSH RL 204 yL_layerOf cL_layerOf 4 (some .int) [(0, 9, 12, 19), (0, 9, 15, 45)] 3 := ⟨gw_997, gw_998, gw_90, gw_999, by decide +kernel, by decide +kernel⟩
theorem gw_1650 : Cond.methodLink "FoldedArchiveLaw" 206 yX11_layerOf ∈ GW := GW_t7 120 rfl rfl
theorem gw_1651 : Cond.instanceMethod yX11_layerOf ∈ GW := GW_t7 121 rfl rfl
theorem gw_1652 : Cond.selects yX11_layerOf.cls yX11_layerOf yX11_layerOf ∈ GW := GW_t7 122 rfl rfl
theorem cv_L_206 : CV RL 206 yX11_layerOf cX11_layerOf 3 (some .int) 1 := ⟨gw_1650, gw_1651, gw_1652, gw_103, gw_1653, by decide +kernel, by decide +kernel⟩
theorem gw_1005 : Cond.methodLink "FoldedArchiveLaw" 207 yL_sectionIn ∈ GW := GW_t4 195 rfl rfl
theorem gw_1006 : Cond.static yL_sectionIn ∈ GW := GW_t4 196 rfl rfl
theorem ch_L_207 : CSH RL 207 yL_sectionIn cL_sectionIn 4 (some .int) [(0, 9, 12, 19)] 3 := ⟨gw_1005, gw_1006, gw_90, gw_1007, by decide +kernel, by decide +kernel⟩
theorem gw_1654 : Cond.methodLink "FoldedArchiveLaw" 209 yX11_sectionIn ∈ GW := GW_t7 124 rfl rfl
theorem gw_1655 : Cond.instanceMethod yX11_sectionIn ∈ GW := GW_t7 125 rfl rfl
theorem gw_1656 : Cond.selects yX11_sectionIn.cls yX11_sectionIn yX11_sectionIn ∈ GW := GW_t7 126 rfl rfl
theorem cv_L_209 : CV RL 209 yX11_sectionIn cX11_sectionIn 2 (some .int) 1 := ⟨gw_1654, gw_1655, gw_1656, gw_103, gw_1657, by decide +kernel, by decide +kernel⟩
theorem gw_1012 : Cond.methodLink "FoldedArchiveLaw" 210 yL_canFold ∈ GW := GW_t4 202 rfl rfl
theorem gw_1013 : Cond.static yL_canFold ∈ GW := GW_t4 203 rfl rfl
theorem ch_L_210 : CSH RL 210 yL_canFold cL_canFold 4 (some .int) [(0, 16, 19, 19)] 3 := ⟨gw_1012, gw_1013, gw_90, gw_1014, by decide +kernel, by decide +kernel⟩
theorem gw_1658 : Cond.methodLink "FoldedArchiveLaw" 212 yX11_canFold ∈ GW := GW_t7 128 rfl rfl
theorem gw_1659 : Cond.instanceMethod yX11_canFold ∈ GW := GW_t7 129 rfl rfl
theorem gw_1660 : Cond.selects yX11_canFold.cls yX11_canFold yX11_canFold ∈ GW := GW_t7 130 rfl rfl
theorem cv_L_212 : CV RL 212 yX11_canFold cX11_canFold 2 (some .boolean) 1 := ⟨gw_1658, gw_1659, gw_1660, gw_103, gw_1661, by decide +kernel, by decide +kernel⟩
theorem gw_389 : Cond.methodLink "FoldedArchiveLaw" 213 yX10_completions ∈ GW := GW_t2 59 rfl rfl
theorem gw_390 : Cond.instanceMethod yX10_completions ∈ GW := GW_t2 60 rfl rfl
theorem gw_391 : Cond.selects yX10_completions.cls yX10_completions yX10_completions ∈ GW := GW_t2 61 rfl rfl
theorem cv_L_213 : CV RL 213 yX10_completions cX10_completions 1 (some .int) 0 := ⟨gw_389, gw_390, gw_391, gw_91, gw_392, by decide +kernel, by decide +kernel⟩
theorem gw_1662 : Cond.methodLink "FoldedArchiveLaw" 216 yX11_completions ∈ GW := GW_t7 132 rfl rfl
theorem cv_L_216 : CV RL 216 yX11_completions cX11_completions 1 (some .int) 0 := ⟨gw_1662, gw_1663, gw_1664, gw_103, gw_1665, by decide +kernel, by decide +kernel⟩
theorem gw_440 : Cond.methodLink "FoldedArchiveLaw" 217 yX10_completionsByOrders ∈ GW := GW_t2 110 rfl rfl
theorem gw_441 : Cond.instanceMethod yX10_completionsByOrders ∈ GW := GW_t2 111 rfl rfl
theorem gw_442 : Cond.selects yX10_completionsByOrders.cls yX10_completionsByOrders yX10_completionsByOrders ∈ GW := GW_t2 112 rfl rfl
theorem cv_L_217 : CV RL 217 yX10_completionsByOrders cX10_completionsByOrders 1 (some .int) 0 := ⟨gw_440, gw_441, gw_442, gw_91, gw_443, by decide +kernel, by decide +kernel⟩
theorem gw_1670 : Cond.methodLink "FoldedArchiveLaw" 220 yX11_completionsByOrders ∈ GW := GW_t7 140 rfl rfl
theorem gw_1671 : Cond.instanceMethod yX11_completionsByOrders ∈ GW := GW_t7 141 rfl rfl
theorem gw_1672 : Cond.selects yX11_completionsByOrders.cls yX11_completionsByOrders yX11_completionsByOrders ∈ GW := GW_t7 142 rfl rfl
theorem cv_L_220 : CV RL 220 yX11_completionsByOrders cX11_completionsByOrders 1 (some .int) 0 := ⟨gw_1670, gw_1671, gw_1672, gw_103, gw_1673, by decide +kernel, by decide +kernel⟩
theorem gw_1020 : Cond.methodLink "FoldedArchiveLaw" 221 yL_layPipe ∈ GW := GW_t4 210 rfl rfl
theorem gw_1021 : Cond.static yL_layPipe ∈ GW := GW_t4 211 rfl rfl
theorem ch_L_221 : CSH RL 221 yL_layPipe cL_layPipe 6 (some .int) [(0, 12, 15, 19), (0, 12, 19, 21), (0, 12, 23, 13)] 5 := ⟨gw_1020, gw_1021, gw_90, gw_1022, by decide +kernel, by decide +kernel⟩
theorem gw_1675 : Cond.methodLink "FoldedArchiveLaw" 224 yX11_layPipe ∈ GW := GW_t7 145 rfl rfl
theorem gw_1676 : Cond.instanceMethod yX11_layPipe ∈ GW := GW_t7 146 rfl rfl
theorem gw_1677 : Cond.selects yX11_layPipe.cls yX11_layPipe yX11_layPipe ∈ GW := GW_t7 147 rfl rfl
theorem cv_L_224 : CV RL 224 yX11_layPipe cX11_layPipe 4 (some .int) 3 := ⟨gw_1675, gw_1676, gw_1677, gw_103, gw_1678, by decide +kernel, by decide +kernel⟩
theorem gw_1027 : Cond.methodLink "FoldedArchiveLaw" 225 yL_removePipe ∈ GW := GW_t4 217 rfl rfl
theorem gw_1028 : Cond.static yL_removePipe ∈ GW := GW_t4 218 rfl rfl
theorem ch_L_225 : CSH RL 225 yL_removePipe cL_removePipe 4 (some .int) [(0, 9, 12, 19)] 3 := ⟨gw_1027, gw_1028, gw_90, gw_1029, by decide +kernel, by decide +kernel⟩
theorem gw_1683 : Cond.methodLink "FoldedArchiveLaw" 227 yX11_removePipe ∈ GW := GW_t7 153 rfl rfl
theorem gw_1684 : Cond.instanceMethod yX11_removePipe ∈ GW := GW_t7 154 rfl rfl
theorem gw_1685 : Cond.selects yX11_removePipe.cls yX11_removePipe yX11_removePipe ∈ GW := GW_t7 155 rfl rfl
theorem cv_L_227 : CV RL 227 yX11_removePipe cX11_removePipe 2 (some .int) 1 := ⟨gw_1683, gw_1684, gw_1685, gw_103, gw_1686, by decide +kernel, by decide +kernel⟩
theorem gw_1034 : Cond.methodLink "FoldedArchiveLaw" 228 yL_breakPipe ∈ GW := GW_t4 224 rfl rfl
theorem gw_1035 : Cond.static yL_breakPipe ∈ GW := GW_t4 225 rfl rfl
theorem ch_L_228 : CSH RL 228 yL_breakPipe cL_breakPipe 4 (some .int) [(0, 9, 12, 19), (0, 9, 15, 13)] 3 := ⟨gw_1034, gw_1035, gw_90, gw_1036, by decide +kernel, by decide +kernel⟩
theorem gw_1695 : Cond.methodLink "FoldedArchiveLaw" 230 yX11_breakPipe ∈ GW := GW_t7 165 rfl rfl
theorem gw_1696 : Cond.instanceMethod yX11_breakPipe ∈ GW := GW_t7 166 rfl rfl
theorem gw_1697 : Cond.selects yX11_breakPipe.cls yX11_breakPipe yX11_breakPipe ∈ GW := GW_t7 167 rfl rfl
theorem cv_L_230 : CV RL 230 yX11_breakPipe cX11_breakPipe 2 (some .int) 1 := ⟨gw_1695, gw_1696, gw_1697, gw_103, gw_1698, by decide +kernel, by decide +kernel⟩
theorem gw_1041 : Cond.methodLink "FoldedArchiveLaw" 231 yL_mendPipe ∈ GW := GW_t4 231 rfl rfl
theorem gw_1042 : Cond.static yL_mendPipe ∈ GW := GW_t4 232 rfl rfl
theorem ch_L_231 : CSH RL 231 yL_mendPipe cL_mendPipe 4 (some .int) [(0, 9, 12, 19), (0, 9, 15, 13)] 3 := ⟨gw_1041, gw_1042, gw_90, gw_1043, by decide +kernel, by decide +kernel⟩
theorem gw_1711 : Cond.methodLink "FoldedArchiveLaw" 233 yX11_mendPipe ∈ GW := GW_t7 181 rfl rfl
theorem gw_1712 : Cond.instanceMethod yX11_mendPipe ∈ GW := GW_t7 182 rfl rfl
theorem gw_1713 : Cond.selects yX11_mendPipe.cls yX11_mendPipe yX11_mendPipe ∈ GW := GW_t7 183 rfl rfl
theorem cv_L_233 : CV RL 233 yX11_mendPipe cX11_mendPipe 2 (some .int) 1 := ⟨gw_1711, gw_1712, gw_1713, gw_103, gw_1714, by decide +kernel, by decide +kernel⟩
theorem gw_470 : Cond.methodLink "FoldedArchiveLaw" 234 yX10_pipeCount ∈ GW := GW_t2 140 rfl rfl
theorem gw_471 : Cond.instanceMethod yX10_pipeCount ∈ GW := GW_t2 141 rfl rfl
theorem gw_472 : Cond.selects yX10_pipeCount.cls yX10_pipeCount yX10_pipeCount ∈ GW := GW_t2 142 rfl rfl
theorem cv_L_234 : CV RL 234 yX10_pipeCount cX10_pipeCount 1 (some .int) 0 := ⟨gw_470, gw_471, gw_472, gw_91, gw_473, by decide +kernel, by decide +kernel⟩
theorem gw_1715 : Cond.methodLink "FoldedArchiveLaw" 237 yX11_pipeCount ∈ GW := GW_t7 185 rfl rfl
theorem gw_1716 : Cond.instanceMethod yX11_pipeCount ∈ GW := GW_t7 186 rfl rfl
theorem gw_1717 : Cond.selects yX11_pipeCount.cls yX11_pipeCount yX11_pipeCount ∈ GW := GW_t7 187 rfl rfl
theorem cv_L_237 : CV RL 237 yX11_pipeCount cX11_pipeCount 1 (some .int) 0 := ⟨gw_1715, gw_1716, gw_1717, gw_103, gw_1718, by decide +kernel, by decide +kernel⟩
theorem gw_1048 : Cond.methodLink "FoldedArchiveLaw" 238 yL_pipeFrom ∈ GW := GW_t4 238 rfl rfl
theorem gw_1049 : Cond.static yL_pipeFrom ∈ GW := GW_t4 239 rfl rfl
theorem ch_L_238 : CSH RL 238 yL_pipeFrom cL_pipeFrom 4 (some .int) [(0, 9, 12, 19)] 3 := ⟨gw_1048, gw_1049, gw_90, gw_1050, by decide +kernel, by decide +kernel⟩
theorem gw_1719 : Cond.methodLink "FoldedArchiveLaw" 240 yX11_pipeFrom ∈ GW := GW_t7 189 rfl rfl
theorem gw_1720 : Cond.instanceMethod yX11_pipeFrom ∈ GW := GW_t7 190 rfl rfl
theorem gw_1721 : Cond.selects yX11_pipeFrom.cls yX11_pipeFrom yX11_pipeFrom ∈ GW := GW_t7 191 rfl rfl
theorem cv_L_240 : CV RL 240 yX11_pipeFrom cX11_pipeFrom 2 (some .int) 1 := ⟨gw_1719, gw_1720, gw_1721, gw_103, gw_1722, by decide +kernel, by decide +kernel⟩
theorem gw_1061 : Cond.methodLink "FoldedArchiveLaw" 241 yL_pipeTo ∈ GW := GW_t5 11 rfl rfl
theorem gw_1062 : Cond.static yL_pipeTo ∈ GW := GW_t5 12 rfl rfl
theorem ch_L_241 : CSH RL 241 yL_pipeTo cL_pipeTo 4 (some .int) [(0, 9, 12, 19)] 3 := ⟨gw_1061, gw_1062, gw_90, gw_1063, by decide +kernel, by decide +kernel⟩
theorem gw_1727 : Cond.methodLink "FoldedArchiveLaw" 243 yX11_pipeTo ∈ GW := GW_t7 197 rfl rfl
theorem gw_1728 : Cond.instanceMethod yX11_pipeTo ∈ GW := GW_t7 198 rfl rfl
theorem gw_1729 : Cond.selects yX11_pipeTo.cls yX11_pipeTo yX11_pipeTo ∈ GW := GW_t7 199 rfl rfl
theorem cv_L_243 : CV RL 243 yX11_pipeTo cX11_pipeTo 2 (some .int) 1 := ⟨gw_1727, gw_1728, gw_1729, gw_103, gw_1730, by decide +kernel, by decide +kernel⟩
theorem gw_1069 : Cond.methodLink "FoldedArchiveLaw" 244 yL_capacity ∈ GW := GW_t5 19 rfl rfl
theorem gw_1070 : Cond.static yL_capacity ∈ GW := GW_t5 20 rfl rfl
theorem ch_L_244 : CSH RL 244 yL_capacity cL_capacity 4 (some .int) [(0, 9, 12, 19)] 3 := ⟨gw_1069, gw_1070, gw_90, gw_1071, by decide +kernel, by decide +kernel⟩
theorem gw_1731 : Cond.methodLink "FoldedArchiveLaw" 246 yX11_capacity ∈ GW := GW_t7 201 rfl rfl
theorem gw_1732 : Cond.instanceMethod yX11_capacity ∈ GW := GW_t7 202 rfl rfl
theorem gw_1733 : Cond.selects yX11_capacity.cls yX11_capacity yX11_capacity ∈ GW := GW_t7 203 rfl rfl
theorem cv_L_246 : CV RL 246 yX11_capacity cX11_capacity 2 (some .int) 1 := ⟨gw_1731, gw_1732, gw_1733, gw_103, gw_1734, by decide +kernel, by decide +kernel⟩
theorem gw_1077 : Cond.methodLink "FoldedArchiveLaw" 247 yL_isBroken ∈ GW := GW_t5 27 rfl rfl
theorem gw_1078 : Cond.static yL_isBroken ∈ GW := GW_t5 28 rfl rfl
theorem ch_L_247 : CSH RL 247 yL_isBroken cL_isBroken 4 (some .int) [(0, 16, 19, 19)] 3 := ⟨gw_1077, gw_1078, gw_90, gw_1079, by decide +kernel, by decide +kernel⟩
theorem gw_1735 : Cond.methodLink "FoldedArchiveLaw" 249 yX11_isBroken ∈ GW := GW_t7 205 rfl rfl
theorem gw_1736 : Cond.instanceMethod yX11_isBroken ∈ GW := GW_t7 206 rfl rfl
theorem gw_1737 : Cond.selects yX11_isBroken.cls yX11_isBroken yX11_isBroken ∈ GW := GW_t7 207 rfl rfl
theorem cv_L_249 : CV RL 249 yX11_isBroken cX11_isBroken 2 (some .boolean) 1 := ⟨gw_1735, gw_1736, gw_1737, gw_103, gw_1738, by decide +kernel, by decide +kernel⟩
theorem gw_1085 : Cond.methodLink "FoldedArchiveLaw" 250 yL_greatestFlow ∈ GW := GW_t5 35 rfl rfl
theorem gw_1086 : Cond.static yL_greatestFlow ∈ GW := GW_t5 36 rfl rfl
theorem ch_L_250 : CSH RL 250 yL_greatestFlow cL_greatestFlow 3 (some .int) [(0, 8, 11, 13)] 2 := ⟨gw_1085, gw_1086, gw_90, gw_1087, by decide +kernel, by decide +kernel⟩
theorem gw_1739 : Cond.methodLink "FoldedArchiveLaw" 252 yX11_greatestFlow ∈ GW := GW_t7 209 rfl rfl
theorem cv_L_252 : CV RL 252 yX11_greatestFlow cX11_greatestFlow 2 (some .int) 0 := ⟨gw_1739, gw_1740, gw_1741, gw_103, gw_1742, by decide +kernel, by decide +kernel⟩
theorem gw_1094 : Cond.methodLink "FoldedArchiveLaw" 253 yL_smallestCut ∈ GW := GW_t5 44 rfl rfl
theorem gw_1095 : Cond.static yL_smallestCut ∈ GW := GW_t5 45 rfl rfl
theorem ch_L_253 : CSH RL 253 yL_smallestCut cL_smallestCut 3 (some .int) [(0, 8, 11, 13)] 2 := ⟨gw_1094, gw_1095, gw_90, gw_1096, by decide +kernel, by decide +kernel⟩
theorem gw_1747 : Cond.methodLink "FoldedArchiveLaw" 255 yX11_smallestCut ∈ GW := GW_t7 217 rfl rfl
theorem gw_1748 : Cond.instanceMethod yX11_smallestCut ∈ GW := GW_t7 218 rfl rfl
theorem gw_1749 : Cond.selects yX11_smallestCut.cls yX11_smallestCut yX11_smallestCut ∈ GW := GW_t7 219 rfl rfl
theorem cv_L_255 : CV RL 255 yX11_smallestCut cX11_smallestCut 1 (some .int) 0 := ⟨gw_1747, gw_1748, gw_1749, gw_103, gw_1750, by decide +kernel, by decide +kernel⟩
theorem gw_1111 : Cond.methodLink "FoldedArchiveLaw" 256 yL_lossOf ∈ GW := GW_t5 61 rfl rfl
theorem gw_1112 : Cond.static yL_lossOf ∈ GW := GW_t5 62 rfl rfl
theorem ch_L_256 : CSH RL 256 yL_lossOf cL_lossOf 4 (some .int) [(0, 9, 12, 19)] 3 := ⟨gw_1111, gw_1112, gw_90, gw_1113, by decide +kernel, by decide +kernel⟩
theorem gw_1752 : Cond.methodLink "FoldedArchiveLaw" 258 yX11_lossOf ∈ GW := GW_t7 222 rfl rfl
theorem gw_1753 : Cond.instanceMethod yX11_lossOf ∈ GW := GW_t7 223 rfl rfl
theorem gw_1754 : Cond.selects yX11_lossOf.cls yX11_lossOf yX11_lossOf ∈ GW := GW_t7 224 rfl rfl
theorem cv_L_258 : CV RL 258 yX11_lossOf cX11_lossOf 2 (some .int) 1 := ⟨gw_1752, gw_1753, gw_1754, gw_103, gw_1755, by decide +kernel, by decide +kernel⟩
theorem gw_1118 : Cond.methodLink "FoldedArchiveLaw" 259 yL_drain ∈ GW := GW_t5 68 rfl rfl
theorem gw_1119 : Cond.static yL_drain ∈ GW := GW_t5 69 rfl rfl
theorem ch_L_259 : CSH RL 259 yL_drain cL_drain 3 (some .int) [(0, 8, 11, 13)] 2 := ⟨gw_1118, gw_1119, gw_90, gw_1120, by decide +kernel, by decide +kernel⟩
theorem gw_1756 : Cond.methodLink "FoldedArchiveLaw" 261 yX11_drain ∈ GW := GW_t7 226 rfl rfl
theorem gw_1757 : Cond.instanceMethod yX11_drain ∈ GW := GW_t7 227 rfl rfl
theorem gw_1758 : Cond.selects yX11_drain.cls yX11_drain yX11_drain ∈ GW := GW_t7 228 rfl rfl
theorem cv_L_261 : CV RL 261 yX11_drain cX11_drain 1 (some .int) 0 := ⟨gw_1756, gw_1757, gw_1758, gw_103, gw_1759, by decide +kernel, by decide +kernel⟩
theorem gw_1125 : Cond.methodLink "FoldedArchiveLaw" 262 yL_seep ∈ GW := GW_t5 75 rfl rfl
theorem gw_1126 : Cond.static yL_seep ∈ GW := GW_t5 76 rfl rfl
theorem ch_L_262 : CSH RL 262 yL_seep cL_seep 3 (some .int) [(0, 8, 11, 13)] 2 := ⟨gw_1125, gw_1126, gw_90, gw_1127, by decide +kernel, by decide +kernel⟩
theorem gw_1768 : Cond.methodLink "FoldedArchiveLaw" 264 yX11_seep ∈ GW := GW_t7 238 rfl rfl
theorem gw_1769 : Cond.instanceMethod yX11_seep ∈ GW := GW_t7 239 rfl rfl
theorem gw_1770 : Cond.selects yX11_seep.cls yX11_seep yX11_seep ∈ GW := GW_t8 0 rfl rfl
theorem cv_L_264 : CV RL 264 yX11_seep cX11_seep 1 (some .int) 0 := ⟨gw_1768, gw_1769, gw_1770, gw_103, gw_1771, by decide +kernel, by decide +kernel⟩
theorem gw_474 : Cond.methodLink "FoldedArchiveLaw" 265 yX10_totalWater ∈ GW := GW_t2 144 rfl rfl
theorem gw_475 : Cond.instanceMethod yX10_totalWater ∈ GW := GW_t2 145 rfl rfl
theorem gw_476 : Cond.selects yX10_totalWater.cls yX10_totalWater yX10_totalWater ∈ GW := GW_t2 146 rfl rfl
theorem cv_L_265 : CV RL 265 yX10_totalWater cX10_totalWater 1 (some .int) 0 := ⟨gw_474, gw_475, gw_476, gw_91, gw_477, by decide +kernel, by decide +kernel⟩
theorem gw_1776 : Cond.methodLink "FoldedArchiveLaw" 268 yX11_totalWater ∈ GW := GW_t8 6 rfl rfl
theorem cv_L_268 : CV RL 268 yX11_totalWater cX11_totalWater 1 (some .int) 0 := ⟨gw_1776, gw_1777, gw_1778, gw_103, gw_1779, by decide +kernel, by decide +kernel⟩
theorem gw_482 : Cond.methodLink "FoldedArchiveLaw" 269 yX10_totalWaterByAccounts ∈ GW := GW_t2 152 rfl rfl
theorem gw_483 : Cond.instanceMethod yX10_totalWaterByAccounts ∈ GW := GW_t2 153 rfl rfl
theorem gw_484 : Cond.selects yX10_totalWaterByAccounts.cls yX10_totalWaterByAccounts yX10_totalWaterByAccounts ∈ GW := GW_t2 154 rfl rfl
theorem cv_L_269 : CV RL 269 yX10_totalWaterByAccounts cX10_totalWaterByAccounts 1 (some .int) 0 := ⟨gw_482, gw_483, gw_484, gw_91, gw_485, by decide +kernel, by decide +kernel⟩
theorem gw_1784 : Cond.methodLink "FoldedArchiveLaw" 272 yX11_totalWaterByAccounts ∈ GW := GW_t8 14 rfl rfl
theorem gw_1785 : Cond.instanceMethod yX11_totalWaterByAccounts ∈ GW := GW_t8 15 rfl rfl
theorem gw_1786 : Cond.selects yX11_totalWaterByAccounts.cls yX11_totalWaterByAccounts yX11_totalWaterByAccounts ∈ GW := GW_t8 16 rfl rfl
theorem cv_L_272 : CV RL 272 yX11_totalWaterByAccounts cX11_totalWaterByAccounts 1 (some .int) 0 := ⟨gw_1784, gw_1785, gw_1786, gw_103, gw_1787, by decide +kernel, by decide +kernel⟩
theorem gw_486 : Cond.methodLink "FoldedArchiveLaw" 273 yX10_poured ∈ GW := GW_t2 156 rfl rfl
theorem gw_487 : Cond.instanceMethod yX10_poured ∈ GW := GW_t2 157 rfl rfl
theorem gw_488 : Cond.selects yX10_poured.cls yX10_poured yX10_poured ∈ GW := GW_t2 158 rfl rfl
theorem cv_L_273 : CV RL 273 yX10_poured cX10_poured 1 (some .int) 0 := ⟨gw_486, gw_487, gw_488, gw_91, gw_489, by decide +kernel, by decide +kernel⟩
theorem gw_1789 : Cond.methodLink "FoldedArchiveLaw" 276 yX11_poured ∈ GW := GW_t8 19 rfl rfl
theorem gw_1790 : Cond.instanceMethod yX11_poured ∈ GW := GW_t8 20 rfl rfl
theorem gw_1791 : Cond.selects yX11_poured.cls yX11_poured yX11_poured ∈ GW := GW_t8 21 rfl rfl
theorem cv_L_276 : CV RL 276 yX11_poured cX11_poured 1 (some .int) 0 := ⟨gw_1789, gw_1790, gw_1791, gw_103, gw_1792, by decide +kernel, by decide +kernel⟩
theorem gw_490 : Cond.methodLink "FoldedArchiveLaw" 277 yX10_leaked ∈ GW := GW_t2 160 rfl rfl
theorem gw_491 : Cond.instanceMethod yX10_leaked ∈ GW := GW_t2 161 rfl rfl
theorem gw_492 : Cond.selects yX10_leaked.cls yX10_leaked yX10_leaked ∈ GW := GW_t2 162 rfl rfl
theorem cv_L_277 : CV RL 277 yX10_leaked cX10_leaked 1 (some .int) 0 := ⟨gw_490, gw_491, gw_492, gw_91, gw_493, by decide +kernel, by decide +kernel⟩
theorem gw_1793 : Cond.methodLink "FoldedArchiveLaw" 280 yX11_leaked ∈ GW := GW_t8 23 rfl rfl
theorem gw_1794 : Cond.instanceMethod yX11_leaked ∈ GW := GW_t8 24 rfl rfl
theorem gw_1795 : Cond.selects yX11_leaked.cls yX11_leaked yX11_leaked ∈ GW := GW_t8 25 rfl rfl
theorem cv_L_280 : CV RL 280 yX11_leaked cX11_leaked 1 (some .int) 0 := ⟨gw_1793, gw_1794, gw_1795, gw_103, gw_1796, by decide +kernel, by decide +kernel⟩
theorem gw_1132 : Cond.methodLink "FoldedArchiveLaw" 281 yL_meanWater ∈ GW := GW_t5 82 rfl rfl
theorem gw_1133 : Cond.static yL_meanWater ∈ GW := GW_t5 83 rfl rfl
theorem ch_L_281 : CSH RL 281 yL_meanWater cL_meanWater 3 (some .int) [(0, 7, 10, 107)] 2 := ⟨gw_1132, gw_1133, gw_90, gw_1134, by decide +kernel, by decide +kernel⟩
theorem gw_1797 : Cond.methodLink "FoldedArchiveLaw" 284 yX11_meanWater ∈ GW := GW_t8 27 rfl rfl
theorem gw_1798 : Cond.instanceMethod yX11_meanWater ∈ GW := GW_t8 28 rfl rfl
theorem gw_1799 : Cond.selects yX11_meanWater.cls yX11_meanWater yX11_meanWater ∈ GW := GW_t8 29 rfl rfl
theorem cv_L_284 : CV RL 284 yX11_meanWater cX11_meanWater 1 (some .double) 0 := ⟨gw_1797, gw_1798, gw_1799, gw_103, gw_1800, by decide +kernel, by decide +kernel⟩
theorem gw_1158 : Cond.methodLink "FoldedArchiveLaw" 285 yL_leakedShare ∈ GW := GW_t5 108 rfl rfl
theorem gw_1159 : Cond.static yL_leakedShare ∈ GW := GW_t5 109 rfl rfl
theorem ch_L_285 : CSH RL 285 yL_leakedShare cL_leakedShare 3 (some .int) [(0, 8, 11, 107)] 2 := ⟨gw_1158, gw_1159, gw_90, gw_1160, by decide +kernel, by decide +kernel⟩
theorem gw_1801 : Cond.methodLink "FoldedArchiveLaw" 287 yX11_leakedShare ∈ GW := GW_t8 31 rfl rfl
theorem gw_1802 : Cond.instanceMethod yX11_leakedShare ∈ GW := GW_t8 32 rfl rfl
theorem gw_1803 : Cond.selects yX11_leakedShare.cls yX11_leakedShare yX11_leakedShare ∈ GW := GW_t8 33 rfl rfl
theorem cv_L_287 : CV RL 287 yX11_leakedShare cX11_leakedShare 1 (some .float) 0 := ⟨gw_1801, gw_1802, gw_1803, gw_103, gw_1804, by decide +kernel, by decide +kernel⟩
theorem gw_1165 : Cond.methodLink "FoldedArchiveLaw" 288 yL_feed ∈ GW := GW_t5 115 rfl rfl
theorem gw_1166 : Cond.static yL_feed ∈ GW := GW_t5 116 rfl rfl
theorem ch_L_288 : CSH RL 288 yL_feed cL_feed 4 (some .int) [(0, 9, 12, 116)] 3 := ⟨gw_1165, gw_1166, gw_90, gw_1167, by decide +kernel, by decide +kernel⟩
theorem gw_1805 : Cond.methodLink "FoldedArchiveLaw" 290 yX11_feed ∈ GW := GW_t8 35 rfl rfl
theorem gw_1806 : Cond.instanceMethod yX11_feed ∈ GW := GW_t8 36 rfl rfl
theorem gw_1807 : Cond.selects yX11_feed.cls yX11_feed yX11_feed ∈ GW := GW_t8 37 rfl rfl
theorem cv_L_290 : CV RL 290 yX11_feed cX11_feed 2 (some .int) 1 := ⟨gw_1805, gw_1806, gw_1807, gw_103, gw_1808, by decide +kernel, by decide +kernel⟩
theorem gw_494 : Cond.methodLink "FoldedArchiveLaw" 291 yX10_clearText ∈ GW := GW_t2 164 rfl rfl
theorem gw_495 : Cond.instanceMethod yX10_clearText ∈ GW := GW_t2 165 rfl rfl
theorem gw_496 : Cond.selects yX10_clearText.cls yX10_clearText yX10_clearText ∈ GW := GW_t2 166 rfl rfl
theorem cv_L_291 : CV RL 291 yX10_clearText cX10_clearText 2 (some .int) 0 := ⟨gw_494, gw_495, gw_496, gw_91, gw_497, by decide +kernel, by decide +kernel⟩
theorem gw_1809 : Cond.methodLink "FoldedArchiveLaw" 294 yX11_clearText ∈ GW := GW_t8 39 rfl rfl
theorem gw_1810 : Cond.instanceMethod yX11_clearText ∈ GW := GW_t8 40 rfl rfl
theorem gw_1811 : Cond.selects yX11_clearText.cls yX11_clearText yX11_clearText ∈ GW := GW_t8 41 rfl rfl
theorem cv_L_294 : CV RL 294 yX11_clearText cX11_clearText 2 (some .int) 0 := ⟨gw_1809, gw_1810, gw_1811, gw_103, gw_1812, by decide +kernel, by decide +kernel⟩
theorem gw_1193 : Cond.methodLink "FoldedArchiveLaw" 295 yL_search ∈ GW := GW_t5 143 rfl rfl
theorem gw_1194 : Cond.static yL_search ∈ GW := GW_t5 144 rfl rfl
theorem ch_L_295 : CSH RL 295 yL_search cL_search 3 (some .int) [(0, 8, 11, 21)] 2 := ⟨gw_1193, gw_1194, gw_90, gw_1195, by decide +kernel, by decide +kernel⟩
theorem gw_1813 : Cond.methodLink "FoldedArchiveLaw" 297 yX11_search ∈ GW := GW_t8 43 rfl rfl
theorem gw_1814 : Cond.instanceMethod yX11_search ∈ GW := GW_t8 44 rfl rfl
theorem gw_1815 : Cond.selects yX11_search.cls yX11_search yX11_search ∈ GW := GW_t8 45 rfl rfl
theorem cv_L_297 : CV RL 297 yX11_search cX11_search 4 (some .int) 0 := ⟨gw_1813, gw_1814, gw_1815, gw_103, gw_1816, by decide +kernel, by decide +kernel⟩
theorem gw_1241 : Cond.methodLink "FoldedArchiveLaw" 298 yL_matches ∈ GW := GW_t5 191 rfl rfl
theorem gw_1242 : Cond.static yL_matches ∈ GW := GW_t5 192 rfl rfl
theorem ch_L_298 : CSH RL 298 yL_matches cL_matches 4 (some .int) [(0, 16, 19, 19), (0, 16, 22, 21)] 3 := ⟨gw_1241, gw_1242, gw_90, gw_1243, by decide +kernel, by decide +kernel⟩
theorem gw_1849 : Cond.methodLink "FoldedArchiveLaw" 300 yX11_matches ∈ GW := GW_t8 79 rfl rfl
theorem gw_1850 : Cond.instanceMethod yX11_matches ∈ GW := GW_t8 80 rfl rfl
theorem gw_1851 : Cond.selects yX11_matches.cls yX11_matches yX11_matches ∈ GW := GW_t8 81 rfl rfl
theorem cv_L_300 : CV RL 300 yX11_matches cX11_matches 3 (some .boolean) 1 := ⟨gw_1849, gw_1850, gw_1851, gw_103, gw_1852, by decide +kernel, by decide +kernel⟩
theorem gw_1253 : Cond.methodLink "FoldedArchiveLaw" 301 yL_execute ∈ GW := GW_t5 203 rfl rfl
theorem gw_1254 : Cond.static yL_execute ∈ GW := GW_t5 204 rfl rfl
theorem ch_L_301 : CSH RL 301 yL_execute cL_execute 3 (some .int) [(0, 8, 11, 21), (0, 8, 14, 13)] 2 := ⟨gw_1253, gw_1254, gw_90, gw_1255, by decide +kernel, by decide +kernel⟩
theorem gw_1853 : Cond.methodLink "FoldedArchiveLaw" 303 yX11_execute ∈ GW := GW_t8 83 rfl rfl
theorem gw_1854 : Cond.instanceMethod yX11_execute ∈ GW := GW_t8 84 rfl rfl
theorem gw_1855 : Cond.selects yX11_execute.cls yX11_execute yX11_execute ∈ GW := GW_t8 85 rfl rfl
theorem cv_L_303 : CV RL 303 yX11_execute cX11_execute 4 (some .int) 0 := ⟨gw_1853, gw_1854, gw_1855, gw_103, gw_1856, by decide +kernel, by decide +kernel⟩
theorem gw_1375 : Cond.methodLink "FoldedArchiveLaw" 304 yL_faultPosition ∈ GW := GW_t6 85 rfl rfl
theorem gw_1376 : Cond.static yL_faultPosition ∈ GW := GW_t6 86 rfl rfl
theorem ch_L_304 : CSH RL 304 yL_faultPosition cL_faultPosition 3 (some .int) [(0, 8, 11, 45)] 2 := ⟨gw_1375, gw_1376, gw_90, gw_1377, by decide +kernel, by decide +kernel⟩
theorem gw_1893 : Cond.methodLink "FoldedArchiveLaw" 306 yX11_faultPosition ∈ GW := GW_t8 123 rfl rfl
theorem gw_1894 : Cond.instanceMethod yX11_faultPosition ∈ GW := GW_t8 124 rfl rfl
theorem gw_1895 : Cond.selects yX11_faultPosition.cls yX11_faultPosition yX11_faultPosition ∈ GW := GW_t8 125 rfl rfl
theorem cv_L_306 : CV RL 306 yX11_faultPosition cX11_faultPosition 1 (some .int) 0 := ⟨gw_1893, gw_1894, gw_1895, gw_103, gw_1896, by decide +kernel, by decide +kernel⟩
theorem gw_1382 : Cond.methodLink "FoldedArchiveLaw" 307 yL_writeSection ∈ GW := GW_t6 92 rfl rfl
theorem gw_1383 : Cond.static yL_writeSection ∈ GW := GW_t6 93 rfl rfl
theorem ch_L_307 : CSH RL 307 yL_writeSection cL_writeSection 4 (some .int) [(0, 9, 12, 19)] 3 := ⟨gw_1382, gw_1383, gw_90, gw_1384, by decide +kernel, by decide +kernel⟩
theorem gw_1897 : Cond.methodLink "FoldedArchiveLaw" 309 yX11_writeSection ∈ GW := GW_t8 127 rfl rfl
theorem gw_1898 : Cond.instanceMethod yX11_writeSection ∈ GW := GW_t8 128 rfl rfl
theorem gw_1899 : Cond.selects yX11_writeSection.cls yX11_writeSection yX11_writeSection ∈ GW := GW_t8 129 rfl rfl
theorem cv_L_309 : CV RL 309 yX11_writeSection cX11_writeSection 4 (some .int) 1 := ⟨gw_1897, gw_1898, gw_1899, gw_103, gw_1900, by decide +kernel, by decide +kernel⟩
theorem gw_502 : Cond.methodLink "FoldedArchiveLaw" 310 yX10_writePile ∈ GW := GW_t2 172 rfl rfl
theorem gw_503 : Cond.instanceMethod yX10_writePile ∈ GW := GW_t2 173 rfl rfl
theorem gw_504 : Cond.selects yX10_writePile.cls yX10_writePile yX10_writePile ∈ GW := GW_t2 174 rfl rfl
theorem cv_L_310 : CV RL 310 yX10_writePile cX10_writePile 2 (some .int) 0 := ⟨gw_502, gw_503, gw_504, gw_91, gw_505, by decide +kernel, by decide +kernel⟩
theorem gw_1905 : Cond.methodLink "FoldedArchiveLaw" 313 yX11_writePile ∈ GW := GW_t8 135 rfl rfl
theorem gw_1906 : Cond.instanceMethod yX11_writePile ∈ GW := GW_t8 136 rfl rfl
theorem gw_1907 : Cond.selects yX11_writePile.cls yX11_writePile yX11_writePile ∈ GW := GW_t8 137 rfl rfl
theorem cv_L_313 : CV RL 313 yX11_writePile cX11_writePile 2 (some .int) 0 := ⟨gw_1905, gw_1906, gw_1907, gw_103, gw_1908, by decide +kernel, by decide +kernel⟩
theorem gw_1389 : Cond.methodLink "FoldedArchiveLaw" 314 yL_lineCharacter ∈ GW := GW_t6 99 rfl rfl
theorem gw_1390 : Cond.static yL_lineCharacter ∈ GW := GW_t6 100 rfl rfl
theorem ch_L_314 : CSH RL 314 yL_lineCharacter cL_lineCharacter 4 (some .int) [(0, 9, 12, 19)] 3 := ⟨gw_1389, gw_1390, gw_90, gw_1391, by decide +kernel, by decide +kernel⟩
theorem gw_1909 : Cond.methodLink "FoldedArchiveLaw" 316 yX11_lineCharacter ∈ GW := GW_t8 139 rfl rfl
theorem gw_1910 : Cond.instanceMethod yX11_lineCharacter ∈ GW := GW_t8 140 rfl rfl
theorem gw_1911 : Cond.selects yX11_lineCharacter.cls yX11_lineCharacter yX11_lineCharacter ∈ GW := GW_t8 141 rfl rfl
theorem cv_L_316 : CV RL 316 yX11_lineCharacter cX11_lineCharacter 2 (some .char) 1 := ⟨gw_1909, gw_1910, gw_1911, gw_103, gw_1912, by decide +kernel, by decide +kernel⟩
theorem gw_1397 : Cond.methodLink "FoldedArchiveLaw" 317 yL_denial ∈ GW := GW_t6 107 rfl rfl
theorem gw_1398 : Cond.static yL_denial ∈ GW := GW_t6 108 rfl rfl
theorem ch_L_317 : CSH RL 317 yL_denial cL_denial 3 (some .int) [(0, 8, 11, 45)] 2 := ⟨gw_1397, gw_1398, gw_90, gw_1399, by decide +kernel, by decide +kernel⟩
theorem gw_1913 : Cond.methodLink "FoldedArchiveLaw" 319 yX11_denial ∈ GW := GW_t8 143 rfl rfl
theorem gw_1914 : Cond.instanceMethod yX11_denial ∈ GW := GW_t8 144 rfl rfl
theorem gw_1915 : Cond.selects yX11_denial.cls yX11_denial yX11_denial ∈ GW := GW_t8 145 rfl rfl
theorem cv_L_319 : CV RL 319 yX11_denial cX11_denial 1 (some .int) 0 := ⟨gw_1913, gw_1914, gw_1915, gw_103, gw_1916, by decide +kernel, by decide +kernel⟩
theorem gw_1404 : Cond.methodLink "FoldedArchiveLaw" 320 yL_denialDetail ∈ GW := GW_t6 114 rfl rfl
theorem gw_1405 : Cond.static yL_denialDetail ∈ GW := GW_t6 115 rfl rfl
theorem ch_L_320 : CSH RL 320 yL_denialDetail cL_denialDetail 3 (some .int) [(0, 8, 11, 45)] 2 := ⟨gw_1404, gw_1405, gw_90, gw_1406, by decide +kernel, by decide +kernel⟩
theorem gw_1917 : Cond.methodLink "FoldedArchiveLaw" 322 yX11_denialDetail ∈ GW := GW_t8 147 rfl rfl
theorem gw_1918 : Cond.instanceMethod yX11_denialDetail ∈ GW := GW_t8 148 rfl rfl
theorem gw_1919 : Cond.selects yX11_denialDetail.cls yX11_denialDetail yX11_denialDetail ∈ GW := GW_t8 149 rfl rfl
theorem cv_L_322 : CV RL 322 yX11_denialDetail cX11_denialDetail 1 (some .int) 0 := ⟨gw_1917, gw_1918, gw_1919, gw_103, gw_1920, by decide +kernel, by decide +kernel⟩
theorem gw_1411 : Cond.methodLink "FoldedArchiveLaw" 323 yL_denialCause ∈ GW := GW_t6 121 rfl rfl
theorem gw_1412 : Cond.static yL_denialCause ∈ GW := GW_t6 122 rfl rfl
theorem ch_L_323 : CSH RL 323 yL_denialCause cL_denialCause 3 (some .int) [(0, 8, 11, 45)] 2 := ⟨gw_1411, gw_1412, gw_90, gw_1413, by decide +kernel, by decide +kernel⟩
theorem gw_1921 : Cond.methodLink "FoldedArchiveLaw" 325 yX11_denialCause ∈ GW := GW_t8 151 rfl rfl
theorem gw_1922 : Cond.instanceMethod yX11_denialCause ∈ GW := GW_t8 152 rfl rfl
theorem gw_1923 : Cond.selects yX11_denialCause.cls yX11_denialCause yX11_denialCause ∈ GW := GW_t8 153 rfl rfl
theorem cv_L_325 : CV RL 325 yX11_denialCause cX11_denialCause 1 (some .int) 0 := ⟨gw_1921, gw_1922, gw_1923, gw_103, gw_1924, by decide +kernel, by decide +kernel⟩
theorem gw_1418 : Cond.methodLink "FoldedArchiveLaw" 326 yL_undo ∈ GW := GW_t6 128 rfl rfl
theorem gw_1419 : Cond.static yL_undo ∈ GW := GW_t6 129 rfl rfl
theorem ch_L_326 : CSH RL 326 yL_undo cL_undo 3 (some .int) [(0, 8, 11, 116)] 2 := ⟨gw_1418, gw_1419, gw_90, gw_1420, by decide +kernel, by decide +kernel⟩
theorem gw_1925 : Cond.methodLink "FoldedArchiveLaw" 328 yX11_undo ∈ GW := GW_t8 155 rfl rfl
theorem gw_1926 : Cond.instanceMethod yX11_undo ∈ GW := GW_t8 156 rfl rfl
theorem gw_1927 : Cond.selects yX11_undo.cls yX11_undo yX11_undo ∈ GW := GW_t8 157 rfl rfl
theorem cv_L_328 : CV RL 328 yX11_undo cX11_undo 2 (some .int) 0 := ⟨gw_1925, gw_1926, gw_1927, gw_103, gw_1928, by decide +kernel, by decide +kernel⟩
theorem gw_518 : Cond.methodLink "FoldedArchiveLaw" 329 yX10_undoCount ∈ GW := GW_t2 188 rfl rfl
theorem gw_519 : Cond.instanceMethod yX10_undoCount ∈ GW := GW_t2 189 rfl rfl
theorem gw_520 : Cond.selects yX10_undoCount.cls yX10_undoCount yX10_undoCount ∈ GW := GW_t2 190 rfl rfl
theorem cv_L_329 : CV RL 329 yX10_undoCount cX10_undoCount 1 (some .int) 0 := ⟨gw_518, gw_519, gw_520, gw_91, gw_521, by decide +kernel, by decide +kernel⟩
theorem gw_1929 : Cond.methodLink "FoldedArchiveLaw" 332 yX11_undoCount ∈ GW := GW_t8 159 rfl rfl
theorem gw_1930 : Cond.instanceMethod yX11_undoCount ∈ GW := GW_t8 160 rfl rfl
theorem gw_1931 : Cond.selects yX11_undoCount.cls yX11_undoCount yX11_undoCount ∈ GW := GW_t8 161 rfl rfl
theorem cv_L_332 : CV RL 332 yX11_undoCount cX11_undoCount 1 (some .int) 0 := ⟨gw_1929, gw_1930, gw_1931, gw_103, gw_1932, by decide +kernel, by decide +kernel⟩
theorem gw_522 : Cond.methodLink "FoldedArchiveLaw" 333 yX10_saveSnapshot ∈ GW := GW_t2 192 rfl rfl
theorem gw_523 : Cond.instanceMethod yX10_saveSnapshot ∈ GW := GW_t2 193 rfl rfl
theorem gw_524 : Cond.selects yX10_saveSnapshot.cls yX10_saveSnapshot yX10_saveSnapshot ∈ GW := GW_t2 194 rfl rfl
theorem cv_L_333 : CV RL 333 yX10_saveSnapshot cX10_saveSnapshot 1 (some .int) 0 := ⟨gw_522, gw_523, gw_524, gw_91, gw_525, by decide +kernel, by decide +kernel⟩
theorem gw_1933 : Cond.methodLink "FoldedArchiveLaw" 336 yX11_saveSnapshot ∈ GW := GW_t8 163 rfl rfl
theorem gw_1934 : Cond.instanceMethod yX11_saveSnapshot ∈ GW := GW_t8 164 rfl rfl
theorem gw_1935 : Cond.selects yX11_saveSnapshot.cls yX11_saveSnapshot yX11_saveSnapshot ∈ GW := GW_t8 165 rfl rfl
theorem cv_L_336 : CV RL 336 yX11_saveSnapshot cX11_saveSnapshot 2 (some .int) 0 := ⟨gw_1933, gw_1934, gw_1935, gw_103, gw_1936, by decide +kernel, by decide +kernel⟩
theorem gw_1429 : Cond.methodLink "FoldedArchiveLaw" 337 yL_restoreSnapshot ∈ GW := GW_t6 139 rfl rfl
theorem gw_1430 : Cond.static yL_restoreSnapshot ∈ GW := GW_t6 140 rfl rfl
theorem ch_L_337 : CSH RL 337 yL_restoreSnapshot cL_restoreSnapshot 3 (some .int) [(0, 8, 11, 116)] 2 := ⟨gw_1429, gw_1430, gw_90, gw_1431, by decide +kernel, by decide +kernel⟩
theorem gw_1937 : Cond.methodLink "FoldedArchiveLaw" 339 yX11_restoreSnapshot ∈ GW := GW_t8 167 rfl rfl
theorem gw_1938 : Cond.instanceMethod yX11_restoreSnapshot ∈ GW := GW_t8 168 rfl rfl
theorem gw_1939 : Cond.selects yX11_restoreSnapshot.cls yX11_restoreSnapshot yX11_restoreSnapshot ∈ GW := GW_t8 169 rfl rfl
theorem cv_L_339 : CV RL 339 yX11_restoreSnapshot cX11_restoreSnapshot 2 (some .int) 0 := ⟨gw_1937, gw_1938, gw_1939, gw_103, gw_1940, by decide +kernel, by decide +kernel⟩
theorem gw_1295 : Cond.fieldLink "java/lang/String" 38 "java/lang/String" "COMPACT_STRINGS" "Z" ∈ GW := GW_t6 5 rfl rfl
theorem gw_1967 : Cond.fieldLink "java/lang/String" 15 "java/lang/String" "coder" "B" ∈ GW := GW_t8 197 rfl rfl
theorem gw_1966 : Cond.fieldLink "java/lang/String" 9 "java/lang/String" "value" "[B" ∈ GW := GW_t8 196 rfl rfl
theorem gw_1311 : Cond.fieldLink "java/lang/String" 1053 "jdk/internal/util/Preconditions" "SIOOBE_FORMATTER" "Ljava/util/function/BiFunction;" ∈ GW := GW_t6 21 rfl rfl
theorem gw_1291 : Cond.methodLink "java/lang/String" 335 yJ0_coder_7d493 ∈ GW := GW_t6 1 rfl rfl
theorem gw_1292 : Cond.instanceMethod yJ0_coder_7d493 ∈ GW := GW_t6 2 rfl rfl
theorem gw_1293 : Cond.selects yJ0_coder_7d493.cls yJ0_coder_7d493 yJ0_coder_7d493 ∈ GW := GW_t6 3 rfl rfl
theorem gw_1294 : Cond.code yJ0_coder_7d493 cJ0_coder_7d493 1 (some .byte) ∈ GW := GW_t6 4 rfl rfl
theorem cv_J0_335 : CV RJ0 335 yJ0_coder_7d493 cJ0_coder_7d493 1 (some .byte) 0 := ⟨gw_1291, gw_1292, gw_1293, gw_113, gw_1294, by decide +kernel, by decide +kernel⟩
theorem gw_1313 : Cond.methodLink "java/lang/String" 1059 yJ3_checkIndex_8e157 ∈ GW := GW_t6 23 rfl rfl
theorem gw_1314 : Cond.static yJ3_checkIndex_8e157 ∈ GW := GW_t6 24 rfl rfl
theorem gw_118 : Cond.initialized "jdk/internal/util/Preconditions" ∈ GW := GW_t1 28 rfl rfl
theorem gw_1315 : Cond.code yJ3_checkIndex_8e157 cJ3_checkIndex_8e157 3 (some .int) ∈ GW := GW_t6 25 rfl rfl
theorem cs_J0_1059 : CS RJ0 1059 yJ3_checkIndex_8e157 cJ3_checkIndex_8e157 3 (some .int) 3 := ⟨gw_1313, gw_1314, gw_118, gw_1315, by decide +kernel, by decide +kernel⟩
theorem gw_1308 : Cond.methodLink "java/lang/StringLatin1" 9 yJ0_checkIndex_df160 ∈ GW := GW_t6 18 rfl rfl
theorem gw_1309 : Cond.static yJ0_checkIndex_df160 ∈ GW := GW_t6 19 rfl rfl
theorem gw_1310 : Cond.code yJ0_checkIndex_df160 cJ0_checkIndex_df160 2 none ∈ GW := GW_t6 20 rfl rfl
theorem cs_J1_9 : CS RJ1 9 yJ0_checkIndex_df160 cJ0_checkIndex_df160 2 none 2 := ⟨gw_1308, gw_1309, gw_113, gw_1310, by decide +kernel, by decide +kernel⟩
theorem gw_1301 : Cond.methodLink "java/lang/String" 492 yJ0_isLatin1_aae02 ∈ GW := GW_t6 11 rfl rfl
theorem gw_1302 : Cond.instanceMethod yJ0_isLatin1_aae02 ∈ GW := GW_t6 12 rfl rfl
theorem gw_1303 : Cond.selects yJ0_isLatin1_aae02.cls yJ0_isLatin1_aae02 yJ0_isLatin1_aae02 ∈ GW := GW_t6 13 rfl rfl
theorem gw_1304 : Cond.code yJ0_isLatin1_aae02 cJ0_isLatin1_aae02 1 (some .boolean) ∈ GW := GW_t6 14 rfl rfl
theorem cv_J0_492 : CV RJ0 492 yJ0_isLatin1_aae02 cJ0_isLatin1_aae02 1 (some .boolean) 0 := ⟨gw_1301, gw_1302, gw_1303, gw_113, gw_1304, by decide +kernel, by decide +kernel⟩
theorem gw_1305 : Cond.methodLink "java/lang/String" 495 yJ1_charAt_3b067 ∈ GW := GW_t6 15 rfl rfl
theorem gw_1306 : Cond.static yJ1_charAt_3b067 ∈ GW := GW_t6 16 rfl rfl
theorem gw_117 : Cond.initialized "java/lang/StringLatin1" ∈ GW := GW_t1 27 rfl rfl
theorem gw_1307 : Cond.code yJ1_charAt_3b067 cJ1_charAt_3b067 2 (some .char) ∈ GW := GW_t6 17 rfl rfl
theorem cs_J0_495 : CS RJ0 495 yJ1_charAt_3b067 cJ1_charAt_3b067 2 (some .char) 2 := ⟨gw_1305, gw_1306, gw_117, gw_1307, by decide +kernel, by decide +kernel⟩
theorem stOK_is {t : Nat} (h : stOK t) : isX8 t := by
  rcases h with h | h | h | h | h | h | h | h <;> subst h
  · exact is8_36
  · exact is8_47
  · exact is8_58
  · exact is8_69
  · exact is8_80
  · exact is8_91
  · exact is8_102
  · exact is8_113
