/-! words of the tables, by their places; what they say of fields and calls; shapes by number -/
def exN : List String := ["java/lang/RuntimeException", "java/lang/Exception"]
theorem exN_ok : ∀ n ∈ exN, Bundle.fit n = true := by decide
theorem GW_all (ws : List Cond) (h : ws.all (fun w => (decide (w ∈ lw_tbl) && goodWord w) || decide (w ∈ NGW)) = true) : ∀ w ∈ ws, w ∈ GW ∨ w ∈ NGW := fun w hw => by
  have h2 := List.all_eq_true.mp h w hw
  simp only [Bool.or_eq_true, Bool.and_eq_true, decide_eq_true_eq] at h2
  rcases h2 with h2 | h2
  · exact Or.inl (List.mem_filter.mpr ⟨List.mem_append_left _ h2.1, h2.2⟩)
  · exact Or.inr h2
theorem GW_s1 {w : Cond} (h : w ∈ lw_tbl) (hg : goodWord w = true) : w ∈ GW := List.mem_filter.mpr ⟨List.mem_append_left _ h, hg⟩
theorem GW_t1 (i : Nat) {w : Cond} (h : tables_1_1[i]? = some w) (hg : goodWord w = true) : w ∈ GW := GW_s1 (List.mem_append_right _ (List.mem_append_left _ (List.mem_of_getElem? h))) hg
theorem GW_t2 (i : Nat) {w : Cond} (h : tables_1_2[i]? = some w) (hg : goodWord w = true) : w ∈ GW := GW_s1 (List.mem_append_right _ (List.mem_append_right _ (List.mem_append_left _ (List.mem_of_getElem? h)))) hg
theorem GW_t3 (i : Nat) {w : Cond} (h : tables_1_3[i]? = some w) (hg : goodWord w = true) : w ∈ GW := GW_s1 (List.mem_append_right _ (List.mem_append_right _ (List.mem_append_right _ (List.mem_append_left _ (List.mem_of_getElem? h))))) hg
theorem GW_t4 (i : Nat) {w : Cond} (h : tables_1_4[i]? = some w) (hg : goodWord w = true) : w ∈ GW := GW_s1 (List.mem_append_right _ (List.mem_append_right _ (List.mem_append_right _ (List.mem_append_right _ (List.mem_append_left _ (List.mem_of_getElem? h)))))) hg
theorem GW_t5 (i : Nat) {w : Cond} (h : tables_1_5[i]? = some w) (hg : goodWord w = true) : w ∈ GW := GW_s1 (List.mem_append_right _ (List.mem_append_right _ (List.mem_append_right _ (List.mem_append_right _ (List.mem_append_right _ (List.mem_append_left _ (List.mem_of_getElem? h))))))) hg
theorem GW_t6 (i : Nat) {w : Cond} (h : tables_1_6[i]? = some w) (hg : goodWord w = true) : w ∈ GW := GW_s1 (List.mem_append_right _ (List.mem_append_right _ (List.mem_append_right _ (List.mem_append_right _ (List.mem_append_right _ (List.mem_append_right _ (List.mem_append_left _ (List.mem_of_getElem? h)))))))) hg
theorem GW_t7 (i : Nat) {w : Cond} (h : tables_1_7[i]? = some w) (hg : goodWord w = true) : w ∈ GW := GW_s1 (List.mem_append_right _ (List.mem_append_right _ (List.mem_append_right _ (List.mem_append_right _ (List.mem_append_right _ (List.mem_append_right _ (List.mem_append_right _ (List.mem_of_getElem? h)))))))) hg
theorem GW_pr (i : Nat) {q : MethodName × Nat} (h : lw_privs[i]? = some q) : Cond.selects q.1.cls q.1 q.1 ∈ GW := GW_s1 (List.mem_append_left _ (List.mem_map.mpr ⟨q, List.mem_of_getElem? h, rfl⟩)) rfl
def rowN (k : Nat) : Nat := (TT.getD (k + 1) (0, 0, [])).2.1
def isX9 (k : Nat) : Prop := TT[k]? = some (0, 9, [none, none, none, some (k + 1), some (k + 2)]) ∧ TT[k + 1]? = some (1, 7, []) ∧ TT[k + 2]? = some (1, 7, [])
def isX4 (k : Nat) : Prop := TT[k]? = some (0, 4, [none, some (k + 1)]) ∧ TT[k + 1]? = some (1, 7, [])
def isX5 (k : Nat) : Prop := TT[k]? = some (0, 5, [none, some (k + 1), some (k + 2), some (k + 3), some (k + 4)]) ∧ TT[k + 1]? = some (1, 10, []) ∧ TT[k + 2]? = some (1, 10, []) ∧ TT[k + 3]? = some (1, 10, []) ∧ TT[k + 4]? = some (2, 10, [])
def isX6 (k : Nat) : Prop := TT[k]? = some (0, 6, [some (k + 1), none]) ∧ TT[k + 1]? = some (3, rowN k, [])
def isX8 (k : Nat) : Prop := TT[k]? = some (0, 8, [some (k + 1), some (k + 4), some (k + 6)]) ∧ isX9 (k + 1) ∧ isX4 (k + 4) ∧ isX5 (k + 6)
theorem CR_t1 (n a b : Nat) : exN.length + 3 < (rmL n a b).frames := by show 2 + 3 < 16 + n; omega
theorem CR_t2 {rest : List Value} (h : (rest.map fun v => v.category).sum ≤ 8) (n a b : Nat) : (rest.map fun v => v.category).sum + (13 * (exN.length + 1) + 42) ≤ (rmL n a b).locals := by show _ + (13 * (2 + 1) + 42) ≤ 200 + 64 * n; omega
theorem CR_f1 (n a b : Nat) : 1 ≤ (rmL n a b).frames := by show 1 ≤ 16 + n; omega
theorem CR_f2 {rest : List Value} (h : (rest.map fun v => v.category).sum ≤ 8) (n a b : Nat) : (rest.map fun v => v.category).sum + 13 ≤ (rmL n a b).locals := by show _ + 13 ≤ 200 + 64 * n; omega
theorem CR_f3 {rest : List Value} (h : (rest.map fun v => v.category).sum ≤ 8) (n a b : Nat) : (rest.map fun v => v.category).sum + (nativeFrameWords "java/lang/System" "arraycopy" 5 + 11) ≤ (rmL n a b).locals := by
  have : nativeFrameWords "java/lang/System" "arraycopy" 5 ≤ 100 := by decide
  show _ + (nativeFrameWords "java/lang/System" "arraycopy" 5 + 11) ≤ 200 + 64 * n
  omega
abbrev okF64 (x : UInt64) : Prop := (x &&& 9223372036854775807 ≤ 9218868437227405312)
abbrev okF32 (x : UInt32) : Prop := (x &&& 2147483647 ≤ 2139095040)
theorem okF64_ok {x : UInt64} (h : okF64 x) : vf_n64 x := by simpa [vf_n64] using h
theorem okF32_ok {x : UInt32} (h : okF32 x) : vf_n32 x := by simpa [vf_n32] using h
theorem nar_ok {x : Int32} (h : vp_nar .boolean x = x) : narrow .boolean (.int x) = .int x := congrArg Value.int h
theorem narB_ok {x : Int32} (h : vp_nar .boolean x = x) : narrow .boolean (.int x) = .int x := congrArg Value.int h
theorem narC_ok {x : Int32} (h : vp_nar .char x = x) : narrow .char (.int x) = .int x := congrArg Value.int h
theorem aald8 {i : Int32} (h : inB i 8) : [some 36, some 47, some 58, some 69, some 80, some 91, some 102, some 113].getD i.toNatClampNeg none = some (36 + 11 * i.toNatClampNeg) := by
  have h8 : i.toNatClampNeg < 8 := by
    rcases Nat.lt_or_ge i.toNatClampNeg 8 with q | q
    · exact q
    · exact absurd (Or.inr q) h
  generalize i.toNatClampNeg = j at h8
  match j, h8 with
  | 0, _ => rfl
  | 1, _ => rfl
  | 2, _ => rfl
  | 3, _ => rfl
  | 4, _ => rfl
  | 5, _ => rfl
  | 6, _ => rfl
  | 7, _ => rfl
abbrev stOK (t : Nat) : Prop := t = 36 ∨ t = 47 ∨ t = 58 ∨ t = 69 ∨ t = 80 ∨ t = 91 ∨ t = 102 ∨ t = 113
theorem gw_274 : Cond.fieldLink "FoldedArchive$CommandReader" 18 "FoldedArchive$CommandReader" "count" "I" ∈ GW := GW_t1 230 rfl rfl
theorem gw_280 : Cond.laysFinal "FoldedArchive$CommandReader" "FoldedArchive$CommandReader" "kinds" "[I" ∈ GW := GW_t1 236 rfl rfl
theorem gw_282 : Cond.laysFinal "FoldedArchive$CommandReader" "FoldedArchive$CommandReader" "operands" "[I" ∈ GW := GW_t1 238 rfl rfl
theorem gw_284 : Cond.lays "FoldedArchive$CommandReader" "FoldedArchive$CommandReader" "count" "I" ∈ GW := GW_t2 0 rfl rfl
theorem gw_286 : Cond.lays "FoldedArchive$CommandReader" "FoldedArchive$CommandReader" "fault" "I" ∈ GW := GW_t2 2 rfl rfl
theorem gw_288 : Cond.lays "FoldedArchive$CommandReader" "FoldedArchive$CommandReader" "position" "I" ∈ GW := GW_t2 4 rfl rfl
theorem gw_290 : Cond.lays "FoldedArchive$CommandReader" "FoldedArchive$CommandReader" "operandsRead" "I" ∈ GW := GW_t2 6 rfl rfl
theorem inG_X0 : ∀ w ∈ u_ws RX0 TX0 6, w ∈ GW := by
  have e : u_ws RX0 TX0 6 = [u_lay RX0 TX0 0, u_lay RX0 TX0 1, u_lay RX0 TX0 2, u_lay RX0 TX0 3, u_lay RX0 TX0 4, u_lay RX0 TX0 5] := rfl
  rw [e]
  exact List.forall_mem_cons.mpr ⟨gw_280, List.forall_mem_cons.mpr ⟨gw_282, List.forall_mem_cons.mpr ⟨gw_284, List.forall_mem_cons.mpr ⟨gw_286, List.forall_mem_cons.mpr ⟨gw_288, List.forall_mem_cons.mpr ⟨gw_290, fun _ h => absurd h List.not_mem_nil⟩⟩⟩⟩⟩⟩
theorem fl_X0_18 : FL RX0 18 0 2 "I" false := ⟨RX0, TX0, 6, tyX0, rfl, inG_X0, by decide, gw_274, tyX0_ok, nmX0, rfl, rfl⟩
theorem tt_138 : TT[138]? = some (0, 0, [some 139, some 140, none, none, none, none]) := by decide +kernel
theorem gw_272 : Cond.fieldLink "FoldedArchive$CommandReader" 9 "FoldedArchive$CommandReader" "kinds" "[I" ∈ GW := GW_t1 228 rfl rfl
theorem fl_X0_9 : FL RX0 9 0 0 "[I" true := ⟨RX0, TX0, 6, tyX0, rfl, inG_X0, by decide, gw_272, tyX0_ok, nmX0, rfl, rfl⟩
theorem tt_139 : TT[139]? = some (1, 60, []) := by decide +kernel
theorem gw_1345 : Cond.code yX0_kindOf cX0_kindOf 2 (some .int) ∈ GW := GW_t6 101 rfl rfl
theorem gw_273 : Cond.fieldLink "FoldedArchive$CommandReader" 15 "FoldedArchive$CommandReader" "operands" "[I" ∈ GW := GW_t1 229 rfl rfl
theorem fl_X0_15 : FL RX0 15 0 1 "[I" true := ⟨RX0, TX0, 6, tyX0, rfl, inG_X0, by decide, gw_273, tyX0_ok, nmX0, rfl, rfl⟩
theorem tt_140 : TT[140]? = some (1, 180, []) := by decide +kernel
theorem gw_1349 : Cond.code yX0_operandOf cX0_operandOf 4 (some .int) ∈ GW := GW_t6 105 rfl rfl
theorem gw_1282 : Cond.code yX0_shapeOf cX0_shapeOf 1 (some (.object "java/lang/String")) ∈ GW := GW_t6 38 rfl rfl
theorem gw_236 : Cond.fieldLink "FoldedArchive$Row" 21 "FoldedArchive$Row" "length" "I" ∈ GW := GW_t1 192 rfl rfl
theorem gw_240 : Cond.laysFinal "FoldedArchive$Row" "FoldedArchive$Row" "signs" "[C" ∈ GW := GW_t1 196 rfl rfl
theorem gw_242 : Cond.lays "FoldedArchive$Row" "FoldedArchive$Row" "length" "I" ∈ GW := GW_t1 198 rfl rfl
theorem inG_X6 : ∀ w ∈ u_ws RX6 TX6 2, w ∈ GW := by
  have e : u_ws RX6 TX6 2 = [u_lay RX6 TX6 0, u_lay RX6 TX6 1] := rfl
  rw [e]
  exact List.forall_mem_cons.mpr ⟨gw_240, List.forall_mem_cons.mpr ⟨gw_242, fun _ h => absurd h List.not_mem_nil⟩⟩
theorem fl_X6_21 : FL RX6 21 6 1 "I" false := ⟨RX6, TX6, 2, tyX6, rfl, inG_X6, by decide, gw_236, tyX6_ok, nmX6, rfl, rfl⟩
theorem gw_235 : Cond.fieldLink "FoldedArchive$Row" 15 "FoldedArchive$Row" "signs" "[C" ∈ GW := GW_t1 191 rfl rfl
theorem fl_X6_15 : FL RX6 15 6 0 "[C" true := ⟨RX6, TX6, 2, tyX6, rfl, inG_X6, by decide, gw_235, tyX6_ok, nmX6, rfl, rfl⟩
theorem gw_1308 : Cond.code yX6_at cX6_at 2 (some .char) ∈ GW := GW_t6 64 rfl rfl
theorem gw_1314 : Cond.code yX0_isDigit cX0_isDigit 1 (some .boolean) ∈ GW := GW_t6 70 rfl rfl
theorem gw_733 : Cond.code yX9_isTerm cX9_isTerm 1 (some .boolean) ∈ GW := GW_t3 209 rfl rfl
theorem gw_1312 : Cond.methodLink "FoldedArchive$CommandReader" 109 yX0_isDigit ∈ GW := GW_t6 68 rfl rfl
theorem gw_1313 : Cond.static yX0_isDigit ∈ GW := GW_t6 69 rfl rfl
theorem gw_56 : Cond.initialized "FoldedArchive$CommandReader" ∈ GW := GW_t1 12 rfl rfl
theorem cs_X0_109 : CS RX0 109 yX0_isDigit cX0_isDigit 1 (some .boolean) 1 := ⟨gw_1312, gw_1313, gw_56, gw_1314, by decide +kernel, by decide +kernel⟩
theorem gw_1315 : Cond.methodLink "FoldedArchive$CommandReader" 113 yX9_isTerm ∈ GW := GW_t6 71 rfl rfl
theorem gw_732 : Cond.static yX9_isTerm ∈ GW := GW_t3 208 rfl rfl
theorem gw_47 : Cond.initialized "FoldedArchive$Strip" ∈ GW := GW_t1 3 rfl rfl
theorem cs_X0_113 : CS RX0 113 yX9_isTerm cX9_isTerm 1 (some .boolean) 1 := ⟨gw_1315, gw_732, gw_47, gw_733, by decide +kernel, by decide +kernel⟩
theorem gw_1311 : Cond.code yX0_fits cX0_fits 2 (some .boolean) ∈ GW := GW_t6 67 rfl rfl
theorem gw_279 : Cond.fieldLink "FoldedArchive$CommandReader" 83 "FoldedArchive$CommandReader" "operandsRead" "I" ∈ GW := GW_t1 235 rfl rfl
theorem fl_X0_83 : FL RX0 83 0 5 "I" false := ⟨RX0, TX0, 6, tyX0, rfl, inG_X0, by decide, gw_279, tyX0_ok, nmX0, rfl, rfl⟩
theorem gw_1319 : Cond.code yX0_takeOperand cX0_takeOperand 3 none ∈ GW := GW_t6 75 rfl rfl
theorem gw_278 : Cond.fieldLink "FoldedArchive$CommandReader" 29 "FoldedArchive$CommandReader" "position" "I" ∈ GW := GW_t1 234 rfl rfl
theorem fl_X0_29 : FL RX0 29 0 4 "I" false := ⟨RX0, TX0, 6, tyX0, rfl, inG_X0, by decide, gw_278, tyX0_ok, nmX0, rfl, rfl⟩
theorem gw_1305 : Cond.methodLink "FoldedArchive$CommandReader" 37 yX6_at ∈ GW := GW_t6 61 rfl rfl
theorem gw_1306 : Cond.instanceMethod yX6_at ∈ GW := GW_t6 62 rfl rfl
theorem gw_1307 : Cond.selects yX6_at.cls yX6_at yX6_at ∈ GW := GW_t6 63 rfl rfl
theorem gw_53 : Cond.initialized "FoldedArchive$Row" ∈ GW := GW_t1 9 rfl rfl
theorem cv_X0_37 : CV RX0 37 yX6_at cX6_at 2 (some .char) 1 := ⟨gw_1305, gw_1306, gw_1307, gw_53, gw_1308, by decide +kernel, by decide +kernel⟩
theorem tt_132 : TT[132]? = some (0, 6, [some 133, none]) := by decide +kernel
theorem tt_133 : TT[133]? = some (3, 60, []) := by decide +kernel
theorem is6_132 : isX6 132 := ⟨tt_132, tt_133⟩
theorem gw_1323 : Cond.code yX0_numberFrom cX0_numberFrom 4 (some .int) ∈ GW := GW_t6 79 rfl rfl
theorem gw_1309 : Cond.methodLink "FoldedArchive$CommandReader" 98 yX0_fits ∈ GW := GW_t6 65 rfl rfl
theorem gw_1310 : Cond.static yX0_fits ∈ GW := GW_t6 66 rfl rfl
theorem cs_X0_98 : CS RX0 98 yX0_fits cX0_fits 2 (some .boolean) 2 := ⟨gw_1309, gw_1310, gw_56, gw_1311, by decide +kernel, by decide +kernel⟩
theorem gw_1320 : Cond.methodLink "FoldedArchive$CommandReader" 105 yX0_numberFrom ∈ GW := GW_t6 76 rfl rfl
theorem gw_1322 : Cond.instanceMethod yX0_numberFrom ∈ GW := GW_t6 78 rfl rfl
theorem gw_25 : Cond.selects yX0_numberFrom.cls yX0_numberFrom yX0_numberFrom ∈ GW := GW_pr 25 (q := (yX0_numberFrom, 6)) rfl
theorem cv_X0_105 : CV RX0 105 yX0_numberFrom cX0_numberFrom 4 (some .int) 2 := ⟨gw_1320, gw_1322, gw_25, gw_56, gw_1323, by decide +kernel, by decide +kernel⟩
theorem gw_1316 : Cond.methodLink "FoldedArchive$CommandReader" 102 yX0_takeOperand ∈ GW := GW_t6 72 rfl rfl
theorem gw_1318 : Cond.instanceMethod yX0_takeOperand ∈ GW := GW_t6 74 rfl rfl
theorem gw_24 : Cond.selects yX0_takeOperand.cls yX0_takeOperand yX0_takeOperand ∈ GW := GW_pr 24 (q := (yX0_takeOperand, 6)) rfl
theorem cv_X0_102 : CV RX0 102 yX0_takeOperand cX0_takeOperand 3 none 1 := ⟨gw_1316, gw_1318, gw_24, gw_56, gw_1319, by decide +kernel, by decide +kernel⟩
theorem gw_1304 : Cond.code yX0_followsSign cX0_followsSign 4 (some .boolean) ∈ GW := GW_t6 60 rfl rfl
theorem gw_1299 : Cond.methodLink "FoldedArchive$CommandReader" 86 yJ0_length_8abf5 ∈ GW := GW_t6 55 rfl rfl
theorem gw_1052 : Cond.instanceMethod yJ0_length_8abf5 ∈ GW := GW_t5 48 rfl rfl
theorem gw_1053 : Cond.selects yJ0_length_8abf5.cls yJ0_length_8abf5 yJ0_length_8abf5 ∈ GW := GW_t5 49 rfl rfl
theorem gw_62 : Cond.initialized "java/lang/String" ∈ GW := GW_t1 18 rfl rfl
theorem gw_1054 : Cond.code yJ0_length_8abf5 cJ0_length_8abf5 1 (some .int) ∈ GW := GW_t5 50 rfl rfl
theorem cv_X0_86 : CV RX0 86 yJ0_length_8abf5 cJ0_length_8abf5 1 (some .int) 0 := ⟨gw_1299, gw_1052, gw_1053, gw_62, gw_1054, by decide +kernel, by decide +kernel⟩
theorem gw_1300 : Cond.methodLink "FoldedArchive$CommandReader" 91 yJ0_charAt_5068e ∈ GW := GW_t6 56 rfl rfl
theorem gw_1220 : Cond.instanceMethod yJ0_charAt_5068e ∈ GW := GW_t5 216 rfl rfl
theorem gw_1221 : Cond.selects yJ0_charAt_5068e.cls yJ0_charAt_5068e yJ0_charAt_5068e ∈ GW := GW_t5 217 rfl rfl
theorem gw_1222 : Cond.code yJ0_charAt_5068e cJ0_charAt_5068e 2 (some .char) ∈ GW := GW_t5 218 rfl rfl
theorem cv_X0_91 : CV RX0 91 yJ0_charAt_5068e cJ0_charAt_5068e 2 (some .char) 1 := ⟨gw_1300, gw_1220, gw_1221, gw_62, gw_1222, by decide +kernel, by decide +kernel⟩
theorem gw_1301 : Cond.methodLink "FoldedArchive$CommandReader" 94 yX0_followsSign ∈ GW := GW_t6 57 rfl rfl
theorem gw_1303 : Cond.instanceMethod yX0_followsSign ∈ GW := GW_t6 59 rfl rfl
theorem gw_23 : Cond.selects yX0_followsSign.cls yX0_followsSign yX0_followsSign ∈ GW := GW_pr 23 (q := (yX0_followsSign, 6)) rfl
theorem cv_X0_94 : CV RX0 94 yX0_followsSign cX0_followsSign 4 (some .boolean) 2 := ⟨gw_1301, gw_1303, gw_23, gw_56, gw_1304, by decide +kernel, by decide +kernel⟩
theorem gw_1298 : Cond.code yX0_follows cX0_follows 5 (some .boolean) ∈ GW := GW_t6 54 rfl rfl
theorem gw_1327 : Cond.code yX0_append cX0_append 2 none ∈ GW := GW_t6 83 rfl rfl
theorem gw_276 : Cond.fieldLink "FoldedArchive$CommandReader" 22 "FoldedArchive$CommandReader" "fault" "I" ∈ GW := GW_t1 232 rfl rfl
theorem fl_X0_22 : FL RX0 22 0 3 "I" false := ⟨RX0, TX0, 6, tyX0, rfl, inG_X0, by decide, gw_276, tyX0_ok, nmX0, rfl, rfl⟩
theorem gw_1280 : Cond.methodLink "FoldedArchive$CommandReader" 41 yX0_shapeOf ∈ GW := GW_t6 36 rfl rfl
theorem gw_1281 : Cond.static yX0_shapeOf ∈ GW := GW_t6 37 rfl rfl
theorem cs_X0_41 : CS RX0 41 yX0_shapeOf cX0_shapeOf 1 (some (.object "java/lang/String")) 1 := ⟨gw_1280, gw_1281, gw_56, gw_1282, by decide +kernel, by decide +kernel⟩
theorem gw_1295 : Cond.methodLink "FoldedArchive$CommandReader" 45 yX0_follows ∈ GW := GW_t6 51 rfl rfl
theorem gw_1297 : Cond.instanceMethod yX0_follows ∈ GW := GW_t6 53 rfl rfl
theorem gw_22 : Cond.selects yX0_follows.cls yX0_follows yX0_follows ∈ GW := GW_pr 22 (q := (yX0_follows, 6)) rfl
theorem cv_X0_45 : CV RX0 45 yX0_follows cX0_follows 5 (some .boolean) 3 := ⟨gw_1295, gw_1297, gw_22, gw_56, gw_1298, by decide +kernel, by decide +kernel⟩
theorem gw_1328 : Cond.methodLink "FoldedArchive$CommandReader" 53 Lib.Math.max.name ∈ GW := GW_t6 84 rfl rfl
theorem gw_233 : Cond.static Lib.Math.max.name ∈ GW := GW_t1 189 rfl rfl
theorem gw_54 : Cond.initialized "java/lang/Math" ∈ GW := GW_t1 10 rfl rfl
theorem gw_234 : Cond.code Lib.Math.max.name Lib.Math.max.code 2 (some .int) ∈ GW := GW_t1 190 rfl rfl
theorem gw_1324 : Cond.methodLink "FoldedArchive$CommandReader" 49 yX0_append ∈ GW := GW_t6 80 rfl rfl
theorem gw_1326 : Cond.instanceMethod yX0_append ∈ GW := GW_t6 82 rfl rfl
theorem gw_26 : Cond.selects yX0_append.cls yX0_append yX0_append ∈ GW := GW_pr 26 (q := (yX0_append, 6)) rfl
theorem cv_X0_49 : CV RX0 49 yX0_append cX0_append 2 none 1 := ⟨gw_1324, gw_1326, gw_26, gw_56, gw_1327, by decide +kernel, by decide +kernel⟩
theorem gw_1279 : Cond.code yX0_readCommand cX0_readCommand 5 none ∈ GW := GW_t6 35 rfl rfl
theorem gw_1276 : Cond.methodLink "FoldedArchive$CommandReader" 25 yX0_readCommand ∈ GW := GW_t6 32 rfl rfl
theorem gw_1278 : Cond.instanceMethod yX0_readCommand ∈ GW := GW_t6 34 rfl rfl
theorem gw_21 : Cond.selects yX0_readCommand.cls yX0_readCommand yX0_readCommand ∈ GW := GW_pr 21 (q := (yX0_readCommand, 6)) rfl
theorem cv_X0_25 : CV RX0 25 yX0_readCommand cX0_readCommand 5 none 2 := ⟨gw_1276, gw_1278, gw_21, gw_56, gw_1279, by decide +kernel, by decide +kernel⟩
theorem gw_238 : Cond.fieldLink "FoldedArchive$CommandReader" 32 "FoldedArchive$Row" "length" "I" ∈ GW := GW_t1 194 rfl rfl
theorem fl_X0_32 : FL RX0 32 6 1 "I" false := ⟨RX6, TX6, 2, tyX6, rfl, inG_X6, by decide, gw_238, tyX6_ok, nmX6, rfl, rfl⟩
theorem gw_1275 : Cond.code yX0_read cX0_read 4 none ∈ GW := GW_t6 31 rfl rfl
theorem gw_142 : Cond.fieldLink "FoldedArchive$Pipes" 25 "FoldedArchive$Pipes" "count" "I" ∈ GW := GW_t1 98 rfl rfl
theorem gw_150 : Cond.lays "FoldedArchive$Pipes" "FoldedArchive$Pipes" "count" "I" ∈ GW := GW_t1 106 rfl rfl
theorem gw_152 : Cond.laysFinal "FoldedArchive$Pipes" "FoldedArchive$Pipes" "starts" "[I" ∈ GW := GW_t1 108 rfl rfl
theorem gw_154 : Cond.laysFinal "FoldedArchive$Pipes" "FoldedArchive$Pipes" "ends" "[I" ∈ GW := GW_t1 110 rfl rfl
theorem gw_156 : Cond.laysFinal "FoldedArchive$Pipes" "FoldedArchive$Pipes" "widths" "[I" ∈ GW := GW_t1 112 rfl rfl
theorem gw_158 : Cond.laysFinal "FoldedArchive$Pipes" "FoldedArchive$Pipes" "broken" "[Z" ∈ GW := GW_t1 114 rfl rfl
theorem inG_X5 : ∀ w ∈ u_ws RX5 TX5 5, w ∈ GW := by
  have e : u_ws RX5 TX5 5 = [u_lay RX5 TX5 0, u_lay RX5 TX5 1, u_lay RX5 TX5 2, u_lay RX5 TX5 3, u_lay RX5 TX5 4] := rfl
  rw [e]
  exact List.forall_mem_cons.mpr ⟨gw_150, List.forall_mem_cons.mpr ⟨gw_152, List.forall_mem_cons.mpr ⟨gw_154, List.forall_mem_cons.mpr ⟨gw_156, List.forall_mem_cons.mpr ⟨gw_158, fun _ h => absurd h List.not_mem_nil⟩⟩⟩⟩⟩
theorem fl_X5_25 : FL RX5 25 5 0 "I" false := ⟨RX5, TX5, 5, tyX5, rfl, inG_X5, by decide, gw_142, tyX5_ok, nmX5, rfl, rfl⟩
theorem gw_569 : Cond.code yX5_has cX5_has 2 (some .boolean) ∈ GW := GW_t3 45 rfl rfl
theorem gw_574 : Cond.methodLink "FoldedArchive$Pipes" 35 yX5_has ∈ GW := GW_t3 50 rfl rfl
theorem gw_567 : Cond.instanceMethod yX5_has ∈ GW := GW_t3 43 rfl rfl
theorem gw_568 : Cond.selects yX5_has.cls yX5_has yX5_has ∈ GW := GW_t3 44 rfl rfl
theorem gw_49 : Cond.initialized "FoldedArchive$Pipes" ∈ GW := GW_t1 5 rfl rfl
theorem cv_X5_35 : CV RX5 35 yX5_has cX5_has 2 (some .boolean) 1 := ⟨gw_574, gw_567, gw_568, gw_49, gw_569, by decide +kernel, by decide +kernel⟩
theorem gw_149 : Cond.fieldLink "FoldedArchive$Pipes" 21 "FoldedArchive$Pipes" "broken" "[Z" ∈ GW := GW_t1 105 rfl rfl
theorem fl_X5_21 : FL RX5 21 5 4 "[Z" true := ⟨RX5, TX5, 5, tyX5, rfl, inG_X5, by decide, gw_149, tyX5_ok, nmX5, rfl, rfl⟩
theorem gw_585 : Cond.code yX5_brokenAt cX5_brokenAt 2 (some .boolean) ∈ GW := GW_t3 61 rfl rfl
theorem gw_146 : Cond.fieldLink "FoldedArchive$Pipes" 9 "FoldedArchive$Pipes" "starts" "[I" ∈ GW := GW_t1 102 rfl rfl
theorem fl_X5_9 : FL RX5 9 5 1 "[I" true := ⟨RX5, TX5, 5, tyX5, rfl, inG_X5, by decide, gw_146, tyX5_ok, nmX5, rfl, rfl⟩
theorem gw_648 : Cond.code yX5_startOf cX5_startOf 2 (some .int) ∈ GW := GW_t3 124 rfl rfl
theorem gw_147 : Cond.fieldLink "FoldedArchive$Pipes" 15 "FoldedArchive$Pipes" "ends" "[I" ∈ GW := GW_t1 103 rfl rfl
theorem fl_X5_15 : FL RX5 15 5 2 "[I" true := ⟨RX5, TX5, 5, tyX5, rfl, inG_X5, by decide, gw_147, tyX5_ok, nmX5, rfl, rfl⟩
theorem gw_652 : Cond.code yX5_endOf cX5_endOf 2 (some .int) ∈ GW := GW_t3 128 rfl rfl
theorem gw_148 : Cond.fieldLink "FoldedArchive$Pipes" 18 "FoldedArchive$Pipes" "widths" "[I" ∈ GW := GW_t1 104 rfl rfl
theorem fl_X5_18 : FL RX5 18 5 3 "[I" true := ⟨RX5, TX5, 5, tyX5, rfl, inG_X5, by decide, gw_148, tyX5_ok, nmX5, rfl, rfl⟩
theorem gw_573 : Cond.code yX5_widthOf cX5_widthOf 2 (some .int) ∈ GW := GW_t3 49 rfl rfl
theorem gw_660 : Cond.code yX1_inGrid cX1_inGrid 2 (some .boolean) ∈ GW := GW_t3 136 rfl rfl
theorem gw_658 : Cond.methodLink "FoldedArchive$FlowSearch" 55 yX1_inGrid ∈ GW := GW_t3 134 rfl rfl
theorem gw_659 : Cond.static yX1_inGrid ∈ GW := GW_t3 135 rfl rfl
theorem gw_51 : Cond.initialized "FoldedArchive$FlowSearch" ∈ GW := GW_t1 7 rfl rfl
theorem cs_X1_55 : CS RX1 55 yX1_inGrid cX1_inGrid 2 (some .boolean) 2 := ⟨gw_658, gw_659, gw_51, gw_660, by decide +kernel, by decide +kernel⟩
theorem gw_201 : Cond.fieldLink "FoldedArchive$FlowSearch" 9 "FoldedArchive$FlowSearch" "spare" "[I" ∈ GW := GW_t1 157 rfl rfl
theorem gw_204 : Cond.laysFinal "FoldedArchive$FlowSearch" "FoldedArchive$FlowSearch" "spare" "[I" ∈ GW := GW_t1 160 rfl rfl
theorem gw_206 : Cond.laysFinal "FoldedArchive$FlowSearch" "FoldedArchive$FlowSearch" "reachedFrom" "[I" ∈ GW := GW_t1 162 rfl rfl
theorem gw_208 : Cond.laysFinal "FoldedArchive$FlowSearch" "FoldedArchive$FlowSearch" "queue" "[I" ∈ GW := GW_t1 164 rfl rfl
theorem inG_X1 : ∀ w ∈ u_ws RX1 TX1 3, w ∈ GW := by
  have e : u_ws RX1 TX1 3 = [u_lay RX1 TX1 0, u_lay RX1 TX1 1, u_lay RX1 TX1 2] := rfl
  rw [e]
  exact List.forall_mem_cons.mpr ⟨gw_204, List.forall_mem_cons.mpr ⟨gw_206, List.forall_mem_cons.mpr ⟨gw_208, fun _ h => absurd h List.not_mem_nil⟩⟩⟩
theorem fl_X1_9 : FL RX1 9 1 0 "[I" true := ⟨RX1, TX1, 3, tyX1, rfl, inG_X1, by decide, gw_201, tyX1_ok, nmX1, rfl, rfl⟩
theorem tt_124 : TT[124]? = some (0, 1, [some 125, some 126, some 127]) := by decide +kernel
theorem tt_125 : TT[125]? = some (1, 49, []) := by decide +kernel
theorem gw_657 : Cond.code yX1_addSpare cX1_addSpare 4 none ∈ GW := GW_t3 133 rfl rfl
theorem gw_143 : Cond.fieldLink "FoldedArchive$FlowSearch" 33 "FoldedArchive$Pipes" "count" "I" ∈ GW := GW_t1 99 rfl rfl
theorem fl_X1_33 : FL RX1 33 5 0 "I" false := ⟨RX5, TX5, 5, tyX5, rfl, inG_X5, by decide, gw_143, tyX5_ok, nmX5, rfl, rfl⟩
theorem gw_644 : Cond.methodLink "FoldedArchive$FlowSearch" 39 yX5_brokenAt ∈ GW := GW_t3 120 rfl rfl
theorem gw_583 : Cond.instanceMethod yX5_brokenAt ∈ GW := GW_t3 59 rfl rfl
theorem gw_584 : Cond.selects yX5_brokenAt.cls yX5_brokenAt yX5_brokenAt ∈ GW := GW_t3 60 rfl rfl
theorem cv_X1_39 : CV RX1 39 yX5_brokenAt cX5_brokenAt 2 (some .boolean) 1 := ⟨gw_644, gw_583, gw_584, gw_49, gw_585, by decide +kernel, by decide +kernel⟩
theorem gw_645 : Cond.methodLink "FoldedArchive$FlowSearch" 42 yX5_startOf ∈ GW := GW_t3 121 rfl rfl
theorem gw_646 : Cond.instanceMethod yX5_startOf ∈ GW := GW_t3 122 rfl rfl
theorem gw_647 : Cond.selects yX5_startOf.cls yX5_startOf yX5_startOf ∈ GW := GW_t3 123 rfl rfl
theorem cv_X1_42 : CV RX1 42 yX5_startOf cX5_startOf 2 (some .int) 1 := ⟨gw_645, gw_646, gw_647, gw_49, gw_648, by decide +kernel, by decide +kernel⟩
theorem gw_649 : Cond.methodLink "FoldedArchive$FlowSearch" 45 yX5_endOf ∈ GW := GW_t3 125 rfl rfl
theorem gw_650 : Cond.instanceMethod yX5_endOf ∈ GW := GW_t3 126 rfl rfl
theorem gw_651 : Cond.selects yX5_endOf.cls yX5_endOf yX5_endOf ∈ GW := GW_t3 127 rfl rfl
theorem cv_X1_45 : CV RX1 45 yX5_endOf cX5_endOf 2 (some .int) 1 := ⟨gw_649, gw_650, gw_651, gw_49, gw_652, by decide +kernel, by decide +kernel⟩
theorem gw_653 : Cond.methodLink "FoldedArchive$FlowSearch" 48 yX5_widthOf ∈ GW := GW_t3 129 rfl rfl
theorem gw_571 : Cond.instanceMethod yX5_widthOf ∈ GW := GW_t3 47 rfl rfl
theorem gw_572 : Cond.selects yX5_widthOf.cls yX5_widthOf yX5_widthOf ∈ GW := GW_t3 48 rfl rfl
theorem cv_X1_48 : CV RX1 48 yX5_widthOf cX5_widthOf 2 (some .int) 1 := ⟨gw_653, gw_571, gw_572, gw_49, gw_573, by decide +kernel, by decide +kernel⟩
theorem gw_654 : Cond.methodLink "FoldedArchive$FlowSearch" 51 yX1_addSpare ∈ GW := GW_t3 130 rfl rfl
theorem gw_656 : Cond.instanceMethod yX1_addSpare ∈ GW := GW_t3 132 rfl rfl
theorem gw_7 : Cond.selects yX1_addSpare.cls yX1_addSpare yX1_addSpare ∈ GW := GW_pr 7 (q := (yX1_addSpare, 3)) rfl
theorem cv_X1_51 : CV RX1 51 yX1_addSpare cX1_addSpare 4 none 3 := ⟨gw_654, gw_656, gw_7, gw_51, gw_657, by decide +kernel, by decide +kernel⟩
theorem gw_643 : Cond.code yX1_openPipes cX1_openPipes 4 none ∈ GW := GW_t3 119 rfl rfl
theorem gw_668 : Cond.code yX1_spareOf cX1_spareOf 3 (some .int) ∈ GW := GW_t3 144 rfl rfl
theorem gw_202 : Cond.fieldLink "FoldedArchive$FlowSearch" 15 "FoldedArchive$FlowSearch" "reachedFrom" "[I" ∈ GW := GW_t1 158 rfl rfl
theorem fl_X1_15 : FL RX1 15 1 1 "[I" true := ⟨RX1, TX1, 3, tyX1, rfl, inG_X1, by decide, gw_202, tyX1_ok, nmX1, rfl, rfl⟩
theorem tt_126 : TT[126]? = some (1, 7, []) := by decide +kernel
theorem gw_672 : Cond.code yX1_previousOf cX1_previousOf 2 (some .int) ∈ GW := GW_t3 148 rfl rfl
theorem gw_203 : Cond.fieldLink "FoldedArchive$FlowSearch" 18 "FoldedArchive$FlowSearch" "queue" "[I" ∈ GW := GW_t1 159 rfl rfl
theorem fl_X1_18 : FL RX1 18 1 2 "[I" true := ⟨RX1, TX1, 3, tyX1, rfl, inG_X1, by decide, gw_203, tyX1_ok, nmX1, rfl, rfl⟩
theorem tt_127 : TT[127]? = some (1, 7, []) := by decide +kernel
theorem gw_669 : Cond.methodLink "FoldedArchive$FlowSearch" 63 yX1_previousOf ∈ GW := GW_t3 145 rfl rfl
theorem gw_671 : Cond.instanceMethod yX1_previousOf ∈ GW := GW_t3 147 rfl rfl
theorem gw_10 : Cond.selects yX1_previousOf.cls yX1_previousOf yX1_previousOf ∈ GW := GW_pr 10 (q := (yX1_previousOf, 3)) rfl
theorem cv_X1_63 : CV RX1 63 yX1_previousOf cX1_previousOf 2 (some .int) 1 := ⟨gw_669, gw_671, gw_10, gw_51, gw_672, by decide +kernel, by decide +kernel⟩
theorem gw_665 : Cond.methodLink "FoldedArchive$FlowSearch" 59 yX1_spareOf ∈ GW := GW_t3 141 rfl rfl
theorem gw_667 : Cond.instanceMethod yX1_spareOf ∈ GW := GW_t3 143 rfl rfl
theorem gw_9 : Cond.selects yX1_spareOf.cls yX1_spareOf yX1_spareOf ∈ GW := GW_pr 9 (q := (yX1_spareOf, 3)) rfl
theorem cv_X1_59 : CV RX1 59 yX1_spareOf cX1_spareOf 3 (some .int) 2 := ⟨gw_665, gw_667, gw_9, gw_51, gw_668, by decide +kernel, by decide +kernel⟩
theorem gw_664 : Cond.code yX1_reachesLast cX1_reachesLast 6 (some .boolean) ∈ GW := GW_t3 140 rfl rfl
theorem gw_677 : Cond.methodLink "FoldedArchive$FlowSearch" 66 Lib.Math.min.name ∈ GW := GW_t3 153 rfl rfl
theorem gw_552 : Cond.static Lib.Math.min.name ∈ GW := GW_t3 28 rfl rfl
theorem gw_553 : Cond.code Lib.Math.min.name Lib.Math.min.code 2 (some .int) ∈ GW := GW_t3 29 rfl rfl
theorem gw_676 : Cond.code yX1_augment cX1_augment 6 (some .int) ∈ GW := GW_t3 152 rfl rfl
theorem gw_640 : Cond.methodLink "FoldedArchive$FlowSearch" 21 yX1_openPipes ∈ GW := GW_t3 116 rfl rfl
theorem gw_642 : Cond.instanceMethod yX1_openPipes ∈ GW := GW_t3 118 rfl rfl
theorem gw_6 : Cond.selects yX1_openPipes.cls yX1_openPipes yX1_openPipes ∈ GW := GW_pr 6 (q := (yX1_openPipes, 3)) rfl
theorem cv_X1_21 : CV RX1 21 yX1_openPipes cX1_openPipes 4 none 2 := ⟨gw_640, gw_642, gw_6, gw_51, gw_643, by decide +kernel, by decide +kernel⟩
theorem gw_661 : Cond.methodLink "FoldedArchive$FlowSearch" 25 yX1_reachesLast ∈ GW := GW_t3 137 rfl rfl
theorem gw_663 : Cond.instanceMethod yX1_reachesLast ∈ GW := GW_t3 139 rfl rfl
theorem gw_8 : Cond.selects yX1_reachesLast.cls yX1_reachesLast yX1_reachesLast ∈ GW := GW_pr 8 (q := (yX1_reachesLast, 3)) rfl
theorem cv_X1_25 : CV RX1 25 yX1_reachesLast cX1_reachesLast 6 (some .boolean) 1 := ⟨gw_661, gw_663, gw_8, gw_51, gw_664, by decide +kernel, by decide +kernel⟩
theorem gw_673 : Cond.methodLink "FoldedArchive$FlowSearch" 29 yX1_augment ∈ GW := GW_t3 149 rfl rfl
theorem gw_675 : Cond.instanceMethod yX1_augment ∈ GW := GW_t3 151 rfl rfl
theorem gw_11 : Cond.selects yX1_augment.cls yX1_augment yX1_augment ∈ GW := GW_pr 11 (q := (yX1_augment, 3)) rfl
theorem cv_X1_29 : CV RX1 29 yX1_augment cX1_augment 6 (some .int) 1 := ⟨gw_673, gw_675, gw_11, gw_51, gw_676, by decide +kernel, by decide +kernel⟩
theorem gw_639 : Cond.code yX1_greatest cX1_greatest 6 (some .int) ∈ GW := GW_t3 115 rfl rfl
theorem gw_1433 : Cond.code yX1_contains cX1_contains 2 (some .boolean) ∈ GW := GW_t6 189 rfl rfl
theorem gw_1431 : Cond.methodLink "FoldedArchive$FlowSearch" 75 yX1_contains ∈ GW := GW_t6 187 rfl rfl
theorem gw_1432 : Cond.static yX1_contains ∈ GW := GW_t6 188 rfl rfl
theorem cs_X1_75 : CS RX1 75 yX1_contains cX1_contains 2 (some .boolean) 2 := ⟨gw_1431, gw_1432, gw_51, gw_1433, by decide +kernel, by decide +kernel⟩
theorem gw_1430 : Cond.code yX1_cutSize cX1_cutSize 5 (some .int) ∈ GW := GW_t6 186 rfl rfl
theorem gw_1428 : Cond.methodLink "FoldedArchive$FlowSearch" 71 yX1_cutSize ∈ GW := GW_t6 184 rfl rfl
theorem gw_1429 : Cond.static yX1_cutSize ∈ GW := GW_t6 185 rfl rfl
theorem cs_X1_71 : CS RX1 71 yX1_cutSize cX1_cutSize 5 (some .int) 2 := ⟨gw_1428, gw_1429, gw_51, gw_1430, by decide +kernel, by decide +kernel⟩
theorem gw_1427 : Cond.code yX1_smallest cX1_smallest 5 (some .int) ∈ GW := GW_t6 183 rfl rfl
theorem gw_126 : Cond.fieldLink "FoldedArchive$Pile" 15 "FoldedArchive$Pile" "folded" "I" ∈ GW := GW_t1 82 rfl rfl
theorem gw_131 : Cond.lays "FoldedArchive$Pile" "FoldedArchive$Pile" "folded" "I" ∈ GW := GW_t1 87 rfl rfl
theorem gw_133 : Cond.laysFinal "FoldedArchive$Pile" "FoldedArchive$Pile" "layers" "[I" ∈ GW := GW_t1 89 rfl rfl
theorem inG_X4 : ∀ w ∈ u_ws RX4 TX4 2, w ∈ GW := by
  have e : u_ws RX4 TX4 2 = [u_lay RX4 TX4 0, u_lay RX4 TX4 1] := rfl
  rw [e]
  exact List.forall_mem_cons.mpr ⟨gw_131, List.forall_mem_cons.mpr ⟨gw_133, fun _ h => absurd h List.not_mem_nil⟩⟩
theorem fl_X4_15 : FL RX4 15 4 0 "I" false := ⟨RX4, TX4, 2, tyX4, rfl, inG_X4, by decide, gw_126, tyX4_ok, nmX4, rfl, rfl⟩
theorem gw_130 : Cond.fieldLink "FoldedArchive$Pile" 9 "FoldedArchive$Pile" "layers" "[I" ∈ GW := GW_t1 86 rfl rfl
theorem fl_X4_9 : FL RX4 9 4 1 "[I" true := ⟨RX4, TX4, 2, tyX4, rfl, inG_X4, by decide, gw_130, tyX4_ok, nmX4, rfl, rfl⟩
theorem gw_788 : Cond.methodLink "FoldedArchive$Pile" 19 arraycopyName ∈ GW := GW_t4 24 rfl rfl
theorem gw_783 : Cond.native arraycopyName ∈ GW := GW_t4 19 rfl rfl
theorem gw_782 : Cond.static arraycopyName ∈ GW := GW_t4 18 rfl rfl
theorem gw_68 : Cond.initialized "java/lang/System" ∈ GW := GW_t1 24 rfl rfl
theorem gw_787 : Cond.code yX4_copyFrom cX4_copyFrom 2 none ∈ GW := GW_t4 23 rfl rfl
theorem gw_498 : Cond.code yX4_layerHolding cX4_layerHolding 2 (some .int) ∈ GW := GW_t2 214 rfl rfl
theorem gw_547 : Cond.methodLink "FoldedArchive$Pile" 34 yX4_layerHolding ∈ GW := GW_t3 23 rfl rfl
theorem gw_496 : Cond.instanceMethod yX4_layerHolding ∈ GW := GW_t2 212 rfl rfl
theorem gw_497 : Cond.selects yX4_layerHolding.cls yX4_layerHolding yX4_layerHolding ∈ GW := GW_t2 213 rfl rfl
theorem gw_48 : Cond.initialized "FoldedArchive$Pile" ∈ GW := GW_t1 4 rfl rfl
theorem cv_X4_34 : CV RX4 34 yX4_layerHolding cX4_layerHolding 2 (some .int) 1 := ⟨gw_547, gw_496, gw_497, gw_48, gw_498, by decide +kernel, by decide +kernel⟩
theorem gw_546 : Cond.code yX4_layerAfterInsert cX4_layerAfterInsert 4 (some .int) ∈ GW := GW_t3 22 rfl rfl
theorem gw_551 : Cond.methodLink "FoldedArchive$Pile" 25 Lib.Math.min.name ∈ GW := GW_t3 27 rfl rfl
theorem gw_554 : Cond.methodLink "FoldedArchive$Pile" 31 Lib.Math.max.name ∈ GW := GW_t3 30 rfl rfl
theorem gw_550 : Cond.code yX4_spansCross cX4_spansCross 8 (some .boolean) ∈ GW := GW_t3 26 rfl rfl
theorem gw_543 : Cond.methodLink "FoldedArchive$Pile" 38 yX4_layerAfterInsert ∈ GW := GW_t3 19 rfl rfl
theorem gw_545 : Cond.instanceMethod yX4_layerAfterInsert ∈ GW := GW_t3 21 rfl rfl
theorem gw_2 : Cond.selects yX4_layerAfterInsert.cls yX4_layerAfterInsert yX4_layerAfterInsert ∈ GW := GW_pr 2 (q := (yX4_layerAfterInsert, 2)) rfl
theorem cv_X4_38 : CV RX4 38 yX4_layerAfterInsert cX4_layerAfterInsert 4 (some .int) 2 := ⟨gw_543, gw_545, gw_2, gw_48, gw_546, by decide +kernel, by decide +kernel⟩
theorem gw_548 : Cond.methodLink "FoldedArchive$Pile" 41 yX4_spansCross ∈ GW := GW_t3 24 rfl rfl
theorem gw_549 : Cond.static yX4_spansCross ∈ GW := GW_t3 25 rfl rfl
theorem cs_X4_41 : CS RX4 41 yX4_spansCross cX4_spansCross 8 (some .boolean) 4 := ⟨gw_548, gw_549, gw_48, gw_550, by decide +kernel, by decide +kernel⟩
theorem gw_542 : Cond.code yX4_creaseCrossedAt cX4_creaseCrossedAt 7 (some .int) ∈ GW := GW_t3 18 rfl rfl
theorem gw_824 : Cond.code yX4_insert cX4_insert 3 (some .int) ∈ GW := GW_t4 60 rfl rfl
theorem gw_828 : Cond.code yX4_removeLast cX4_removeLast 3 (some .int) ∈ GW := GW_t4 64 rfl rfl
theorem gw_219 : Cond.fieldLink "FoldedArchive$FoldingSearch" 12 "FoldedArchive$FoldingSearch" "trial" "LFoldedArchive$Pile;" ∈ GW := GW_t1 175 rfl rfl
theorem gw_221 : Cond.laysFinal "FoldedArchive$FoldingSearch" "FoldedArchive$FoldingSearch" "trial" "LFoldedArchive$Pile;" ∈ GW := GW_t1 177 rfl rfl
theorem gw_223 : Cond.laysFinal "FoldedArchive$FoldingSearch" "FoldedArchive$FoldingSearch" "placed" "[I" ∈ GW := GW_t1 179 rfl rfl
theorem inG_X2 : ∀ w ∈ u_ws RX2 TX2 2, w ∈ GW := by
  have e : u_ws RX2 TX2 2 = [u_lay RX2 TX2 0, u_lay RX2 TX2 1] := rfl
  rw [e]
  exact List.forall_mem_cons.mpr ⟨gw_221, List.forall_mem_cons.mpr ⟨gw_223, fun _ h => absurd h List.not_mem_nil⟩⟩
theorem fl_X2_12 : FL RX2 12 2 0 "LFoldedArchive$Pile;" true := ⟨RX2, TX2, 2, tyX2, rfl, inG_X2, by decide, gw_219, tyX2_ok, nmX2, rfl, rfl⟩
theorem tt_128 : TT[128]? = some (0, 2, [some 129, some 131]) := by decide +kernel
theorem gw_1618 : Cond.methodLink "FoldedArchive$FoldingSearch" 47 yX4_insert ∈ GW := GW_t7 134 rfl rfl
theorem gw_822 : Cond.instanceMethod yX4_insert ∈ GW := GW_t4 58 rfl rfl
theorem gw_823 : Cond.selects yX4_insert.cls yX4_insert yX4_insert ∈ GW := GW_t4 59 rfl rfl
theorem cv_X2_47 : CV RX2 47 yX4_insert cX4_insert 3 (some .int) 1 := ⟨gw_1618, gw_822, gw_823, gw_48, gw_824, by decide +kernel, by decide +kernel⟩
theorem tt_129 : TT[129]? = some (0, 4, [none, some 130]) := by decide +kernel
theorem tt_130 : TT[130]? = some (1, 7, []) := by decide +kernel
theorem is4_129 : isX4 129 := ⟨tt_129, tt_130⟩
theorem gw_1609 : Cond.methodLink "FoldedArchive$FoldingSearch" 36 yX2_foldRest ∈ GW := GW_t7 125 rfl rfl
theorem gw_1611 : Cond.instanceMethod yX2_foldRest ∈ GW := GW_t7 127 rfl rfl
theorem gw_37 : Cond.selects yX2_foldRest.cls yX2_foldRest yX2_foldRest ∈ GW := GW_pr 37 (q := (yX2_foldRest, 2)) rfl
theorem gw_52 : Cond.initialized "FoldedArchive$FoldingSearch" ∈ GW := GW_t1 8 rfl rfl
theorem gw_1612 : Cond.code yX2_foldRest cX2_foldRest 5 (some .int) ∈ GW := GW_t7 128 rfl rfl
theorem cv_X2_36 : CV RX2 36 yX2_foldRest cX2_foldRest 5 (some .int) 2 := ⟨gw_1609, gw_1611, gw_37, gw_52, gw_1612, by decide +kernel, by decide +kernel⟩
theorem gw_1619 : Cond.methodLink "FoldedArchive$FoldingSearch" 50 yX4_removeLast ∈ GW := GW_t7 135 rfl rfl
theorem gw_826 : Cond.instanceMethod yX4_removeLast ∈ GW := GW_t4 62 rfl rfl
theorem gw_827 : Cond.selects yX4_removeLast.cls yX4_removeLast yX4_removeLast ∈ GW := GW_t4 63 rfl rfl
theorem cv_X2_50 : CV RX2 50 yX4_removeLast cX4_removeLast 3 (some .int) 0 := ⟨gw_1619, gw_826, gw_827, gw_48, gw_828, by decide +kernel, by decide +kernel⟩
theorem gw_1617 : Cond.code yX2_foldInto cX2_foldInto 5 (some .int) ∈ GW := GW_t7 133 rfl rfl
theorem gw_1613 : Cond.methodLink "FoldedArchive$FoldingSearch" 39 yX4_creaseCrossedAt ∈ GW := GW_t7 129 rfl rfl
theorem gw_540 : Cond.instanceMethod yX4_creaseCrossedAt ∈ GW := GW_t3 16 rfl rfl
theorem gw_541 : Cond.selects yX4_creaseCrossedAt.cls yX4_creaseCrossedAt yX4_creaseCrossedAt ∈ GW := GW_t3 17 rfl rfl
theorem cv_X2_39 : CV RX2 39 yX4_creaseCrossedAt cX4_creaseCrossedAt 7 (some .int) 1 := ⟨gw_1613, gw_540, gw_541, gw_48, gw_542, by decide +kernel, by decide +kernel⟩
theorem gw_1614 : Cond.methodLink "FoldedArchive$FoldingSearch" 43 yX2_foldInto ∈ GW := GW_t7 130 rfl rfl
theorem gw_1616 : Cond.instanceMethod yX2_foldInto ∈ GW := GW_t7 132 rfl rfl
theorem gw_38 : Cond.selects yX2_foldInto.cls yX2_foldInto yX2_foldInto ∈ GW := GW_pr 38 (q := (yX2_foldInto, 2)) rfl
theorem cv_X2_43 : CV RX2 43 yX2_foldInto cX2_foldInto 5 (some .int) 3 := ⟨gw_1614, gw_1616, gw_38, gw_52, gw_1617, by decide +kernel, by decide +kernel⟩
theorem gw_1607 : Cond.methodLink "FoldedArchive$FoldingSearch" 22 yX4_copyFrom ∈ GW := GW_t7 123 rfl rfl
theorem gw_785 : Cond.instanceMethod yX4_copyFrom ∈ GW := GW_t4 21 rfl rfl
theorem gw_786 : Cond.selects yX4_copyFrom.cls yX4_copyFrom yX4_copyFrom ∈ GW := GW_t4 22 rfl rfl
theorem cv_X2_22 : CV RX2 22 yX4_copyFrom cX4_copyFrom 2 none 1 := ⟨gw_1607, gw_785, gw_786, gw_48, gw_787, by decide +kernel, by decide +kernel⟩
theorem gw_127 : Cond.fieldLink "FoldedArchive$FoldingSearch" 26 "FoldedArchive$Pile" "folded" "I" ∈ GW := GW_t1 83 rfl rfl
theorem fl_X2_26 : FL RX2 26 4 0 "I" false := ⟨RX4, TX4, 2, tyX4, rfl, inG_X4, by decide, gw_127, tyX4_ok, nmX4, rfl, rfl⟩
theorem gw_1608 : Cond.methodLink "FoldedArchive$FoldingSearch" 30 Lib.Math.min.name ∈ GW := GW_t7 124 rfl rfl
theorem gw_1606 : Cond.code yX2_countByFolding cX2_countByFolding 3 (some .int) ∈ GW := GW_t7 122 rfl rfl
theorem gw_1636 : Cond.methodLink "FoldedArchive$FoldingSearch" 67 yX4_layerHolding ∈ GW := GW_t7 152 rfl rfl
theorem cv_X2_67 : CV RX2 67 yX4_layerHolding cX4_layerHolding 2 (some .int) 1 := ⟨gw_1636, gw_496, gw_497, gw_48, gw_498, by decide +kernel, by decide +kernel⟩
theorem gw_220 : Cond.fieldLink "FoldedArchive$FoldingSearch" 18 "FoldedArchive$FoldingSearch" "placed" "[I" ∈ GW := GW_t1 176 rfl rfl
theorem fl_X2_18 : FL RX2 18 2 1 "[I" true := ⟨RX2, TX2, 2, tyX2, rfl, inG_X2, by decide, gw_220, tyX2_ok, nmX2, rfl, rfl⟩
theorem tt_131 : TT[131]? = some (1, 7, []) := by decide +kernel
theorem gw_1635 : Cond.code yX2_isNextOfPile cX2_isNextOfPile 5 (some .boolean) ∈ GW := GW_t7 151 rfl rfl
theorem gw_1648 : Cond.code yX2_placeOf cX2_placeOf 3 (some .int) ∈ GW := GW_t7 164 rfl rfl
theorem gw_1645 : Cond.methodLink "FoldedArchive$FoldingSearch" 70 yX2_placeOf ∈ GW := GW_t7 161 rfl rfl
theorem gw_1647 : Cond.instanceMethod yX2_placeOf ∈ GW := GW_t7 163 rfl rfl
theorem gw_43 : Cond.selects yX2_placeOf.cls yX2_placeOf yX2_placeOf ∈ GW := GW_pr 43 (q := (yX2_placeOf, 2)) rfl
theorem cv_X2_70 : CV RX2 70 yX2_placeOf cX2_placeOf 3 (some .int) 2 := ⟨gw_1645, gw_1647, gw_43, gw_52, gw_1648, by decide +kernel, by decide +kernel⟩
theorem gw_1649 : Cond.methodLink "FoldedArchive$FoldingSearch" 73 yX4_spansCross ∈ GW := GW_t7 165 rfl rfl
theorem cs_X2_73 : CS RX2 73 yX4_spansCross cX4_spansCross 8 (some .boolean) 4 := ⟨gw_1649, gw_549, gw_48, gw_550, by decide +kernel, by decide +kernel⟩
theorem gw_1644 : Cond.code yX2_spanCrosses cX2_spanCrosses 7 (some .boolean) ∈ GW := GW_t7 160 rfl rfl
theorem gw_1641 : Cond.methodLink "FoldedArchive$FoldingSearch" 64 yX2_spanCrosses ∈ GW := GW_t7 157 rfl rfl
theorem gw_1643 : Cond.instanceMethod yX2_spanCrosses ∈ GW := GW_t7 159 rfl rfl
theorem gw_42 : Cond.selects yX2_spanCrosses.cls yX2_spanCrosses yX2_spanCrosses ∈ GW := GW_pr 42 (q := (yX2_spanCrosses, 2)) rfl
theorem cv_X2_64 : CV RX2 64 yX2_spanCrosses cX2_spanCrosses 7 (some .boolean) 2 := ⟨gw_1641, gw_1643, gw_42, gw_52, gw_1644, by decide +kernel, by decide +kernel⟩
theorem gw_1628 : Cond.methodLink "FoldedArchive$FoldingSearch" 54 yX2_placeRest ∈ GW := GW_t7 144 rfl rfl
theorem gw_1630 : Cond.instanceMethod yX2_placeRest ∈ GW := GW_t7 146 rfl rfl
theorem gw_39 : Cond.selects yX2_placeRest.cls yX2_placeRest yX2_placeRest ∈ GW := GW_pr 39 (q := (yX2_placeRest, 2)) rfl
theorem gw_1631 : Cond.code yX2_placeRest cX2_placeRest 5 (some .int) ∈ GW := GW_t7 147 rfl rfl
theorem cv_X2_54 : CV RX2 54 yX2_placeRest cX2_placeRest 5 (some .int) 2 := ⟨gw_1628, gw_1630, gw_39, gw_52, gw_1631, by decide +kernel, by decide +kernel⟩
theorem gw_1640 : Cond.code yX2_goOnAbove cX2_goOnAbove 5 (some .int) ∈ GW := GW_t7 156 rfl rfl
theorem gw_1632 : Cond.methodLink "FoldedArchive$FoldingSearch" 57 yX2_isNextOfPile ∈ GW := GW_t7 148 rfl rfl
theorem gw_1634 : Cond.instanceMethod yX2_isNextOfPile ∈ GW := GW_t7 150 rfl rfl
theorem gw_40 : Cond.selects yX2_isNextOfPile.cls yX2_isNextOfPile yX2_isNextOfPile ∈ GW := GW_pr 40 (q := (yX2_isNextOfPile, 2)) rfl
theorem cv_X2_57 : CV RX2 57 yX2_isNextOfPile cX2_isNextOfPile 5 (some .boolean) 2 := ⟨gw_1632, gw_1634, gw_40, gw_52, gw_1635, by decide +kernel, by decide +kernel⟩
theorem gw_1637 : Cond.methodLink "FoldedArchive$FoldingSearch" 61 yX2_goOnAbove ∈ GW := GW_t7 153 rfl rfl
theorem gw_1639 : Cond.instanceMethod yX2_goOnAbove ∈ GW := GW_t7 155 rfl rfl
theorem gw_41 : Cond.selects yX2_goOnAbove.cls yX2_goOnAbove yX2_goOnAbove ∈ GW := GW_pr 41 (q := (yX2_goOnAbove, 2)) rfl
theorem cv_X2_61 : CV RX2 61 yX2_goOnAbove cX2_goOnAbove 5 (some .int) 3 := ⟨gw_1637, gw_1639, gw_41, gw_52, gw_1640, by decide +kernel, by decide +kernel⟩
theorem gw_1627 : Cond.code yX2_countByOrders cX2_countByOrders 5 (some .int) ∈ GW := GW_t7 143 rfl rfl
theorem gw_184 : Cond.fieldLink "FoldedArchive$History" 11 "FoldedArchive$History" "kept" "[LFoldedArchive$State;" ∈ GW := GW_t1 140 rfl rfl
theorem gw_188 : Cond.laysFinal "FoldedArchive$History" "FoldedArchive$History" "kept" "[LFoldedArchive$State;" ∈ GW := GW_t1 144 rfl rfl
theorem gw_190 : Cond.lays "FoldedArchive$History" "FoldedArchive$History" "next" "I" ∈ GW := GW_t1 146 rfl rfl
theorem gw_192 : Cond.lays "FoldedArchive$History" "FoldedArchive$History" "count" "I" ∈ GW := GW_t1 148 rfl rfl
theorem inG_X3 : ∀ w ∈ u_ws RX3 TX3 3, w ∈ GW := by
  have e : u_ws RX3 TX3 3 = [u_lay RX3 TX3 0, u_lay RX3 TX3 1, u_lay RX3 TX3 2] := rfl
  rw [e]
  exact List.forall_mem_cons.mpr ⟨gw_188, List.forall_mem_cons.mpr ⟨gw_190, List.forall_mem_cons.mpr ⟨gw_192, fun _ h => absurd h List.not_mem_nil⟩⟩⟩
theorem fl_X3_11 : FL RX3 11 3 0 "[LFoldedArchive$State;" true := ⟨RX3, TX3, 3, tyX3, rfl, inG_X3, by decide, gw_184, tyX3_ok, nmX3, rfl, rfl⟩
theorem tt_34 : TT[34]? = some (0, 3, [some 35, none, none]) := by decide +kernel
theorem tt_35 : TT[35]? = some (6, 8, [some 36, some 47, some 58, some 69, some 80, some 91, some 102, some 113]) := by decide +kernel
theorem gw_772 : Cond.code yX3_stateAt cX3_stateAt 2 (some (.object "FoldedArchive$State")) ∈ GW := GW_t4 8 rfl rfl
theorem gw_98 : Cond.fieldLink "FoldedArchive$Strip" 18 "FoldedArchive$Strip" "count" "I" ∈ GW := GW_t1 54 rfl rfl
theorem gw_108 : Cond.lays "FoldedArchive$Strip" "FoldedArchive$Strip" "count" "I" ∈ GW := GW_t1 64 rfl rfl
theorem gw_110 : Cond.lays "FoldedArchive$Strip" "FoldedArchive$Strip" "pouredUnits" "I" ∈ GW := GW_t1 66 rfl rfl
theorem gw_112 : Cond.lays "FoldedArchive$Strip" "FoldedArchive$Strip" "leakedUnits" "I" ∈ GW := GW_t1 68 rfl rfl
theorem gw_114 : Cond.laysFinal "FoldedArchive$Strip" "FoldedArchive$Strip" "water" "[I" ∈ GW := GW_t1 70 rfl rfl
theorem gw_116 : Cond.laysFinal "FoldedArchive$Strip" "FoldedArchive$Strip" "terms" "[I" ∈ GW := GW_t1 72 rfl rfl
theorem inG_X9 : ∀ w ∈ u_ws RX9 TX9 5, w ∈ GW := by
  have e : u_ws RX9 TX9 5 = [u_lay RX9 TX9 0, u_lay RX9 TX9 1, u_lay RX9 TX9 2, u_lay RX9 TX9 3, u_lay RX9 TX9 4] := rfl
  rw [e]
  exact List.forall_mem_cons.mpr ⟨gw_108, List.forall_mem_cons.mpr ⟨gw_110, List.forall_mem_cons.mpr ⟨gw_112, List.forall_mem_cons.mpr ⟨gw_114, List.forall_mem_cons.mpr ⟨gw_116, fun _ h => absurd h List.not_mem_nil⟩⟩⟩⟩⟩
theorem fl_X9_18 : FL RX9 18 9 0 "I" false := ⟨RX9, TX9, 5, tyX9, rfl, inG_X9, by decide, gw_98, tyX9_ok, nmX9, rfl, rfl⟩
theorem gw_102 : Cond.fieldLink "FoldedArchive$Strip" 22 "FoldedArchive$Strip" "pouredUnits" "I" ∈ GW := GW_t1 58 rfl rfl
theorem fl_X9_22 : FL RX9 22 9 1 "I" false := ⟨RX9, TX9, 5, tyX9, rfl, inG_X9, by decide, gw_102, tyX9_ok, nmX9, rfl, rfl⟩
theorem gw_104 : Cond.fieldLink "FoldedArchive$Strip" 25 "FoldedArchive$Strip" "leakedUnits" "I" ∈ GW := GW_t1 60 rfl rfl
theorem fl_X9_25 : FL RX9 25 9 2 "I" false := ⟨RX9, TX9, 5, tyX9, rfl, inG_X9, by decide, gw_104, tyX9_ok, nmX9, rfl, rfl⟩
theorem gw_106 : Cond.fieldLink "FoldedArchive$Strip" 9 "FoldedArchive$Strip" "water" "[I" ∈ GW := GW_t1 62 rfl rfl
theorem fl_X9_9 : FL RX9 9 9 3 "[I" true := ⟨RX9, TX9, 5, tyX9, rfl, inG_X9, by decide, gw_106, tyX9_ok, nmX9, rfl, rfl⟩
theorem gw_781 : Cond.methodLink "FoldedArchive$Strip" 28 arraycopyName ∈ GW := GW_t4 17 rfl rfl
theorem gw_107 : Cond.fieldLink "FoldedArchive$Strip" 15 "FoldedArchive$Strip" "terms" "[I" ∈ GW := GW_t1 63 rfl rfl
theorem fl_X9_15 : FL RX9 15 9 4 "[I" true := ⟨RX9, TX9, 5, tyX9, rfl, inG_X9, by decide, gw_107, tyX9_ok, nmX9, rfl, rfl⟩
theorem gw_780 : Cond.code yX9_copyFrom cX9_copyFrom 2 none ∈ GW := GW_t4 16 rfl rfl
theorem gw_793 : Cond.methodLink "FoldedArchive$Pipes" 29 arraycopyName ∈ GW := GW_t4 29 rfl rfl
theorem gw_792 : Cond.code yX5_copyFrom cX5_copyFrom 3 none ∈ GW := GW_t4 28 rfl rfl
theorem gw_162 : Cond.fieldLink "FoldedArchive$State" 12 "FoldedArchive$State" "strip" "LFoldedArchive$Strip;" ∈ GW := GW_t1 118 rfl rfl
theorem gw_168 : Cond.laysFinal "FoldedArchive$State" "FoldedArchive$State" "strip" "LFoldedArchive$Strip;" ∈ GW := GW_t1 124 rfl rfl
theorem gw_170 : Cond.laysFinal "FoldedArchive$State" "FoldedArchive$State" "pile" "LFoldedArchive$Pile;" ∈ GW := GW_t1 126 rfl rfl
theorem gw_172 : Cond.laysFinal "FoldedArchive$State" "FoldedArchive$State" "pipes" "LFoldedArchive$Pipes;" ∈ GW := GW_t1 128 rfl rfl
theorem inG_X8 : ∀ w ∈ u_ws RX8 TX8 3, w ∈ GW := by
  have e : u_ws RX8 TX8 3 = [u_lay RX8 TX8 0, u_lay RX8 TX8 1, u_lay RX8 TX8 2] := rfl
  rw [e]
  exact List.forall_mem_cons.mpr ⟨gw_168, List.forall_mem_cons.mpr ⟨gw_170, List.forall_mem_cons.mpr ⟨gw_172, fun _ h => absurd h List.not_mem_nil⟩⟩⟩
theorem fl_X8_12 : FL RX8 12 8 0 "LFoldedArchive$Strip;" true := ⟨RX8, TX8, 3, tyX8, rfl, inG_X8, by decide, gw_162, tyX8_ok, nmX8, rfl, rfl⟩
theorem gw_777 : Cond.methodLink "FoldedArchive$State" 32 yX9_copyFrom ∈ GW := GW_t4 13 rfl rfl
theorem gw_778 : Cond.instanceMethod yX9_copyFrom ∈ GW := GW_t4 14 rfl rfl
theorem gw_779 : Cond.selects yX9_copyFrom.cls yX9_copyFrom yX9_copyFrom ∈ GW := GW_t4 15 rfl rfl
theorem cv_X8_32 : CV RX8 32 yX9_copyFrom cX9_copyFrom 2 none 1 := ⟨gw_777, gw_778, gw_779, gw_47, gw_780, by decide +kernel, by decide +kernel⟩
theorem gw_164 : Cond.fieldLink "FoldedArchive$State" 21 "FoldedArchive$State" "pile" "LFoldedArchive$Pile;" ∈ GW := GW_t1 120 rfl rfl
theorem fl_X8_21 : FL RX8 21 8 1 "LFoldedArchive$Pile;" true := ⟨RX8, TX8, 3, tyX8, rfl, inG_X8, by decide, gw_164, tyX8_ok, nmX8, rfl, rfl⟩
theorem gw_784 : Cond.methodLink "FoldedArchive$State" 36 yX4_copyFrom ∈ GW := GW_t4 20 rfl rfl
theorem cv_X8_36 : CV RX8 36 yX4_copyFrom cX4_copyFrom 2 none 1 := ⟨gw_784, gw_785, gw_786, gw_48, gw_787, by decide +kernel, by decide +kernel⟩
theorem gw_166 : Cond.fieldLink "FoldedArchive$State" 28 "FoldedArchive$State" "pipes" "LFoldedArchive$Pipes;" ∈ GW := GW_t1 122 rfl rfl
theorem fl_X8_28 : FL RX8 28 8 2 "LFoldedArchive$Pipes;" true := ⟨RX8, TX8, 3, tyX8, rfl, inG_X8, by decide, gw_166, tyX8_ok, nmX8, rfl, rfl⟩
theorem gw_789 : Cond.methodLink "FoldedArchive$State" 39 yX5_copyFrom ∈ GW := GW_t4 25 rfl rfl
theorem gw_790 : Cond.instanceMethod yX5_copyFrom ∈ GW := GW_t4 26 rfl rfl
theorem gw_791 : Cond.selects yX5_copyFrom.cls yX5_copyFrom yX5_copyFrom ∈ GW := GW_t4 27 rfl rfl
theorem cv_X8_39 : CV RX8 39 yX5_copyFrom cX5_copyFrom 3 none 1 := ⟨gw_789, gw_790, gw_791, gw_49, gw_792, by decide +kernel, by decide +kernel⟩
theorem gw_776 : Cond.code yX8_copyFrom cX8_copyFrom 2 none ∈ GW := GW_t4 12 rfl rfl
theorem gw_185 : Cond.fieldLink "FoldedArchive$History" 18 "FoldedArchive$History" "next" "I" ∈ GW := GW_t1 141 rfl rfl
theorem fl_X3_18 : FL RX3 18 3 1 "I" false := ⟨RX3, TX3, 3, tyX3, rfl, inG_X3, by decide, gw_185, tyX3_ok, nmX3, rfl, rfl⟩
theorem gw_769 : Cond.methodLink "FoldedArchive$History" 22 yX3_stateAt ∈ GW := GW_t4 5 rfl rfl
theorem gw_771 : Cond.instanceMethod yX3_stateAt ∈ GW := GW_t4 7 rfl rfl
theorem gw_17 : Cond.selects yX3_stateAt.cls yX3_stateAt yX3_stateAt ∈ GW := GW_pr 17 (q := (yX3_stateAt, 3)) rfl
theorem gw_50 : Cond.initialized "FoldedArchive$History" ∈ GW := GW_t1 6 rfl rfl
theorem cv_X3_22 : CV RX3 22 yX3_stateAt cX3_stateAt 2 (some (.object "FoldedArchive$State")) 1 := ⟨gw_769, gw_771, gw_17, gw_50, gw_772, by decide +kernel, by decide +kernel⟩
theorem gw_186 : Cond.fieldLink "FoldedArchive$History" 30 "FoldedArchive$History" "count" "I" ∈ GW := GW_t1 142 rfl rfl
theorem fl_X3_30 : FL RX3 30 3 2 "I" false := ⟨RX3, TX3, 3, tyX3, rfl, inG_X3, by decide, gw_186, tyX3_ok, nmX3, rfl, rfl⟩
theorem gw_794 : Cond.methodLink "FoldedArchive$History" 33 Lib.Math.min.name ∈ GW := GW_t4 30 rfl rfl
theorem gw_773 : Cond.methodLink "FoldedArchive$History" 26 yX8_copyFrom ∈ GW := GW_t4 9 rfl rfl
theorem gw_774 : Cond.instanceMethod yX8_copyFrom ∈ GW := GW_t4 10 rfl rfl
theorem gw_775 : Cond.selects yX8_copyFrom.cls yX8_copyFrom yX8_copyFrom ∈ GW := GW_t4 11 rfl rfl
theorem gw_46 : Cond.initialized "FoldedArchive$State" ∈ GW := GW_t1 2 rfl rfl
theorem cv_X3_26 : CV RX3 26 yX8_copyFrom cX8_copyFrom 2 none 1 := ⟨gw_773, gw_774, gw_775, gw_46, gw_776, by decide +kernel, by decide +kernel⟩
theorem gw_768 : Cond.code yX3_keep cX3_keep 3 none ∈ GW := GW_t4 4 rfl rfl
theorem gw_1584 : Cond.code yX3_takeBack cX3_takeBack 3 none ∈ GW := GW_t7 100 rfl rfl
theorem gw_1595 : Cond.code yX3_forget cX3_forget 1 none ∈ GW := GW_t7 111 rfl rfl
theorem gw_524 : Cond.code yX4_sectionAt cX4_sectionAt 3 (some .int) ∈ GW := GW_t3 0 rfl rfl
theorem gw_844 : Cond.code yX5_brokenCount cX5_brokenCount 3 (some .int) ∈ GW := GW_t4 80 rfl rfl
theorem gw_832 : Cond.code yX5_append cX5_append 4 (some .int) ∈ GW := GW_t4 68 rfl rfl
theorem gw_836 : Cond.code yX5_remove cX5_remove 3 (some .int) ∈ GW := GW_t4 72 rfl rfl
theorem gw_841 : Cond.methodLink "FoldedArchive$Pipes" 39 yX5_brokenCount ∈ GW := GW_t4 77 rfl rfl
theorem gw_842 : Cond.instanceMethod yX5_brokenCount ∈ GW := GW_t4 78 rfl rfl
theorem gw_843 : Cond.selects yX5_brokenCount.cls yX5_brokenCount yX5_brokenCount ∈ GW := GW_t4 79 rfl rfl
theorem cv_X5_39 : CV RX5 39 yX5_brokenCount cX5_brokenCount 3 (some .int) 0 := ⟨gw_841, gw_842, gw_843, gw_49, gw_844, by decide +kernel, by decide +kernel⟩
theorem gw_840 : Cond.code yX5_setBroken cX5_setBroken 3 (some .int) ∈ GW := GW_t4 76 rfl rfl
theorem gw_1245 : Cond.code yX6_isFull cX6_isFull 1 (some .boolean) ∈ GW := GW_t6 1 rfl rfl
theorem gw_1264 : Cond.code yX6_put cX6_put 2 none ∈ GW := GW_t6 20 rfl rfl
theorem gw_1332 : Cond.code yX6_empty cX6_empty 1 none ∈ GW := GW_t6 88 rfl rfl
theorem gw_460 : Cond.code yX9_has cX9_has 2 (some .boolean) ∈ GW := GW_t2 176 rfl rfl
theorem gw_741 : Cond.methodLink "FoldedArchive$Strip" 34 yX9_isTerm ∈ GW := GW_t3 217 rfl rfl
theorem cs_X9_34 : CS RX9 34 yX9_isTerm cX9_isTerm 1 (some .boolean) 1 := ⟨gw_741, gw_732, gw_47, gw_733, by decide +kernel, by decide +kernel⟩
theorem gw_740 : Cond.code yX9_bitOf cX9_bitOf 1 (some .int) ∈ GW := GW_t3 216 rfl rfl
theorem gw_486 : Cond.methodLink "FoldedArchive$Strip" 38 yX9_has ∈ GW := GW_t2 202 rfl rfl
theorem gw_458 : Cond.instanceMethod yX9_has ∈ GW := GW_t2 174 rfl rfl
theorem gw_459 : Cond.selects yX9_has.cls yX9_has yX9_has ∈ GW := GW_t2 175 rfl rfl
theorem cv_X9_38 : CV RX9 38 yX9_has cX9_has 2 (some .boolean) 1 := ⟨gw_486, gw_458, gw_459, gw_47, gw_460, by decide +kernel, by decide +kernel⟩
theorem gw_738 : Cond.methodLink "FoldedArchive$Strip" 47 yX9_bitOf ∈ GW := GW_t3 214 rfl rfl
theorem gw_739 : Cond.static yX9_bitOf ∈ GW := GW_t3 215 rfl rfl
theorem cs_X9_47 : CS RX9 47 yX9_bitOf cX9_bitOf 1 (some .int) 1 := ⟨gw_738, gw_739, gw_47, gw_740, by decide +kernel, by decide +kernel⟩
theorem gw_737 : Cond.code yX9_bears cX9_bears 3 (some .boolean) ∈ GW := GW_t3 213 rfl rfl
theorem gw_1506 : Cond.methodLink "FoldedArchive$Strip" 50 yX9_bears ∈ GW := GW_t7 22 rfl rfl
theorem gw_735 : Cond.instanceMethod yX9_bears ∈ GW := GW_t3 211 rfl rfl
theorem gw_736 : Cond.selects yX9_bears.cls yX9_bears yX9_bears ∈ GW := GW_t3 212 rfl rfl
theorem cv_X9_50 : CV RX9 50 yX9_bears cX9_bears 3 (some .boolean) 2 := ⟨gw_1506, gw_735, gw_736, gw_47, gw_737, by decide +kernel, by decide +kernel⟩
theorem gw_1505 : Cond.code yX9_bearersOf cX9_bearersOf 4 (some .int) ∈ GW := GW_t7 21 rfl rfl
theorem gw_99 : Cond.fieldLink "FoldedArchive$SearchReader" 15 "FoldedArchive$Strip" "count" "I" ∈ GW := GW_t1 55 rfl rfl
theorem fl_X7_15 : FL RX7 15 9 0 "I" false := ⟨RX9, TX9, 5, tyX9, rfl, inG_X9, by decide, gw_99, tyX9_ok, nmX9, rfl, rfl⟩
theorem gw_253 : Cond.fieldLink "FoldedArchive$SearchReader" 21 "FoldedArchive$SearchReader" "everything" "I" ∈ GW := GW_t1 209 rfl rfl
theorem gw_257 : Cond.laysFinal "FoldedArchive$SearchReader" "FoldedArchive$SearchReader" "bearers" "[I" ∈ GW := GW_t1 213 rfl rfl
theorem gw_259 : Cond.lays "FoldedArchive$SearchReader" "FoldedArchive$SearchReader" "everything" "I" ∈ GW := GW_t1 215 rfl rfl
theorem gw_261 : Cond.lays "FoldedArchive$SearchReader" "FoldedArchive$SearchReader" "position" "I" ∈ GW := GW_t1 217 rfl rfl
theorem gw_263 : Cond.lays "FoldedArchive$SearchReader" "FoldedArchive$SearchReader" "fault" "I" ∈ GW := GW_t1 219 rfl rfl
theorem inG_X7 : ∀ w ∈ u_ws RX7 TX7 4, w ∈ GW := by
  have e : u_ws RX7 TX7 4 = [u_lay RX7 TX7 0, u_lay RX7 TX7 1, u_lay RX7 TX7 2, u_lay RX7 TX7 3] := rfl
  rw [e]
  exact List.forall_mem_cons.mpr ⟨gw_257, List.forall_mem_cons.mpr ⟨gw_259, List.forall_mem_cons.mpr ⟨gw_261, List.forall_mem_cons.mpr ⟨gw_263, fun _ h => absurd h List.not_mem_nil⟩⟩⟩⟩
theorem fl_X7_21 : FL RX7 21 7 1 "I" false := ⟨RX7, TX7, 4, tyX7, rfl, inG_X7, by decide, gw_253, tyX7_ok, nmX7, rfl, rfl⟩
theorem tt_136 : TT[136]? = some (0, 7, [some 137, none, none, none]) := by decide +kernel
theorem gw_252 : Cond.fieldLink "FoldedArchive$SearchReader" 9 "FoldedArchive$SearchReader" "bearers" "[I" ∈ GW := GW_t1 208 rfl rfl
theorem fl_X7_9 : FL RX7 9 7 0 "[I" true := ⟨RX7, TX7, 4, tyX7, rfl, inG_X7, by decide, gw_252, tyX7_ok, nmX7, rfl, rfl⟩
theorem gw_1502 : Cond.methodLink "FoldedArchive$SearchReader" 24 yX9_bearersOf ∈ GW := GW_t7 18 rfl rfl
theorem gw_1503 : Cond.instanceMethod yX9_bearersOf ∈ GW := GW_t7 19 rfl rfl
theorem gw_1504 : Cond.selects yX9_bearersOf.cls yX9_bearersOf yX9_bearersOf ∈ GW := GW_t7 20 rfl rfl
theorem cv_X7_24 : CV RX7 24 yX9_bearersOf cX9_bearersOf 4 (some .int) 1 := ⟨gw_1502, gw_1503, gw_1504, gw_47, gw_1505, by decide +kernel, by decide +kernel⟩
theorem tt_137 : TT[137]? = some (1, 8, []) := by decide +kernel
theorem gw_1501 : Cond.code yX7_askForAll cX7_askForAll 3 none ∈ GW := GW_t7 17 rfl rfl
theorem gw_1566 : Cond.methodLink "FoldedArchive$SearchReader" 28 yX9_bears ∈ GW := GW_t7 82 rfl rfl
theorem cv_X7_28 : CV RX7 28 yX9_bears cX9_bears 3 (some .boolean) 2 := ⟨gw_1566, gw_735, gw_736, gw_47, gw_737, by decide +kernel, by decide +kernel⟩
theorem gw_1565 : Cond.code yX7_askForOne cX7_askForOne 4 none ∈ GW := GW_t7 81 rfl rfl
theorem gw_1532 : Cond.code yX7_bearersOf cX7_bearersOf 3 (some .int) ∈ GW := GW_t7 48 rfl rfl
theorem gw_254 : Cond.fieldLink "FoldedArchive$SearchReader" 32 "FoldedArchive$SearchReader" "position" "I" ∈ GW := GW_t1 210 rfl rfl
theorem fl_X7_32 : FL RX7 32 7 2 "I" false := ⟨RX7, TX7, 4, tyX7, rfl, inG_X7, by decide, gw_254, tyX7_ok, nmX7, rfl, rfl⟩
theorem gw_1523 : Cond.methodLink "FoldedArchive$SearchReader" 50 yX6_at ∈ GW := GW_t7 39 rfl rfl
theorem cv_X7_50 : CV RX7 50 yX6_at cX6_at 2 (some .char) 1 := ⟨gw_1523, gw_1306, gw_1307, gw_53, gw_1308, by decide +kernel, by decide +kernel⟩
theorem gw_1528 : Cond.methodLink "FoldedArchive$SearchReader" 61 yX9_isTerm ∈ GW := GW_t7 44 rfl rfl
theorem cs_X7_61 : CS RX7 61 yX9_isTerm cX9_isTerm 1 (some .boolean) 1 := ⟨gw_1528, gw_732, gw_47, gw_733, by decide +kernel, by decide +kernel⟩
theorem gw_255 : Cond.fieldLink "FoldedArchive$SearchReader" 35 "FoldedArchive$SearchReader" "fault" "I" ∈ GW := GW_t1 211 rfl rfl
theorem fl_X7_35 : FL RX7 35 7 3 "I" false := ⟨RX7, TX7, 4, tyX7, rfl, inG_X7, by decide, gw_255, tyX7_ok, nmX7, rfl, rfl⟩
theorem gw_1511 : Cond.methodLink "FoldedArchive$SearchReader" 38 yX7_readSum ∈ GW := GW_t7 27 rfl rfl
theorem gw_1513 : Cond.instanceMethod yX7_readSum ∈ GW := GW_t7 29 rfl rfl
theorem gw_32 : Cond.selects yX7_readSum.cls yX7_readSum yX7_readSum ∈ GW := GW_pr 32 (q := (yX7_readSum, 4)) rfl
theorem gw_55 : Cond.initialized "FoldedArchive$SearchReader" ∈ GW := GW_t1 11 rfl rfl
theorem gw_1514 : Cond.code yX7_readSum cX7_readSum 5 (some .int) ∈ GW := GW_t7 30 rfl rfl
theorem cv_X7_38 : CV RX7 38 yX7_readSum cX7_readSum 5 (some .int) 2 := ⟨gw_1511, gw_1513, gw_32, gw_55, gw_1514, by decide +kernel, by decide +kernel⟩
theorem gw_1529 : Cond.methodLink "FoldedArchive$SearchReader" 68 yX7_bearersOf ∈ GW := GW_t7 45 rfl rfl
theorem gw_1531 : Cond.instanceMethod yX7_bearersOf ∈ GW := GW_t7 47 rfl rfl
theorem gw_36 : Cond.selects yX7_bearersOf.cls yX7_bearersOf yX7_bearersOf ∈ GW := GW_pr 36 (q := (yX7_bearersOf, 4)) rfl
theorem cv_X7_68 : CV RX7 68 yX7_bearersOf cX7_bearersOf 3 (some .int) 1 := ⟨gw_1529, gw_1531, gw_36, gw_55, gw_1532, by decide +kernel, by decide +kernel⟩
theorem gw_1527 : Cond.code yX7_readPlainFactor cX7_readPlainFactor 5 (some .int) ∈ GW := GW_t7 43 rfl rfl
theorem gw_1524 : Cond.methodLink "FoldedArchive$SearchReader" 65 yX7_readPlainFactor ∈ GW := GW_t7 40 rfl rfl
theorem gw_1526 : Cond.instanceMethod yX7_readPlainFactor ∈ GW := GW_t7 42 rfl rfl
theorem gw_35 : Cond.selects yX7_readPlainFactor.cls yX7_readPlainFactor yX7_readPlainFactor ∈ GW := GW_pr 35 (q := (yX7_readPlainFactor, 4)) rfl
theorem cv_X7_65 : CV RX7 65 yX7_readPlainFactor cX7_readPlainFactor 5 (some .int) 2 := ⟨gw_1524, gw_1526, gw_35, gw_55, gw_1527, by decide +kernel, by decide +kernel⟩
theorem gw_1522 : Cond.code yX7_readFactor cX7_readFactor 5 (some .int) ∈ GW := GW_t7 38 rfl rfl
theorem gw_1535 : Cond.code yX7_startsFactor cX7_startsFactor 1 (some .boolean) ∈ GW := GW_t7 51 rfl rfl
theorem gw_1519 : Cond.methodLink "FoldedArchive$SearchReader" 54 yX7_readFactor ∈ GW := GW_t7 35 rfl rfl
theorem gw_1521 : Cond.instanceMethod yX7_readFactor ∈ GW := GW_t7 37 rfl rfl
theorem gw_34 : Cond.selects yX7_readFactor.cls yX7_readFactor yX7_readFactor ∈ GW := GW_pr 34 (q := (yX7_readFactor, 4)) rfl
theorem cv_X7_54 : CV RX7 54 yX7_readFactor cX7_readFactor 5 (some .int) 2 := ⟨gw_1519, gw_1521, gw_34, gw_55, gw_1522, by decide +kernel, by decide +kernel⟩
theorem gw_1533 : Cond.methodLink "FoldedArchive$SearchReader" 57 yX7_startsFactor ∈ GW := GW_t7 49 rfl rfl
theorem gw_1534 : Cond.static yX7_startsFactor ∈ GW := GW_t7 50 rfl rfl
theorem cs_X7_57 : CS RX7 57 yX7_startsFactor cX7_startsFactor 1 (some .boolean) 1 := ⟨gw_1533, gw_1534, gw_55, gw_1535, by decide +kernel, by decide +kernel⟩
theorem gw_1518 : Cond.code yX7_readProduct cX7_readProduct 5 (some .int) ∈ GW := GW_t7 34 rfl rfl
theorem gw_1515 : Cond.methodLink "FoldedArchive$SearchReader" 47 yX7_readProduct ∈ GW := GW_t7 31 rfl rfl
theorem gw_1517 : Cond.instanceMethod yX7_readProduct ∈ GW := GW_t7 33 rfl rfl
theorem gw_33 : Cond.selects yX7_readProduct.cls yX7_readProduct yX7_readProduct ∈ GW := GW_pr 33 (q := (yX7_readProduct, 4)) rfl
theorem cv_X7_47 : CV RX7 47 yX7_readProduct cX7_readProduct 5 (some .int) 2 := ⟨gw_1515, gw_1517, gw_33, gw_55, gw_1518, by decide +kernel, by decide +kernel⟩
theorem gw_237 : Cond.fieldLink "FoldedArchive$SearchReader" 42 "FoldedArchive$Row" "length" "I" ∈ GW := GW_t1 193 rfl rfl
theorem fl_X7_42 : FL RX7 42 6 1 "I" false := ⟨RX6, TX6, 2, tyX6, rfl, inG_X6, by decide, gw_237, tyX6_ok, nmX6, rfl, rfl⟩
theorem gw_1510 : Cond.code yX7_read cX7_read 3 (some .int) ∈ GW := GW_t7 26 rfl rfl
theorem gw_538 : Cond.code yX8_denied cX8_denied 2 (some .int) ∈ GW := GW_t3 14 rfl rfl
theorem gw_485 : Cond.code yX9_waterOf cX9_waterOf 2 (some .int) ∈ GW := GW_t2 201 rfl rfl
theorem gw_725 : Cond.methodLink "FoldedArchive$State" 80 yX9_has ∈ GW := GW_t3 201 rfl rfl
theorem cv_X8_80 : CV RX8 80 yX9_has cX9_has 2 (some .boolean) 1 := ⟨gw_725, gw_458, gw_459, gw_47, gw_460, by decide +kernel, by decide +kernel⟩
theorem gw_726 : Cond.methodLink "FoldedArchive$State" 81 yX9_waterOf ∈ GW := GW_t3 202 rfl rfl
theorem gw_483 : Cond.instanceMethod yX9_waterOf ∈ GW := GW_t2 199 rfl rfl
theorem gw_484 : Cond.selects yX9_waterOf.cls yX9_waterOf yX9_waterOf ∈ GW := GW_t2 200 rfl rfl
theorem cv_X8_81 : CV RX8 81 yX9_waterOf cX9_waterOf 2 (some .int) 1 := ⟨gw_726, gw_483, gw_484, gw_47, gw_485, by decide +kernel, by decide +kernel⟩
theorem gw_536 : Cond.methodLink "FoldedArchive$State" 46 yX8_denied ∈ GW := GW_t3 12 rfl rfl
theorem gw_537 : Cond.static yX8_denied ∈ GW := GW_t3 13 rfl rfl
theorem cs_X8_46 : CS RX8 46 yX8_denied cX8_denied 2 (some .int) 2 := ⟨gw_536, gw_537, gw_46, gw_538, by decide +kernel, by decide +kernel⟩
theorem gw_724 : Cond.code yX8_judgePour cX8_judgePour 3 (some .int) ∈ GW := GW_t3 200 rfl rfl
theorem gw_749 : Cond.constant "java/lang/Integer" 265 1431655765 ∈ GW := GW_t3 225 rfl rfl
theorem gw_750 : Cond.constant "java/lang/Integer" 266 858993459 ∈ GW := GW_t3 226 rfl rfl
theorem gw_751 : Cond.constant "java/lang/Integer" 267 252645135 ∈ GW := GW_t3 227 rfl rfl
theorem gw_748 : Cond.code yJ6_bitCount_0f7a4 cJ6_bitCount_0f7a4 1 (some .int) ∈ GW := GW_t3 224 rfl rfl
theorem gw_746 : Cond.methodLink "FoldedArchive$Strip" 41 yJ6_bitCount_0f7a4 ∈ GW := GW_t3 222 rfl rfl
theorem gw_747 : Cond.static yJ6_bitCount_0f7a4 ∈ GW := GW_t3 223 rfl rfl
theorem gw_67 : Cond.initialized "java/lang/Integer" ∈ GW := GW_t1 23 rfl rfl
theorem cs_X9_41 : CS RX9 41 yJ6_bitCount_0f7a4 cJ6_bitCount_0f7a4 1 (some .int) 1 := ⟨gw_746, gw_747, gw_67, gw_748, by decide +kernel, by decide +kernel⟩
theorem gw_745 : Cond.code yX9_termCountOf cX9_termCountOf 2 (some .int) ∈ GW := GW_t3 221 rfl rfl
theorem gw_731 : Cond.methodLink "FoldedArchive$State" 84 yX9_isTerm ∈ GW := GW_t3 207 rfl rfl
theorem cs_X8_84 : CS RX8 84 yX9_isTerm cX9_isTerm 1 (some .boolean) 1 := ⟨gw_731, gw_732, gw_47, gw_733, by decide +kernel, by decide +kernel⟩
theorem gw_734 : Cond.methodLink "FoldedArchive$State" 87 yX9_bears ∈ GW := GW_t3 210 rfl rfl
theorem cv_X8_87 : CV RX8 87 yX9_bears cX9_bears 3 (some .boolean) 2 := ⟨gw_734, gw_735, gw_736, gw_47, gw_737, by decide +kernel, by decide +kernel⟩
theorem gw_742 : Cond.methodLink "FoldedArchive$State" 91 yX9_termCountOf ∈ GW := GW_t3 218 rfl rfl
theorem gw_743 : Cond.instanceMethod yX9_termCountOf ∈ GW := GW_t3 219 rfl rfl
theorem gw_744 : Cond.selects yX9_termCountOf.cls yX9_termCountOf yX9_termCountOf ∈ GW := GW_t3 220 rfl rfl
theorem cv_X8_91 : CV RX8 91 yX9_termCountOf cX9_termCountOf 2 (some .int) 1 := ⟨gw_742, gw_743, gw_744, gw_47, gw_745, by decide +kernel, by decide +kernel⟩
theorem gw_730 : Cond.code yX8_judgeTerm cX8_judgeTerm 4 (some .int) ∈ GW := GW_t3 206 rfl rfl
theorem gw_128 : Cond.fieldLink "FoldedArchive$State" 77 "FoldedArchive$Pile" "folded" "I" ∈ GW := GW_t1 84 rfl rfl
theorem fl_X8_77 : FL RX8 77 4 0 "I" false := ⟨RX4, TX4, 2, tyX4, rfl, inG_X4, by decide, gw_128, tyX4_ok, nmX4, rfl, rfl⟩
theorem gw_100 : Cond.fieldLink "FoldedArchive$State" 42 "FoldedArchive$Strip" "count" "I" ∈ GW := GW_t1 56 rfl rfl
theorem fl_X8_42 : FL RX8 42 9 0 "I" false := ⟨RX9, TX9, 5, tyX9, rfl, inG_X9, by decide, gw_100, tyX9_ok, nmX9, rfl, rfl⟩
theorem gw_539 : Cond.methodLink "FoldedArchive$State" 94 yX4_creaseCrossedAt ∈ GW := GW_t3 15 rfl rfl
theorem cv_X8_94 : CV RX8 94 yX4_creaseCrossedAt cX4_creaseCrossedAt 7 (some .int) 1 := ⟨gw_539, gw_540, gw_541, gw_48, gw_542, by decide +kernel, by decide +kernel⟩
theorem gw_535 : Cond.code yX8_judgeFold cX8_judgeFold 3 (some .int) ∈ GW := GW_t3 11 rfl rfl
theorem gw_144 : Cond.fieldLink "FoldedArchive$State" 97 "FoldedArchive$Pipes" "count" "I" ∈ GW := GW_t1 100 rfl rfl
theorem fl_X8_97 : FL RX8 97 5 0 "I" false := ⟨RX5, TX5, 5, tyX5, rfl, inG_X5, by decide, gw_144, tyX5_ok, nmX5, rfl, rfl⟩
theorem gw_756 : Cond.code yX8_judgePipe cX8_judgePipe 4 (some .int) ∈ GW := GW_t3 232 rfl rfl
theorem gw_757 : Cond.methodLink "FoldedArchive$State" 65 yX5_has ∈ GW := GW_t3 233 rfl rfl
theorem cv_X8_65 : CV RX8 65 yX5_has cX5_has 2 (some .boolean) 1 := ⟨gw_757, gw_567, gw_568, gw_49, gw_569, by decide +kernel, by decide +kernel⟩
theorem gw_762 : Cond.methodLink "FoldedArchive$State" 98 yX5_brokenAt ∈ GW := GW_t3 238 rfl rfl
theorem cv_X8_98 : CV RX8 98 yX5_brokenAt cX5_brokenAt 2 (some .boolean) 1 := ⟨gw_762, gw_583, gw_584, gw_49, gw_585, by decide +kernel, by decide +kernel⟩
theorem gw_763 : Cond.methodLink "FoldedArchive$State" 101 yX5_widthOf ∈ GW := GW_t3 239 rfl rfl
theorem cv_X8_101 : CV RX8 101 yX5_widthOf cX5_widthOf 2 (some .int) 1 := ⟨gw_763, gw_571, gw_572, gw_49, gw_573, by decide +kernel, by decide +kernel⟩
theorem gw_761 : Cond.code yX8_judgeBroken cX8_judgeBroken 3 (some .int) ∈ GW := GW_t3 237 rfl rfl
theorem gw_597 : Cond.code yX8_judgeEnds cX8_judgeEnds 1 (some .int) ∈ GW := GW_t3 73 rfl rfl
theorem gw_721 : Cond.methodLink "FoldedArchive$State" 50 yX8_judgePour ∈ GW := GW_t3 197 rfl rfl
theorem gw_723 : Cond.instanceMethod yX8_judgePour ∈ GW := GW_t3 199 rfl rfl
theorem gw_13 : Cond.selects yX8_judgePour.cls yX8_judgePour yX8_judgePour ∈ GW := GW_pr 13 (q := (yX8_judgePour, 3)) rfl
theorem cv_X8_50 : CV RX8 50 yX8_judgePour cX8_judgePour 3 (some .int) 2 := ⟨gw_721, gw_723, gw_13, gw_46, gw_724, by decide +kernel, by decide +kernel⟩
theorem gw_727 : Cond.methodLink "FoldedArchive$State" 53 yX8_judgeTerm ∈ GW := GW_t3 203 rfl rfl
theorem gw_729 : Cond.instanceMethod yX8_judgeTerm ∈ GW := GW_t3 205 rfl rfl
theorem gw_14 : Cond.selects yX8_judgeTerm.cls yX8_judgeTerm yX8_judgeTerm ∈ GW := GW_pr 14 (q := (yX8_judgeTerm, 3)) rfl
theorem cv_X8_53 : CV RX8 53 yX8_judgeTerm cX8_judgeTerm 4 (some .int) 3 := ⟨gw_727, gw_729, gw_14, gw_46, gw_730, by decide +kernel, by decide +kernel⟩
theorem gw_752 : Cond.methodLink "FoldedArchive$State" 57 yX8_judgeFold ∈ GW := GW_t3 228 rfl rfl
theorem gw_533 : Cond.instanceMethod yX8_judgeFold ∈ GW := GW_t3 9 rfl rfl
theorem gw_534 : Cond.selects yX8_judgeFold.cls yX8_judgeFold yX8_judgeFold ∈ GW := GW_t3 10 rfl rfl
theorem cv_X8_57 : CV RX8 57 yX8_judgeFold cX8_judgeFold 3 (some .int) 1 := ⟨gw_752, gw_533, gw_534, gw_46, gw_535, by decide +kernel, by decide +kernel⟩
theorem gw_753 : Cond.methodLink "FoldedArchive$State" 61 yX8_judgePipe ∈ GW := GW_t3 229 rfl rfl
theorem gw_755 : Cond.instanceMethod yX8_judgePipe ∈ GW := GW_t3 231 rfl rfl
theorem gw_15 : Cond.selects yX8_judgePipe.cls yX8_judgePipe yX8_judgePipe ∈ GW := GW_pr 15 (q := (yX8_judgePipe, 3)) rfl
theorem cv_X8_61 : CV RX8 61 yX8_judgePipe cX8_judgePipe 4 (some .int) 3 := ⟨gw_753, gw_755, gw_15, gw_46, gw_756, by decide +kernel, by decide +kernel⟩
theorem gw_758 : Cond.methodLink "FoldedArchive$State" 69 yX8_judgeBroken ∈ GW := GW_t3 234 rfl rfl
theorem gw_760 : Cond.instanceMethod yX8_judgeBroken ∈ GW := GW_t3 236 rfl rfl
theorem gw_16 : Cond.selects yX8_judgeBroken.cls yX8_judgeBroken yX8_judgeBroken ∈ GW := GW_pr 16 (q := (yX8_judgeBroken, 3)) rfl
theorem cv_X8_69 : CV RX8 69 yX8_judgeBroken cX8_judgeBroken 3 (some .int) 2 := ⟨gw_758, gw_760, gw_16, gw_46, gw_761, by decide +kernel, by decide +kernel⟩
theorem gw_764 : Cond.methodLink "FoldedArchive$State" 73 yX8_judgeEnds ∈ GW := GW_t4 0 rfl rfl
theorem gw_595 : Cond.instanceMethod yX8_judgeEnds ∈ GW := GW_t3 71 rfl rfl
theorem gw_596 : Cond.selects yX8_judgeEnds.cls yX8_judgeEnds yX8_judgeEnds ∈ GW := GW_t3 72 rfl rfl
theorem cv_X8_73 : CV RX8 73 yX8_judgeEnds cX8_judgeEnds 1 (some .int) 0 := ⟨gw_764, gw_595, gw_596, gw_46, gw_597, by decide +kernel, by decide +kernel⟩
theorem gw_720 : Cond.code yX8_judge cX8_judge 5 (some .int) ∈ GW := GW_t3 196 rfl rfl
theorem gw_802 : Cond.code yX9_append cX9_append 1 (some .int) ∈ GW := GW_t4 38 rfl rfl
theorem gw_810 : Cond.code yX9_add cX9_add 3 none ∈ GW := GW_t4 46 rfl rfl
theorem gw_807 : Cond.methodLink "FoldedArchive$Strip" 57 yX9_add ∈ GW := GW_t4 43 rfl rfl
theorem gw_809 : Cond.instanceMethod yX9_add ∈ GW := GW_t4 45 rfl rfl
theorem gw_18 : Cond.selects yX9_add.cls yX9_add yX9_add ∈ GW := GW_pr 18 (q := (yX9_add, 5)) rfl
theorem cv_X9_57 : CV RX9 57 yX9_add cX9_add 3 none 2 := ⟨gw_807, gw_809, gw_18, gw_47, gw_810, by decide +kernel, by decide +kernel⟩
theorem gw_811 : Cond.methodLink "FoldedArchive$Strip" 61 yX9_waterOf ∈ GW := GW_t4 47 rfl rfl
theorem cv_X9_61 : CV RX9 61 yX9_waterOf cX9_waterOf 2 (some .int) 1 := ⟨gw_811, gw_483, gw_484, gw_47, gw_485, by decide +kernel, by decide +kernel⟩
theorem gw_806 : Cond.code yX9_receivePoured cX9_receivePoured 3 (some .int) ∈ GW := GW_t4 42 rfl rfl
theorem gw_816 : Cond.methodLink "FoldedArchive$Strip" 54 yX9_termCountOf ∈ GW := GW_t4 52 rfl rfl
theorem cv_X9_54 : CV RX9 54 yX9_termCountOf cX9_termCountOf 2 (some .int) 1 := ⟨gw_816, gw_743, gw_744, gw_47, gw_745, by decide +kernel, by decide +kernel⟩
theorem gw_815 : Cond.code yX9_giveTerm cX9_giveTerm 3 (some .int) ∈ GW := GW_t4 51 rfl rfl
theorem gw_820 : Cond.code yX9_takeTerm cX9_takeTerm 3 (some .int) ∈ GW := GW_t4 56 rfl rfl
theorem gw_855 : Cond.code yX9_give cX9_give 3 none ∈ GW := GW_t4 91 rfl rfl
theorem gw_860 : Cond.methodLink "FoldedArchive$Strip" 64 Lib.Math.min.name ∈ GW := GW_t4 96 rfl rfl
theorem gw_859 : Cond.code yX9_receive cX9_receive 4 (some .int) ∈ GW := GW_t4 95 rfl rfl
theorem gw_864 : Cond.code yX9_leak cX9_leak 2 none ∈ GW := GW_t4 100 rfl rfl
theorem gw_850 : Cond.methodLink "FoldedArchive$State" 142 Lib.Math.min.name ∈ GW := GW_t4 86 rfl rfl
theorem gw_851 : Cond.methodLink "FoldedArchive$State" 147 yX5_brokenCount ∈ GW := GW_t4 87 rfl rfl
theorem cv_X8_147 : CV RX8 147 yX5_brokenCount cX5_brokenCount 3 (some .int) 0 := ⟨gw_851, gw_842, gw_843, gw_49, gw_844, by decide +kernel, by decide +kernel⟩
theorem gw_852 : Cond.methodLink "FoldedArchive$State" 150 yX9_give ∈ GW := GW_t4 88 rfl rfl
theorem gw_853 : Cond.instanceMethod yX9_give ∈ GW := GW_t4 89 rfl rfl
theorem gw_854 : Cond.selects yX9_give.cls yX9_give yX9_give ∈ GW := GW_t4 90 rfl rfl
theorem cv_X8_150 : CV RX8 150 yX9_give cX9_give 3 none 2 := ⟨gw_852, gw_853, gw_854, gw_47, gw_855, by decide +kernel, by decide +kernel⟩
theorem gw_856 : Cond.methodLink "FoldedArchive$State" 154 yX9_receive ∈ GW := GW_t4 92 rfl rfl
theorem gw_857 : Cond.instanceMethod yX9_receive ∈ GW := GW_t4 93 rfl rfl
theorem gw_858 : Cond.selects yX9_receive.cls yX9_receive yX9_receive ∈ GW := GW_t4 94 rfl rfl
theorem cv_X8_154 : CV RX8 154 yX9_receive cX9_receive 4 (some .int) 2 := ⟨gw_856, gw_857, gw_858, gw_47, gw_859, by decide +kernel, by decide +kernel⟩
theorem gw_861 : Cond.methodLink "FoldedArchive$State" 157 yX9_leak ∈ GW := GW_t4 97 rfl rfl
theorem gw_862 : Cond.instanceMethod yX9_leak ∈ GW := GW_t4 98 rfl rfl
theorem gw_863 : Cond.selects yX9_leak.cls yX9_leak yX9_leak ∈ GW := GW_t4 99 rfl rfl
theorem cv_X8_157 : CV RX8 157 yX9_leak cX9_leak 2 none 1 := ⟨gw_861, gw_862, gw_863, gw_47, gw_864, by decide +kernel, by decide +kernel⟩
theorem gw_849 : Cond.code yX8_moveAlongPipes cX8_moveAlongPipes 4 (some .int) ∈ GW := GW_t4 85 rfl rfl
theorem gw_869 : Cond.methodLink "FoldedArchive$State" 161 yX4_sectionAt ∈ GW := GW_t4 105 rfl rfl
theorem gw_522 : Cond.instanceMethod yX4_sectionAt ∈ GW := GW_t2 238 rfl rfl
theorem gw_523 : Cond.selects yX4_sectionAt.cls yX4_sectionAt yX4_sectionAt ∈ GW := GW_t2 239 rfl rfl
theorem cv_X8_161 : CV RX8 161 yX4_sectionAt cX4_sectionAt 3 (some .int) 1 := ⟨gw_869, gw_522, gw_523, gw_48, gw_524, by decide +kernel, by decide +kernel⟩
theorem gw_868 : Cond.code yX8_moveDownPile cX8_moveDownPile 5 (some .int) ∈ GW := GW_t4 104 rfl rfl
theorem gw_799 : Cond.methodLink "FoldedArchive$State" 104 yX9_append ∈ GW := GW_t4 35 rfl rfl
theorem gw_800 : Cond.instanceMethod yX9_append ∈ GW := GW_t4 36 rfl rfl
theorem gw_801 : Cond.selects yX9_append.cls yX9_append yX9_append ∈ GW := GW_t4 37 rfl rfl
theorem cv_X8_104 : CV RX8 104 yX9_append cX9_append 1 (some .int) 0 := ⟨gw_799, gw_800, gw_801, gw_47, gw_802, by decide +kernel, by decide +kernel⟩
theorem gw_803 : Cond.methodLink "FoldedArchive$State" 107 yX9_receivePoured ∈ GW := GW_t4 39 rfl rfl
theorem gw_804 : Cond.instanceMethod yX9_receivePoured ∈ GW := GW_t4 40 rfl rfl
theorem gw_805 : Cond.selects yX9_receivePoured.cls yX9_receivePoured yX9_receivePoured ∈ GW := GW_t4 41 rfl rfl
theorem cv_X8_107 : CV RX8 107 yX9_receivePoured cX9_receivePoured 3 (some .int) 2 := ⟨gw_803, gw_804, gw_805, gw_47, gw_806, by decide +kernel, by decide +kernel⟩
theorem gw_812 : Cond.methodLink "FoldedArchive$State" 110 yX9_giveTerm ∈ GW := GW_t4 48 rfl rfl
theorem gw_813 : Cond.instanceMethod yX9_giveTerm ∈ GW := GW_t4 49 rfl rfl
theorem gw_814 : Cond.selects yX9_giveTerm.cls yX9_giveTerm yX9_giveTerm ∈ GW := GW_t4 50 rfl rfl
theorem cv_X8_110 : CV RX8 110 yX9_giveTerm cX9_giveTerm 3 (some .int) 2 := ⟨gw_812, gw_813, gw_814, gw_47, gw_815, by decide +kernel, by decide +kernel⟩
theorem gw_817 : Cond.methodLink "FoldedArchive$State" 113 yX9_takeTerm ∈ GW := GW_t4 53 rfl rfl
theorem gw_818 : Cond.instanceMethod yX9_takeTerm ∈ GW := GW_t4 54 rfl rfl
theorem gw_819 : Cond.selects yX9_takeTerm.cls yX9_takeTerm yX9_takeTerm ∈ GW := GW_t4 55 rfl rfl
theorem cv_X8_113 : CV RX8 113 yX9_takeTerm cX9_takeTerm 3 (some .int) 2 := ⟨gw_817, gw_818, gw_819, gw_47, gw_820, by decide +kernel, by decide +kernel⟩
theorem gw_821 : Cond.methodLink "FoldedArchive$State" 116 yX4_insert ∈ GW := GW_t4 57 rfl rfl
theorem cv_X8_116 : CV RX8 116 yX4_insert cX4_insert 3 (some .int) 1 := ⟨gw_821, gw_822, gw_823, gw_48, gw_824, by decide +kernel, by decide +kernel⟩
theorem gw_825 : Cond.methodLink "FoldedArchive$State" 119 yX4_removeLast ∈ GW := GW_t4 61 rfl rfl
theorem cv_X8_119 : CV RX8 119 yX4_removeLast cX4_removeLast 3 (some .int) 0 := ⟨gw_825, gw_826, gw_827, gw_48, gw_828, by decide +kernel, by decide +kernel⟩
theorem gw_829 : Cond.methodLink "FoldedArchive$State" 122 yX5_append ∈ GW := GW_t4 65 rfl rfl
theorem gw_830 : Cond.instanceMethod yX5_append ∈ GW := GW_t4 66 rfl rfl
theorem gw_831 : Cond.selects yX5_append.cls yX5_append yX5_append ∈ GW := GW_t4 67 rfl rfl
theorem cv_X8_122 : CV RX8 122 yX5_append cX5_append 4 (some .int) 3 := ⟨gw_829, gw_830, gw_831, gw_49, gw_832, by decide +kernel, by decide +kernel⟩
theorem gw_833 : Cond.methodLink "FoldedArchive$State" 124 yX5_remove ∈ GW := GW_t4 69 rfl rfl
theorem gw_834 : Cond.instanceMethod yX5_remove ∈ GW := GW_t4 70 rfl rfl
theorem gw_835 : Cond.selects yX5_remove.cls yX5_remove yX5_remove ∈ GW := GW_t4 71 rfl rfl
theorem cv_X8_124 : CV RX8 124 yX5_remove cX5_remove 3 (some .int) 1 := ⟨gw_833, gw_834, gw_835, gw_49, gw_836, by decide +kernel, by decide +kernel⟩
theorem gw_837 : Cond.methodLink "FoldedArchive$State" 127 yX5_setBroken ∈ GW := GW_t4 73 rfl rfl
theorem gw_838 : Cond.instanceMethod yX5_setBroken ∈ GW := GW_t4 74 rfl rfl
theorem gw_839 : Cond.selects yX5_setBroken.cls yX5_setBroken yX5_setBroken ∈ GW := GW_t4 75 rfl rfl
theorem cv_X8_127 : CV RX8 127 yX5_setBroken cX5_setBroken 3 (some .int) 2 := ⟨gw_837, gw_838, gw_839, gw_49, gw_840, by decide +kernel, by decide +kernel⟩
theorem gw_845 : Cond.methodLink "FoldedArchive$State" 130 yX1_greatest ∈ GW := GW_t4 81 rfl rfl
theorem gw_637 : Cond.instanceMethod yX1_greatest ∈ GW := GW_t3 113 rfl rfl
theorem gw_638 : Cond.selects yX1_greatest.cls yX1_greatest yX1_greatest ∈ GW := GW_t3 114 rfl rfl
theorem cv_X8_130 : CV RX8 130 yX1_greatest cX1_greatest 6 (some .int) 3 := ⟨gw_845, gw_637, gw_638, gw_51, gw_639, by decide +kernel, by decide +kernel⟩
theorem gw_846 : Cond.methodLink "FoldedArchive$State" 136 yX8_moveAlongPipes ∈ GW := GW_t4 82 rfl rfl
theorem gw_848 : Cond.instanceMethod yX8_moveAlongPipes ∈ GW := GW_t4 84 rfl rfl
theorem gw_19 : Cond.selects yX8_moveAlongPipes.cls yX8_moveAlongPipes yX8_moveAlongPipes ∈ GW := GW_pr 19 (q := (yX8_moveAlongPipes, 3)) rfl
theorem cv_X8_136 : CV RX8 136 yX8_moveAlongPipes cX8_moveAlongPipes 4 (some .int) 1 := ⟨gw_846, gw_848, gw_19, gw_46, gw_849, by decide +kernel, by decide +kernel⟩
theorem gw_865 : Cond.methodLink "FoldedArchive$State" 139 yX8_moveDownPile ∈ GW := GW_t4 101 rfl rfl
theorem gw_867 : Cond.instanceMethod yX8_moveDownPile ∈ GW := GW_t4 103 rfl rfl
theorem gw_20 : Cond.selects yX8_moveDownPile.cls yX8_moveDownPile yX8_moveDownPile ∈ GW := GW_pr 20 (q := (yX8_moveDownPile, 3)) rfl
theorem cv_X8_139 : CV RX8 139 yX8_moveDownPile cX8_moveDownPile 5 (some .int) 0 := ⟨gw_865, gw_867, gw_20, gw_46, gw_868, by decide +kernel, by decide +kernel⟩
theorem gw_798 : Cond.code yX8_apply cX8_apply 6 (some .int) ∈ GW := GW_t4 34 rfl rfl
theorem gw_1441 : Cond.code yX9_waterSum cX9_waterSum 3 (some .int) ∈ GW := GW_t6 197 rfl rfl
theorem gw_1415 : Cond.code yX9_comesBefore cX9_comesBefore 3 (some .boolean) ∈ GW := GW_t6 171 rfl rfl
theorem gw_1412 : Cond.methodLink "FoldedArchive$Strip" 70 yX9_comesBefore ∈ GW := GW_t6 168 rfl rfl
theorem gw_1414 : Cond.instanceMethod yX9_comesBefore ∈ GW := GW_t6 170 rfl rfl
theorem gw_31 : Cond.selects yX9_comesBefore.cls yX9_comesBefore yX9_comesBefore ∈ GW := GW_pr 31 (q := (yX9_comesBefore, 5)) rfl
theorem cv_X9_70 : CV RX9 70 yX9_comesBefore cX9_comesBefore 3 (some .boolean) 2 := ⟨gw_1412, gw_1414, gw_31, gw_47, gw_1415, by decide +kernel, by decide +kernel⟩
theorem gw_1411 : Cond.code yX9_rankOf cX9_rankOf 4 (some .int) ∈ GW := GW_t6 167 rfl rfl
theorem gw_1408 : Cond.methodLink "FoldedArchive$Strip" 73 yX9_rankOf ∈ GW := GW_t6 164 rfl rfl
theorem gw_1410 : Cond.instanceMethod yX9_rankOf ∈ GW := GW_t6 166 rfl rfl
theorem gw_30 : Cond.selects yX9_rankOf.cls yX9_rankOf yX9_rankOf ∈ GW := GW_pr 30 (q := (yX9_rankOf, 5)) rfl
theorem cv_X9_73 : CV RX9 73 yX9_rankOf cX9_rankOf 4 (some .int) 1 := ⟨gw_1408, gw_1410, gw_30, gw_47, gw_1411, by decide +kernel, by decide +kernel⟩
theorem gw_1407 : Cond.code yX9_sectionAtRank cX9_sectionAtRank 3 (some .int) ∈ GW := GW_t6 163 rfl rfl
theorem gw_305 : Cond.fieldLink "FoldedArchive" 77 "FoldedArchive" "deniedNumber" "I" ∈ GW := GW_t2 21 rfl rfl
theorem gw_308 : Cond.laysFinal "FoldedArchive" "FoldedArchive" "state" "LFoldedArchive$State;" ∈ GW := GW_t2 24 rfl rfl
theorem gw_310 : Cond.laysFinal "FoldedArchive" "FoldedArchive" "beforeText" "LFoldedArchive$State;" ∈ GW := GW_t2 26 rfl rfl
theorem gw_312 : Cond.laysFinal "FoldedArchive" "FoldedArchive" "snapshot" "LFoldedArchive$State;" ∈ GW := GW_t2 28 rfl rfl
theorem gw_314 : Cond.laysFinal "FoldedArchive" "FoldedArchive" "history" "LFoldedArchive$History;" ∈ GW := GW_t2 30 rfl rfl
theorem gw_316 : Cond.laysFinal "FoldedArchive" "FoldedArchive" "flows" "LFoldedArchive$FlowSearch;" ∈ GW := GW_t2 32 rfl rfl
theorem gw_318 : Cond.laysFinal "FoldedArchive" "FoldedArchive" "foldings" "LFoldedArchive$FoldingSearch;" ∈ GW := GW_t2 34 rfl rfl
theorem gw_320 : Cond.laysFinal "FoldedArchive" "FoldedArchive" "text" "LFoldedArchive$Row;" ∈ GW := GW_t2 36 rfl rfl
theorem gw_322 : Cond.laysFinal "FoldedArchive" "FoldedArchive" "line" "LFoldedArchive$Row;" ∈ GW := GW_t2 38 rfl rfl
theorem gw_324 : Cond.laysFinal "FoldedArchive" "FoldedArchive" "searches" "LFoldedArchive$SearchReader;" ∈ GW := GW_t2 40 rfl rfl
theorem gw_326 : Cond.laysFinal "FoldedArchive" "FoldedArchive" "commands" "LFoldedArchive$CommandReader;" ∈ GW := GW_t2 42 rfl rfl
theorem gw_328 : Cond.lays "FoldedArchive" "FoldedArchive" "snapshotSaved" "Z" ∈ GW := GW_t2 44 rfl rfl
theorem gw_330 : Cond.lays "FoldedArchive" "FoldedArchive" "keptFault" "I" ∈ GW := GW_t2 46 rfl rfl
theorem gw_332 : Cond.lays "FoldedArchive" "FoldedArchive" "deniedNumber" "I" ∈ GW := GW_t2 48 rfl rfl
theorem gw_334 : Cond.lays "FoldedArchive" "FoldedArchive" "deniedDetail" "I" ∈ GW := GW_t2 50 rfl rfl
theorem gw_336 : Cond.lays "FoldedArchive" "FoldedArchive" "deniedCause" "I" ∈ GW := GW_t2 52 rfl rfl
theorem inG_X10 : ∀ w ∈ u_ws RX10 TX10 15, w ∈ GW := by
  have e : u_ws RX10 TX10 15 = [u_lay RX10 TX10 0, u_lay RX10 TX10 1, u_lay RX10 TX10 2, u_lay RX10 TX10 3, u_lay RX10 TX10 4, u_lay RX10 TX10 5, u_lay RX10 TX10 6, u_lay RX10 TX10 7, u_lay RX10 TX10 8, u_lay RX10 TX10 9, u_lay RX10 TX10 10, u_lay RX10 TX10 11, u_lay RX10 TX10 12, u_lay RX10 TX10 13, u_lay RX10 TX10 14] := rfl
  rw [e]
  exact List.forall_mem_cons.mpr ⟨gw_308, List.forall_mem_cons.mpr ⟨gw_310, List.forall_mem_cons.mpr ⟨gw_312, List.forall_mem_cons.mpr ⟨gw_314, List.forall_mem_cons.mpr ⟨gw_316, List.forall_mem_cons.mpr ⟨gw_318, List.forall_mem_cons.mpr ⟨gw_320, List.forall_mem_cons.mpr ⟨gw_322, List.forall_mem_cons.mpr ⟨gw_324, List.forall_mem_cons.mpr ⟨gw_326, List.forall_mem_cons.mpr ⟨gw_328, List.forall_mem_cons.mpr ⟨gw_330, List.forall_mem_cons.mpr ⟨gw_332, List.forall_mem_cons.mpr ⟨gw_334, List.forall_mem_cons.mpr ⟨gw_336, fun _ h => absurd h List.not_mem_nil⟩⟩⟩⟩⟩⟩⟩⟩⟩⟩⟩⟩⟩⟩⟩
theorem fl_X10_77 : FL RX10 77 10 12 "I" false := ⟨RX10, TX10, 15, tyX10, rfl, inG_X10, by decide, gw_305, tyX10_ok, nmX10, rfl, rfl⟩
theorem tt_0 : TT[0]? = some (0, 10, [some 1, some 12, some 23, some 34, some 124, some 128, some 132, some 134, some 136, some 138, none, none, none, none, none]) := by decide +kernel
theorem gw_306 : Cond.fieldLink "FoldedArchive" 80 "FoldedArchive" "deniedDetail" "I" ∈ GW := GW_t2 22 rfl rfl
theorem fl_X10_80 : FL RX10 80 10 13 "I" false := ⟨RX10, TX10, 15, tyX10, rfl, inG_X10, by decide, gw_306, tyX10_ok, nmX10, rfl, rfl⟩
theorem gw_307 : Cond.fieldLink "FoldedArchive" 83 "FoldedArchive" "deniedCause" "I" ∈ GW := GW_t2 23 rfl rfl
theorem fl_X10_83 : FL RX10 83 10 14 "I" false := ⟨RX10, TX10, 15, tyX10, rfl, inG_X10, by decide, gw_307, tyX10_ok, nmX10, rfl, rfl⟩
theorem gw_620 : Cond.code yX10_recordDenial cX10_recordDenial 4 none ∈ GW := GW_t3 96 rfl rfl
theorem gw_617 : Cond.methodLink "FoldedArchive" 255 yX10_recordDenial ∈ GW := GW_t3 93 rfl rfl
theorem gw_619 : Cond.instanceMethod yX10_recordDenial ∈ GW := GW_t3 95 rfl rfl
theorem gw_5 : Cond.selects yX10_recordDenial.cls yX10_recordDenial yX10_recordDenial ∈ GW := GW_pr 5 (q := (yX10_recordDenial, 15)) rfl
theorem gw_45 : Cond.initialized "FoldedArchive" ∈ GW := GW_t1 1 rfl rfl
theorem cv_X10_255 : CV RX10 255 yX10_recordDenial cX10_recordDenial 4 none 3 := ⟨gw_617, gw_619, gw_5, gw_45, gw_620, by decide +kernel, by decide +kernel⟩
theorem gw_621 : Cond.classLink "FoldedArchive" 259 "java/lang/UnsupportedOperationException" ∈ GW := GW_t3 97 rfl rfl
theorem gw_65 : Cond.initialized "java/lang/UnsupportedOperationException" ∈ GW := GW_t1 21 rfl rfl
theorem xg_X10_259 : ∀ w ∈ vx_at0 RX10 261 "java/lang/UnsupportedOperationException" exN, w ∈ GW ∨ w ∈ NGW := GW_all _ (by decide +kernel)
theorem xo_X10_259 : ∀ w ∈ Cond.classLink RX10 259 "java/lang/UnsupportedOperationException" :: Cond.initialized "java/lang/UnsupportedOperationException" :: vx_at0 RX10 261 "java/lang/UnsupportedOperationException" exN, vx_ot w = true := List.all_eq_true.mp (by decide +kernel)
theorem gw_602 : Cond.classLink "FoldedArchive" 293 "java/lang/IllegalArgumentException" ∈ GW := GW_t3 78 rfl rfl
theorem gw_64 : Cond.initialized "java/lang/IllegalArgumentException" ∈ GW := GW_t1 20 rfl rfl
theorem xg_X10_293 : ∀ w ∈ vx_at0 RX10 295 "java/lang/IllegalArgumentException" exN, w ∈ GW ∨ w ∈ NGW := GW_all _ (by decide +kernel)
theorem xo_X10_293 : ∀ w ∈ Cond.classLink RX10 293 "java/lang/IllegalArgumentException" :: Cond.initialized "java/lang/IllegalArgumentException" :: vx_at0 RX10 295 "java/lang/IllegalArgumentException" exN, vx_ot w = true := List.all_eq_true.mp (by decide +kernel)
theorem gw_461 : Cond.classLink "FoldedArchive" 142 "java/lang/IndexOutOfBoundsException" ∈ GW := GW_t2 177 rfl rfl
theorem gw_60 : Cond.initialized "java/lang/IndexOutOfBoundsException" ∈ GW := GW_t1 16 rfl rfl
theorem xg_X10_142 : ∀ w ∈ vx_at0 RX10 144 "java/lang/IndexOutOfBoundsException" exN, w ∈ GW ∨ w ∈ NGW := GW_all _ (by decide +kernel)
theorem xo_X10_142 : ∀ w ∈ Cond.classLink RX10 142 "java/lang/IndexOutOfBoundsException" :: Cond.initialized "java/lang/IndexOutOfBoundsException" :: vx_at0 RX10 144 "java/lang/IndexOutOfBoundsException" exN, vx_ot w = true := List.all_eq_true.mp (by decide +kernel)
theorem gw_601 : Cond.code yX10_obey cX10_obey 2 none ∈ GW := GW_t3 77 rfl rfl
theorem gw_293 : Cond.fieldLink "FoldedArchive" 10 "FoldedArchive" "state" "LFoldedArchive$State;" ∈ GW := GW_t2 9 rfl rfl
theorem fl_X10_10 : FL RX10 10 10 0 "LFoldedArchive$State;" true := ⟨RX10, TX10, 15, tyX10, rfl, inG_X10, by decide, gw_293, tyX10_ok, nmX10, rfl, rfl⟩
theorem gw_717 : Cond.methodLink "FoldedArchive" 279 yX8_judge ∈ GW := GW_t3 193 rfl rfl
theorem gw_718 : Cond.instanceMethod yX8_judge ∈ GW := GW_t3 194 rfl rfl
theorem gw_719 : Cond.selects yX8_judge.cls yX8_judge yX8_judge ∈ GW := GW_t3 195 rfl rfl
theorem cv_X10_279 : CV RX10 279 yX8_judge cX8_judge 5 (some .int) 4 := ⟨gw_717, gw_718, gw_719, gw_46, gw_720, by decide +kernel, by decide +kernel⟩
theorem tt_1 : TT[1]? = some (0, 8, [some 2, some 5, some 7]) := by decide +kernel
theorem tt_2 : TT[2]? = some (0, 9, [none, none, none, some 3, some 4]) := by decide +kernel
theorem tt_3 : TT[3]? = some (1, 7, []) := by decide +kernel
theorem tt_4 : TT[4]? = some (1, 7, []) := by decide +kernel
theorem is9_2 : isX9 2 := ⟨tt_2, tt_3, tt_4⟩
theorem tt_5 : TT[5]? = some (0, 4, [none, some 6]) := by decide +kernel
theorem tt_6 : TT[6]? = some (1, 7, []) := by decide +kernel
theorem is4_5 : isX4 5 := ⟨tt_5, tt_6⟩
theorem tt_7 : TT[7]? = some (0, 5, [none, some 8, some 9, some 10, some 11]) := by decide +kernel
theorem tt_8 : TT[8]? = some (1, 10, []) := by decide +kernel
theorem tt_9 : TT[9]? = some (1, 10, []) := by decide +kernel
theorem tt_10 : TT[10]? = some (1, 10, []) := by decide +kernel
theorem tt_11 : TT[11]? = some (2, 10, []) := by decide +kernel
theorem is5_7 : isX5 7 := ⟨tt_7, tt_8, tt_9, tt_10, tt_11⟩
theorem is8_1 : isX8 1 := ⟨tt_1, is9_2, is4_5, is5_7⟩
theorem gw_598 : Cond.methodLink "FoldedArchive" 182 yX10_obey ∈ GW := GW_t3 74 rfl rfl
theorem gw_600 : Cond.instanceMethod yX10_obey ∈ GW := GW_t3 76 rfl rfl
theorem gw_4 : Cond.selects yX10_obey.cls yX10_obey yX10_obey ∈ GW := GW_pr 4 (q := (yX10_obey, 15)) rfl
theorem cv_X10_182 : CV RX10 182 yX10_obey cX10_obey 2 none 1 := ⟨gw_598, gw_600, gw_4, gw_45, gw_601, by decide +kernel, by decide +kernel⟩
theorem gw_296 : Cond.fieldLink "FoldedArchive" 25 "FoldedArchive" "history" "LFoldedArchive$History;" ∈ GW := GW_t2 12 rfl rfl
theorem fl_X10_25 : FL RX10 25 10 3 "LFoldedArchive$History;" true := ⟨RX10, TX10, 15, tyX10, rfl, inG_X10, by decide, gw_296, tyX10_ok, nmX10, rfl, rfl⟩
theorem gw_765 : Cond.methodLink "FoldedArchive" 262 yX3_keep ∈ GW := GW_t4 1 rfl rfl
theorem gw_766 : Cond.instanceMethod yX3_keep ∈ GW := GW_t4 2 rfl rfl
theorem gw_767 : Cond.selects yX3_keep.cls yX3_keep yX3_keep ∈ GW := GW_t4 3 rfl rfl
theorem cv_X10_262 : CV RX10 262 yX3_keep cX3_keep 3 none 1 := ⟨gw_765, gw_766, gw_767, gw_50, gw_768, by decide +kernel, by decide +kernel⟩
theorem gw_297 : Cond.fieldLink "FoldedArchive" 32 "FoldedArchive" "flows" "LFoldedArchive$FlowSearch;" ∈ GW := GW_t2 13 rfl rfl
theorem fl_X10_32 : FL RX10 32 10 4 "LFoldedArchive$FlowSearch;" true := ⟨RX10, TX10, 15, tyX10, rfl, inG_X10, by decide, gw_297, tyX10_ok, nmX10, rfl, rfl⟩
theorem gw_795 : Cond.methodLink "FoldedArchive" 282 yX8_apply ∈ GW := GW_t4 31 rfl rfl
theorem gw_796 : Cond.instanceMethod yX8_apply ∈ GW := GW_t4 32 rfl rfl
theorem gw_797 : Cond.selects yX8_apply.cls yX8_apply yX8_apply ∈ GW := GW_t4 33 rfl rfl
theorem cv_X10_282 : CV RX10 282 yX8_apply cX8_apply 6 (some .int) 5 := ⟨gw_795, gw_796, gw_797, gw_46, gw_798, by decide +kernel, by decide +kernel⟩
theorem gw_716 : Cond.code yX10_change cX10_change 5 (some .int) ∈ GW := GW_t3 192 rfl rfl
theorem gw_713 : Cond.methodLink "FoldedArchive" 86 yX10_change ∈ GW := GW_t3 189 rfl rfl
theorem gw_715 : Cond.instanceMethod yX10_change ∈ GW := GW_t3 191 rfl rfl
theorem gw_12 : Cond.selects yX10_change.cls yX10_change yX10_change ∈ GW := GW_pr 12 (q := (yX10_change, 15)) rfl
theorem cv_X10_86 : CV RX10 86 yX10_change cX10_change 5 (some .int) 4 := ⟨gw_713, gw_715, gw_12, gw_45, gw_716, by decide +kernel, by decide +kernel⟩
theorem gw_712 : Cond.code yX10_addSection cX10_addSection 1 (some .int) ∈ GW := GW_t3 188 rfl rfl
theorem gw_877 : Cond.code yX10_pour cX10_pour 3 (some .int) ∈ GW := GW_t4 113 rfl rfl
theorem gw_884 : Cond.code yX10_tag cX10_tag 3 (some .int) ∈ GW := GW_t4 120 rfl rfl
theorem gw_891 : Cond.code yX10_untag cX10_untag 3 (some .int) ∈ GW := GW_t4 127 rfl rfl
theorem gw_163 : Cond.fieldLink "FoldedArchive" 90 "FoldedArchive$State" "strip" "LFoldedArchive$Strip;" ∈ GW := GW_t1 119 rfl rfl
theorem fl_X10_90 : FL RX10 90 8 0 "LFoldedArchive$Strip;" true := ⟨RX8, TX8, 3, tyX8, rfl, inG_X8, by decide, gw_163, tyX8_ok, nmX8, rfl, rfl⟩
theorem gw_101 : Cond.fieldLink "FoldedArchive" 94 "FoldedArchive$Strip" "count" "I" ∈ GW := GW_t1 57 rfl rfl
theorem fl_X10_94 : FL RX10 94 9 0 "I" false := ⟨RX9, TX9, 5, tyX9, rfl, inG_X9, by decide, gw_101, tyX9_ok, nmX9, rfl, rfl⟩
theorem gw_342 : Cond.code yX10_sectionCount cX10_sectionCount 1 (some .int) ∈ GW := GW_t2 58 rfl rfl
theorem gw_457 : Cond.methodLink "FoldedArchive" 296 yX9_has ∈ GW := GW_t2 173 rfl rfl
theorem cv_X10_296 : CV RX10 296 yX9_has cX9_has 2 (some .boolean) 1 := ⟨gw_457, gw_458, gw_459, gw_47, gw_460, by decide +kernel, by decide +kernel⟩
theorem gw_456 : Cond.code yX10_requireSection cX10_requireSection 2 none ∈ GW := GW_t2 172 rfl rfl
theorem gw_453 : Cond.methodLink "FoldedArchive" 99 yX10_requireSection ∈ GW := GW_t2 169 rfl rfl
theorem gw_455 : Cond.instanceMethod yX10_requireSection ∈ GW := GW_t2 171 rfl rfl
theorem gw_1 : Cond.selects yX10_requireSection.cls yX10_requireSection yX10_requireSection ∈ GW := GW_pr 1 (q := (yX10_requireSection, 15)) rfl
theorem cv_X10_99 : CV RX10 99 yX10_requireSection cX10_requireSection 2 none 1 := ⟨gw_453, gw_455, gw_1, gw_45, gw_456, by decide +kernel, by decide +kernel⟩
theorem gw_482 : Cond.methodLink "FoldedArchive" 102 yX9_waterOf ∈ GW := GW_t2 198 rfl rfl
theorem cv_X10_102 : CV RX10 102 yX9_waterOf cX9_waterOf 2 (some .int) 1 := ⟨gw_482, gw_483, gw_484, gw_47, gw_485, by decide +kernel, by decide +kernel⟩
theorem gw_452 : Cond.code yX10_water cX10_water 2 (some .int) ∈ GW := GW_t2 168 rfl rfl
theorem gw_1374 : Cond.methodLink "FoldedArchive" 300 yX9_isTerm ∈ GW := GW_t6 130 rfl rfl
theorem cs_X10_300 : CS RX10 300 yX9_isTerm cX9_isTerm 1 (some .boolean) 1 := ⟨gw_1374, gw_732, gw_47, gw_733, by decide +kernel, by decide +kernel⟩
theorem gw_1373 : Cond.code yX10_requireTerm cX10_requireTerm 2 none ∈ GW := GW_t6 129 rfl rfl
theorem gw_1370 : Cond.methodLink "FoldedArchive" 106 yX10_requireTerm ∈ GW := GW_t6 126 rfl rfl
theorem gw_1372 : Cond.instanceMethod yX10_requireTerm ∈ GW := GW_t6 128 rfl rfl
theorem gw_29 : Cond.selects yX10_requireTerm.cls yX10_requireTerm yX10_requireTerm ∈ GW := GW_pr 29 (q := (yX10_requireTerm, 15)) rfl
theorem cv_X10_106 : CV RX10 106 yX10_requireTerm cX10_requireTerm 2 none 1 := ⟨gw_1370, gw_1372, gw_29, gw_45, gw_1373, by decide +kernel, by decide +kernel⟩
theorem gw_1375 : Cond.methodLink "FoldedArchive" 109 yX9_bears ∈ GW := GW_t6 131 rfl rfl
theorem cv_X10_109 : CV RX10 109 yX9_bears cX9_bears 3 (some .boolean) 2 := ⟨gw_1375, gw_735, gw_736, gw_47, gw_737, by decide +kernel, by decide +kernel⟩
theorem gw_1369 : Cond.code yX10_hasTerm cX10_hasTerm 3 (some .boolean) ∈ GW := GW_t6 125 rfl rfl
theorem gw_1548 : Cond.methodLink "FoldedArchive" 113 yX9_bearersOf ∈ GW := GW_t7 64 rfl rfl
theorem cv_X10_113 : CV RX10 113 yX9_bearersOf cX9_bearersOf 4 (some .int) 1 := ⟨gw_1548, gw_1503, gw_1504, gw_47, gw_1505, by decide +kernel, by decide +kernel⟩
theorem gw_1536 : Cond.methodLink "FoldedArchive" 116 yJ6_bitCount_0f7a4 ∈ GW := GW_t7 52 rfl rfl
theorem cs_X10_116 : CS RX10 116 yJ6_bitCount_0f7a4 cJ6_bitCount_0f7a4 1 (some .int) 1 := ⟨gw_1536, gw_747, gw_67, gw_748, by decide +kernel, by decide +kernel⟩
theorem gw_1547 : Cond.code yX10_sectionsWith cX10_sectionsWith 2 (some .int) ∈ GW := GW_t7 63 rfl rfl
theorem gw_1404 : Cond.methodLink "FoldedArchive" 121 yX9_sectionAtRank ∈ GW := GW_t6 160 rfl rfl
theorem gw_1405 : Cond.instanceMethod yX9_sectionAtRank ∈ GW := GW_t6 161 rfl rfl
theorem gw_1406 : Cond.selects yX9_sectionAtRank.cls yX9_sectionAtRank yX9_sectionAtRank ∈ GW := GW_t6 162 rfl rfl
theorem cv_X10_121 : CV RX10 121 yX9_sectionAtRank cX9_sectionAtRank 3 (some .int) 1 := ⟨gw_1404, gw_1405, gw_1406, gw_47, gw_1407, by decide +kernel, by decide +kernel⟩
theorem gw_499 : Cond.classLink "FoldedArchive" 124 "java/util/NoSuchElementException" ∈ GW := GW_t2 215 rfl rfl
theorem gw_63 : Cond.initialized "java/util/NoSuchElementException" ∈ GW := GW_t1 19 rfl rfl
theorem xg_X10_124 : ∀ w ∈ vx_at0 RX10 126 "java/util/NoSuchElementException" exN, w ∈ GW ∨ w ∈ NGW := GW_all _ (by decide +kernel)
theorem xo_X10_124 : ∀ w ∈ Cond.classLink RX10 124 "java/util/NoSuchElementException" :: Cond.initialized "java/util/NoSuchElementException" :: vx_at0 RX10 126 "java/util/NoSuchElementException" exN, vx_ot w = true := List.all_eq_true.mp (by decide +kernel)
theorem gw_1403 : Cond.code yX10_sectionByWater cX10_sectionByWater 3 (some .int) ∈ GW := GW_t6 159 rfl rfl
theorem gw_898 : Cond.code yX10_fold cX10_fold 2 (some .int) ∈ GW := GW_t4 134 rfl rfl
theorem gw_905 : Cond.code yX10_unfold cX10_unfold 1 (some .int) ∈ GW := GW_t4 141 rfl rfl
theorem gw_165 : Cond.fieldLink "FoldedArchive" 127 "FoldedArchive$State" "pile" "LFoldedArchive$Pile;" ∈ GW := GW_t1 121 rfl rfl
theorem fl_X10_127 : FL RX10 127 8 1 "LFoldedArchive$Pile;" true := ⟨RX8, TX8, 3, tyX8, rfl, inG_X8, by decide, gw_165, tyX8_ok, nmX8, rfl, rfl⟩
theorem gw_129 : Cond.fieldLink "FoldedArchive" 131 "FoldedArchive$Pile" "folded" "I" ∈ GW := GW_t1 85 rfl rfl
theorem fl_X10_131 : FL RX10 131 4 0 "I" false := ⟨RX4, TX4, 2, tyX4, rfl, inG_X4, by decide, gw_129, tyX4_ok, nmX4, rfl, rfl⟩
theorem gw_346 : Cond.code yX10_foldedCount cX10_foldedCount 1 (some .int) ∈ GW := GW_t2 62 rfl rfl
theorem gw_495 : Cond.methodLink "FoldedArchive" 136 yX4_layerHolding ∈ GW := GW_t2 211 rfl rfl
theorem cv_X10_136 : CV RX10 136 yX4_layerHolding cX4_layerHolding 2 (some .int) 1 := ⟨gw_495, gw_496, gw_497, gw_48, gw_498, by decide +kernel, by decide +kernel⟩
theorem gw_494 : Cond.code yX10_layerOf cX10_layerOf 3 (some .int) ∈ GW := GW_t2 210 rfl rfl
theorem gw_521 : Cond.methodLink "FoldedArchive" 139 yX4_sectionAt ∈ GW := GW_t2 237 rfl rfl
theorem cv_X10_139 : CV RX10 139 yX4_sectionAt cX4_sectionAt 3 (some .int) 1 := ⟨gw_521, gw_522, gw_523, gw_48, gw_524, by decide +kernel, by decide +kernel⟩
theorem gw_520 : Cond.code yX10_sectionIn cX10_sectionIn 3 (some .int) ∈ GW := GW_t2 236 rfl rfl
theorem gw_532 : Cond.methodLink "FoldedArchive" 145 yX8_judgeFold ∈ GW := GW_t3 8 rfl rfl
theorem cv_X10_145 : CV RX10 145 yX8_judgeFold cX8_judgeFold 3 (some .int) 1 := ⟨gw_532, gw_533, gw_534, gw_46, gw_535, by decide +kernel, by decide +kernel⟩
theorem gw_531 : Cond.code yX10_canFold cX10_canFold 3 (some .boolean) ∈ GW := GW_t3 7 rfl rfl
theorem gw_298 : Cond.fieldLink "FoldedArchive" 39 "FoldedArchive" "foldings" "LFoldedArchive$FoldingSearch;" ∈ GW := GW_t2 14 rfl rfl
theorem fl_X10_39 : FL RX10 39 10 5 "LFoldedArchive$FoldingSearch;" true := ⟨RX10, TX10, 15, tyX10, rfl, inG_X10, by decide, gw_298, tyX10_ok, nmX10, rfl, rfl⟩
theorem gw_1603 : Cond.methodLink "FoldedArchive" 148 yX2_countByFolding ∈ GW := GW_t7 119 rfl rfl
theorem gw_1604 : Cond.instanceMethod yX2_countByFolding ∈ GW := GW_t7 120 rfl rfl
theorem gw_1605 : Cond.selects yX2_countByFolding.cls yX2_countByFolding yX2_countByFolding ∈ GW := GW_t7 121 rfl rfl
theorem cv_X10_148 : CV RX10 148 yX2_countByFolding cX2_countByFolding 3 (some .int) 2 := ⟨gw_1603, gw_1604, gw_1605, gw_52, gw_1606, by decide +kernel, by decide +kernel⟩
theorem gw_1602 : Cond.code yX10_completions cX10_completions 1 (some .int) ∈ GW := GW_t7 118 rfl rfl
theorem gw_1624 : Cond.methodLink "FoldedArchive" 152 yX2_countByOrders ∈ GW := GW_t7 140 rfl rfl
theorem gw_1625 : Cond.instanceMethod yX2_countByOrders ∈ GW := GW_t7 141 rfl rfl
theorem gw_1626 : Cond.selects yX2_countByOrders.cls yX2_countByOrders yX2_countByOrders ∈ GW := GW_t7 142 rfl rfl
theorem cv_X10_152 : CV RX10 152 yX2_countByOrders cX2_countByOrders 5 (some .int) 2 := ⟨gw_1624, gw_1625, gw_1626, gw_52, gw_1627, by decide +kernel, by decide +kernel⟩
theorem gw_1623 : Cond.code yX10_completionsByOrders cX10_completionsByOrders 1 (some .int) ∈ GW := GW_t7 139 rfl rfl
theorem gw_912 : Cond.code yX10_layPipe cX10_layPipe 4 (some .int) ∈ GW := GW_t4 148 rfl rfl
theorem gw_919 : Cond.code yX10_removePipe cX10_removePipe 2 (some .int) ∈ GW := GW_t4 155 rfl rfl
theorem gw_926 : Cond.code yX10_breakPipe cX10_breakPipe 2 (some .int) ∈ GW := GW_t4 162 rfl rfl
theorem gw_933 : Cond.code yX10_mendPipe cX10_mendPipe 2 (some .int) ∈ GW := GW_t4 169 rfl rfl
theorem gw_167 : Cond.fieldLink "FoldedArchive" 155 "FoldedArchive$State" "pipes" "LFoldedArchive$Pipes;" ∈ GW := GW_t1 123 rfl rfl
theorem fl_X10_155 : FL RX10 155 8 2 "LFoldedArchive$Pipes;" true := ⟨RX8, TX8, 3, tyX8, rfl, inG_X8, by decide, gw_167, tyX8_ok, nmX8, rfl, rfl⟩
theorem gw_145 : Cond.fieldLink "FoldedArchive" 159 "FoldedArchive$Pipes" "count" "I" ∈ GW := GW_t1 101 rfl rfl
theorem fl_X10_159 : FL RX10 159 5 0 "I" false := ⟨RX5, TX5, 5, tyX5, rfl, inG_X5, by decide, gw_145, tyX5_ok, nmX5, rfl, rfl⟩
theorem gw_350 : Cond.code yX10_pipeCount cX10_pipeCount 1 (some .int) ∈ GW := GW_t2 66 rfl rfl
theorem gw_566 : Cond.methodLink "FoldedArchive" 299 yX5_has ∈ GW := GW_t3 42 rfl rfl
theorem cv_X10_299 : CV RX10 299 yX5_has cX5_has 2 (some .boolean) 1 := ⟨gw_566, gw_567, gw_568, gw_49, gw_569, by decide +kernel, by decide +kernel⟩
theorem gw_565 : Cond.code yX10_requirePipe cX10_requirePipe 2 none ∈ GW := GW_t3 41 rfl rfl
theorem gw_562 : Cond.methodLink "FoldedArchive" 162 yX10_requirePipe ∈ GW := GW_t3 38 rfl rfl
theorem gw_564 : Cond.instanceMethod yX10_requirePipe ∈ GW := GW_t3 40 rfl rfl
theorem gw_3 : Cond.selects yX10_requirePipe.cls yX10_requirePipe yX10_requirePipe ∈ GW := GW_pr 3 (q := (yX10_requirePipe, 15)) rfl
theorem cv_X10_162 : CV RX10 162 yX10_requirePipe cX10_requirePipe 2 none 1 := ⟨gw_562, gw_564, gw_3, gw_45, gw_565, by decide +kernel, by decide +kernel⟩
theorem gw_1384 : Cond.methodLink "FoldedArchive" 165 yX5_startOf ∈ GW := GW_t6 140 rfl rfl
theorem cv_X10_165 : CV RX10 165 yX5_startOf cX5_startOf 2 (some .int) 1 := ⟨gw_1384, gw_646, gw_647, gw_49, gw_648, by decide +kernel, by decide +kernel⟩
theorem gw_1383 : Cond.code yX10_pipeFrom cX10_pipeFrom 2 (some .int) ∈ GW := GW_t6 139 rfl rfl
theorem gw_1393 : Cond.methodLink "FoldedArchive" 168 yX5_endOf ∈ GW := GW_t6 149 rfl rfl
theorem cv_X10_168 : CV RX10 168 yX5_endOf cX5_endOf 2 (some .int) 1 := ⟨gw_1393, gw_650, gw_651, gw_49, gw_652, by decide +kernel, by decide +kernel⟩
theorem gw_1392 : Cond.code yX10_pipeTo cX10_pipeTo 2 (some .int) ∈ GW := GW_t6 148 rfl rfl
theorem gw_570 : Cond.methodLink "FoldedArchive" 171 yX5_widthOf ∈ GW := GW_t3 46 rfl rfl
theorem cv_X10_171 : CV RX10 171 yX5_widthOf cX5_widthOf 2 (some .int) 1 := ⟨gw_570, gw_571, gw_572, gw_49, gw_573, by decide +kernel, by decide +kernel⟩
theorem gw_561 : Cond.code yX10_capacity cX10_capacity 2 (some .int) ∈ GW := GW_t3 37 rfl rfl
theorem gw_582 : Cond.methodLink "FoldedArchive" 174 yX5_brokenAt ∈ GW := GW_t3 58 rfl rfl
theorem cv_X10_174 : CV RX10 174 yX5_brokenAt cX5_brokenAt 2 (some .boolean) 1 := ⟨gw_582, gw_583, gw_584, gw_49, gw_585, by decide +kernel, by decide +kernel⟩
theorem gw_581 : Cond.code yX10_isBroken cX10_isBroken 2 (some .boolean) ∈ GW := GW_t3 57 rfl rfl
theorem gw_594 : Cond.methodLink "FoldedArchive" 178 yX8_judgeEnds ∈ GW := GW_t3 70 rfl rfl
theorem cv_X10_178 : CV RX10 178 yX8_judgeEnds cX8_judgeEnds 1 (some .int) 0 := ⟨gw_594, gw_595, gw_596, gw_46, gw_597, by decide +kernel, by decide +kernel⟩
theorem gw_636 : Cond.methodLink "FoldedArchive" 185 yX1_greatest ∈ GW := GW_t3 112 rfl rfl
theorem cv_X10_185 : CV RX10 185 yX1_greatest cX1_greatest 6 (some .int) 3 := ⟨gw_636, gw_637, gw_638, gw_51, gw_639, by decide +kernel, by decide +kernel⟩
theorem gw_593 : Cond.code yX10_greatestFlow cX10_greatestFlow 1 (some .int) ∈ GW := GW_t3 69 rfl rfl
theorem gw_1424 : Cond.methodLink "FoldedArchive" 189 yX1_smallest ∈ GW := GW_t6 180 rfl rfl
theorem gw_1425 : Cond.instanceMethod yX1_smallest ∈ GW := GW_t6 181 rfl rfl
theorem gw_1426 : Cond.selects yX1_smallest.cls yX1_smallest yX1_smallest ∈ GW := GW_t6 182 rfl rfl
theorem cv_X10_189 : CV RX10 189 yX1_smallest cX1_smallest 5 (some .int) 2 := ⟨gw_1424, gw_1425, gw_1426, gw_51, gw_1427, by decide +kernel, by decide +kernel⟩
theorem gw_1423 : Cond.code yX10_smallestCut cX10_smallestCut 1 (some .int) ∈ GW := GW_t6 179 rfl rfl
theorem gw_684 : Cond.code yX10_lossOf cX10_lossOf 3 (some .int) ∈ GW := GW_t3 160 rfl rfl
theorem gw_940 : Cond.code yX10_drain cX10_drain 1 (some .int) ∈ GW := GW_t4 176 rfl rfl
theorem gw_947 : Cond.code yX10_seep cX10_seep 1 (some .int) ∈ GW := GW_t4 183 rfl rfl
theorem gw_1438 : Cond.methodLink "FoldedArchive" 193 yX9_waterSum ∈ GW := GW_t6 194 rfl rfl
theorem gw_1439 : Cond.instanceMethod yX9_waterSum ∈ GW := GW_t6 195 rfl rfl
theorem gw_1440 : Cond.selects yX9_waterSum.cls yX9_waterSum yX9_waterSum ∈ GW := GW_t6 196 rfl rfl
theorem cv_X10_193 : CV RX10 193 yX9_waterSum cX9_waterSum 3 (some .int) 0 := ⟨gw_1438, gw_1439, gw_1440, gw_47, gw_1441, by decide +kernel, by decide +kernel⟩
theorem gw_1437 : Cond.code yX10_totalWater cX10_totalWater 1 (some .int) ∈ GW := GW_t6 193 rfl rfl
theorem gw_103 : Cond.fieldLink "FoldedArchive" 196 "FoldedArchive$Strip" "pouredUnits" "I" ∈ GW := GW_t1 59 rfl rfl
theorem fl_X10_196 : FL RX10 196 9 1 "I" false := ⟨RX9, TX9, 5, tyX9, rfl, inG_X9, by decide, gw_103, tyX9_ok, nmX9, rfl, rfl⟩
theorem gw_105 : Cond.fieldLink "FoldedArchive" 199 "FoldedArchive$Strip" "leakedUnits" "I" ∈ GW := GW_t1 61 rfl rfl
theorem fl_X10_199 : FL RX10 199 9 2 "I" false := ⟨RX9, TX9, 5, tyX9, rfl, inG_X9, by decide, gw_105, tyX9_ok, nmX9, rfl, rfl⟩
theorem gw_1445 : Cond.code yX10_totalWaterByAccounts cX10_totalWaterByAccounts 1 (some .int) ∈ GW := GW_t6 201 rfl rfl
theorem gw_1360 : Cond.code yX10_poured cX10_poured 1 (some .int) ∈ GW := GW_t6 116 rfl rfl
theorem gw_354 : Cond.code yX10_leaked cX10_leaked 1 (some .int) ∈ GW := GW_t2 70 rfl rfl
theorem gw_1467 : Cond.classLink "FoldedArchive" 202 "java/lang/ArithmeticException" ∈ GW := GW_t6 223 rfl rfl
theorem gw_77 : Cond.initialized "java/lang/ArithmeticException" ∈ GW := GW_t1 33 rfl rfl
theorem xg_X10_202 : ∀ w ∈ vx_at0 RX10 204 "java/lang/ArithmeticException" exN, w ∈ GW ∨ w ∈ NGW := GW_all _ (by decide +kernel)
theorem xo_X10_202 : ∀ w ∈ Cond.classLink RX10 202 "java/lang/ArithmeticException" :: Cond.initialized "java/lang/ArithmeticException" :: vx_at0 RX10 204 "java/lang/ArithmeticException" exN, vx_ot w = true := List.all_eq_true.mp (by decide +kernel)
theorem gw_1466 : Cond.code yX10_meanWater cX10_meanWater 1 (some .double) ∈ GW := GW_t6 222 rfl rfl
theorem gw_1479 : Cond.code yX10_leakedShare cX10_leakedShare 1 (some .float) ∈ GW := GW_t6 235 rfl rfl
theorem gw_299 : Cond.fieldLink "FoldedArchive" 48 "FoldedArchive" "text" "LFoldedArchive$Row;" ∈ GW := GW_t2 15 rfl rfl
theorem fl_X10_48 : FL RX10 48 10 6 "LFoldedArchive$Row;" true := ⟨RX10, TX10, 15, tyX10, rfl, inG_X10, by decide, gw_299, tyX10_ok, nmX10, rfl, rfl⟩
theorem gw_1242 : Cond.methodLink "FoldedArchive" 205 yX6_isFull ∈ GW := GW_t5 238 rfl rfl
theorem gw_1243 : Cond.instanceMethod yX6_isFull ∈ GW := GW_t5 239 rfl rfl
theorem gw_1244 : Cond.selects yX6_isFull.cls yX6_isFull yX6_isFull ∈ GW := GW_t6 0 rfl rfl
theorem cv_X10_205 : CV RX10 205 yX6_isFull cX6_isFull 1 (some .boolean) 0 := ⟨gw_1242, gw_1243, gw_1244, gw_53, gw_1245, by decide +kernel, by decide +kernel⟩
theorem gw_1261 : Cond.methodLink "FoldedArchive" 212 yX6_put ∈ GW := GW_t6 17 rfl rfl
theorem gw_1262 : Cond.instanceMethod yX6_put ∈ GW := GW_t6 18 rfl rfl
theorem gw_1263 : Cond.selects yX6_put.cls yX6_put yX6_put ∈ GW := GW_t6 19 rfl rfl
theorem cv_X10_212 : CV RX10 212 yX6_put cX6_put 2 none 1 := ⟨gw_1261, gw_1262, gw_1263, gw_53, gw_1264, by decide +kernel, by decide +kernel⟩
theorem gw_239 : Cond.fieldLink "FoldedArchive" 216 "FoldedArchive$Row" "length" "I" ∈ GW := GW_t1 195 rfl rfl
theorem fl_X10_216 : FL RX10 216 6 1 "I" false := ⟨RX6, TX6, 2, tyX6, rfl, inG_X6, by decide, gw_239, tyX6_ok, nmX6, rfl, rfl⟩
theorem gw_1246 : Cond.classLink "FoldedArchive" 209 "java/lang/IllegalStateException" ∈ GW := GW_t6 2 rfl rfl
theorem gw_76 : Cond.initialized "java/lang/IllegalStateException" ∈ GW := GW_t1 32 rfl rfl
theorem xg_X10_209 : ∀ w ∈ vx_at0 RX10 211 "java/lang/IllegalStateException" exN, w ∈ GW ∨ w ∈ NGW := GW_all _ (by decide +kernel)
theorem xo_X10_209 : ∀ w ∈ Cond.classLink RX10 209 "java/lang/IllegalStateException" :: Cond.initialized "java/lang/IllegalStateException" :: vx_at0 RX10 211 "java/lang/IllegalStateException" exN, vx_ot w = true := List.all_eq_true.mp (by decide +kernel)
theorem gw_1241 : Cond.code yX10_feed cX10_feed 2 (some .int) ∈ GW := GW_t5 237 rfl rfl
theorem gw_1329 : Cond.methodLink "FoldedArchive" 219 yX6_empty ∈ GW := GW_t6 85 rfl rfl
theorem gw_1330 : Cond.instanceMethod yX6_empty ∈ GW := GW_t6 86 rfl rfl
theorem gw_1331 : Cond.selects yX6_empty.cls yX6_empty yX6_empty ∈ GW := GW_t6 87 rfl rfl
theorem cv_X10_219 : CV RX10 219 yX6_empty cX6_empty 1 none 0 := ⟨gw_1329, gw_1330, gw_1331, gw_53, gw_1332, by decide +kernel, by decide +kernel⟩
theorem gw_1540 : Cond.code yX10_clearText cX10_clearText 2 (some .int) ∈ GW := GW_t7 56 rfl rfl
theorem gw_304 : Cond.fieldLink "FoldedArchive" 73 "FoldedArchive" "keptFault" "I" ∈ GW := GW_t2 20 rfl rfl
theorem fl_X10_73 : FL RX10 73 10 11 "I" false := ⟨RX10, TX10, 15, tyX10, rfl, inG_X10, by decide, gw_304, tyX10_ok, nmX10, rfl, rfl⟩
theorem gw_1336 : Cond.code yX10_refuseFault cX10_refuseFault 2 none ∈ GW := GW_t6 92 rfl rfl
theorem gw_301 : Cond.fieldLink "FoldedArchive" 58 "FoldedArchive" "searches" "LFoldedArchive$SearchReader;" ∈ GW := GW_t2 17 rfl rfl
theorem fl_X10_58 : FL RX10 58 10 8 "LFoldedArchive$SearchReader;" true := ⟨RX10, TX10, 15, tyX10, rfl, inG_X10, by decide, gw_301, tyX10_ok, nmX10, rfl, rfl⟩
theorem gw_1498 : Cond.methodLink "FoldedArchive" 222 yX7_askForAll ∈ GW := GW_t7 14 rfl rfl
theorem gw_1499 : Cond.instanceMethod yX7_askForAll ∈ GW := GW_t7 15 rfl rfl
theorem gw_1500 : Cond.selects yX7_askForAll.cls yX7_askForAll yX7_askForAll ∈ GW := GW_t7 16 rfl rfl
theorem cv_X10_222 : CV RX10 222 yX7_askForAll cX7_askForAll 3 none 1 := ⟨gw_1498, gw_1499, gw_1500, gw_55, gw_1501, by decide +kernel, by decide +kernel⟩
theorem gw_1507 : Cond.methodLink "FoldedArchive" 226 yX7_read ∈ GW := GW_t7 23 rfl rfl
theorem gw_1508 : Cond.instanceMethod yX7_read ∈ GW := GW_t7 24 rfl rfl
theorem gw_1509 : Cond.selects yX7_read.cls yX7_read yX7_read ∈ GW := GW_t7 25 rfl rfl
theorem cv_X10_226 : CV RX10 226 yX7_read cX7_read 3 (some .int) 1 := ⟨gw_1507, gw_1508, gw_1509, gw_55, gw_1510, by decide +kernel, by decide +kernel⟩
theorem gw_256 : Cond.fieldLink "FoldedArchive" 230 "FoldedArchive$SearchReader" "fault" "I" ∈ GW := GW_t1 212 rfl rfl
theorem fl_X10_230 : FL RX10 230 7 3 "I" false := ⟨RX7, TX7, 4, tyX7, rfl, inG_X7, by decide, gw_256, tyX7_ok, nmX7, rfl, rfl⟩
theorem gw_1333 : Cond.methodLink "FoldedArchive" 233 yX10_refuseFault ∈ GW := GW_t6 89 rfl rfl
theorem gw_1335 : Cond.instanceMethod yX10_refuseFault ∈ GW := GW_t6 91 rfl rfl
theorem gw_27 : Cond.selects yX10_refuseFault.cls yX10_refuseFault yX10_refuseFault ∈ GW := GW_pr 27 (q := (yX10_refuseFault, 15)) rfl
theorem cv_X10_233 : CV RX10 233 yX10_refuseFault cX10_refuseFault 2 none 1 := ⟨gw_1333, gw_1335, gw_27, gw_45, gw_1336, by decide +kernel, by decide +kernel⟩
theorem gw_1497 : Cond.code yX10_search cX10_search 2 (some .int) ∈ GW := GW_t7 13 rfl rfl
theorem gw_1562 : Cond.methodLink "FoldedArchive" 236 yX7_askForOne ∈ GW := GW_t7 78 rfl rfl
theorem gw_1563 : Cond.instanceMethod yX7_askForOne ∈ GW := GW_t7 79 rfl rfl
theorem gw_1564 : Cond.selects yX7_askForOne.cls yX7_askForOne yX7_askForOne ∈ GW := GW_t7 80 rfl rfl
theorem cv_X10_236 : CV RX10 236 yX7_askForOne cX7_askForOne 4 none 2 := ⟨gw_1562, gw_1563, gw_1564, gw_55, gw_1565, by decide +kernel, by decide +kernel⟩
theorem gw_1561 : Cond.code yX10_matches cX10_matches 3 (some .boolean) ∈ GW := GW_t7 77 rfl rfl
theorem gw_302 : Cond.fieldLink "FoldedArchive" 65 "FoldedArchive" "commands" "LFoldedArchive$CommandReader;" ∈ GW := GW_t2 18 rfl rfl
theorem fl_X10_65 : FL RX10 65 10 9 "LFoldedArchive$CommandReader;" true := ⟨RX10, TX10, 15, tyX10, rfl, inG_X10, by decide, gw_302, tyX10_ok, nmX10, rfl, rfl⟩
theorem gw_1342 : Cond.methodLink "FoldedArchive" 286 yX0_kindOf ∈ GW := GW_t6 98 rfl rfl
theorem gw_1343 : Cond.instanceMethod yX0_kindOf ∈ GW := GW_t6 99 rfl rfl
theorem gw_1344 : Cond.selects yX0_kindOf.cls yX0_kindOf yX0_kindOf ∈ GW := GW_t6 100 rfl rfl
theorem cv_X10_286 : CV RX10 286 yX0_kindOf cX0_kindOf 2 (some .int) 1 := ⟨gw_1342, gw_1343, gw_1344, gw_56, gw_1345, by decide +kernel, by decide +kernel⟩
theorem gw_1346 : Cond.methodLink "FoldedArchive" 289 yX0_operandOf ∈ GW := GW_t6 102 rfl rfl
theorem gw_1347 : Cond.instanceMethod yX0_operandOf ∈ GW := GW_t6 103 rfl rfl
theorem gw_1348 : Cond.selects yX0_operandOf.cls yX0_operandOf yX0_operandOf ∈ GW := GW_t6 104 rfl rfl
theorem cv_X10_289 : CV RX10 289 yX0_operandOf cX0_operandOf 4 (some .int) 2 := ⟨gw_1346, gw_1347, gw_1348, gw_56, gw_1349, by decide +kernel, by decide +kernel⟩
theorem gw_1341 : Cond.code yX10_runCommand cX10_runCommand 7 (some .int) ∈ GW := GW_t6 97 rfl rfl
theorem gw_1352 : Cond.code yX10_causeOf cX10_causeOf 1 (some .int) ∈ GW := GW_t6 108 rfl rfl
theorem gw_1272 : Cond.methodLink "FoldedArchive" 240 yX0_read ∈ GW := GW_t6 28 rfl rfl
theorem gw_1273 : Cond.instanceMethod yX0_read ∈ GW := GW_t6 29 rfl rfl
theorem gw_1274 : Cond.selects yX0_read.cls yX0_read yX0_read ∈ GW := GW_t6 30 rfl rfl
theorem cv_X10_240 : CV RX10 240 yX0_read cX0_read 4 none 1 := ⟨gw_1272, gw_1273, gw_1274, gw_56, gw_1275, by decide +kernel, by decide +kernel⟩
theorem gw_277 : Cond.fieldLink "FoldedArchive" 243 "FoldedArchive$CommandReader" "fault" "I" ∈ GW := GW_t1 233 rfl rfl
theorem fl_X10_243 : FL RX10 243 0 3 "I" false := ⟨RX0, TX0, 6, tyX0, rfl, inG_X0, by decide, gw_277, tyX0_ok, nmX0, rfl, rfl⟩
theorem gw_294 : Cond.fieldLink "FoldedArchive" 16 "FoldedArchive" "beforeText" "LFoldedArchive$State;" ∈ GW := GW_t2 10 rfl rfl
theorem fl_X10_16 : FL RX10 16 10 1 "LFoldedArchive$State;" true := ⟨RX10, TX10, 15, tyX10, rfl, inG_X10, by decide, gw_294, tyX10_ok, nmX10, rfl, rfl⟩
theorem gw_1337 : Cond.methodLink "FoldedArchive" 244 yX8_copyFrom ∈ GW := GW_t6 93 rfl rfl
theorem cv_X10_244 : CV RX10 244 yX8_copyFrom cX8_copyFrom 2 none 1 := ⟨gw_1337, gw_774, gw_775, gw_46, gw_776, by decide +kernel, by decide +kernel⟩
theorem tt_12 : TT[12]? = some (0, 8, [some 13, some 16, some 18]) := by decide +kernel
theorem tt_13 : TT[13]? = some (0, 9, [none, none, none, some 14, some 15]) := by decide +kernel
theorem tt_14 : TT[14]? = some (1, 7, []) := by decide +kernel
theorem tt_15 : TT[15]? = some (1, 7, []) := by decide +kernel
theorem is9_13 : isX9 13 := ⟨tt_13, tt_14, tt_15⟩
theorem tt_16 : TT[16]? = some (0, 4, [none, some 17]) := by decide +kernel
theorem tt_17 : TT[17]? = some (1, 7, []) := by decide +kernel
theorem is4_16 : isX4 16 := ⟨tt_16, tt_17⟩
theorem tt_18 : TT[18]? = some (0, 5, [none, some 19, some 20, some 21, some 22]) := by decide +kernel
theorem tt_19 : TT[19]? = some (1, 10, []) := by decide +kernel
theorem tt_20 : TT[20]? = some (1, 10, []) := by decide +kernel
theorem tt_21 : TT[21]? = some (1, 10, []) := by decide +kernel
theorem tt_22 : TT[22]? = some (2, 10, []) := by decide +kernel
theorem is5_18 : isX5 18 := ⟨tt_18, tt_19, tt_20, tt_21, tt_22⟩
theorem is8_12 : isX8 12 := ⟨tt_12, is9_13, is4_16, is5_18⟩
theorem gw_275 : Cond.fieldLink "FoldedArchive" 248 "FoldedArchive$CommandReader" "count" "I" ∈ GW := GW_t1 231 rfl rfl
theorem fl_X10_248 : FL RX10 248 0 2 "I" false := ⟨RX0, TX0, 6, tyX0, rfl, inG_X0, by decide, gw_275, tyX0_ok, nmX0, rfl, rfl⟩
theorem gw_1338 : Cond.methodLink "FoldedArchive" 249 yX10_runCommand ∈ GW := GW_t6 94 rfl rfl
theorem gw_1340 : Cond.instanceMethod yX10_runCommand ∈ GW := GW_t6 96 rfl rfl
theorem gw_28 : Cond.selects yX10_runCommand.cls yX10_runCommand yX10_runCommand ∈ GW := GW_pr 28 (q := (yX10_runCommand, 15)) rfl
theorem cv_X10_249 : CV RX10 249 yX10_runCommand cX10_runCommand 7 (some .int) 1 := ⟨gw_1338, gw_1340, gw_28, gw_45, gw_1341, by decide +kernel, by decide +kernel⟩
theorem gw_1350 : Cond.methodLink "FoldedArchive" 252 yX10_causeOf ∈ GW := GW_t6 106 rfl rfl
theorem gw_1351 : Cond.static yX10_causeOf ∈ GW := GW_t6 107 rfl rfl
theorem cs_X10_252 : CS RX10 252 yX10_causeOf cX10_causeOf 1 (some .int) 1 := ⟨gw_1350, gw_1351, gw_45, gw_1352, by decide +kernel, by decide +kernel⟩
theorem gw_1271 : Cond.code yX10_execute cX10_execute 3 (some .int) ∈ GW := GW_t6 27 rfl rfl
theorem gw_691 : Cond.code yX10_denial cX10_denial 1 (some .int) ∈ GW := GW_t3 167 rfl rfl
theorem gw_698 : Cond.code yX10_denialDetail cX10_denialDetail 1 (some .int) ∈ GW := GW_t3 174 rfl rfl
theorem gw_187 : Cond.fieldLink "FoldedArchive" 272 "FoldedArchive$History" "count" "I" ∈ GW := GW_t1 143 rfl rfl
theorem fl_X10_272 : FL RX10 272 3 2 "I" false := ⟨RX3, TX3, 3, tyX3, rfl, inG_X3, by decide, gw_187, tyX3_ok, nmX3, rfl, rfl⟩
theorem gw_1581 : Cond.methodLink "FoldedArchive" 273 yX3_takeBack ∈ GW := GW_t7 97 rfl rfl
theorem gw_1582 : Cond.instanceMethod yX3_takeBack ∈ GW := GW_t7 98 rfl rfl
theorem gw_1583 : Cond.selects yX3_takeBack.cls yX3_takeBack yX3_takeBack ∈ GW := GW_t7 99 rfl rfl
theorem cv_X10_273 : CV RX10 273 yX3_takeBack cX3_takeBack 3 none 1 := ⟨gw_1581, gw_1582, gw_1583, gw_50, gw_1584, by decide +kernel, by decide +kernel⟩
theorem gw_1580 : Cond.code yX10_undo cX10_undo 1 (some .int) ∈ GW := GW_t7 96 rfl rfl
theorem gw_358 : Cond.code yX10_undoCount cX10_undoCount 1 (some .int) ∈ GW := GW_t2 74 rfl rfl
theorem gw_295 : Cond.fieldLink "FoldedArchive" 19 "FoldedArchive" "snapshot" "LFoldedArchive$State;" ∈ GW := GW_t2 11 rfl rfl
theorem fl_X10_19 : FL RX10 19 10 2 "LFoldedArchive$State;" true := ⟨RX10, TX10, 15, tyX10, rfl, inG_X10, by decide, gw_295, tyX10_ok, nmX10, rfl, rfl⟩
theorem tt_23 : TT[23]? = some (0, 8, [some 24, some 27, some 29]) := by decide +kernel
theorem tt_24 : TT[24]? = some (0, 9, [none, none, none, some 25, some 26]) := by decide +kernel
theorem tt_25 : TT[25]? = some (1, 7, []) := by decide +kernel
theorem tt_26 : TT[26]? = some (1, 7, []) := by decide +kernel
theorem is9_24 : isX9 24 := ⟨tt_24, tt_25, tt_26⟩
theorem tt_27 : TT[27]? = some (0, 4, [none, some 28]) := by decide +kernel
theorem tt_28 : TT[28]? = some (1, 7, []) := by decide +kernel
theorem is4_27 : isX4 27 := ⟨tt_27, tt_28⟩
theorem tt_29 : TT[29]? = some (0, 5, [none, some 30, some 31, some 32, some 33]) := by decide +kernel
theorem tt_30 : TT[30]? = some (1, 10, []) := by decide +kernel
theorem tt_31 : TT[31]? = some (1, 10, []) := by decide +kernel
theorem tt_32 : TT[32]? = some (1, 10, []) := by decide +kernel
theorem tt_33 : TT[33]? = some (2, 10, []) := by decide +kernel
theorem is5_29 : isX5 29 := ⟨tt_29, tt_30, tt_31, tt_32, tt_33⟩
theorem is8_23 : isX8 23 := ⟨tt_23, is9_24, is4_27, is5_29⟩
theorem gw_303 : Cond.fieldLink "FoldedArchive" 69 "FoldedArchive" "snapshotSaved" "Z" ∈ GW := GW_t2 19 rfl rfl
theorem fl_X10_69 : FL RX10 69 10 10 "Z" false := ⟨RX10, TX10, 15, tyX10, rfl, inG_X10, by decide, gw_303, tyX10_ok, nmX10, rfl, rfl⟩
theorem gw_1573 : Cond.code yX10_saveSnapshot cX10_saveSnapshot 1 (some .int) ∈ GW := GW_t7 89 rfl rfl
theorem gw_1592 : Cond.methodLink "FoldedArchive" 276 yX3_forget ∈ GW := GW_t7 108 rfl rfl
theorem gw_1593 : Cond.instanceMethod yX3_forget ∈ GW := GW_t7 109 rfl rfl
theorem gw_1594 : Cond.selects yX3_forget.cls yX3_forget yX3_forget ∈ GW := GW_t7 110 rfl rfl
theorem cv_X10_276 : CV RX10 276 yX3_forget cX3_forget 1 none 0 := ⟨gw_1592, gw_1593, gw_1594, gw_50, gw_1595, by decide +kernel, by decide +kernel⟩
theorem gw_1591 : Cond.code yX10_restoreSnapshot cX10_restoreSnapshot 1 (some .int) ∈ GW := GW_t7 107 rfl rfl
theorem gw_365 : Cond.constant "FoldedArchiveLaw" 7 40503 ∈ GW := GW_t2 81 rfl rfl
theorem gw_364 : Cond.code yL_cell cL_cell 2 (some .int) ∈ GW := GW_t2 80 rfl rfl
theorem gw_362 : Cond.methodLink "FoldedArchiveLaw" 8 yL_cell ∈ GW := GW_t2 78 rfl rfl
theorem gw_363 : Cond.static yL_cell ∈ GW := GW_t2 79 rfl rfl
theorem gw_44 : Cond.initialized "FoldedArchiveLaw" ∈ GW := GW_t1 0 rfl rfl
theorem cs_L_8 : CS RL 8 yL_cell cL_cell 2 (some .int) 2 := ⟨gw_362, gw_363, gw_44, gw_364, by decide +kernel, by decide +kernel⟩
theorem gw_361 : Cond.code yL_pick cL_pick 3 (some .int) ∈ GW := GW_t2 77 rfl rfl
theorem gw_709 : Cond.methodLink "FoldedArchiveLaw" 14 yX10_addSection ∈ GW := GW_t3 185 rfl rfl
theorem gw_710 : Cond.instanceMethod yX10_addSection ∈ GW := GW_t3 186 rfl rfl
theorem gw_711 : Cond.selects yX10_addSection.cls yX10_addSection yX10_addSection ∈ GW := GW_t3 187 rfl rfl
theorem cv_L_14 : CV RL 14 yX10_addSection cX10_addSection 1 (some .int) 0 := ⟨gw_709, gw_710, gw_711, gw_45, gw_712, by decide +kernel, by decide +kernel⟩
theorem gw_589 : Cond.classLink "FoldedArchiveLaw" 20 "java/lang/UnsupportedOperationException" ∈ GW := GW_t3 65 rfl rfl
theorem gw_708 : Cond.codeWith yL_addSection cL_addSection 2 (some .int) [(0, 4, 5, 20)] ∈ GW := GW_t3 184 rfl rfl
theorem gw_874 : Cond.methodLink "FoldedArchiveLaw" 22 yX10_pour ∈ GW := GW_t4 110 rfl rfl
theorem gw_875 : Cond.instanceMethod yX10_pour ∈ GW := GW_t4 111 rfl rfl
theorem gw_876 : Cond.selects yX10_pour.cls yX10_pour yX10_pour ∈ GW := GW_t4 112 rfl rfl
theorem cv_L_22 : CV RL 22 yX10_pour cX10_pour 3 (some .int) 2 := ⟨gw_874, gw_875, gw_876, gw_45, gw_877, by decide +kernel, by decide +kernel⟩
theorem gw_369 : Cond.classLink "FoldedArchiveLaw" 26 "java/lang/IndexOutOfBoundsException" ∈ GW := GW_t2 85 rfl rfl
theorem gw_873 : Cond.classLink "FoldedArchiveLaw" 28 "java/lang/IllegalArgumentException" ∈ GW := GW_t4 109 rfl rfl
theorem gw_872 : Cond.codeWith yL_pour cL_pour 4 (some .int) [(0, 6, 7, 26), (0, 6, 11, 28), (0, 6, 15, 20)] ∈ GW := GW_t4 108 rfl rfl
theorem gw_881 : Cond.methodLink "FoldedArchiveLaw" 30 yX10_tag ∈ GW := GW_t4 117 rfl rfl
theorem gw_882 : Cond.instanceMethod yX10_tag ∈ GW := GW_t4 118 rfl rfl
theorem gw_883 : Cond.selects yX10_tag.cls yX10_tag yX10_tag ∈ GW := GW_t4 119 rfl rfl
theorem cv_L_30 : CV RL 30 yX10_tag cX10_tag 3 (some .int) 2 := ⟨gw_881, gw_882, gw_883, gw_45, gw_884, by decide +kernel, by decide +kernel⟩
theorem gw_880 : Cond.codeWith yL_tag cL_tag 4 (some .int) [(0, 6, 7, 26), (0, 6, 11, 28), (0, 6, 15, 20)] ∈ GW := GW_t4 116 rfl rfl
theorem gw_888 : Cond.methodLink "FoldedArchiveLaw" 34 yX10_untag ∈ GW := GW_t4 124 rfl rfl
theorem gw_889 : Cond.instanceMethod yX10_untag ∈ GW := GW_t4 125 rfl rfl
theorem gw_890 : Cond.selects yX10_untag.cls yX10_untag yX10_untag ∈ GW := GW_t4 126 rfl rfl
theorem cv_L_34 : CV RL 34 yX10_untag cX10_untag 3 (some .int) 2 := ⟨gw_888, gw_889, gw_890, gw_45, gw_891, by decide +kernel, by decide +kernel⟩
theorem gw_887 : Cond.codeWith yL_untag cL_untag 4 (some .int) [(0, 6, 7, 26), (0, 6, 11, 28), (0, 6, 15, 20)] ∈ GW := GW_t4 123 rfl rfl
theorem gw_449 : Cond.methodLink "FoldedArchiveLaw" 37 yX10_water ∈ GW := GW_t2 165 rfl rfl
theorem gw_450 : Cond.instanceMethod yX10_water ∈ GW := GW_t2 166 rfl rfl
theorem gw_451 : Cond.selects yX10_water.cls yX10_water yX10_water ∈ GW := GW_t2 167 rfl rfl
theorem cv_L_37 : CV RL 37 yX10_water cX10_water 2 (some .int) 1 := ⟨gw_449, gw_450, gw_451, gw_45, gw_452, by decide +kernel, by decide +kernel⟩
theorem gw_368 : Cond.codeWith yL_water cL_water 3 (some .int) [(0, 5, 6, 26)] ∈ GW := GW_t2 84 rfl rfl
theorem gw_1366 : Cond.methodLink "FoldedArchiveLaw" 41 yX10_hasTerm ∈ GW := GW_t6 122 rfl rfl
theorem gw_1367 : Cond.instanceMethod yX10_hasTerm ∈ GW := GW_t6 123 rfl rfl
theorem gw_1368 : Cond.selects yX10_hasTerm.cls yX10_hasTerm yX10_hasTerm ∈ GW := GW_t6 124 rfl rfl
theorem cv_L_41 : CV RL 41 yX10_hasTerm cX10_hasTerm 3 (some .boolean) 2 := ⟨gw_1366, gw_1367, gw_1368, gw_45, gw_1369, by decide +kernel, by decide +kernel⟩
theorem gw_1365 : Cond.codeWith yL_hasTerm cL_hasTerm 4 (some .int) [(0, 14, 15, 26), (0, 14, 19, 28)] ∈ GW := GW_t6 121 rfl rfl
theorem gw_1544 : Cond.methodLink "FoldedArchiveLaw" 45 yX10_sectionsWith ∈ GW := GW_t7 60 rfl rfl
theorem gw_1545 : Cond.instanceMethod yX10_sectionsWith ∈ GW := GW_t7 61 rfl rfl
theorem gw_1546 : Cond.selects yX10_sectionsWith.cls yX10_sectionsWith yX10_sectionsWith ∈ GW := GW_t7 62 rfl rfl
theorem cv_L_45 : CV RL 45 yX10_sectionsWith cX10_sectionsWith 2 (some .int) 1 := ⟨gw_1544, gw_1545, gw_1546, gw_45, gw_1547, by decide +kernel, by decide +kernel⟩
theorem gw_1543 : Cond.codeWith yL_sectionsWith cL_sectionsWith 3 (some .int) [(0, 5, 6, 28)] ∈ GW := GW_t7 59 rfl rfl
theorem gw_1400 : Cond.methodLink "FoldedArchiveLaw" 49 yX10_sectionByWater ∈ GW := GW_t6 156 rfl rfl
theorem gw_1401 : Cond.instanceMethod yX10_sectionByWater ∈ GW := GW_t6 157 rfl rfl
theorem gw_1402 : Cond.selects yX10_sectionByWater.cls yX10_sectionByWater yX10_sectionByWater ∈ GW := GW_t6 158 rfl rfl
theorem cv_L_49 : CV RL 49 yX10_sectionByWater cX10_sectionByWater 3 (some .int) 1 := ⟨gw_1400, gw_1401, gw_1402, gw_45, gw_1403, by decide +kernel, by decide +kernel⟩
theorem gw_490 : Cond.classLink "FoldedArchiveLaw" 52 "java/util/NoSuchElementException" ∈ GW := GW_t2 206 rfl rfl
theorem gw_1399 : Cond.codeWith yL_sectionByWater cL_sectionByWater 3 (some .int) [(0, 5, 6, 52)] ∈ GW := GW_t6 155 rfl rfl
theorem gw_895 : Cond.methodLink "FoldedArchiveLaw" 54 yX10_fold ∈ GW := GW_t4 131 rfl rfl
theorem gw_896 : Cond.instanceMethod yX10_fold ∈ GW := GW_t4 132 rfl rfl
theorem gw_897 : Cond.selects yX10_fold.cls yX10_fold yX10_fold ∈ GW := GW_t4 133 rfl rfl
theorem cv_L_54 : CV RL 54 yX10_fold cX10_fold 2 (some .int) 1 := ⟨gw_895, gw_896, gw_897, gw_45, gw_898, by decide +kernel, by decide +kernel⟩
theorem gw_894 : Cond.codeWith yL_fold cL_fold 3 (some .int) [(0, 5, 6, 26), (0, 5, 10, 20)] ∈ GW := GW_t4 130 rfl rfl
theorem gw_902 : Cond.methodLink "FoldedArchiveLaw" 57 yX10_unfold ∈ GW := GW_t4 138 rfl rfl
theorem gw_903 : Cond.instanceMethod yX10_unfold ∈ GW := GW_t4 139 rfl rfl
theorem gw_904 : Cond.selects yX10_unfold.cls yX10_unfold yX10_unfold ∈ GW := GW_t4 140 rfl rfl
theorem cv_L_57 : CV RL 57 yX10_unfold cX10_unfold 1 (some .int) 0 := ⟨gw_902, gw_903, gw_904, gw_45, gw_905, by decide +kernel, by decide +kernel⟩
theorem gw_901 : Cond.codeWith yL_unfold cL_unfold 2 (some .int) [(0, 4, 5, 20)] ∈ GW := GW_t4 137 rfl rfl
theorem gw_491 : Cond.methodLink "FoldedArchiveLaw" 60 yX10_layerOf ∈ GW := GW_t2 207 rfl rfl
theorem gw_492 : Cond.instanceMethod yX10_layerOf ∈ GW := GW_t2 208 rfl rfl
theorem gw_493 : Cond.selects yX10_layerOf.cls yX10_layerOf yX10_layerOf ∈ GW := GW_t2 209 rfl rfl
theorem cv_L_60 : CV RL 60 yX10_layerOf cX10_layerOf 3 (some .int) 1 := ⟨gw_491, gw_492, gw_493, gw_45, gw_494, by decide +kernel, by decide +kernel⟩
theorem gw_489 : Cond.codeWith yL_layerOf cL_layerOf 3 (some .int) [(0, 5, 6, 26), (0, 5, 10, 52)] ∈ GW := GW_t2 205 rfl rfl
theorem gw_517 : Cond.methodLink "FoldedArchiveLaw" 63 yX10_sectionIn ∈ GW := GW_t2 233 rfl rfl
theorem gw_518 : Cond.instanceMethod yX10_sectionIn ∈ GW := GW_t2 234 rfl rfl
theorem gw_519 : Cond.selects yX10_sectionIn.cls yX10_sectionIn yX10_sectionIn ∈ GW := GW_t2 235 rfl rfl
theorem cv_L_63 : CV RL 63 yX10_sectionIn cX10_sectionIn 3 (some .int) 1 := ⟨gw_517, gw_518, gw_519, gw_45, gw_520, by decide +kernel, by decide +kernel⟩
theorem gw_516 : Cond.codeWith yL_sectionIn cL_sectionIn 3 (some .int) [(0, 5, 6, 26)] ∈ GW := GW_t2 232 rfl rfl
theorem gw_528 : Cond.methodLink "FoldedArchiveLaw" 66 yX10_canFold ∈ GW := GW_t3 4 rfl rfl
theorem gw_529 : Cond.instanceMethod yX10_canFold ∈ GW := GW_t3 5 rfl rfl
theorem gw_530 : Cond.selects yX10_canFold.cls yX10_canFold yX10_canFold ∈ GW := GW_t3 6 rfl rfl
theorem cv_L_66 : CV RL 66 yX10_canFold cX10_canFold 3 (some .boolean) 1 := ⟨gw_528, gw_529, gw_530, gw_45, gw_531, by decide +kernel, by decide +kernel⟩
theorem gw_527 : Cond.codeWith yL_canFold cL_canFold 3 (some .int) [(0, 13, 14, 26)] ∈ GW := GW_t3 3 rfl rfl
theorem gw_909 : Cond.methodLink "FoldedArchiveLaw" 70 yX10_layPipe ∈ GW := GW_t4 145 rfl rfl
theorem gw_910 : Cond.instanceMethod yX10_layPipe ∈ GW := GW_t4 146 rfl rfl
theorem gw_911 : Cond.selects yX10_layPipe.cls yX10_layPipe yX10_layPipe ∈ GW := GW_t4 147 rfl rfl
theorem cv_L_70 : CV RL 70 yX10_layPipe cX10_layPipe 4 (some .int) 3 := ⟨gw_909, gw_910, gw_911, gw_45, gw_912, by decide +kernel, by decide +kernel⟩
theorem gw_908 : Cond.codeWith yL_layPipe cL_layPipe 5 (some .int) [(0, 7, 8, 26), (0, 7, 13, 28), (0, 7, 18, 20)] ∈ GW := GW_t4 144 rfl rfl
theorem gw_916 : Cond.methodLink "FoldedArchiveLaw" 74 yX10_removePipe ∈ GW := GW_t4 152 rfl rfl
theorem gw_917 : Cond.instanceMethod yX10_removePipe ∈ GW := GW_t4 153 rfl rfl
theorem gw_918 : Cond.selects yX10_removePipe.cls yX10_removePipe yX10_removePipe ∈ GW := GW_t4 154 rfl rfl
theorem cv_L_74 : CV RL 74 yX10_removePipe cX10_removePipe 2 (some .int) 1 := ⟨gw_916, gw_917, gw_918, gw_45, gw_919, by decide +kernel, by decide +kernel⟩
theorem gw_915 : Cond.codeWith yL_removePipe cL_removePipe 3 (some .int) [(0, 5, 6, 26)] ∈ GW := GW_t4 151 rfl rfl
theorem gw_923 : Cond.methodLink "FoldedArchiveLaw" 77 yX10_breakPipe ∈ GW := GW_t4 159 rfl rfl
theorem gw_924 : Cond.instanceMethod yX10_breakPipe ∈ GW := GW_t4 160 rfl rfl
theorem gw_925 : Cond.selects yX10_breakPipe.cls yX10_breakPipe yX10_breakPipe ∈ GW := GW_t4 161 rfl rfl
theorem cv_L_77 : CV RL 77 yX10_breakPipe cX10_breakPipe 2 (some .int) 1 := ⟨gw_923, gw_924, gw_925, gw_45, gw_926, by decide +kernel, by decide +kernel⟩
theorem gw_922 : Cond.codeWith yL_breakPipe cL_breakPipe 3 (some .int) [(0, 5, 6, 26), (0, 5, 10, 20)] ∈ GW := GW_t4 158 rfl rfl
theorem gw_930 : Cond.methodLink "FoldedArchiveLaw" 80 yX10_mendPipe ∈ GW := GW_t4 166 rfl rfl
theorem gw_931 : Cond.instanceMethod yX10_mendPipe ∈ GW := GW_t4 167 rfl rfl
theorem gw_932 : Cond.selects yX10_mendPipe.cls yX10_mendPipe yX10_mendPipe ∈ GW := GW_t4 168 rfl rfl
theorem cv_L_80 : CV RL 80 yX10_mendPipe cX10_mendPipe 2 (some .int) 1 := ⟨gw_930, gw_931, gw_932, gw_45, gw_933, by decide +kernel, by decide +kernel⟩
theorem gw_929 : Cond.codeWith yL_mendPipe cL_mendPipe 3 (some .int) [(0, 5, 6, 26), (0, 5, 10, 20)] ∈ GW := GW_t4 165 rfl rfl
theorem gw_1380 : Cond.methodLink "FoldedArchiveLaw" 83 yX10_pipeFrom ∈ GW := GW_t6 136 rfl rfl
theorem gw_1381 : Cond.instanceMethod yX10_pipeFrom ∈ GW := GW_t6 137 rfl rfl
theorem gw_1382 : Cond.selects yX10_pipeFrom.cls yX10_pipeFrom yX10_pipeFrom ∈ GW := GW_t6 138 rfl rfl
theorem cv_L_83 : CV RL 83 yX10_pipeFrom cX10_pipeFrom 2 (some .int) 1 := ⟨gw_1380, gw_1381, gw_1382, gw_45, gw_1383, by decide +kernel, by decide +kernel⟩
theorem gw_1379 : Cond.codeWith yL_pipeFrom cL_pipeFrom 3 (some .int) [(0, 5, 6, 26)] ∈ GW := GW_t6 135 rfl rfl
theorem gw_1389 : Cond.methodLink "FoldedArchiveLaw" 86 yX10_pipeTo ∈ GW := GW_t6 145 rfl rfl
theorem gw_1390 : Cond.instanceMethod yX10_pipeTo ∈ GW := GW_t6 146 rfl rfl
theorem gw_1391 : Cond.selects yX10_pipeTo.cls yX10_pipeTo yX10_pipeTo ∈ GW := GW_t6 147 rfl rfl
theorem cv_L_86 : CV RL 86 yX10_pipeTo cX10_pipeTo 2 (some .int) 1 := ⟨gw_1389, gw_1390, gw_1391, gw_45, gw_1392, by decide +kernel, by decide +kernel⟩
theorem gw_1388 : Cond.codeWith yL_pipeTo cL_pipeTo 3 (some .int) [(0, 5, 6, 26)] ∈ GW := GW_t6 144 rfl rfl
theorem gw_558 : Cond.methodLink "FoldedArchiveLaw" 89 yX10_capacity ∈ GW := GW_t3 34 rfl rfl
theorem gw_559 : Cond.instanceMethod yX10_capacity ∈ GW := GW_t3 35 rfl rfl
theorem gw_560 : Cond.selects yX10_capacity.cls yX10_capacity yX10_capacity ∈ GW := GW_t3 36 rfl rfl
theorem cv_L_89 : CV RL 89 yX10_capacity cX10_capacity 2 (some .int) 1 := ⟨gw_558, gw_559, gw_560, gw_45, gw_561, by decide +kernel, by decide +kernel⟩
theorem gw_557 : Cond.codeWith yL_capacity cL_capacity 3 (some .int) [(0, 5, 6, 26)] ∈ GW := GW_t3 33 rfl rfl
theorem gw_578 : Cond.methodLink "FoldedArchiveLaw" 92 yX10_isBroken ∈ GW := GW_t3 54 rfl rfl
theorem gw_579 : Cond.instanceMethod yX10_isBroken ∈ GW := GW_t3 55 rfl rfl
theorem gw_580 : Cond.selects yX10_isBroken.cls yX10_isBroken yX10_isBroken ∈ GW := GW_t3 56 rfl rfl
theorem cv_L_92 : CV RL 92 yX10_isBroken cX10_isBroken 2 (some .boolean) 1 := ⟨gw_578, gw_579, gw_580, gw_45, gw_581, by decide +kernel, by decide +kernel⟩
theorem gw_577 : Cond.codeWith yL_isBroken cL_isBroken 3 (some .int) [(0, 13, 14, 26)] ∈ GW := GW_t3 53 rfl rfl
theorem gw_590 : Cond.methodLink "FoldedArchiveLaw" 95 yX10_greatestFlow ∈ GW := GW_t3 66 rfl rfl
theorem gw_591 : Cond.instanceMethod yX10_greatestFlow ∈ GW := GW_t3 67 rfl rfl
theorem gw_592 : Cond.selects yX10_greatestFlow.cls yX10_greatestFlow yX10_greatestFlow ∈ GW := GW_t3 68 rfl rfl
theorem cv_L_95 : CV RL 95 yX10_greatestFlow cX10_greatestFlow 1 (some .int) 0 := ⟨gw_590, gw_591, gw_592, gw_45, gw_593, by decide +kernel, by decide +kernel⟩
theorem gw_588 : Cond.codeWith yL_greatestFlow cL_greatestFlow 2 (some .int) [(0, 4, 5, 20)] ∈ GW := GW_t3 64 rfl rfl
theorem gw_1420 : Cond.methodLink "FoldedArchiveLaw" 98 yX10_smallestCut ∈ GW := GW_t6 176 rfl rfl
theorem gw_1421 : Cond.instanceMethod yX10_smallestCut ∈ GW := GW_t6 177 rfl rfl
theorem gw_1422 : Cond.selects yX10_smallestCut.cls yX10_smallestCut yX10_smallestCut ∈ GW := GW_t6 178 rfl rfl
theorem cv_L_98 : CV RL 98 yX10_smallestCut cX10_smallestCut 1 (some .int) 0 := ⟨gw_1420, gw_1421, gw_1422, gw_45, gw_1423, by decide +kernel, by decide +kernel⟩
theorem gw_1419 : Cond.codeWith yL_smallestCut cL_smallestCut 2 (some .int) [(0, 4, 5, 20)] ∈ GW := GW_t6 175 rfl rfl
theorem gw_681 : Cond.methodLink "FoldedArchiveLaw" 101 yX10_lossOf ∈ GW := GW_t3 157 rfl rfl
theorem gw_682 : Cond.instanceMethod yX10_lossOf ∈ GW := GW_t3 158 rfl rfl
theorem gw_683 : Cond.selects yX10_lossOf.cls yX10_lossOf yX10_lossOf ∈ GW := GW_t3 159 rfl rfl
theorem cv_L_101 : CV RL 101 yX10_lossOf cX10_lossOf 3 (some .int) 1 := ⟨gw_681, gw_682, gw_683, gw_45, gw_684, by decide +kernel, by decide +kernel⟩
theorem gw_680 : Cond.codeWith yL_lossOf cL_lossOf 3 (some .int) [(0, 5, 6, 26)] ∈ GW := GW_t3 156 rfl rfl
theorem gw_937 : Cond.methodLink "FoldedArchiveLaw" 104 yX10_drain ∈ GW := GW_t4 173 rfl rfl
theorem gw_938 : Cond.instanceMethod yX10_drain ∈ GW := GW_t4 174 rfl rfl
theorem gw_939 : Cond.selects yX10_drain.cls yX10_drain yX10_drain ∈ GW := GW_t4 175 rfl rfl
theorem cv_L_104 : CV RL 104 yX10_drain cX10_drain 1 (some .int) 0 := ⟨gw_937, gw_938, gw_939, gw_45, gw_940, by decide +kernel, by decide +kernel⟩
theorem gw_936 : Cond.codeWith yL_drain cL_drain 2 (some .int) [(0, 4, 5, 20)] ∈ GW := GW_t4 172 rfl rfl
theorem gw_944 : Cond.methodLink "FoldedArchiveLaw" 107 yX10_seep ∈ GW := GW_t4 180 rfl rfl
theorem gw_945 : Cond.instanceMethod yX10_seep ∈ GW := GW_t4 181 rfl rfl
theorem gw_946 : Cond.selects yX10_seep.cls yX10_seep yX10_seep ∈ GW := GW_t4 182 rfl rfl
theorem cv_L_107 : CV RL 107 yX10_seep cX10_seep 1 (some .int) 0 := ⟨gw_944, gw_945, gw_946, gw_45, gw_947, by decide +kernel, by decide +kernel⟩
theorem gw_943 : Cond.codeWith yL_seep cL_seep 2 (some .int) [(0, 4, 5, 20)] ∈ GW := GW_t4 179 rfl rfl
theorem gw_1463 : Cond.methodLink "FoldedArchiveLaw" 110 yX10_meanWater ∈ GW := GW_t6 219 rfl rfl
theorem gw_1464 : Cond.instanceMethod yX10_meanWater ∈ GW := GW_t6 220 rfl rfl
theorem gw_1465 : Cond.selects yX10_meanWater.cls yX10_meanWater yX10_meanWater ∈ GW := GW_t6 221 rfl rfl
theorem cv_L_110 : CV RL 110 yX10_meanWater cX10_meanWater 1 (some .double) 0 := ⟨gw_1463, gw_1464, gw_1465, gw_45, gw_1466, by decide +kernel, by decide +kernel⟩
theorem gw_1449 : Cond.classLink "FoldedArchiveLaw" 114 "java/lang/ArithmeticException" ∈ GW := GW_t6 205 rfl rfl
theorem gw_1472 : Cond.constantDouble "FoldedArchiveLaw" 116 (13858279740860792832 : UInt64) ∈ GW := GW_t6 228 rfl rfl
theorem gw_1448 : Cond.codeWith yL_meanWater cL_meanWater 2 (some .double) [(0, 4, 5, 114)] ∈ GW := GW_t6 204 rfl rfl
theorem gw_1476 : Cond.methodLink "FoldedArchiveLaw" 118 yX10_leakedShare ∈ GW := GW_t6 232 rfl rfl
theorem gw_1477 : Cond.instanceMethod yX10_leakedShare ∈ GW := GW_t6 233 rfl rfl
theorem gw_1478 : Cond.selects yX10_leakedShare.cls yX10_leakedShare yX10_leakedShare ∈ GW := GW_t6 234 rfl rfl
theorem cv_L_118 : CV RL 118 yX10_leakedShare cX10_leakedShare 1 (some .float) 0 := ⟨gw_1476, gw_1477, gw_1478, gw_45, gw_1479, by decide +kernel, by decide +kernel⟩
theorem gw_1480 : Cond.constantFloat "FoldedArchiveLaw" 122 (3264479232 : UInt32) ∈ GW := GW_t6 236 rfl rfl
theorem gw_1475 : Cond.codeWith yL_leakedShare cL_leakedShare 2 (some .float) [(0, 4, 5, 114)] ∈ GW := GW_t6 231 rfl rfl
theorem gw_1238 : Cond.methodLink "FoldedArchiveLaw" 123 yX10_feed ∈ GW := GW_t5 234 rfl rfl
theorem gw_1239 : Cond.instanceMethod yX10_feed ∈ GW := GW_t5 235 rfl rfl
theorem gw_1240 : Cond.selects yX10_feed.cls yX10_feed yX10_feed ∈ GW := GW_t5 236 rfl rfl
theorem cv_L_123 : CV RL 123 yX10_feed cX10_feed 2 (some .int) 1 := ⟨gw_1238, gw_1239, gw_1240, gw_45, gw_1241, by decide +kernel, by decide +kernel⟩
theorem gw_1237 : Cond.classLink "FoldedArchiveLaw" 126 "java/lang/IllegalStateException" ∈ GW := GW_t5 233 rfl rfl
theorem gw_1236 : Cond.codeWith yL_feed cL_feed 3 (some .int) [(0, 5, 6, 126)] ∈ GW := GW_t5 232 rfl rfl
theorem gw_1494 : Cond.methodLink "FoldedArchiveLaw" 128 yX10_search ∈ GW := GW_t7 10 rfl rfl
theorem gw_1495 : Cond.instanceMethod yX10_search ∈ GW := GW_t7 11 rfl rfl
theorem gw_1496 : Cond.selects yX10_search.cls yX10_search yX10_search ∈ GW := GW_t7 12 rfl rfl
theorem cv_L_128 : CV RL 128 yX10_search cX10_search 2 (some .int) 0 := ⟨gw_1494, gw_1495, gw_1496, gw_45, gw_1497, by decide +kernel, by decide +kernel⟩
theorem gw_1493 : Cond.codeWith yL_search cL_search 2 (some .int) [(0, 4, 5, 28)] ∈ GW := GW_t7 9 rfl rfl
theorem gw_1558 : Cond.methodLink "FoldedArchiveLaw" 131 yX10_matches ∈ GW := GW_t7 74 rfl rfl
theorem gw_1559 : Cond.instanceMethod yX10_matches ∈ GW := GW_t7 75 rfl rfl
theorem gw_1560 : Cond.selects yX10_matches.cls yX10_matches yX10_matches ∈ GW := GW_t7 76 rfl rfl
theorem cv_L_131 : CV RL 131 yX10_matches cX10_matches 3 (some .boolean) 1 := ⟨gw_1558, gw_1559, gw_1560, gw_45, gw_1561, by decide +kernel, by decide +kernel⟩
theorem gw_1557 : Cond.codeWith yL_matches cL_matches 3 (some .int) [(0, 13, 14, 26), (0, 13, 18, 28)] ∈ GW := GW_t7 73 rfl rfl
theorem gw_1268 : Cond.methodLink "FoldedArchiveLaw" 134 yX10_execute ∈ GW := GW_t6 24 rfl rfl
theorem gw_1269 : Cond.instanceMethod yX10_execute ∈ GW := GW_t6 25 rfl rfl
theorem gw_1270 : Cond.selects yX10_execute.cls yX10_execute yX10_execute ∈ GW := GW_t6 26 rfl rfl
theorem cv_L_134 : CV RL 134 yX10_execute cX10_execute 3 (some .int) 0 := ⟨gw_1268, gw_1269, gw_1270, gw_45, gw_1271, by decide +kernel, by decide +kernel⟩
theorem gw_1267 : Cond.codeWith yL_execute cL_execute 2 (some .int) [(0, 4, 5, 28), (0, 4, 9, 20)] ∈ GW := GW_t6 23 rfl rfl
theorem gw_688 : Cond.methodLink "FoldedArchiveLaw" 147 yX10_denial ∈ GW := GW_t3 164 rfl rfl
theorem gw_689 : Cond.instanceMethod yX10_denial ∈ GW := GW_t3 165 rfl rfl
theorem gw_690 : Cond.selects yX10_denial.cls yX10_denial yX10_denial ∈ GW := GW_t3 166 rfl rfl
theorem cv_L_147 : CV RL 147 yX10_denial cX10_denial 1 (some .int) 0 := ⟨gw_688, gw_689, gw_690, gw_45, gw_691, by decide +kernel, by decide +kernel⟩
theorem gw_687 : Cond.codeWith yL_denial cL_denial 2 (some .int) [(0, 4, 5, 52)] ∈ GW := GW_t3 163 rfl rfl
theorem gw_695 : Cond.methodLink "FoldedArchiveLaw" 150 yX10_denialDetail ∈ GW := GW_t3 171 rfl rfl
theorem gw_696 : Cond.instanceMethod yX10_denialDetail ∈ GW := GW_t3 172 rfl rfl
theorem gw_697 : Cond.selects yX10_denialDetail.cls yX10_denialDetail yX10_denialDetail ∈ GW := GW_t3 173 rfl rfl
theorem cv_L_150 : CV RL 150 yX10_denialDetail cX10_denialDetail 1 (some .int) 0 := ⟨gw_695, gw_696, gw_697, gw_45, gw_698, by decide +kernel, by decide +kernel⟩
theorem gw_694 : Cond.codeWith yL_denialDetail cL_denialDetail 2 (some .int) [(0, 4, 5, 52)] ∈ GW := GW_t3 170 rfl rfl
theorem gw_1577 : Cond.methodLink "FoldedArchiveLaw" 156 yX10_undo ∈ GW := GW_t7 93 rfl rfl
theorem gw_1578 : Cond.instanceMethod yX10_undo ∈ GW := GW_t7 94 rfl rfl
theorem gw_1579 : Cond.selects yX10_undo.cls yX10_undo yX10_undo ∈ GW := GW_t7 95 rfl rfl
theorem cv_L_156 : CV RL 156 yX10_undo cX10_undo 1 (some .int) 0 := ⟨gw_1577, gw_1578, gw_1579, gw_45, gw_1580, by decide +kernel, by decide +kernel⟩
theorem gw_1576 : Cond.codeWith yL_undo cL_undo 2 (some .int) [(0, 4, 5, 126)] ∈ GW := GW_t7 92 rfl rfl
theorem gw_1588 : Cond.methodLink "FoldedArchiveLaw" 159 yX10_restoreSnapshot ∈ GW := GW_t7 104 rfl rfl
theorem gw_1589 : Cond.instanceMethod yX10_restoreSnapshot ∈ GW := GW_t7 105 rfl rfl
theorem gw_1590 : Cond.selects yX10_restoreSnapshot.cls yX10_restoreSnapshot yX10_restoreSnapshot ∈ GW := GW_t7 106 rfl rfl
theorem cv_L_159 : CV RL 159 yX10_restoreSnapshot cX10_restoreSnapshot 1 (some .int) 0 := ⟨gw_1588, gw_1589, gw_1590, gw_45, gw_1591, by decide +kernel, by decide +kernel⟩
theorem gw_1587 : Cond.codeWith yL_restoreSnapshot cL_restoreSnapshot 2 (some .int) [(0, 4, 5, 126)] ∈ GW := GW_t7 103 rfl rfl
theorem gw_1218 : Cond.methodLink "FoldedArchiveLaw" 162 yJ0_length_8abf5 ∈ GW := GW_t5 214 rfl rfl
theorem cv_L_162 : CV RL 162 yJ0_length_8abf5 cJ0_length_8abf5 1 (some .int) 0 := ⟨gw_1218, gw_1052, gw_1053, gw_62, gw_1054, by decide +kernel, by decide +kernel⟩
theorem gw_1219 : Cond.methodLink "FoldedArchiveLaw" 167 yJ0_charAt_5068e ∈ GW := GW_t5 215 rfl rfl
theorem cv_L_167 : CV RL 167 yJ0_charAt_5068e cJ0_charAt_5068e 2 (some .char) 1 := ⟨gw_1219, gw_1220, gw_1221, gw_62, gw_1222, by decide +kernel, by decide +kernel⟩
theorem gw_1234 : Cond.methodLink "FoldedArchiveLaw" 170 yL_feed ∈ GW := GW_t5 230 rfl rfl
theorem gw_1235 : Cond.static yL_feed ∈ GW := GW_t5 231 rfl rfl
theorem ch_L_170 : CSH RL 170 yL_feed cL_feed 3 (some .int) [(0, 5, 6, 126)] 2 := ⟨gw_1234, gw_1235, gw_44, gw_1236, by decide +kernel, by decide +kernel⟩
theorem gw_1217 : Cond.code yL_feeds cL_feeds 4 none ∈ GW := GW_t5 213 rfl rfl
theorem gw_1215 : Cond.methodLink "FoldedArchiveLaw" 173 yL_feeds ∈ GW := GW_t5 211 rfl rfl
theorem gw_1216 : Cond.static yL_feeds ∈ GW := GW_t5 212 rfl rfl
theorem cs_L_173 : CS RL 173 yL_feeds cL_feeds 4 none 2 := ⟨gw_1215, gw_1216, gw_44, gw_1217, by decide +kernel, by decide +kernel⟩
theorem gw_1265 : Cond.methodLink "FoldedArchiveLaw" 177 yL_execute ∈ GW := GW_t6 21 rfl rfl
theorem gw_1266 : Cond.static yL_execute ∈ GW := GW_t6 22 rfl rfl
theorem ch_L_177 : CSH RL 177 yL_execute cL_execute 2 (some .int) [(0, 4, 5, 28), (0, 4, 9, 20)] 1 := ⟨gw_1265, gw_1266, gw_44, gw_1267, by decide +kernel, by decide +kernel⟩
theorem gw_1214 : Cond.code yL_runs cL_runs 2 (some .int) ∈ GW := GW_t5 210 rfl rfl
theorem gw_1491 : Cond.methodLink "FoldedArchiveLaw" 180 yL_search ∈ GW := GW_t7 7 rfl rfl
theorem gw_1492 : Cond.static yL_search ∈ GW := GW_t7 8 rfl rfl
theorem ch_L_180 : CSH RL 180 yL_search cL_search 2 (some .int) [(0, 4, 5, 28)] 1 := ⟨gw_1491, gw_1492, gw_44, gw_1493, by decide +kernel, by decide +kernel⟩
theorem gw_1537 : Cond.methodLink "FoldedArchiveLaw" 182 yX10_clearText ∈ GW := GW_t7 53 rfl rfl
theorem gw_1538 : Cond.instanceMethod yX10_clearText ∈ GW := GW_t7 54 rfl rfl
theorem gw_1539 : Cond.selects yX10_clearText.cls yX10_clearText yX10_clearText ∈ GW := GW_t7 55 rfl rfl
theorem cv_L_182 : CV RL 182 yX10_clearText cX10_clearText 2 (some .int) 0 := ⟨gw_1537, gw_1538, gw_1539, gw_45, gw_1540, by decide +kernel, by decide +kernel⟩
theorem gw_1490 : Cond.code yL_finds cL_finds 4 (some .int) ∈ GW := GW_t7 6 rfl rfl
theorem gw_343 : Cond.methodLink "FoldedArchiveLaw" 209 yX10_foldedCount ∈ GW := GW_t2 59 rfl rfl
theorem gw_344 : Cond.instanceMethod yX10_foldedCount ∈ GW := GW_t2 60 rfl rfl
theorem gw_345 : Cond.selects yX10_foldedCount.cls yX10_foldedCount yX10_foldedCount ∈ GW := GW_t2 61 rfl rfl
theorem cv_L_209 : CV RL 209 yX10_foldedCount cX10_foldedCount 1 (some .int) 0 := ⟨gw_343, gw_344, gw_345, gw_45, gw_346, by decide +kernel, by decide +kernel⟩
theorem gw_366 : Cond.methodLink "FoldedArchiveLaw" 217 yL_water ∈ GW := GW_t2 82 rfl rfl
theorem gw_367 : Cond.static yL_water ∈ GW := GW_t2 83 rfl rfl
theorem ch_L_217 : CSH RL 217 yL_water cL_water 3 (some .int) [(0, 5, 6, 26)] 2 := ⟨gw_366, gw_367, gw_44, gw_368, by decide +kernel, by decide +kernel⟩
theorem gw_702 : Cond.methodLink "FoldedArchiveLaw" 254 Lib.Math.max.name ∈ GW := GW_t3 178 rfl rfl
theorem gw_701 : Cond.code yL_over cL_over 3 (some .int) ∈ GW := GW_t3 177 rfl rfl
theorem gw_359 : Cond.methodLink "FoldedArchiveLaw" 202 yL_pick ∈ GW := GW_t2 75 rfl rfl
theorem gw_360 : Cond.static yL_pick ∈ GW := GW_t2 76 rfl rfl
theorem cs_L_202 : CS RL 202 yL_pick cL_pick 3 (some .int) 3 := ⟨gw_359, gw_360, gw_44, gw_361, by decide +kernel, by decide +kernel⟩
theorem gw_339 : Cond.methodLink "FoldedArchiveLaw" 206 yX10_sectionCount ∈ GW := GW_t2 55 rfl rfl
theorem gw_340 : Cond.instanceMethod yX10_sectionCount ∈ GW := GW_t2 56 rfl rfl
theorem gw_341 : Cond.selects yX10_sectionCount.cls yX10_sectionCount yX10_sectionCount ∈ GW := GW_t2 57 rfl rfl
theorem cv_L_206 : CV RL 206 yX10_sectionCount cX10_sectionCount 1 (some .int) 0 := ⟨gw_339, gw_340, gw_341, gw_45, gw_342, by decide +kernel, by decide +kernel⟩
theorem gw_948 : Cond.classLink "FoldedArchiveLaw" 284 "java/lang/StringBuilder" ∈ GW := GW_t4 184 rfl rfl
theorem gw_950 : Cond.methodLink "FoldedArchiveLaw" 286 yJ4_init_da8c8 ∈ GW := GW_t4 186 rfl rfl
theorem sbnew_L_284 : Cond.classLink RL 284 "java/lang/StringBuilder" ∈ GW ∧ Cond.methodLink RL 286 ⟨"java/lang/StringBuilder","<init>","()V"⟩ ∈ GW := ⟨gw_948, gw_950⟩
theorem gw_980 : Cond.methodLink "FoldedArchiveLaw" 289 yJ4_append_15ec4 ∈ GW := GW_t4 216 rfl rfl
theorem sbS_L_289 : Cond.methodLink RL 289 ⟨"java/lang/StringBuilder","append","(Ljava/lang/String;)Ljava/lang/StringBuilder;"⟩ ∈ GW := gw_980
theorem gw_1094 : Cond.methodLink "FoldedArchiveLaw" 293 yJ4_append_bf812 ∈ GW := GW_t5 90 rfl rfl
theorem sbI_L_293 : Cond.methodLink RL 293 ⟨"java/lang/StringBuilder","append","(I)Ljava/lang/StringBuilder;"⟩ ∈ GW := gw_1094
theorem gw_1212 : Cond.methodLink "FoldedArchiveLaw" 313 yL_runs ∈ GW := GW_t5 208 rfl rfl
theorem gw_1213 : Cond.static yL_runs ∈ GW := GW_t5 209 rfl rfl
theorem cs_L_313 : CS RL 313 yL_runs cL_runs 2 (some .int) 2 := ⟨gw_1212, gw_1213, gw_44, gw_1214, by decide +kernel, by decide +kernel⟩
theorem gw_1121 : Cond.methodLink "FoldedArchiveLaw" 300 yJ4_toString_0e30d ∈ GW := GW_t5 117 rfl rfl
theorem sbT_L_300 : Cond.methodLink RL 300 ⟨"java/lang/StringBuilder","toString","()Ljava/lang/String;"⟩ ∈ GW := gw_1121
theorem gw_1188 : Cond.methodLink "FoldedArchiveLaw" 306 yJ4_append_cf468 ∈ GW := GW_t5 184 rfl rfl
theorem sbC_L_306 : Cond.methodLink RL 306 ⟨"java/lang/StringBuilder","append","(C)Ljava/lang/StringBuilder;"⟩ ∈ GW := gw_1188
theorem gw_941 : Cond.methodLink "FoldedArchiveLaw" 282 yL_seep ∈ GW := GW_t4 177 rfl rfl
theorem gw_942 : Cond.static yL_seep ∈ GW := GW_t4 178 rfl rfl
theorem ch_L_282 : CSH RL 282 yL_seep cL_seep 2 (some .int) [(0, 4, 5, 20)] 1 := ⟨gw_941, gw_942, gw_44, gw_943, by decide +kernel, by decide +kernel⟩
theorem gw_934 : Cond.methodLink "FoldedArchiveLaw" 280 yL_drain ∈ GW := GW_t4 170 rfl rfl
theorem gw_935 : Cond.static yL_drain ∈ GW := GW_t4 171 rfl rfl
theorem ch_L_280 : CSH RL 280 yL_drain cL_drain 2 (some .int) [(0, 4, 5, 20)] 1 := ⟨gw_934, gw_935, gw_44, gw_936, by decide +kernel, by decide +kernel⟩
theorem gw_927 : Cond.methodLink "FoldedArchiveLaw" 278 yL_mendPipe ∈ GW := GW_t4 163 rfl rfl
theorem gw_928 : Cond.static yL_mendPipe ∈ GW := GW_t4 164 rfl rfl
theorem ch_L_278 : CSH RL 278 yL_mendPipe cL_mendPipe 3 (some .int) [(0, 5, 6, 26), (0, 5, 10, 20)] 2 := ⟨gw_927, gw_928, gw_44, gw_929, by decide +kernel, by decide +kernel⟩
theorem gw_920 : Cond.methodLink "FoldedArchiveLaw" 276 yL_breakPipe ∈ GW := GW_t4 156 rfl rfl
theorem gw_921 : Cond.static yL_breakPipe ∈ GW := GW_t4 157 rfl rfl
theorem ch_L_276 : CSH RL 276 yL_breakPipe cL_breakPipe 3 (some .int) [(0, 5, 6, 26), (0, 5, 10, 20)] 2 := ⟨gw_920, gw_921, gw_44, gw_922, by decide +kernel, by decide +kernel⟩
theorem gw_913 : Cond.methodLink "FoldedArchiveLaw" 274 yL_removePipe ∈ GW := GW_t4 149 rfl rfl
theorem gw_914 : Cond.static yL_removePipe ∈ GW := GW_t4 150 rfl rfl
theorem ch_L_274 : CSH RL 274 yL_removePipe cL_removePipe 3 (some .int) [(0, 5, 6, 26)] 2 := ⟨gw_913, gw_914, gw_44, gw_915, by decide +kernel, by decide +kernel⟩
theorem gw_899 : Cond.methodLink "FoldedArchiveLaw" 269 yL_unfold ∈ GW := GW_t4 135 rfl rfl
theorem gw_900 : Cond.static yL_unfold ∈ GW := GW_t4 136 rfl rfl
theorem ch_L_269 : CSH RL 269 yL_unfold cL_unfold 2 (some .int) [(0, 4, 5, 20)] 1 := ⟨gw_899, gw_900, gw_44, gw_901, by decide +kernel, by decide +kernel⟩
theorem gw_892 : Cond.methodLink "FoldedArchiveLaw" 267 yL_fold ∈ GW := GW_t4 128 rfl rfl
theorem gw_893 : Cond.static yL_fold ∈ GW := GW_t4 129 rfl rfl
theorem ch_L_267 : CSH RL 267 yL_fold cL_fold 3 (some .int) [(0, 5, 6, 26), (0, 5, 10, 20)] 2 := ⟨gw_892, gw_893, gw_44, gw_894, by decide +kernel, by decide +kernel⟩
theorem gw_885 : Cond.methodLink "FoldedArchiveLaw" 265 yL_untag ∈ GW := GW_t4 121 rfl rfl
theorem gw_886 : Cond.static yL_untag ∈ GW := GW_t4 122 rfl rfl
theorem ch_L_265 : CSH RL 265 yL_untag cL_untag 4 (some .int) [(0, 6, 7, 26), (0, 6, 11, 28), (0, 6, 15, 20)] 3 := ⟨gw_885, gw_886, gw_44, gw_887, by decide +kernel, by decide +kernel⟩
theorem gw_878 : Cond.methodLink "FoldedArchiveLaw" 262 yL_tag ∈ GW := GW_t4 114 rfl rfl
theorem gw_879 : Cond.static yL_tag ∈ GW := GW_t4 115 rfl rfl
theorem ch_L_262 : CSH RL 262 yL_tag cL_tag 4 (some .int) [(0, 6, 7, 26), (0, 6, 11, 28), (0, 6, 15, 20)] 3 := ⟨gw_878, gw_879, gw_44, gw_880, by decide +kernel, by decide +kernel⟩
theorem gw_706 : Cond.methodLink "FoldedArchiveLaw" 257 yL_addSection ∈ GW := GW_t3 182 rfl rfl
theorem gw_707 : Cond.static yL_addSection ∈ GW := GW_t3 183 rfl rfl
theorem ch_L_257 : CSH RL 257 yL_addSection cL_addSection 2 (some .int) [(0, 4, 5, 20)] 1 := ⟨gw_706, gw_707, gw_44, gw_708, by decide +kernel, by decide +kernel⟩
theorem gw_870 : Cond.methodLink "FoldedArchiveLaw" 259 yL_pour ∈ GW := GW_t4 106 rfl rfl
theorem gw_871 : Cond.static yL_pour ∈ GW := GW_t4 107 rfl rfl
theorem ch_L_259 : CSH RL 259 yL_pour cL_pour 4 (some .int) [(0, 6, 7, 26), (0, 6, 11, 28), (0, 6, 15, 20)] 3 := ⟨gw_870, gw_871, gw_44, gw_872, by decide +kernel, by decide +kernel⟩
theorem gw_906 : Cond.methodLink "FoldedArchiveLaw" 271 yL_layPipe ∈ GW := GW_t4 142 rfl rfl
theorem gw_907 : Cond.static yL_layPipe ∈ GW := GW_t4 143 rfl rfl
theorem ch_L_271 : CSH RL 271 yL_layPipe cL_layPipe 5 (some .int) [(0, 7, 8, 26), (0, 7, 13, 28), (0, 7, 18, 20)] 4 := ⟨gw_906, gw_907, gw_44, gw_908, by decide +kernel, by decide +kernel⟩
theorem gw_705 : Cond.code yL_does cL_does 11 (some .int) ∈ GW := GW_t3 181 rfl rfl
theorem gw_1356 : Cond.constantLong "FoldedArchiveLaw" 317 (1009 : Int64) ∈ GW := GW_t6 112 rfl rfl
theorem gw_1357 : Cond.methodLink "FoldedArchiveLaw" 319 yX10_poured ∈ GW := GW_t6 113 rfl rfl
theorem gw_1358 : Cond.instanceMethod yX10_poured ∈ GW := GW_t6 114 rfl rfl
theorem gw_1359 : Cond.selects yX10_poured.cls yX10_poured yX10_poured ∈ GW := GW_t6 115 rfl rfl
theorem cv_L_319 : CV RL 319 yX10_poured cX10_poured 1 (some .int) 0 := ⟨gw_1357, gw_1358, gw_1359, gw_45, gw_1360, by decide +kernel, by decide +kernel⟩
theorem gw_1361 : Cond.constantLong "FoldedArchiveLaw" 322 (31 : Int64) ∈ GW := GW_t6 117 rfl rfl
theorem gw_351 : Cond.methodLink "FoldedArchiveLaw" 225 yX10_leaked ∈ GW := GW_t2 67 rfl rfl
theorem gw_352 : Cond.instanceMethod yX10_leaked ∈ GW := GW_t2 68 rfl rfl
theorem gw_353 : Cond.selects yX10_leaked.cls yX10_leaked yX10_leaked ∈ GW := GW_t2 69 rfl rfl
theorem cv_L_225 : CV RL 225 yX10_leaked cX10_leaked 1 (some .int) 0 := ⟨gw_351, gw_352, gw_353, gw_45, gw_354, by decide +kernel, by decide +kernel⟩
theorem gw_487 : Cond.methodLink "FoldedArchiveLaw" 237 yL_layerOf ∈ GW := GW_t2 203 rfl rfl
theorem gw_488 : Cond.static yL_layerOf ∈ GW := GW_t2 204 rfl rfl
theorem ch_L_237 : CSH RL 237 yL_layerOf cL_layerOf 3 (some .int) [(0, 5, 6, 26), (0, 5, 10, 52)] 2 := ⟨gw_487, gw_488, gw_44, gw_489, by decide +kernel, by decide +kernel⟩
theorem gw_347 : Cond.methodLink "FoldedArchiveLaw" 212 yX10_pipeCount ∈ GW := GW_t2 63 rfl rfl
theorem gw_348 : Cond.instanceMethod yX10_pipeCount ∈ GW := GW_t2 64 rfl rfl
theorem gw_349 : Cond.selects yX10_pipeCount.cls yX10_pipeCount yX10_pipeCount ∈ GW := GW_t2 65 rfl rfl
theorem cv_L_212 : CV RL 212 yX10_pipeCount cX10_pipeCount 1 (some .int) 0 := ⟨gw_347, gw_348, gw_349, gw_45, gw_350, by decide +kernel, by decide +kernel⟩
theorem gw_555 : Cond.methodLink "FoldedArchiveLaw" 239 yL_capacity ∈ GW := GW_t3 31 rfl rfl
theorem gw_556 : Cond.static yL_capacity ∈ GW := GW_t3 32 rfl rfl
theorem ch_L_239 : CSH RL 239 yL_capacity cL_capacity 3 (some .int) [(0, 5, 6, 26)] 2 := ⟨gw_555, gw_556, gw_44, gw_557, by decide +kernel, by decide +kernel⟩
theorem gw_1376 : Cond.constantLong "FoldedArchiveLaw" 328 (101 : Int64) ∈ GW := GW_t6 132 rfl rfl
theorem gw_1377 : Cond.methodLink "FoldedArchiveLaw" 330 yL_pipeFrom ∈ GW := GW_t6 133 rfl rfl
theorem gw_1378 : Cond.static yL_pipeFrom ∈ GW := GW_t6 134 rfl rfl
theorem ch_L_330 : CSH RL 330 yL_pipeFrom cL_pipeFrom 3 (some .int) [(0, 5, 6, 26)] 2 := ⟨gw_1377, gw_1378, gw_44, gw_1379, by decide +kernel, by decide +kernel⟩
theorem gw_1385 : Cond.constantLong "FoldedArchiveLaw" 332 (7 : Int64) ∈ GW := GW_t6 141 rfl rfl
theorem gw_1386 : Cond.methodLink "FoldedArchiveLaw" 334 yL_pipeTo ∈ GW := GW_t6 142 rfl rfl
theorem gw_1387 : Cond.static yL_pipeTo ∈ GW := GW_t6 143 rfl rfl
theorem ch_L_334 : CSH RL 334 yL_pipeTo cL_pipeTo 3 (some .int) [(0, 5, 6, 26)] 2 := ⟨gw_1386, gw_1387, gw_44, gw_1388, by decide +kernel, by decide +kernel⟩
theorem gw_575 : Cond.methodLink "FoldedArchiveLaw" 223 yL_isBroken ∈ GW := GW_t3 51 rfl rfl
theorem gw_576 : Cond.static yL_isBroken ∈ GW := GW_t3 52 rfl rfl
theorem ch_L_223 : CSH RL 223 yL_isBroken cL_isBroken 3 (some .int) [(0, 13, 14, 26)] 2 := ⟨gw_575, gw_576, gw_44, gw_577, by decide +kernel, by decide +kernel⟩
theorem gw_1362 : Cond.constantLong "FoldedArchiveLaw" 324 (2 : Int64) ∈ GW := GW_t6 118 rfl rfl
theorem gw_1363 : Cond.methodLink "FoldedArchiveLaw" 326 yL_hasTerm ∈ GW := GW_t6 119 rfl rfl
theorem gw_1364 : Cond.static yL_hasTerm ∈ GW := GW_t6 120 rfl rfl
theorem ch_L_326 : CSH RL 326 yL_hasTerm cL_hasTerm 4 (some .int) [(0, 14, 15, 26), (0, 14, 19, 28)] 3 := ⟨gw_1363, gw_1364, gw_44, gw_1365, by decide +kernel, by decide +kernel⟩
theorem gw_1355 : Cond.code yL_sum cL_sum 5 (some .long) ∈ GW := GW_t6 111 rfl rfl
theorem gw_514 : Cond.methodLink "FoldedArchiveLaw" 235 yL_sectionIn ∈ GW := GW_t2 230 rfl rfl
theorem gw_515 : Cond.static yL_sectionIn ∈ GW := GW_t2 231 rfl rfl
theorem ch_L_235 : CSH RL 235 yL_sectionIn cL_sectionIn 3 (some .int) [(0, 5, 6, 26)] 2 := ⟨gw_514, gw_515, gw_44, gw_516, by decide +kernel, by decide +kernel⟩
theorem gw_1416 : Cond.methodLink "FoldedArchiveLaw" 241 Lib.Math.min.name ∈ GW := GW_t6 172 rfl rfl
theorem gw_1483 : Cond.code yL_isPile cL_isPile 9 (some .boolean) ∈ GW := GW_t6 239 rfl rfl
theorem gw_1599 : Cond.methodLink "FoldedArchiveLaw" 336 yX10_completions ∈ GW := GW_t7 115 rfl rfl
theorem gw_1600 : Cond.instanceMethod yX10_completions ∈ GW := GW_t7 116 rfl rfl
theorem gw_1601 : Cond.selects yX10_completions.cls yX10_completions yX10_completions ∈ GW := GW_t7 117 rfl rfl
theorem cv_L_336 : CV RL 336 yX10_completions cX10_completions 1 (some .int) 0 := ⟨gw_1599, gw_1600, gw_1601, gw_45, gw_1602, by decide +kernel, by decide +kernel⟩
theorem gw_1620 : Cond.methodLink "FoldedArchiveLaw" 339 yX10_completionsByOrders ∈ GW := GW_t7 136 rfl rfl
theorem gw_1621 : Cond.instanceMethod yX10_completionsByOrders ∈ GW := GW_t7 137 rfl rfl
theorem gw_1622 : Cond.selects yX10_completionsByOrders.cls yX10_completionsByOrders yX10_completionsByOrders ∈ GW := GW_t7 138 rfl rfl
theorem cv_L_339 : CV RL 339 yX10_completionsByOrders cX10_completionsByOrders 1 (some .int) 0 := ⟨gw_1620, gw_1621, gw_1622, gw_45, gw_1623, by decide +kernel, by decide +kernel⟩
theorem gw_525 : Cond.methodLink "FoldedArchiveLaw" 215 yL_canFold ∈ GW := GW_t3 1 rfl rfl
theorem gw_526 : Cond.static yL_canFold ∈ GW := GW_t3 2 rfl rfl
theorem ch_L_215 : CSH RL 215 yL_canFold cL_canFold 3 (some .int) [(0, 13, 14, 26)] 2 := ⟨gw_525, gw_526, gw_44, gw_527, by decide +kernel, by decide +kernel⟩
theorem gw_1598 : Cond.code yL_areFoldings cL_areFoldings 8 (some .boolean) ∈ GW := GW_t7 114 rfl rfl
theorem gw_1488 : Cond.methodLink "FoldedArchiveLaw" 344 yL_finds ∈ GW := GW_t7 4 rfl rfl
theorem gw_1489 : Cond.static yL_finds ∈ GW := GW_t7 5 rfl rfl
theorem cs_L_344 : CS RL 344 yL_finds cL_finds 4 (some .int) 2 := ⟨gw_1488, gw_1489, gw_44, gw_1490, by decide +kernel, by decide +kernel⟩
theorem gw_1541 : Cond.methodLink "FoldedArchiveLaw" 347 yL_sectionsWith ∈ GW := GW_t7 57 rfl rfl
theorem gw_1542 : Cond.static yL_sectionsWith ∈ GW := GW_t7 58 rfl rfl
theorem ch_L_347 : CSH RL 347 yL_sectionsWith cL_sectionsWith 3 (some .int) [(0, 5, 6, 28)] 2 := ⟨gw_1541, gw_1542, gw_44, gw_1543, by decide +kernel, by decide +kernel⟩
theorem gw_1555 : Cond.methodLink "FoldedArchiveLaw" 361 yL_matches ∈ GW := GW_t7 71 rfl rfl
theorem gw_1556 : Cond.static yL_matches ∈ GW := GW_t7 72 rfl rfl
theorem ch_L_361 : CSH RL 361 yL_matches cL_matches 3 (some .int) [(0, 13, 14, 26), (0, 13, 18, 28)] 2 := ⟨gw_1555, gw_1556, gw_44, gw_1557, by decide +kernel, by decide +kernel⟩
theorem gw_1486 : Cond.code yL_isSearch cL_isSearch 11 (some .boolean) ∈ GW := GW_t7 2 rfl rfl
theorem gw_586 : Cond.methodLink "FoldedArchiveLaw" 219 yL_greatestFlow ∈ GW := GW_t3 62 rfl rfl
theorem gw_587 : Cond.static yL_greatestFlow ∈ GW := GW_t3 63 rfl rfl
theorem ch_L_219 : CSH RL 219 yL_greatestFlow cL_greatestFlow 2 (some .int) [(0, 4, 5, 20)] 1 := ⟨gw_586, gw_587, gw_44, gw_588, by decide +kernel, by decide +kernel⟩
theorem gw_1397 : Cond.methodLink "FoldedArchiveLaw" 363 yL_sectionByWater ∈ GW := GW_t6 153 rfl rfl
theorem gw_1398 : Cond.static yL_sectionByWater ∈ GW := GW_t6 154 rfl rfl
theorem ch_L_363 : CSH RL 363 yL_sectionByWater cL_sectionByWater 3 (some .int) [(0, 5, 6, 52)] 2 := ⟨gw_1397, gw_1398, gw_44, gw_1399, by decide +kernel, by decide +kernel⟩
theorem gw_1417 : Cond.methodLink "FoldedArchiveLaw" 365 yL_smallestCut ∈ GW := GW_t6 173 rfl rfl
theorem gw_1418 : Cond.static yL_smallestCut ∈ GW := GW_t6 174 rfl rfl
theorem ch_L_365 : CSH RL 365 yL_smallestCut cL_smallestCut 2 (some .int) [(0, 4, 5, 20)] 1 := ⟨gw_1417, gw_1418, gw_44, gw_1419, by decide +kernel, by decide +kernel⟩
theorem gw_1434 : Cond.methodLink "FoldedArchiveLaw" 367 yX10_totalWater ∈ GW := GW_t6 190 rfl rfl
theorem gw_1435 : Cond.instanceMethod yX10_totalWater ∈ GW := GW_t6 191 rfl rfl
theorem gw_1436 : Cond.selects yX10_totalWater.cls yX10_totalWater yX10_totalWater ∈ GW := GW_t6 192 rfl rfl
theorem cv_L_367 : CV RL 367 yX10_totalWater cX10_totalWater 1 (some .int) 0 := ⟨gw_1434, gw_1435, gw_1436, gw_45, gw_1437, by decide +kernel, by decide +kernel⟩
theorem gw_1442 : Cond.methodLink "FoldedArchiveLaw" 370 yX10_totalWaterByAccounts ∈ GW := GW_t6 198 rfl rfl
theorem gw_1443 : Cond.instanceMethod yX10_totalWaterByAccounts ∈ GW := GW_t6 199 rfl rfl
theorem gw_1444 : Cond.selects yX10_totalWaterByAccounts.cls yX10_totalWaterByAccounts yX10_totalWaterByAccounts ∈ GW := GW_t6 200 rfl rfl
theorem cv_L_370 : CV RL 370 yX10_totalWaterByAccounts cX10_totalWaterByAccounts 1 (some .int) 0 := ⟨gw_1442, gw_1443, gw_1444, gw_45, gw_1445, by decide +kernel, by decide +kernel⟩
theorem gw_1446 : Cond.methodLink "FoldedArchiveLaw" 373 yL_meanWater ∈ GW := GW_t6 202 rfl rfl
theorem gw_1447 : Cond.static yL_meanWater ∈ GW := GW_t6 203 rfl rfl
theorem ch_L_373 : CSH RL 373 yL_meanWater cL_meanWater 2 (some .double) [(0, 4, 5, 114)] 1 := ⟨gw_1446, gw_1447, gw_44, gw_1448, by decide +kernel, by decide +kernel⟩
theorem gw_678 : Cond.methodLink "FoldedArchiveLaw" 221 yL_lossOf ∈ GW := GW_t3 154 rfl rfl
theorem gw_679 : Cond.static yL_lossOf ∈ GW := GW_t3 155 rfl rfl
theorem ch_L_221 : CSH RL 221 yL_lossOf cL_lossOf 3 (some .int) [(0, 5, 6, 26)] 2 := ⟨gw_678, gw_679, gw_44, gw_680, by decide +kernel, by decide +kernel⟩
theorem gw_1473 : Cond.methodLink "FoldedArchiveLaw" 376 yL_leakedShare ∈ GW := GW_t6 229 rfl rfl
theorem gw_1474 : Cond.static yL_leakedShare ∈ GW := GW_t6 230 rfl rfl
theorem ch_L_376 : CSH RL 376 yL_leakedShare cL_leakedShare 2 (some .float) [(0, 4, 5, 114)] 1 := ⟨gw_1473, gw_1474, gw_44, gw_1475, by decide +kernel, by decide +kernel⟩
theorem gw_1481 : Cond.methodLink "FoldedArchiveLaw" 379 yL_isPile ∈ GW := GW_t6 237 rfl rfl
theorem gw_1482 : Cond.static yL_isPile ∈ GW := GW_t6 238 rfl rfl
theorem cs_L_379 : CS RL 379 yL_isPile cL_isPile 9 (some .boolean) 1 := ⟨gw_1481, gw_1482, gw_44, gw_1483, by decide +kernel, by decide +kernel⟩
theorem gw_1484 : Cond.methodLink "FoldedArchiveLaw" 383 yL_isSearch ∈ GW := GW_t7 0 rfl rfl
theorem gw_1485 : Cond.static yL_isSearch ∈ GW := GW_t7 1 rfl rfl
theorem cs_L_383 : CS RL 383 yL_isSearch cL_isSearch 11 (some .boolean) 3 := ⟨gw_1484, gw_1485, gw_44, gw_1486, by decide +kernel, by decide +kernel⟩
theorem gw_1396 : Cond.code yL_isWhole cL_isWhole 13 (some .boolean) ∈ GW := GW_t6 152 rfl rfl
theorem gw_1570 : Cond.methodLink "FoldedArchiveLaw" 387 yX10_saveSnapshot ∈ GW := GW_t7 86 rfl rfl
theorem gw_1571 : Cond.instanceMethod yX10_saveSnapshot ∈ GW := GW_t7 87 rfl rfl
theorem gw_1572 : Cond.selects yX10_saveSnapshot.cls yX10_saveSnapshot yX10_saveSnapshot ∈ GW := GW_t7 88 rfl rfl
theorem cv_L_387 : CV RL 387 yX10_saveSnapshot cX10_saveSnapshot 1 (some .int) 0 := ⟨gw_1570, gw_1571, gw_1572, gw_45, gw_1573, by decide +kernel, by decide +kernel⟩
theorem gw_355 : Cond.methodLink "FoldedArchiveLaw" 199 yX10_undoCount ∈ GW := GW_t2 71 rfl rfl
theorem gw_356 : Cond.instanceMethod yX10_undoCount ∈ GW := GW_t2 72 rfl rfl
theorem gw_357 : Cond.selects yX10_undoCount.cls yX10_undoCount yX10_undoCount ∈ GW := GW_t2 73 rfl rfl
theorem cv_L_199 : CV RL 199 yX10_undoCount cX10_undoCount 1 (some .int) 0 := ⟨gw_355, gw_356, gw_357, gw_45, gw_358, by decide +kernel, by decide +kernel⟩
theorem gw_1574 : Cond.methodLink "FoldedArchiveLaw" 390 yL_undo ∈ GW := GW_t7 90 rfl rfl
theorem gw_1575 : Cond.static yL_undo ∈ GW := GW_t7 91 rfl rfl
theorem ch_L_390 : CSH RL 390 yL_undo cL_undo 2 (some .int) [(0, 4, 5, 126)] 1 := ⟨gw_1574, gw_1575, gw_44, gw_1576, by decide +kernel, by decide +kernel⟩
theorem gw_1585 : Cond.methodLink "FoldedArchiveLaw" 392 yL_restoreSnapshot ∈ GW := GW_t7 101 rfl rfl
theorem gw_1586 : Cond.static yL_restoreSnapshot ∈ GW := GW_t7 102 rfl rfl
theorem ch_L_392 : CSH RL 392 yL_restoreSnapshot cL_restoreSnapshot 2 (some .int) [(0, 4, 5, 126)] 1 := ⟨gw_1585, gw_1586, gw_44, gw_1587, by decide +kernel, by decide +kernel⟩
theorem gw_1353 : Cond.methodLink "FoldedArchiveLaw" 195 yL_sum ∈ GW := GW_t6 109 rfl rfl
theorem gw_1354 : Cond.static yL_sum ∈ GW := GW_t6 110 rfl rfl
theorem cs_L_195 : CS RL 195 yL_sum cL_sum 5 (some .long) 1 := ⟨gw_1353, gw_1354, gw_44, gw_1355, by decide +kernel, by decide +kernel⟩
theorem gw_1596 : Cond.methodLink "FoldedArchiveLaw" 394 yL_areFoldings ∈ GW := GW_t7 112 rfl rfl
theorem gw_1597 : Cond.static yL_areFoldings ∈ GW := GW_t7 113 rfl rfl
theorem cs_L_394 : CS RL 394 yL_areFoldings cL_areFoldings 8 (some .boolean) 1 := ⟨gw_1596, gw_1597, gw_44, gw_1598, by decide +kernel, by decide +kernel⟩
theorem gw_1569 : Cond.code yL_isKept cL_isKept 6 (some .boolean) ∈ GW := GW_t7 85 rfl rfl
theorem tt_36 : TT[36]? = some (0, 8, [some 37, some 40, some 42]) := by decide +kernel
theorem tt_37 : TT[37]? = some (0, 9, [none, none, none, some 38, some 39]) := by decide +kernel
theorem tt_38 : TT[38]? = some (1, 7, []) := by decide +kernel
theorem tt_39 : TT[39]? = some (1, 7, []) := by decide +kernel
theorem is9_37 : isX9 37 := ⟨tt_37, tt_38, tt_39⟩
theorem tt_40 : TT[40]? = some (0, 4, [none, some 41]) := by decide +kernel
theorem tt_41 : TT[41]? = some (1, 7, []) := by decide +kernel
theorem is4_40 : isX4 40 := ⟨tt_40, tt_41⟩
theorem tt_42 : TT[42]? = some (0, 5, [none, some 43, some 44, some 45, some 46]) := by decide +kernel
theorem tt_43 : TT[43]? = some (1, 10, []) := by decide +kernel
theorem tt_44 : TT[44]? = some (1, 10, []) := by decide +kernel
theorem tt_45 : TT[45]? = some (1, 10, []) := by decide +kernel
theorem tt_46 : TT[46]? = some (2, 10, []) := by decide +kernel
theorem is5_42 : isX5 42 := ⟨tt_42, tt_43, tt_44, tt_45, tt_46⟩
theorem is8_36 : isX8 36 := ⟨tt_36, is9_37, is4_40, is5_42⟩
theorem tt_47 : TT[47]? = some (0, 8, [some 48, some 51, some 53]) := by decide +kernel
theorem tt_48 : TT[48]? = some (0, 9, [none, none, none, some 49, some 50]) := by decide +kernel
theorem tt_49 : TT[49]? = some (1, 7, []) := by decide +kernel
theorem tt_50 : TT[50]? = some (1, 7, []) := by decide +kernel
theorem is9_48 : isX9 48 := ⟨tt_48, tt_49, tt_50⟩
theorem tt_51 : TT[51]? = some (0, 4, [none, some 52]) := by decide +kernel
theorem tt_52 : TT[52]? = some (1, 7, []) := by decide +kernel
theorem is4_51 : isX4 51 := ⟨tt_51, tt_52⟩
theorem tt_53 : TT[53]? = some (0, 5, [none, some 54, some 55, some 56, some 57]) := by decide +kernel
theorem tt_54 : TT[54]? = some (1, 10, []) := by decide +kernel
theorem tt_55 : TT[55]? = some (1, 10, []) := by decide +kernel
theorem tt_56 : TT[56]? = some (1, 10, []) := by decide +kernel
theorem tt_57 : TT[57]? = some (2, 10, []) := by decide +kernel
theorem is5_53 : isX5 53 := ⟨tt_53, tt_54, tt_55, tt_56, tt_57⟩
theorem is8_47 : isX8 47 := ⟨tt_47, is9_48, is4_51, is5_53⟩
theorem tt_58 : TT[58]? = some (0, 8, [some 59, some 62, some 64]) := by decide +kernel
theorem tt_59 : TT[59]? = some (0, 9, [none, none, none, some 60, some 61]) := by decide +kernel
theorem tt_60 : TT[60]? = some (1, 7, []) := by decide +kernel
theorem tt_61 : TT[61]? = some (1, 7, []) := by decide +kernel
theorem is9_59 : isX9 59 := ⟨tt_59, tt_60, tt_61⟩
theorem tt_62 : TT[62]? = some (0, 4, [none, some 63]) := by decide +kernel
theorem tt_63 : TT[63]? = some (1, 7, []) := by decide +kernel
theorem is4_62 : isX4 62 := ⟨tt_62, tt_63⟩
theorem tt_64 : TT[64]? = some (0, 5, [none, some 65, some 66, some 67, some 68]) := by decide +kernel
theorem tt_65 : TT[65]? = some (1, 10, []) := by decide +kernel
theorem tt_66 : TT[66]? = some (1, 10, []) := by decide +kernel
theorem tt_67 : TT[67]? = some (1, 10, []) := by decide +kernel
theorem tt_68 : TT[68]? = some (2, 10, []) := by decide +kernel
theorem is5_64 : isX5 64 := ⟨tt_64, tt_65, tt_66, tt_67, tt_68⟩
theorem is8_58 : isX8 58 := ⟨tt_58, is9_59, is4_62, is5_64⟩
theorem tt_69 : TT[69]? = some (0, 8, [some 70, some 73, some 75]) := by decide +kernel
theorem tt_70 : TT[70]? = some (0, 9, [none, none, none, some 71, some 72]) := by decide +kernel
theorem tt_71 : TT[71]? = some (1, 7, []) := by decide +kernel
theorem tt_72 : TT[72]? = some (1, 7, []) := by decide +kernel
theorem is9_70 : isX9 70 := ⟨tt_70, tt_71, tt_72⟩
theorem tt_73 : TT[73]? = some (0, 4, [none, some 74]) := by decide +kernel
theorem tt_74 : TT[74]? = some (1, 7, []) := by decide +kernel
theorem is4_73 : isX4 73 := ⟨tt_73, tt_74⟩
theorem tt_75 : TT[75]? = some (0, 5, [none, some 76, some 77, some 78, some 79]) := by decide +kernel
theorem tt_76 : TT[76]? = some (1, 10, []) := by decide +kernel
theorem tt_77 : TT[77]? = some (1, 10, []) := by decide +kernel
theorem tt_78 : TT[78]? = some (1, 10, []) := by decide +kernel
theorem tt_79 : TT[79]? = some (2, 10, []) := by decide +kernel
theorem is5_75 : isX5 75 := ⟨tt_75, tt_76, tt_77, tt_78, tt_79⟩
theorem is8_69 : isX8 69 := ⟨tt_69, is9_70, is4_73, is5_75⟩
theorem tt_80 : TT[80]? = some (0, 8, [some 81, some 84, some 86]) := by decide +kernel
theorem tt_81 : TT[81]? = some (0, 9, [none, none, none, some 82, some 83]) := by decide +kernel
theorem tt_82 : TT[82]? = some (1, 7, []) := by decide +kernel
theorem tt_83 : TT[83]? = some (1, 7, []) := by decide +kernel
theorem is9_81 : isX9 81 := ⟨tt_81, tt_82, tt_83⟩
theorem tt_84 : TT[84]? = some (0, 4, [none, some 85]) := by decide +kernel
theorem tt_85 : TT[85]? = some (1, 7, []) := by decide +kernel
theorem is4_84 : isX4 84 := ⟨tt_84, tt_85⟩
theorem tt_86 : TT[86]? = some (0, 5, [none, some 87, some 88, some 89, some 90]) := by decide +kernel
theorem tt_87 : TT[87]? = some (1, 10, []) := by decide +kernel
theorem tt_88 : TT[88]? = some (1, 10, []) := by decide +kernel
theorem tt_89 : TT[89]? = some (1, 10, []) := by decide +kernel
theorem tt_90 : TT[90]? = some (2, 10, []) := by decide +kernel
theorem is5_86 : isX5 86 := ⟨tt_86, tt_87, tt_88, tt_89, tt_90⟩
theorem is8_80 : isX8 80 := ⟨tt_80, is9_81, is4_84, is5_86⟩
theorem tt_91 : TT[91]? = some (0, 8, [some 92, some 95, some 97]) := by decide +kernel
theorem tt_92 : TT[92]? = some (0, 9, [none, none, none, some 93, some 94]) := by decide +kernel
theorem tt_93 : TT[93]? = some (1, 7, []) := by decide +kernel
theorem tt_94 : TT[94]? = some (1, 7, []) := by decide +kernel
theorem is9_92 : isX9 92 := ⟨tt_92, tt_93, tt_94⟩
theorem tt_95 : TT[95]? = some (0, 4, [none, some 96]) := by decide +kernel
theorem tt_96 : TT[96]? = some (1, 7, []) := by decide +kernel
theorem is4_95 : isX4 95 := ⟨tt_95, tt_96⟩
theorem tt_97 : TT[97]? = some (0, 5, [none, some 98, some 99, some 100, some 101]) := by decide +kernel
theorem tt_98 : TT[98]? = some (1, 10, []) := by decide +kernel
theorem tt_99 : TT[99]? = some (1, 10, []) := by decide +kernel
theorem tt_100 : TT[100]? = some (1, 10, []) := by decide +kernel
theorem tt_101 : TT[101]? = some (2, 10, []) := by decide +kernel
theorem is5_97 : isX5 97 := ⟨tt_97, tt_98, tt_99, tt_100, tt_101⟩
theorem is8_91 : isX8 91 := ⟨tt_91, is9_92, is4_95, is5_97⟩
theorem tt_102 : TT[102]? = some (0, 8, [some 103, some 106, some 108]) := by decide +kernel
theorem tt_103 : TT[103]? = some (0, 9, [none, none, none, some 104, some 105]) := by decide +kernel
theorem tt_104 : TT[104]? = some (1, 7, []) := by decide +kernel
theorem tt_105 : TT[105]? = some (1, 7, []) := by decide +kernel
theorem is9_103 : isX9 103 := ⟨tt_103, tt_104, tt_105⟩
theorem tt_106 : TT[106]? = some (0, 4, [none, some 107]) := by decide +kernel
theorem tt_107 : TT[107]? = some (1, 7, []) := by decide +kernel
theorem is4_106 : isX4 106 := ⟨tt_106, tt_107⟩
theorem tt_108 : TT[108]? = some (0, 5, [none, some 109, some 110, some 111, some 112]) := by decide +kernel
theorem tt_109 : TT[109]? = some (1, 10, []) := by decide +kernel
theorem tt_110 : TT[110]? = some (1, 10, []) := by decide +kernel
theorem tt_111 : TT[111]? = some (1, 10, []) := by decide +kernel
theorem tt_112 : TT[112]? = some (2, 10, []) := by decide +kernel
theorem is5_108 : isX5 108 := ⟨tt_108, tt_109, tt_110, tt_111, tt_112⟩
theorem is8_102 : isX8 102 := ⟨tt_102, is9_103, is4_106, is5_108⟩
theorem tt_113 : TT[113]? = some (0, 8, [some 114, some 117, some 119]) := by decide +kernel
theorem tt_114 : TT[114]? = some (0, 9, [none, none, none, some 115, some 116]) := by decide +kernel
theorem tt_115 : TT[115]? = some (1, 7, []) := by decide +kernel
theorem tt_116 : TT[116]? = some (1, 7, []) := by decide +kernel
theorem is9_114 : isX9 114 := ⟨tt_114, tt_115, tt_116⟩
theorem tt_117 : TT[117]? = some (0, 4, [none, some 118]) := by decide +kernel
theorem tt_118 : TT[118]? = some (1, 7, []) := by decide +kernel
theorem is4_117 : isX4 117 := ⟨tt_117, tt_118⟩
theorem tt_119 : TT[119]? = some (0, 5, [none, some 120, some 121, some 122, some 123]) := by decide +kernel
theorem tt_120 : TT[120]? = some (1, 10, []) := by decide +kernel
theorem tt_121 : TT[121]? = some (1, 10, []) := by decide +kernel
theorem tt_122 : TT[122]? = some (1, 10, []) := by decide +kernel
theorem tt_123 : TT[123]? = some (2, 10, []) := by decide +kernel
theorem is5_119 : isX5 119 := ⟨tt_119, tt_120, tt_121, tt_122, tt_123⟩
theorem is8_113 : isX8 113 := ⟨tt_113, is9_114, is4_117, is5_119⟩
theorem gw_1567 : Cond.methodLink "FoldedArchiveLaw" 250 yL_isKept ∈ GW := GW_t7 83 rfl rfl
theorem gw_1568 : Cond.static yL_isKept ∈ GW := GW_t7 84 rfl rfl
theorem cs_L_250 : CS RL 250 yL_isKept cL_isKept 6 (some .boolean) 3 := ⟨gw_1567, gw_1568, gw_44, gw_1569, by decide +kernel, by decide +kernel⟩
theorem gw_699 : Cond.methodLink "FoldedArchiveLaw" 228 yL_over ∈ GW := GW_t3 175 rfl rfl
theorem gw_700 : Cond.static yL_over ∈ GW := GW_t3 176 rfl rfl
theorem cs_L_228 : CS RL 228 yL_over cL_over 3 (some .int) 1 := ⟨gw_699, gw_700, gw_44, gw_701, by decide +kernel, by decide +kernel⟩
theorem gw_703 : Cond.methodLink "FoldedArchiveLaw" 231 yL_does ∈ GW := GW_t3 179 rfl rfl
theorem gw_704 : Cond.static yL_does ∈ GW := GW_t3 180 rfl rfl
theorem cs_L_231 : CS RL 231 yL_does cL_does 11 (some .int) 7 := ⟨gw_703, gw_704, gw_44, gw_705, by decide +kernel, by decide +kernel⟩
theorem gw_685 : Cond.methodLink "FoldedArchiveLaw" 185 yL_denial ∈ GW := GW_t3 161 rfl rfl
theorem gw_686 : Cond.static yL_denial ∈ GW := GW_t3 162 rfl rfl
theorem ch_L_185 : CSH RL 185 yL_denial cL_denial 2 (some .int) [(0, 4, 5, 52)] 1 := ⟨gw_685, gw_686, gw_44, gw_687, by decide +kernel, by decide +kernel⟩
theorem gw_692 : Cond.methodLink "FoldedArchiveLaw" 187 yL_denialDetail ∈ GW := GW_t3 168 rfl rfl
theorem gw_693 : Cond.static yL_denialDetail ∈ GW := GW_t3 169 rfl rfl
theorem ch_L_187 : CSH RL 187 yL_denialDetail cL_denialDetail 2 (some .int) [(0, 4, 5, 52)] 1 := ⟨gw_692, gw_693, gw_44, gw_694, by decide +kernel, by decide +kernel⟩
theorem gw_1394 : Cond.methodLink "FoldedArchiveLaw" 246 yL_isWhole ∈ GW := GW_t6 150 rfl rfl
theorem gw_1395 : Cond.static yL_isWhole ∈ GW := GW_t6 151 rfl rfl
theorem cs_L_246 : CS RL 246 yL_isWhole cL_isWhole 13 (some .boolean) 4 := ⟨gw_1394, gw_1395, gw_44, gw_1396, by decide +kernel, by decide +kernel⟩
theorem gw_1059 : Cond.fieldLink "java/lang/String" 38 "java/lang/String" "COMPACT_STRINGS" "Z" ∈ GW := GW_t5 55 rfl rfl
theorem gw_1181 : Cond.fieldLink "java/lang/String" 15 "java/lang/String" "coder" "B" ∈ GW := GW_t5 177 rfl rfl
theorem gw_1180 : Cond.fieldLink "java/lang/String" 9 "java/lang/String" "value" "[B" ∈ GW := GW_t5 176 rfl rfl
theorem gw_1037 : Cond.fieldLink "java/lang/String" 1053 "jdk/internal/util/Preconditions" "SIOOBE_FORMATTER" "Ljava/util/function/BiFunction;" ∈ GW := GW_t5 33 rfl rfl
theorem gw_1055 : Cond.methodLink "java/lang/String" 335 yJ0_coder_7d493 ∈ GW := GW_t5 51 rfl rfl
theorem gw_1056 : Cond.instanceMethod yJ0_coder_7d493 ∈ GW := GW_t5 52 rfl rfl
theorem gw_1057 : Cond.selects yJ0_coder_7d493.cls yJ0_coder_7d493 yJ0_coder_7d493 ∈ GW := GW_t5 53 rfl rfl
theorem gw_1058 : Cond.code yJ0_coder_7d493 cJ0_coder_7d493 1 (some .byte) ∈ GW := GW_t5 54 rfl rfl
theorem cv_J0_335 : CV RJ0 335 yJ0_coder_7d493 cJ0_coder_7d493 1 (some .byte) 0 := ⟨gw_1055, gw_1056, gw_1057, gw_62, gw_1058, by decide +kernel, by decide +kernel⟩
theorem gw_1207 : Cond.methodLink "java/lang/String" 1059 yJ3_checkIndex_8e157 ∈ GW := GW_t5 203 rfl rfl
theorem gw_1208 : Cond.static yJ3_checkIndex_8e157 ∈ GW := GW_t5 204 rfl rfl
theorem gw_74 : Cond.initialized "jdk/internal/util/Preconditions" ∈ GW := GW_t1 30 rfl rfl
theorem gw_1209 : Cond.code yJ3_checkIndex_8e157 cJ3_checkIndex_8e157 3 (some .int) ∈ GW := GW_t5 205 rfl rfl
theorem cs_J0_1059 : CS RJ0 1059 yJ3_checkIndex_8e157 cJ3_checkIndex_8e157 3 (some .int) 3 := ⟨gw_1207, gw_1208, gw_74, gw_1209, by decide +kernel, by decide +kernel⟩
theorem gw_1230 : Cond.methodLink "java/lang/StringLatin1" 9 yJ0_checkIndex_df160 ∈ GW := GW_t5 226 rfl rfl
theorem gw_1205 : Cond.static yJ0_checkIndex_df160 ∈ GW := GW_t5 201 rfl rfl
theorem gw_1206 : Cond.code yJ0_checkIndex_df160 cJ0_checkIndex_df160 2 none ∈ GW := GW_t5 202 rfl rfl
theorem cs_J1_9 : CS RJ1 9 yJ0_checkIndex_df160 cJ0_checkIndex_df160 2 none 2 := ⟨gw_1230, gw_1205, gw_62, gw_1206, by decide +kernel, by decide +kernel⟩
theorem gw_1223 : Cond.methodLink "java/lang/String" 492 yJ0_isLatin1_aae02 ∈ GW := GW_t5 219 rfl rfl
theorem gw_1224 : Cond.instanceMethod yJ0_isLatin1_aae02 ∈ GW := GW_t5 220 rfl rfl
theorem gw_1225 : Cond.selects yJ0_isLatin1_aae02.cls yJ0_isLatin1_aae02 yJ0_isLatin1_aae02 ∈ GW := GW_t5 221 rfl rfl
theorem gw_1226 : Cond.code yJ0_isLatin1_aae02 cJ0_isLatin1_aae02 1 (some .boolean) ∈ GW := GW_t5 222 rfl rfl
theorem cv_J0_492 : CV RJ0 492 yJ0_isLatin1_aae02 cJ0_isLatin1_aae02 1 (some .boolean) 0 := ⟨gw_1223, gw_1224, gw_1225, gw_62, gw_1226, by decide +kernel, by decide +kernel⟩
theorem gw_1227 : Cond.methodLink "java/lang/String" 495 yJ1_charAt_3b067 ∈ GW := GW_t5 223 rfl rfl
theorem gw_1228 : Cond.static yJ1_charAt_3b067 ∈ GW := GW_t5 224 rfl rfl
theorem gw_75 : Cond.initialized "java/lang/StringLatin1" ∈ GW := GW_t1 31 rfl rfl
theorem gw_1229 : Cond.code yJ1_charAt_3b067 cJ1_charAt_3b067 2 (some .char) ∈ GW := GW_t5 225 rfl rfl
theorem cs_J0_495 : CS RJ0 495 yJ1_charAt_3b067 cJ1_charAt_3b067 2 (some .char) 2 := ⟨gw_1227, gw_1228, gw_75, gw_1229, by decide +kernel, by decide +kernel⟩
theorem stOK_is {t : Nat} (h : stOK t) : isX8 t := by
  rcases h with h | h | h | h | h | h | h | h <;> subst h
  · exact is8_36
  · exact is8_47
  · exact is8_58
  · exact is8_69
  · exact is8_80
  · exact is8_91
  · exact is8_102
  · exact is8_113
