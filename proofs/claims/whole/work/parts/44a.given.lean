/-! what the Statement gives of the start -/
theorem lm_t1 (i : Nat) {w : Cond} (h : tables_1_1[i]? = some w) : w ∈ lw_tbl := List.mem_append_right _ (List.mem_append_left _ (List.mem_of_getElem? h))
theorem lm_t2 (i : Nat) {w : Cond} (h : tables_1_2[i]? = some w) : w ∈ lw_tbl := List.mem_append_right _ (List.mem_append_right _ (List.mem_append_left _ (List.mem_of_getElem? h)))
theorem lm_t3 (i : Nat) {w : Cond} (h : tables_1_3[i]? = some w) : w ∈ lw_tbl := List.mem_append_right _ (List.mem_append_right _ (List.mem_append_right _ (List.mem_append_left _ (List.mem_of_getElem? h))))
theorem lm_t4 (i : Nat) {w : Cond} (h : tables_1_4[i]? = some w) : w ∈ lw_tbl := List.mem_append_right _ (List.mem_append_right _ (List.mem_append_right _ (List.mem_append_right _ (List.mem_append_left _ (List.mem_of_getElem? h)))))
theorem lm_t5 (i : Nat) {w : Cond} (h : tables_1_5[i]? = some w) : w ∈ lw_tbl := List.mem_append_right _ (List.mem_append_right _ (List.mem_append_right _ (List.mem_append_right _ (List.mem_append_right _ (List.mem_append_left _ (List.mem_of_getElem? h))))))
theorem lm_t6 (i : Nat) {w : Cond} (h : tables_1_6[i]? = some w) : w ∈ lw_tbl := List.mem_append_right _ (List.mem_append_right _ (List.mem_append_right _ (List.mem_append_right _ (List.mem_append_right _ (List.mem_append_right _ (List.mem_append_left _ (List.mem_of_getElem? h)))))))
theorem lm_t7 (i : Nat) {w : Cond} (h : tables_1_7[i]? = some w) : w ∈ lw_tbl := List.mem_append_right _ (List.mem_append_right _ (List.mem_append_right _ (List.mem_append_right _ (List.mem_append_right _ (List.mem_append_right _ (List.mem_append_right _ (List.mem_append_left _ (List.mem_of_getElem? h))))))))
theorem lm_t8 (i : Nat) {w : Cond} (h : tables_1_8[i]? = some w) : w ∈ lw_tbl := List.mem_append_right _ (List.mem_append_right _ (List.mem_append_right _ (List.mem_append_right _ (List.mem_append_right _ (List.mem_append_right _ (List.mem_append_right _ (List.mem_append_right _ (List.mem_of_getElem? h))))))))
abbrev FLT : List Cond := flatC (Jvm.Cond.and given_1 narrow_1)
theorem fm_ (i : Nat) {w : Cond} (h : FLT[i]? = some w) : w ∈ FLT := List.mem_of_getElem? h
def SF1 (s : State) (A : Nat → Prop) (q : String × Nat × String × List Int32) (a t : Nat) : Prop := vk_R q.1 q.2.1 q.2.2.1 a s ∧ va_O "java/lang/String" a A s s.heap ∧ va_OF "java/lang/String" "coder" "B" (.int 0) a A s s.heap ∧ va_OF "java/lang/String" "value" "[B" (.ref t) a A s s.heap ∧ va_T .byte t q.2.2.2.length (fun j => .int (q.2.2.2.getD j 0)) A s s.heap
theorem sf1_of {args : Array Value} {s : State} {A : Nat → Prop} (o : String) (k : Nat) (tx : String) (l : List Int32) (h0 : (Cond.stringRef o k tx).before args s = true) (hex : (Cond.exactly (.string o k) "java/lang/String").before args s = true) (hco : (Cond.eq (.field (.string o k) "java/lang/String" "coder" "B") (.int 0)).before args s = true) (har : (Cond.arrayOf (.field (.string o k) "java/lang/String" "value" "[B") .byte).before args s = true) (hle : (Cond.eq (.length (.field (.string o k) "java/lang/String" "value" "[B")) (.int (Int32.ofNat l.length))).before args s = true) (hel : ∀ j, j < l.length → (Cond.eq (.elem (.field (.string o k) "java/lang/String" "value" "[B") (.int (Int32.ofNat j))) (.int (l.getD j 0))).before args s = true) (hl : l.length < 2 ^ 31) (hA : ∀ a : Nat, a < s.heap.size → ¬ A a) : ∃ a t, SF1 s A (o, k, tx, l) a t := by
  obtain ⟨a, c, cA, kA, q1, q2, q3, q4, q5, q6, -⟩ := Cond.exactly_spec (args := args) (first := s) (o := none) (s := s) (idx := []) (t := .string o k) (cls := "java/lang/String") hex
  obtain ⟨t, ht, hT⟩ := va_Tof (f := fun j => .int (l.getD j 0)) (A := A) hl har (va_eqt hle) (fun j hj => va_eqt (hel j hj)) hA
  exact ⟨a, t, vk_R.of h0 q1, ⟨cA, q3, q5, by rw [q6]; exact q2, hA a (Array.getElem?_eq_some_iff.mp q3).1⟩, vk_OFof q1 (va_eqt hco) hA, vk_OFof q1 ht hA, hT⟩
theorem sw_0 {args : Array Value} {s : State} {A : Nat → Prop} (hs : ∀ c ∈ FLT, c.before args s = true) (hts : ∀ w ∈ lw_tbl, w.before args s = true) (hA : ∀ a : Nat, a < s.heap.size → ¬ A a) : ∃ a t, SF1 s A ("FoldedArchive$CommandReader", 59, "add", [97, 100, 100]) a t :=
  sf1_of _ _ _ _ (hts _ (lm_t5 221 rfl)) (hs _ (fm_ 118 rfl)) (hs _ (fm_ 119 rfl)) (hs _ (fm_ 120 rfl)) (hs _ (fm_ 121 rfl)) (fun j hj => match j, hj with
    | 0, _ => hs _ (fm_ 122 rfl)
    | 1, _ => hs _ (fm_ 123 rfl)
    | 2, _ => hs _ (fm_ 124 rfl)
    | j + 3, h => absurd h (by show ¬ (j + 3 < 3); omega)) (by decide) hA
theorem sw_1 {args : Array Value} {s : State} {A : Nat → Prop} (hs : ∀ c ∈ FLT, c.before args s = true) (hts : ∀ w ∈ lw_tbl, w.before args s = true) (hA : ∀ a : Nat, a < s.heap.size → ¬ A a) : ∃ a t, SF1 s A ("FoldedArchive$CommandReader", 61, "pour D N", [112, 111, 117, 114, 32, 68, 32, 78]) a t :=
  sf1_of _ _ _ _ (hts _ (lm_t5 222 rfl)) (hs _ (fm_ 125 rfl)) (hs _ (fm_ 126 rfl)) (hs _ (fm_ 127 rfl)) (hs _ (fm_ 128 rfl)) (fun j hj => match j, hj with
    | 0, _ => hs _ (fm_ 129 rfl)
    | 1, _ => hs _ (fm_ 130 rfl)
    | 2, _ => hs _ (fm_ 131 rfl)
    | 3, _ => hs _ (fm_ 132 rfl)
    | 4, _ => hs _ (fm_ 133 rfl)
    | 5, _ => hs _ (fm_ 134 rfl)
    | 6, _ => hs _ (fm_ 135 rfl)
    | 7, _ => hs _ (fm_ 136 rfl)
    | j + 8, h => absurd h (by show ¬ (j + 8 < 8); omega)) (by decide) hA
theorem sw_2 {args : Array Value} {s : State} {A : Nat → Prop} (hs : ∀ c ∈ FLT, c.before args s = true) (hts : ∀ w ∈ lw_tbl, w.before args s = true) (hA : ∀ a : Nat, a < s.heap.size → ¬ A a) : ∃ a t, SF1 s A ("FoldedArchive$CommandReader", 63, "tag DT", [116, 97, 103, 32, 68, 84]) a t :=
  sf1_of _ _ _ _ (hts _ (lm_t5 223 rfl)) (hs _ (fm_ 137 rfl)) (hs _ (fm_ 138 rfl)) (hs _ (fm_ 139 rfl)) (hs _ (fm_ 140 rfl)) (fun j hj => match j, hj with
    | 0, _ => hs _ (fm_ 141 rfl)
    | 1, _ => hs _ (fm_ 142 rfl)
    | 2, _ => hs _ (fm_ 143 rfl)
    | 3, _ => hs _ (fm_ 144 rfl)
    | 4, _ => hs _ (fm_ 145 rfl)
    | 5, _ => hs _ (fm_ 146 rfl)
    | j + 6, h => absurd h (by show ¬ (j + 6 < 6); omega)) (by decide) hA
theorem sw_3 {args : Array Value} {s : State} {A : Nat → Prop} (hs : ∀ c ∈ FLT, c.before args s = true) (hts : ∀ w ∈ lw_tbl, w.before args s = true) (hA : ∀ a : Nat, a < s.heap.size → ¬ A a) : ∃ a t, SF1 s A ("FoldedArchive$CommandReader", 65, "untag DT", [117, 110, 116, 97, 103, 32, 68, 84]) a t :=
  sf1_of _ _ _ _ (hts _ (lm_t5 224 rfl)) (hs _ (fm_ 147 rfl)) (hs _ (fm_ 148 rfl)) (hs _ (fm_ 149 rfl)) (hs _ (fm_ 150 rfl)) (fun j hj => match j, hj with
    | 0, _ => hs _ (fm_ 151 rfl)
    | 1, _ => hs _ (fm_ 152 rfl)
    | 2, _ => hs _ (fm_ 153 rfl)
    | 3, _ => hs _ (fm_ 154 rfl)
    | 4, _ => hs _ (fm_ 155 rfl)
    | 5, _ => hs _ (fm_ 156 rfl)
    | 6, _ => hs _ (fm_ 157 rfl)
    | 7, _ => hs _ (fm_ 158 rfl)
    | j + 8, h => absurd h (by show ¬ (j + 8 < 8); omega)) (by decide) hA
theorem sw_4 {args : Array Value} {s : State} {A : Nat → Prop} (hs : ∀ c ∈ FLT, c.before args s = true) (hts : ∀ w ∈ lw_tbl, w.before args s = true) (hA : ∀ a : Nat, a < s.heap.size → ¬ A a) : ∃ a t, SF1 s A ("FoldedArchive$CommandReader", 67, "fold D", [102, 111, 108, 100, 32, 68]) a t :=
  sf1_of _ _ _ _ (hts _ (lm_t5 225 rfl)) (hs _ (fm_ 159 rfl)) (hs _ (fm_ 160 rfl)) (hs _ (fm_ 161 rfl)) (hs _ (fm_ 162 rfl)) (fun j hj => match j, hj with
    | 0, _ => hs _ (fm_ 163 rfl)
    | 1, _ => hs _ (fm_ 164 rfl)
    | 2, _ => hs _ (fm_ 165 rfl)
    | 3, _ => hs _ (fm_ 166 rfl)
    | 4, _ => hs _ (fm_ 167 rfl)
    | 5, _ => hs _ (fm_ 168 rfl)
    | j + 6, h => absurd h (by show ¬ (j + 6 < 6); omega)) (by decide) hA
theorem sw_5 {args : Array Value} {s : State} {A : Nat → Prop} (hs : ∀ c ∈ FLT, c.before args s = true) (hts : ∀ w ∈ lw_tbl, w.before args s = true) (hA : ∀ a : Nat, a < s.heap.size → ¬ A a) : ∃ a t, SF1 s A ("FoldedArchive$CommandReader", 69, "open", [111, 112, 101, 110]) a t :=
  sf1_of _ _ _ _ (hts _ (lm_t5 226 rfl)) (hs _ (fm_ 169 rfl)) (hs _ (fm_ 170 rfl)) (hs _ (fm_ 171 rfl)) (hs _ (fm_ 172 rfl)) (fun j hj => match j, hj with
    | 0, _ => hs _ (fm_ 173 rfl)
    | 1, _ => hs _ (fm_ 174 rfl)
    | 2, _ => hs _ (fm_ 175 rfl)
    | 3, _ => hs _ (fm_ 176 rfl)
    | j + 4, h => absurd h (by show ¬ (j + 4 < 4); omega)) (by decide) hA
theorem sw_6 {args : Array Value} {s : State} {A : Nat → Prop} (hs : ∀ c ∈ FLT, c.before args s = true) (hts : ∀ w ∈ lw_tbl, w.before args s = true) (hA : ∀ a : Nat, a < s.heap.size → ¬ A a) : ∃ a t, SF1 s A ("FoldedArchive$CommandReader", 71, "pipe D>D N", [112, 105, 112, 101, 32, 68, 62, 68, 32, 78]) a t :=
  sf1_of _ _ _ _ (hts _ (lm_t5 227 rfl)) (hs _ (fm_ 177 rfl)) (hs _ (fm_ 178 rfl)) (hs _ (fm_ 179 rfl)) (hs _ (fm_ 180 rfl)) (fun j hj => match j, hj with
    | 0, _ => hs _ (fm_ 181 rfl)
    | 1, _ => hs _ (fm_ 182 rfl)
    | 2, _ => hs _ (fm_ 183 rfl)
    | 3, _ => hs _ (fm_ 184 rfl)
    | 4, _ => hs _ (fm_ 185 rfl)
    | 5, _ => hs _ (fm_ 186 rfl)
    | 6, _ => hs _ (fm_ 187 rfl)
    | 7, _ => hs _ (fm_ 188 rfl)
    | 8, _ => hs _ (fm_ 189 rfl)
    | 9, _ => hs _ (fm_ 190 rfl)
    | j + 10, h => absurd h (by show ¬ (j + 10 < 10); omega)) (by decide) hA
theorem sw_7 {args : Array Value} {s : State} {A : Nat → Prop} (hs : ∀ c ∈ FLT, c.before args s = true) (hts : ∀ w ∈ lw_tbl, w.before args s = true) (hA : ∀ a : Nat, a < s.heap.size → ¬ A a) : ∃ a t, SF1 s A ("FoldedArchive$CommandReader", 73, "cut D", [99, 117, 116, 32, 68]) a t :=
  sf1_of _ _ _ _ (hts _ (lm_t5 228 rfl)) (hs _ (fm_ 191 rfl)) (hs _ (fm_ 192 rfl)) (hs _ (fm_ 193 rfl)) (hs _ (fm_ 194 rfl)) (fun j hj => match j, hj with
    | 0, _ => hs _ (fm_ 195 rfl)
    | 1, _ => hs _ (fm_ 196 rfl)
    | 2, _ => hs _ (fm_ 197 rfl)
    | 3, _ => hs _ (fm_ 198 rfl)
    | 4, _ => hs _ (fm_ 199 rfl)
    | j + 5, h => absurd h (by show ¬ (j + 5 < 5); omega)) (by decide) hA
theorem sw_8 {args : Array Value} {s : State} {A : Nat → Prop} (hs : ∀ c ∈ FLT, c.before args s = true) (hts : ∀ w ∈ lw_tbl, w.before args s = true) (hA : ∀ a : Nat, a < s.heap.size → ¬ A a) : ∃ a t, SF1 s A ("FoldedArchive$CommandReader", 75, "break D", [98, 114, 101, 97, 107, 32, 68]) a t :=
  sf1_of _ _ _ _ (hts _ (lm_t5 229 rfl)) (hs _ (fm_ 200 rfl)) (hs _ (fm_ 201 rfl)) (hs _ (fm_ 202 rfl)) (hs _ (fm_ 203 rfl)) (fun j hj => match j, hj with
    | 0, _ => hs _ (fm_ 204 rfl)
    | 1, _ => hs _ (fm_ 205 rfl)
    | 2, _ => hs _ (fm_ 206 rfl)
    | 3, _ => hs _ (fm_ 207 rfl)
    | 4, _ => hs _ (fm_ 208 rfl)
    | 5, _ => hs _ (fm_ 209 rfl)
    | 6, _ => hs _ (fm_ 210 rfl)
    | j + 7, h => absurd h (by show ¬ (j + 7 < 7); omega)) (by decide) hA
theorem sw_9 {args : Array Value} {s : State} {A : Nat → Prop} (hs : ∀ c ∈ FLT, c.before args s = true) (hts : ∀ w ∈ lw_tbl, w.before args s = true) (hA : ∀ a : Nat, a < s.heap.size → ¬ A a) : ∃ a t, SF1 s A ("FoldedArchive$CommandReader", 77, "mend D", [109, 101, 110, 100, 32, 68]) a t :=
  sf1_of _ _ _ _ (hts _ (lm_t5 230 rfl)) (hs _ (fm_ 211 rfl)) (hs _ (fm_ 212 rfl)) (hs _ (fm_ 213 rfl)) (hs _ (fm_ 214 rfl)) (fun j hj => match j, hj with
    | 0, _ => hs _ (fm_ 215 rfl)
    | 1, _ => hs _ (fm_ 216 rfl)
    | 2, _ => hs _ (fm_ 217 rfl)
    | 3, _ => hs _ (fm_ 218 rfl)
    | 4, _ => hs _ (fm_ 219 rfl)
    | 5, _ => hs _ (fm_ 220 rfl)
    | j + 6, h => absurd h (by show ¬ (j + 6 < 6); omega)) (by decide) hA
theorem sw_10 {args : Array Value} {s : State} {A : Nat → Prop} (hs : ∀ c ∈ FLT, c.before args s = true) (hts : ∀ w ∈ lw_tbl, w.before args s = true) (hA : ∀ a : Nat, a < s.heap.size → ¬ A a) : ∃ a t, SF1 s A ("FoldedArchive$CommandReader", 79, "drain", [100, 114, 97, 105, 110]) a t :=
  sf1_of _ _ _ _ (hts _ (lm_t5 231 rfl)) (hs _ (fm_ 221 rfl)) (hs _ (fm_ 222 rfl)) (hs _ (fm_ 223 rfl)) (hs _ (fm_ 224 rfl)) (fun j hj => match j, hj with
    | 0, _ => hs _ (fm_ 225 rfl)
    | 1, _ => hs _ (fm_ 226 rfl)
    | 2, _ => hs _ (fm_ 227 rfl)
    | 3, _ => hs _ (fm_ 228 rfl)
    | 4, _ => hs _ (fm_ 229 rfl)
    | j + 5, h => absurd h (by show ¬ (j + 5 < 5); omega)) (by decide) hA
theorem sw_11 {args : Array Value} {s : State} {A : Nat → Prop} (hs : ∀ c ∈ FLT, c.before args s = true) (hts : ∀ w ∈ lw_tbl, w.before args s = true) (hA : ∀ a : Nat, a < s.heap.size → ¬ A a) : ∃ a t, SF1 s A ("FoldedArchive$CommandReader", 81, "seep", [115, 101, 101, 112]) a t :=
  sf1_of _ _ _ _ (hts _ (lm_t5 232 rfl)) (hs _ (fm_ 230 rfl)) (hs _ (fm_ 231 rfl)) (hs _ (fm_ 232 rfl)) (hs _ (fm_ 233 rfl)) (fun j hj => match j, hj with
    | 0, _ => hs _ (fm_ 234 rfl)
    | 1, _ => hs _ (fm_ 235 rfl)
    | 2, _ => hs _ (fm_ 236 rfl)
    | 3, _ => hs _ (fm_ 237 rfl)
    | j + 4, h => absurd h (by show ¬ (j + 4 < 4); omega)) (by decide) hA
theorem sw_12 {args : Array Value} {s : State} {A : Nat → Prop} (hs : ∀ c ∈ FLT, c.before args s = true) (hts : ∀ w ∈ lw_tbl, w.before args s = true) (hA : ∀ a : Nat, a < s.heap.size → ¬ A a) : ∃ a t, SF1 s A ("FoldedArchiveModel", 238, "add", [97, 100, 100]) a t :=
  sf1_of _ _ _ _ (hts _ (lm_t8 91 rfl)) (hs _ (fm_ 238 rfl)) (hs _ (fm_ 239 rfl)) (hs _ (fm_ 240 rfl)) (hs _ (fm_ 241 rfl)) (fun j hj => match j, hj with
    | 0, _ => hs _ (fm_ 242 rfl)
    | 1, _ => hs _ (fm_ 243 rfl)
    | 2, _ => hs _ (fm_ 244 rfl)
    | j + 3, h => absurd h (by show ¬ (j + 3 < 3); omega)) (by decide) hA
theorem sw_13 {args : Array Value} {s : State} {A : Nat → Prop} (hs : ∀ c ∈ FLT, c.before args s = true) (hts : ∀ w ∈ lw_tbl, w.before args s = true) (hA : ∀ a : Nat, a < s.heap.size → ¬ A a) : ∃ a t, SF1 s A ("FoldedArchiveModel", 240, "pipe ", [112, 105, 112, 101, 32]) a t :=
  sf1_of _ _ _ _ (hts _ (lm_t8 98 rfl)) (hs _ (fm_ 246 rfl)) (hs _ (fm_ 247 rfl)) (hs _ (fm_ 248 rfl)) (hs _ (fm_ 249 rfl)) (fun j hj => match j, hj with
    | 0, _ => hs _ (fm_ 250 rfl)
    | 1, _ => hs _ (fm_ 251 rfl)
    | 2, _ => hs _ (fm_ 252 rfl)
    | 3, _ => hs _ (fm_ 253 rfl)
    | 4, _ => hs _ (fm_ 254 rfl)
    | j + 5, h => absurd h (by show ¬ (j + 5 < 5); omega)) (by decide) hA
theorem sw_14 {args : Array Value} {s : State} {A : Nat → Prop} (hs : ∀ c ∈ FLT, c.before args s = true) (hts : ∀ w ∈ lw_tbl, w.before args s = true) (hA : ∀ a : Nat, a < s.heap.size → ¬ A a) : ∃ a t, SF1 s A ("FoldedArchiveModel", 242, "pour ", [112, 111, 117, 114, 32]) a t :=
  sf1_of _ _ _ _ (hts _ (lm_t8 99 rfl)) (hs _ (fm_ 255 rfl)) (hs _ (fm_ 256 rfl)) (hs _ (fm_ 257 rfl)) (hs _ (fm_ 258 rfl)) (fun j hj => match j, hj with
    | 0, _ => hs _ (fm_ 259 rfl)
    | 1, _ => hs _ (fm_ 260 rfl)
    | 2, _ => hs _ (fm_ 261 rfl)
    | 3, _ => hs _ (fm_ 262 rfl)
    | 4, _ => hs _ (fm_ 263 rfl)
    | j + 5, h => absurd h (by show ¬ (j + 5 < 5); omega)) (by decide) hA
theorem sw_15 {args : Array Value} {s : State} {A : Nat → Prop} (hs : ∀ c ∈ FLT, c.before args s = true) (hts : ∀ w ∈ lw_tbl, w.before args s = true) (hA : ∀ a : Nat, a < s.heap.size → ¬ A a) : ∃ a t, SF1 s A ("FoldedArchiveModel", 244, ">", [62]) a t :=
  sf1_of _ _ _ _ (hts _ (lm_t8 104 rfl)) (hs _ (fm_ 264 rfl)) (hs _ (fm_ 265 rfl)) (hs _ (fm_ 266 rfl)) (hs _ (fm_ 267 rfl)) (fun j hj => match j, hj with
    | 0, _ => hs _ (fm_ 268 rfl)
    | j + 1, h => absurd h (by show ¬ (j + 1 < 1); omega)) (by decide) hA
theorem sw_16 {args : Array Value} {s : State} {A : Nat → Prop} (hs : ∀ c ∈ FLT, c.before args s = true) (hts : ∀ w ∈ lw_tbl, w.before args s = true) (hA : ∀ a : Nat, a < s.heap.size → ¬ A a) : ∃ a t, SF1 s A ("FoldedArchiveModel", 246, " ", [32]) a t :=
  sf1_of _ _ _ _ (hts _ (lm_t8 105 rfl)) (hs _ (fm_ 269 rfl)) (hs _ (fm_ 270 rfl)) (hs _ (fm_ 271 rfl)) (hs _ (fm_ 272 rfl)) (fun j hj => match j, hj with
    | 0, _ => hs _ (fm_ 273 rfl)
    | j + 1, h => absurd h (by show ¬ (j + 1 < 1); omega)) (by decide) hA
theorem sw_17 {args : Array Value} {s : State} {A : Nat → Prop} (hs : ∀ c ∈ FLT, c.before args s = true) (hts : ∀ w ∈ lw_tbl, w.before args s = true) (hA : ∀ a : Nat, a < s.heap.size → ¬ A a) : ∃ a t, SF1 s A ("FoldedArchiveModel", 248, "tag ", [116, 97, 103, 32]) a t :=
  sf1_of _ _ _ _ (hts _ (lm_t8 106 rfl)) (hs _ (fm_ 274 rfl)) (hs _ (fm_ 275 rfl)) (hs _ (fm_ 276 rfl)) (hs _ (fm_ 277 rfl)) (fun j hj => match j, hj with
    | 0, _ => hs _ (fm_ 278 rfl)
    | 1, _ => hs _ (fm_ 279 rfl)
    | 2, _ => hs _ (fm_ 280 rfl)
    | 3, _ => hs _ (fm_ 281 rfl)
    | j + 4, h => absurd h (by show ¬ (j + 4 < 4); omega)) (by decide) hA
theorem sw_18 {args : Array Value} {s : State} {A : Nat → Prop} (hs : ∀ c ∈ FLT, c.before args s = true) (hts : ∀ w ∈ lw_tbl, w.before args s = true) (hA : ∀ a : Nat, a < s.heap.size → ¬ A a) : ∃ a t, SF1 s A ("FoldedArchiveModel", 253, "untag ", [117, 110, 116, 97, 103, 32]) a t :=
  sf1_of _ _ _ _ (hts _ (lm_t8 111 rfl)) (hs _ (fm_ 282 rfl)) (hs _ (fm_ 283 rfl)) (hs _ (fm_ 284 rfl)) (hs _ (fm_ 285 rfl)) (fun j hj => match j, hj with
    | 0, _ => hs _ (fm_ 286 rfl)
    | 1, _ => hs _ (fm_ 287 rfl)
    | 2, _ => hs _ (fm_ 288 rfl)
    | 3, _ => hs _ (fm_ 289 rfl)
    | 4, _ => hs _ (fm_ 290 rfl)
    | 5, _ => hs _ (fm_ 291 rfl)
    | j + 6, h => absurd h (by show ¬ (j + 6 < 6); omega)) (by decide) hA
theorem sw_19 {args : Array Value} {s : State} {A : Nat → Prop} (hs : ∀ c ∈ FLT, c.before args s = true) (hts : ∀ w ∈ lw_tbl, w.before args s = true) (hA : ∀ a : Nat, a < s.heap.size → ¬ A a) : ∃ a t, SF1 s A ("FoldedArchiveModel", 255, "fold ", [102, 111, 108, 100, 32]) a t :=
  sf1_of _ _ _ _ (hts _ (lm_t8 112 rfl)) (hs _ (fm_ 292 rfl)) (hs _ (fm_ 293 rfl)) (hs _ (fm_ 294 rfl)) (hs _ (fm_ 295 rfl)) (fun j hj => match j, hj with
    | 0, _ => hs _ (fm_ 296 rfl)
    | 1, _ => hs _ (fm_ 297 rfl)
    | 2, _ => hs _ (fm_ 298 rfl)
    | 3, _ => hs _ (fm_ 299 rfl)
    | 4, _ => hs _ (fm_ 300 rfl)
    | j + 5, h => absurd h (by show ¬ (j + 5 < 5); omega)) (by decide) hA
theorem sw_20 {args : Array Value} {s : State} {A : Nat → Prop} (hs : ∀ c ∈ FLT, c.before args s = true) (hts : ∀ w ∈ lw_tbl, w.before args s = true) (hA : ∀ a : Nat, a < s.heap.size → ¬ A a) : ∃ a t, SF1 s A ("FoldedArchiveModel", 257, "open", [111, 112, 101, 110]) a t :=
  sf1_of _ _ _ _ (hts _ (lm_t8 113 rfl)) (hs _ (fm_ 301 rfl)) (hs _ (fm_ 302 rfl)) (hs _ (fm_ 303 rfl)) (hs _ (fm_ 304 rfl)) (fun j hj => match j, hj with
    | 0, _ => hs _ (fm_ 305 rfl)
    | 1, _ => hs _ (fm_ 306 rfl)
    | 2, _ => hs _ (fm_ 307 rfl)
    | 3, _ => hs _ (fm_ 308 rfl)
    | j + 4, h => absurd h (by show ¬ (j + 4 < 4); omega)) (by decide) hA
theorem sw_21 {args : Array Value} {s : State} {A : Nat → Prop} (hs : ∀ c ∈ FLT, c.before args s = true) (hts : ∀ w ∈ lw_tbl, w.before args s = true) (hA : ∀ a : Nat, a < s.heap.size → ¬ A a) : ∃ a t, SF1 s A ("FoldedArchiveModel", 258, "cut ", [99, 117, 116, 32]) a t :=
  sf1_of _ _ _ _ (hts _ (lm_t8 114 rfl)) (hs _ (fm_ 310 rfl)) (hs _ (fm_ 311 rfl)) (hs _ (fm_ 312 rfl)) (hs _ (fm_ 313 rfl)) (fun j hj => match j, hj with
    | 0, _ => hs _ (fm_ 314 rfl)
    | 1, _ => hs _ (fm_ 315 rfl)
    | 2, _ => hs _ (fm_ 316 rfl)
    | 3, _ => hs _ (fm_ 317 rfl)
    | j + 4, h => absurd h (by show ¬ (j + 4 < 4); omega)) (by decide) hA
theorem sw_22 {args : Array Value} {s : State} {A : Nat → Prop} (hs : ∀ c ∈ FLT, c.before args s = true) (hts : ∀ w ∈ lw_tbl, w.before args s = true) (hA : ∀ a : Nat, a < s.heap.size → ¬ A a) : ∃ a t, SF1 s A ("FoldedArchiveModel", 260, "break ", [98, 114, 101, 97, 107, 32]) a t :=
  sf1_of _ _ _ _ (hts _ (lm_t8 115 rfl)) (hs _ (fm_ 318 rfl)) (hs _ (fm_ 319 rfl)) (hs _ (fm_ 320 rfl)) (hs _ (fm_ 321 rfl)) (fun j hj => match j, hj with
    | 0, _ => hs _ (fm_ 322 rfl)
    | 1, _ => hs _ (fm_ 323 rfl)
    | 2, _ => hs _ (fm_ 324 rfl)
    | 3, _ => hs _ (fm_ 325 rfl)
    | 4, _ => hs _ (fm_ 326 rfl)
    | 5, _ => hs _ (fm_ 327 rfl)
    | j + 6, h => absurd h (by show ¬ (j + 6 < 6); omega)) (by decide) hA
theorem sw_23 {args : Array Value} {s : State} {A : Nat → Prop} (hs : ∀ c ∈ FLT, c.before args s = true) (hts : ∀ w ∈ lw_tbl, w.before args s = true) (hA : ∀ a : Nat, a < s.heap.size → ¬ A a) : ∃ a t, SF1 s A ("FoldedArchiveModel", 262, "mend ", [109, 101, 110, 100, 32]) a t :=
  sf1_of _ _ _ _ (hts _ (lm_t8 116 rfl)) (hs _ (fm_ 328 rfl)) (hs _ (fm_ 329 rfl)) (hs _ (fm_ 330 rfl)) (hs _ (fm_ 331 rfl)) (fun j hj => match j, hj with
    | 0, _ => hs _ (fm_ 332 rfl)
    | 1, _ => hs _ (fm_ 333 rfl)
    | 2, _ => hs _ (fm_ 334 rfl)
    | 3, _ => hs _ (fm_ 335 rfl)
    | 4, _ => hs _ (fm_ 336 rfl)
    | j + 5, h => absurd h (by show ¬ (j + 5 < 5); omega)) (by decide) hA
theorem sw_24 {args : Array Value} {s : State} {A : Nat → Prop} (hs : ∀ c ∈ FLT, c.before args s = true) (hts : ∀ w ∈ lw_tbl, w.before args s = true) (hA : ∀ a : Nat, a < s.heap.size → ¬ A a) : ∃ a t, SF1 s A ("FoldedArchiveModel", 264, "drain", [100, 114, 97, 105, 110]) a t :=
  sf1_of _ _ _ _ (hts _ (lm_t8 117 rfl)) (hs _ (fm_ 337 rfl)) (hs _ (fm_ 338 rfl)) (hs _ (fm_ 339 rfl)) (hs _ (fm_ 340 rfl)) (fun j hj => match j, hj with
    | 0, _ => hs _ (fm_ 341 rfl)
    | 1, _ => hs _ (fm_ 342 rfl)
    | 2, _ => hs _ (fm_ 343 rfl)
    | 3, _ => hs _ (fm_ 344 rfl)
    | 4, _ => hs _ (fm_ 345 rfl)
    | j + 5, h => absurd h (by show ¬ (j + 5 < 5); omega)) (by decide) hA
theorem sw_25 {args : Array Value} {s : State} {A : Nat → Prop} (hs : ∀ c ∈ FLT, c.before args s = true) (hts : ∀ w ∈ lw_tbl, w.before args s = true) (hA : ∀ a : Nat, a < s.heap.size → ¬ A a) : ∃ a t, SF1 s A ("FoldedArchiveModel", 266, "seep", [115, 101, 101, 112]) a t :=
  sf1_of _ _ _ _ (hts _ (lm_t8 118 rfl)) (hs _ (fm_ 347 rfl)) (hs _ (fm_ 348 rfl)) (hs _ (fm_ 349 rfl)) (hs _ (fm_ 350 rfl)) (fun j hj => match j, hj with
    | 0, _ => hs _ (fm_ 351 rfl)
    | 1, _ => hs _ (fm_ 352 rfl)
    | 2, _ => hs _ (fm_ 353 rfl)
    | 3, _ => hs _ (fm_ 354 rfl)
    | j + 4, h => absurd h (by show ¬ (j + 4 < 4); omega)) (by decide) hA
theorem sw_all {args : Array Value} {s : State} {A : Nat → Prop} (hs : ∀ c ∈ FLT, c.before args s = true) (hts : ∀ w ∈ lw_tbl, w.before args s = true) (hA : ∀ a : Nat, a < s.heap.size → ¬ A a) : ∃ f : Nat → Nat × Nat, ∀ (i : Nat) (q : String × Nat × String × List Int32), strTab[i]? = some q → SF1 s A q (f i).1 (f i).2 := by
  have h0 : ∀ i : Nat, ∃ p : Nat × Nat, ∀ q : String × Nat × String × List Int32, strTab[i]? = some q → SF1 s A q p.1 p.2 := by
    intro i
    match i with
    | 0 => obtain ⟨a, t, h⟩ := sw_0 hs hts hA; exact ⟨(a, t), fun q hq => by obtain rfl : (("FoldedArchive$CommandReader", 59, "add", [97, 100, 100]) : String × Nat × String × List Int32) = q := Option.some.inj hq; exact h⟩
    | 1 => obtain ⟨a, t, h⟩ := sw_1 hs hts hA; exact ⟨(a, t), fun q hq => by obtain rfl : (("FoldedArchive$CommandReader", 61, "pour D N", [112, 111, 117, 114, 32, 68, 32, 78]) : String × Nat × String × List Int32) = q := Option.some.inj hq; exact h⟩
    | 2 => obtain ⟨a, t, h⟩ := sw_2 hs hts hA; exact ⟨(a, t), fun q hq => by obtain rfl : (("FoldedArchive$CommandReader", 63, "tag DT", [116, 97, 103, 32, 68, 84]) : String × Nat × String × List Int32) = q := Option.some.inj hq; exact h⟩
    | 3 => obtain ⟨a, t, h⟩ := sw_3 hs hts hA; exact ⟨(a, t), fun q hq => by obtain rfl : (("FoldedArchive$CommandReader", 65, "untag DT", [117, 110, 116, 97, 103, 32, 68, 84]) : String × Nat × String × List Int32) = q := Option.some.inj hq; exact h⟩
    | 4 => obtain ⟨a, t, h⟩ := sw_4 hs hts hA; exact ⟨(a, t), fun q hq => by obtain rfl : (("FoldedArchive$CommandReader", 67, "fold D", [102, 111, 108, 100, 32, 68]) : String × Nat × String × List Int32) = q := Option.some.inj hq; exact h⟩
    | 5 => obtain ⟨a, t, h⟩ := sw_5 hs hts hA; exact ⟨(a, t), fun q hq => by obtain rfl : (("FoldedArchive$CommandReader", 69, "open", [111, 112, 101, 110]) : String × Nat × String × List Int32) = q := Option.some.inj hq; exact h⟩
    | 6 => obtain ⟨a, t, h⟩ := sw_6 hs hts hA; exact ⟨(a, t), fun q hq => by obtain rfl : (("FoldedArchive$CommandReader", 71, "pipe D>D N", [112, 105, 112, 101, 32, 68, 62, 68, 32, 78]) : String × Nat × String × List Int32) = q := Option.some.inj hq; exact h⟩
    | 7 => obtain ⟨a, t, h⟩ := sw_7 hs hts hA; exact ⟨(a, t), fun q hq => by obtain rfl : (("FoldedArchive$CommandReader", 73, "cut D", [99, 117, 116, 32, 68]) : String × Nat × String × List Int32) = q := Option.some.inj hq; exact h⟩
    | 8 => obtain ⟨a, t, h⟩ := sw_8 hs hts hA; exact ⟨(a, t), fun q hq => by obtain rfl : (("FoldedArchive$CommandReader", 75, "break D", [98, 114, 101, 97, 107, 32, 68]) : String × Nat × String × List Int32) = q := Option.some.inj hq; exact h⟩
    | 9 => obtain ⟨a, t, h⟩ := sw_9 hs hts hA; exact ⟨(a, t), fun q hq => by obtain rfl : (("FoldedArchive$CommandReader", 77, "mend D", [109, 101, 110, 100, 32, 68]) : String × Nat × String × List Int32) = q := Option.some.inj hq; exact h⟩
    | 10 => obtain ⟨a, t, h⟩ := sw_10 hs hts hA; exact ⟨(a, t), fun q hq => by obtain rfl : (("FoldedArchive$CommandReader", 79, "drain", [100, 114, 97, 105, 110]) : String × Nat × String × List Int32) = q := Option.some.inj hq; exact h⟩
    | 11 => obtain ⟨a, t, h⟩ := sw_11 hs hts hA; exact ⟨(a, t), fun q hq => by obtain rfl : (("FoldedArchive$CommandReader", 81, "seep", [115, 101, 101, 112]) : String × Nat × String × List Int32) = q := Option.some.inj hq; exact h⟩
    | 12 => obtain ⟨a, t, h⟩ := sw_12 hs hts hA; exact ⟨(a, t), fun q hq => by obtain rfl : (("FoldedArchiveModel", 238, "add", [97, 100, 100]) : String × Nat × String × List Int32) = q := Option.some.inj hq; exact h⟩
    | 13 => obtain ⟨a, t, h⟩ := sw_13 hs hts hA; exact ⟨(a, t), fun q hq => by obtain rfl : (("FoldedArchiveModel", 240, "pipe ", [112, 105, 112, 101, 32]) : String × Nat × String × List Int32) = q := Option.some.inj hq; exact h⟩
    | 14 => obtain ⟨a, t, h⟩ := sw_14 hs hts hA; exact ⟨(a, t), fun q hq => by obtain rfl : (("FoldedArchiveModel", 242, "pour ", [112, 111, 117, 114, 32]) : String × Nat × String × List Int32) = q := Option.some.inj hq; exact h⟩
    | 15 => obtain ⟨a, t, h⟩ := sw_15 hs hts hA; exact ⟨(a, t), fun q hq => by obtain rfl : (("FoldedArchiveModel", 244, ">", [62]) : String × Nat × String × List Int32) = q := Option.some.inj hq; exact h⟩
    | 16 => obtain ⟨a, t, h⟩ := sw_16 hs hts hA; exact ⟨(a, t), fun q hq => by obtain rfl : (("FoldedArchiveModel", 246, " ", [32]) : String × Nat × String × List Int32) = q := Option.some.inj hq; exact h⟩
    | 17 => obtain ⟨a, t, h⟩ := sw_17 hs hts hA; exact ⟨(a, t), fun q hq => by obtain rfl : (("FoldedArchiveModel", 248, "tag ", [116, 97, 103, 32]) : String × Nat × String × List Int32) = q := Option.some.inj hq; exact h⟩
    | 18 => obtain ⟨a, t, h⟩ := sw_18 hs hts hA; exact ⟨(a, t), fun q hq => by obtain rfl : (("FoldedArchiveModel", 253, "untag ", [117, 110, 116, 97, 103, 32]) : String × Nat × String × List Int32) = q := Option.some.inj hq; exact h⟩
    | 19 => obtain ⟨a, t, h⟩ := sw_19 hs hts hA; exact ⟨(a, t), fun q hq => by obtain rfl : (("FoldedArchiveModel", 255, "fold ", [102, 111, 108, 100, 32]) : String × Nat × String × List Int32) = q := Option.some.inj hq; exact h⟩
    | 20 => obtain ⟨a, t, h⟩ := sw_20 hs hts hA; exact ⟨(a, t), fun q hq => by obtain rfl : (("FoldedArchiveModel", 257, "open", [111, 112, 101, 110]) : String × Nat × String × List Int32) = q := Option.some.inj hq; exact h⟩
    | 21 => obtain ⟨a, t, h⟩ := sw_21 hs hts hA; exact ⟨(a, t), fun q hq => by obtain rfl : (("FoldedArchiveModel", 258, "cut ", [99, 117, 116, 32]) : String × Nat × String × List Int32) = q := Option.some.inj hq; exact h⟩
    | 22 => obtain ⟨a, t, h⟩ := sw_22 hs hts hA; exact ⟨(a, t), fun q hq => by obtain rfl : (("FoldedArchiveModel", 260, "break ", [98, 114, 101, 97, 107, 32]) : String × Nat × String × List Int32) = q := Option.some.inj hq; exact h⟩
    | 23 => obtain ⟨a, t, h⟩ := sw_23 hs hts hA; exact ⟨(a, t), fun q hq => by obtain rfl : (("FoldedArchiveModel", 262, "mend ", [109, 101, 110, 100, 32]) : String × Nat × String × List Int32) = q := Option.some.inj hq; exact h⟩
    | 24 => obtain ⟨a, t, h⟩ := sw_24 hs hts hA; exact ⟨(a, t), fun q hq => by obtain rfl : (("FoldedArchiveModel", 264, "drain", [100, 114, 97, 105, 110]) : String × Nat × String × List Int32) = q := Option.some.inj hq; exact h⟩
    | 25 => obtain ⟨a, t, h⟩ := sw_25 hs hts hA; exact ⟨(a, t), fun q hq => by obtain rfl : (("FoldedArchiveModel", 266, "seep", [115, 101, 101, 112]) : String × Nat × String × List Int32) = q := Option.some.inj hq; exact h⟩
    | i + 26 => exact ⟨(0, 0), fun q hq => absurd (List.getElem?_eq_some_iff.mp hq).1 (by rw [show strTab.length = 26 from rfl]; omega)⟩
  obtain ⟨f, hf⟩ := Classical.axiomOfChoice h0
  exact ⟨f, hf⟩
theorem st_cls {args : Array Value} {s : State} (hGW : ∀ w ∈ GW, w.before args s = true) : ∃ f : Nat → ClassId × (Nat → Nat), ∀ (c : Nat) (q : vw_C), vwCl[c]? = some q → u_Kn s q.1 q.2.1 q.2.2 (f c).1 (f c).2 := by
  have h0 : ∀ c : Nat, ∃ p : ClassId × (Nat → Nat), ∀ q : vw_C, vwCl[c]? = some q → u_Kn s q.1 q.2.1 q.2.2 p.1 p.2 := by
    intro c
    match c with
    | 0 => obtain ⟨cC, iS, h⟩ := u_known (C := RX0) (T := TX0) (N := 6) (n := 6) hGW inG_X0 (hGW _ gw_309); exact ⟨(cC, iS), fun q hq => by obtain rfl : ((RX0, TX0, 6) : vw_C) = q := Option.some.inj hq; exact h⟩
    | 1 => obtain ⟨cC, iS, h⟩ := u_known (C := RX1) (T := TX1) (N := 3) (n := 3) hGW inG_X1 (hGW _ gw_238); exact ⟨(cC, iS), fun q hq => by obtain rfl : ((RX1, TX1, 3) : vw_C) = q := Option.some.inj hq; exact h⟩
    | 2 => obtain ⟨cC, iS, h⟩ := u_known (C := RX2) (T := TX2) (N := 2) (n := 2) hGW inG_X2 (hGW _ gw_254); exact ⟨(cC, iS), fun q hq => by obtain rfl : ((RX2, TX2, 2) : vw_C) = q := Option.some.inj hq; exact h⟩
    | 3 => obtain ⟨cC, iS, h⟩ := u_known (C := RX3) (T := TX3) (N := 3) (n := 3) hGW inG_X3 (hGW _ gw_218); exact ⟨(cC, iS), fun q hq => by obtain rfl : ((RX3, TX3, 3) : vw_C) = q := Option.some.inj hq; exact h⟩
    | 4 => obtain ⟨cC, iS, h⟩ := u_known (C := RX4) (T := TX4) (N := 2) (n := 2) hGW inG_X4 (hGW _ gw_163); exact ⟨(cC, iS), fun q hq => by obtain rfl : ((RX4, TX4, 2) : vw_C) = q := Option.some.inj hq; exact h⟩
    | 5 => obtain ⟨cC, iS, h⟩ := u_known (C := RX5) (T := TX5) (N := 5) (n := 5) hGW inG_X5 (hGW _ gw_179); exact ⟨(cC, iS), fun q hq => by obtain rfl : ((RX5, TX5, 5) : vw_C) = q := Option.some.inj hq; exact h⟩
    | 6 => obtain ⟨cC, iS, h⟩ := u_known (C := RX6) (T := TX6) (N := 2) (n := 2) hGW inG_X6 (hGW _ gw_269); exact ⟨(cC, iS), fun q hq => by obtain rfl : ((RX6, TX6, 2) : vw_C) = q := Option.some.inj hq; exact h⟩
    | 7 => obtain ⟨cC, iS, h⟩ := u_known (C := RX7) (T := TX7) (N := 4) (n := 4) hGW inG_X7 (hGW _ gw_289); exact ⟨(cC, iS), fun q hq => by obtain rfl : ((RX7, TX7, 4) : vw_C) = q := Option.some.inj hq; exact h⟩
    | 8 => obtain ⟨cC, iS, h⟩ := u_known (C := RX8) (T := TX8) (N := 3) (n := 3) hGW inG_X8 (hGW _ gw_129); exact ⟨(cC, iS), fun q hq => by obtain rfl : ((RX8, TX8, 3) : vw_C) = q := Option.some.inj hq; exact h⟩
    | 9 => obtain ⟨cC, iS, h⟩ := u_known (C := RX9) (T := TX9) (N := 5) (n := 5) hGW inG_X9 (hGW _ gw_135); exact ⟨(cC, iS), fun q hq => by obtain rfl : ((RX9, TX9, 5) : vw_C) = q := Option.some.inj hq; exact h⟩
    | 10 => obtain ⟨cC, iS, h⟩ := u_known (C := RX10) (T := TX10) (N := 15) (n := 15) hGW inG_X10 (hGW _ gw_121); exact ⟨(cC, iS), fun q hq => by obtain rfl : ((RX10, TX10, 15) : vw_C) = q := Option.some.inj hq; exact h⟩
    | 11 => obtain ⟨cC, iS, h⟩ := u_known (C := RX11) (T := TX11) (N := 23) (n := 23) hGW inG_X11 (hGW _ gw_1441); exact ⟨(cC, iS), fun q hq => by obtain rfl : ((RX11, TX11, 23) : vw_C) = q := Option.some.inj hq; exact h⟩
    | c + 12 => exact ⟨(0, fun _ => 0), fun q hq => absurd (List.getElem?_eq_some_iff.mp hq).1 (by rw [show vwCl.length = 12 from rfl]; omega)⟩
  obtain ⟨f, hf⟩ := Classical.axiomOfChoice h0
  exact ⟨f, hf⟩
theorem st_arr {args : Array Value} {s : State} {ty : FieldType} (h : (Cond.arrayClass ty).before args s = true) : ∃ cA : ClassId, ArrOfT s cA ty ∧ s.vm.findClass ("[" ++ ty.toString) = some cA := by
  obtain ⟨cA, k, comp, h1, h2, h3⟩ := Cond.arrayClass_spec h
  exact ⟨cA, fun n z => ⟨fun k h => (by cases h), k, h2, comp, h3⟩, h1⟩
theorem st_arrq {s : State} {C : String} (h : va_AO C s) : ∃ cA : ClassId, ArrOfT s cA (.object C) ∧ va_RA s cA (.object C) := by
  obtain ⟨comp, cA, k, h1, h2, h3, h4, h5⟩ := Cond.arrayOver_spec h
  exact ⟨cA, fun n z => ⟨fun k h => (by cases h), k, h3, comp, h4⟩, k, comp, h3, h4, h1, h5⟩
theorem st_ao {args : Array Value} {s : State} (hts : ∀ w ∈ lw_tbl, w.before args s = true) : va_AO "FoldedArchive$State" s := va_AO.of (A := args) (hts _ (lm_t1 134 rfl))
theorem st_arrs {args : Array Value} {s : State} (hts : ∀ w ∈ lw_tbl, w.before args s = true) : ∃ dA : Nat → ClassId, ∀ (k : Nat) (q : ClassId × FieldType), [(dA 0, FieldType.int), (dA 1, .boolean), (dA 2, .char), (dA 3, .long), (dA 4, .double), (dA 5, .object "FoldedArchive$State")][k]? = some q → ArrOfT s q.1 q.2 ∧ va_RA s q.1 q.2 := by
  obtain ⟨c0, h0⟩ := st_arr (ty := .int) (hts _ (lm_t1 71 rfl))
  obtain ⟨c1, h1⟩ := st_arr (ty := .boolean) (hts _ (lm_t1 113 rfl))
  obtain ⟨c2, h2⟩ := st_arr (ty := .char) (hts _ (lm_t1 197 rfl))
  obtain ⟨c3, h3⟩ := st_arr (ty := .long) (hts _ (lm_t8 171 rfl))
  obtain ⟨c4, h4⟩ := st_arr (ty := .double) (hts _ (lm_t8 172 rfl))
  obtain ⟨c5, h5⟩ := st_arrq (st_ao hts)
  refine ⟨fun k => match k with | 0 => c0 | 1 => c1 | 2 => c2 | 3 => c3 | 4 => c4 | _ => c5, fun k q hq => ?_⟩
  match k, hq with
  | 0, hq => obtain rfl : ((c0, FieldType.int) : ClassId × FieldType) = q := Option.some.inj hq; exact h0
  | 1, hq => obtain rfl : ((c1, FieldType.boolean) : ClassId × FieldType) = q := Option.some.inj hq; exact h1
  | 2, hq => obtain rfl : ((c2, FieldType.char) : ClassId × FieldType) = q := Option.some.inj hq; exact h2
  | 3, hq => obtain rfl : ((c3, FieldType.long) : ClassId × FieldType) = q := Option.some.inj hq; exact h3
  | 4, hq => obtain rfl : ((c4, FieldType.double) : ClassId × FieldType) = q := Option.some.inj hq; exact h4
  | 5, hq => obtain rfl : ((c5, FieldType.object "FoldedArchive$State") : ClassId × FieldType) = q := Option.some.inj hq; exact h5
  | k + 6, hq => exact absurd (List.getElem?_eq_some_iff.mp hq).1 (by show ¬ (k + 6 < 6); omega)
theorem st_ngw {args : Array Value} {s : State} (hts : ∀ w ∈ lw_tbl, w.before args s = true) : ∀ w ∈ NGW, w.before #[] s = true := by
  intro w hw
  refine ng_moved (u := s) (U := s) (Vm.Alike.refl s.vm) hw (hts w ?_)
  simp only [NGW, List.mem_cons, List.not_mem_nil, or_false] at hw
  rcases hw with rfl | rfl | rfl | rfl | rfl | rfl | rfl | rfl | rfl
  · exact lm_t3 64 rfl
  · exact lm_t3 132 rfl
  · exact lm_t3 151 rfl
  · exact lm_t4 160 rfl
  · exact lm_t5 97 rfl
  · exact lm_t5 129 rfl
  · exact lm_t3 65 rfl
  · exact lm_t3 67 rfl
  · exact lm_t3 69 rfl
theorem st_nc {args : Array Value} {s : State} (hs : ∀ c ∈ FLT, c.before args s = true) : ∀ q ∈ ncTab, va_Nc q.1 q.2 s := by
  intro q hq
  simp only [ncTab, List.mem_cons, List.not_mem_nil, or_false] at hq
  rcases hq with rfl | rfl | rfl | rfl
  · exact va_Nc.of (hs _ (fm_ 41 rfl))
  · exact va_Nc.of (hs _ (fm_ 42 rfl))
  · exact va_Nc.of (hs _ (fm_ 59 rfl))
  · exact va_Nc.of (hs _ (fm_ 43 rfl))
theorem st_zq1 {args : Array Value} {s : State} {A : Nat → Prop} (hs : ∀ c ∈ FLT, c.before args s = true) (hts : ∀ w ∈ lw_tbl, w.before args s = true) (hA : ∀ a : Nat, a < s.heap.size → ¬ A a) : vx_Zq Bundle.tN "UNASSIGNED_STACK" Bundle.steD A s s.heap := vx_Zqof (hts _ (lm_t3 89 rfl)) (hts _ (lm_t1 15 rfl)) (hs _ (fm_ 4 rfl)) hA
theorem st_zq2 {args : Array Value} {s : State} {A : Nat → Prop} (hs : ∀ c ∈ FLT, c.before args s = true) (hts : ∀ w ∈ lw_tbl, w.before args s = true) (hA : ∀ a : Nat, a < s.heap.size → ¬ A a) : vx_Zq Bundle.tN "SUPPRESSED_SENTINEL" Bundle.listD A s s.heap := vx_Zqof (hts _ (lm_t3 91 rfl)) (hts _ (lm_t1 15 rfl)) (hs _ (fm_ 5 rfl)) hA
theorem st_z3 {args : Array Value} {s : State} {A : Nat → Prop} (hs : ∀ c ∈ FLT, c.before args s = true) (hts : ∀ w ∈ lw_tbl, w.before args s = true) (hA : ∀ a : Nat, a < s.heap.size → ¬ A a) : va_Z "java/lang/String" "COMPACT_STRINGS" "Z" (.int 1) A s s.heap := va_Zof (hts _ (lm_t6 6 rfl)) (hts _ (lm_t1 23 rfl)) (va_eqt (hs _ (fm_ 6 rfl))) hA
theorem st_z4 {args : Array Value} {s : State} {A : Nat → Prop} (hs : ∀ c ∈ FLT, c.before args s = true) (hts : ∀ w ∈ lw_tbl, w.before args s = true) (hA : ∀ a : Nat, a < s.heap.size → ¬ A a) : va_Zq "jdk/internal/util/Preconditions" "SIOOBE_FORMATTER" "Ljava/util/function/BiFunction;" A s s.heap := va_Zqof (hts _ (lm_t6 22 rfl)) (hts _ (lm_t1 28 rfl)) (hs _ (fm_ 7 rfl)) hA
