/-! The store: an int for each field and each element of every cell; beside it the law's row of long numbers. A cell's shape stands in TT, by its place. -/
abbrev XW : Type := (Nat → Nat → Int32) × (Nat → Int64)
def wset (w : XW) (k j : Nat) (v : Int32) : XW := (fun a c => if a = k ∧ c = j then v else w.1 a c, w.2)
def wcpy (w : XW) (sk sp dk dp n : Nat) : XW := (fun a c => if a = dk ∧ dp ≤ c ∧ c < dp + n then w.1 sk (sp + (c - dp)) else w.1 a c, w.2)
abbrev Sh : Type := Nat × Nat × List (Option Nat)
def TT0 : List Sh := [(0, 10, [some 1, some 12, some 23, some 34, some 124, some 128, some 132, some 134, some 136, some 138, none, none, none, none, none]), (0, 8, [some 2, some 5, some 7]), (0, 9, [none, none, none, some 3, some 4]), (1, 7, []), (1, 7, []), (0, 4, [none, some 6]), (1, 7, []), (0, 5, [none, some 8, some 9, some 10, some 11]), (1, 10, []), (1, 10, []), (1, 10, []), (2, 10, []), (0, 8, [some 13, some 16, some 18]), (0, 9, [none, none, none, some 14, some 15]), (1, 7, []), (1, 7, []), (0, 4, [none, some 17]), (1, 7, []), (0, 5, [none, some 19, some 20, some 21, some 22]), (1, 10, []), (1, 10, []), (1, 10, []), (2, 10, []), (0, 8, [some 24, some 27, some 29]), (0, 9, [none, none, none, some 25, some 26]), (1, 7, []), (1, 7, []), (0, 4, [none, some 28]), (1, 7, []), (0, 5, [none, some 30, some 31, some 32, some 33]), (1, 10, []), (1, 10, []), (1, 10, []), (2, 10, []), (0, 3, [some 35, none, none]), (6, 8, [some 36, some 47, some 58, some 69, some 80, some 91, some 102, some 113]), (0, 8, [some 37, some 40, some 42]), (0, 9, [none, none, none, some 38, some 39])]
def TT1 : List Sh := [(1, 7, []), (1, 7, []), (0, 4, [none, some 41]), (1, 7, []), (0, 5, [none, some 43, some 44, some 45, some 46]), (1, 10, []), (1, 10, []), (1, 10, []), (2, 10, []), (0, 8, [some 48, some 51, some 53]), (0, 9, [none, none, none, some 49, some 50]), (1, 7, []), (1, 7, []), (0, 4, [none, some 52]), (1, 7, []), (0, 5, [none, some 54, some 55, some 56, some 57]), (1, 10, []), (1, 10, []), (1, 10, []), (2, 10, []), (0, 8, [some 59, some 62, some 64]), (0, 9, [none, none, none, some 60, some 61]), (1, 7, []), (1, 7, []), (0, 4, [none, some 63]), (1, 7, []), (0, 5, [none, some 65, some 66, some 67, some 68]), (1, 10, []), (1, 10, []), (1, 10, []), (2, 10, []), (0, 8, [some 70, some 73, some 75]), (0, 9, [none, none, none, some 71, some 72]), (1, 7, []), (1, 7, []), (0, 4, [none, some 74]), (1, 7, []), (0, 5, [none, some 76, some 77, some 78, some 79])]
def TT2 : List Sh := [(1, 10, []), (1, 10, []), (1, 10, []), (2, 10, []), (0, 8, [some 81, some 84, some 86]), (0, 9, [none, none, none, some 82, some 83]), (1, 7, []), (1, 7, []), (0, 4, [none, some 85]), (1, 7, []), (0, 5, [none, some 87, some 88, some 89, some 90]), (1, 10, []), (1, 10, []), (1, 10, []), (2, 10, []), (0, 8, [some 92, some 95, some 97]), (0, 9, [none, none, none, some 93, some 94]), (1, 7, []), (1, 7, []), (0, 4, [none, some 96]), (1, 7, []), (0, 5, [none, some 98, some 99, some 100, some 101]), (1, 10, []), (1, 10, []), (1, 10, []), (2, 10, []), (0, 8, [some 103, some 106, some 108]), (0, 9, [none, none, none, some 104, some 105]), (1, 7, []), (1, 7, []), (0, 4, [none, some 107]), (1, 7, []), (0, 5, [none, some 109, some 110, some 111, some 112]), (1, 10, []), (1, 10, []), (1, 10, []), (2, 10, []), (0, 8, [some 114, some 117, some 119])]
def TT3 : List Sh := [(0, 9, [none, none, none, some 115, some 116]), (1, 7, []), (1, 7, []), (0, 4, [none, some 118]), (1, 7, []), (0, 5, [none, some 120, some 121, some 122, some 123]), (1, 10, []), (1, 10, []), (1, 10, []), (2, 10, []), (0, 1, [some 125, some 126, some 127]), (1, 49, []), (1, 7, []), (1, 7, []), (0, 2, [some 129, some 131]), (0, 4, [none, some 130]), (1, 7, []), (1, 7, []), (0, 6, [some 133, none]), (3, 60, []), (0, 6, [some 135, none]), (3, 14, []), (0, 7, [some 137, none, none, none]), (1, 8, []), (0, 0, [some 139, some 140, none, none, none, none]), (1, 60, []), (1, 180, []), (4, 70, [])]
def TT : List Sh := TT0 ++ (TT1 ++ (TT2 ++ (TT3)))
def strTab : List (String × Nat × String × List Int32) := [("FoldedArchiveLaw", 287, "pour ", [112, 111, 117, 114, 32]), ("FoldedArchiveLaw", 296, " ", [32]), ("FoldedArchiveLaw", 298, ";fold ", [59, 102, 111, 108, 100, 32]), ("java/util/Arrays", 337, " > ", [32, 62, 32]), ("FoldedArchiveLaw", 304, ";tag ", [59, 116, 97, 103, 32]), ("FoldedArchiveLaw", 309, ";open", [59, 111, 112, 101, 110]), ("FoldedArchiveLaw", 311, ";", [59]), ("FoldedArchive$CommandReader", 59, "add", [97, 100, 100]), ("FoldedArchive$CommandReader", 61, "pour D N", [112, 111, 117, 114, 32, 68, 32, 78]), ("FoldedArchive$CommandReader", 63, "tag DT", [116, 97, 103, 32, 68, 84]), ("FoldedArchive$CommandReader", 65, "untag DT", [117, 110, 116, 97, 103, 32, 68, 84]), ("FoldedArchive$CommandReader", 67, "fold D", [102, 111, 108, 100, 32, 68]), ("FoldedArchive$CommandReader", 69, "open", [111, 112, 101, 110]), ("FoldedArchive$CommandReader", 71, "pipe D>D N", [112, 105, 112, 101, 32, 68, 62, 68, 32, 78]), ("FoldedArchive$CommandReader", 73, "cut D", [99, 117, 116, 32, 68]), ("FoldedArchive$CommandReader", 75, "break D", [98, 114, 101, 97, 107, 32, 68]), ("FoldedArchive$CommandReader", 77, "mend D", [109, 101, 110, 100, 32, 68]), ("FoldedArchive$CommandReader", 79, "drain", [100, 114, 97, 105, 110]), ("FoldedArchive$CommandReader", 81, "seep", [115, 101, 101, 112]), ("FoldedArchiveLaw", 342, "", []), ("FoldedArchiveLaw", 349, "+", [43]), ("FoldedArchiveLaw", 351, "-", [45]), ("FoldedArchiveLaw", 353, "-(", [45, 40]), ("FoldedArchiveLaw", 355, ")", [41]), ("FoldedArchiveLaw", 357, "(", [40]), ("FoldedArchiveLaw", 359, "+-", [43, 45])]
abbrev vwCl : List vw_C := [(RX0, TX0, 6), (RX1, TX1, 3), (RX2, TX2, 2), (RX3, TX3, 3), (RX4, TX4, 2), (RX5, TX5, 5), (RX6, TX6, 2), (RX7, TX7, 4), (RX8, TX8, 3), (RX9, TX9, 5), (RX10, TX10, 15), (RJ4, TJ4, 4), (RJ0, TJ0, 4)]
/-! ===== the shapes' cells ===== -/
def layF (b : Nat) (f : Nat → Int32) : Nat → List (Option Nat) → List Value
  | _, [] => []
  | j, none :: r => .int (f j) :: layF b f (j + 1) r
  | j, some t :: r => .ref (b + t) :: layF b f (j + 1) r
theorem layF_get (b : Nat) (f : Nat → Int32) : ∀ (fs : List (Option Nat)) (j0 j : Nat), (layF b f j0 fs)[j]? = (fs[j]?).map (fun x => match x with | none => .int (f (j0 + j)) | some t => .ref (b + t)) := by
  intro fs
  induction fs with
  | nil => intro j0 j; simp [layF]
  | cons x r ih =>
    intro j0 j
    cases x with
    | none =>
      cases j with
      | zero => simp [layF]
      | succ j => simp only [layF, List.getElem?_cons_succ, ih]; rw [show j0 + 1 + j = j0 + (j + 1) by omega]
    | some t =>
      cases j with
      | zero => simp [layF]
      | succ j => simp only [layF, List.getElem?_cons_succ, ih]; rw [show j0 + 1 + j = j0 + (j + 1) by omega]
theorem layF_len (b : Nat) (f : Nat → Int32) : ∀ (fs : List (Option Nat)) (j0 : Nat), (layF b f j0 fs).length = fs.length := by
  intro fs
  induction fs with
  | nil => intro j0; rfl
  | cons x r ih => intro j0; cases x <;> simp [layF, ih]
theorem layF_set (b : Nat) (f : Nat → Int32) (fs : List (Option Nat)) (j : Nat) (v : Int32) (h : fs[j]? = some none) : (layF b f 0 fs).set j (.int v) = layF b (fun c => if c = j then v else f c) 0 fs := by
  apply List.ext_getElem?
  intro i
  rw [layF_get, List.getElem?_set, layF_get, layF_len]
  have hl : j < fs.length := (List.getElem?_eq_some_iff.mp h).1
  by_cases hij : j = i
  · subst hij
    rw [if_pos rfl, if_pos hl, h]
    simp
  · rw [if_neg hij]
    cases hfi : fs[i]? with
    | none => rfl
    | some x =>
      cases x with
      | none => simp [Ne.symm hij]
      | some t => simp
/-- the launch; where the world begins; the array classes; the classes' numbers; the String constants and their bytes (at 26 the text that the law has made); the script: its place, its length, its ints; the text's letters -/
abbrev GC : Type := Launch × Nat × (Nat → ClassId) × va_G × (Nat → Nat) × (Nat → Nat) × Nat × Nat × (Nat → Int32) × List Int32
def layE (g : GC) (w : XW) (k : Nat) (q : Sh) : va_E := match q.1 with
  | 0 => .inr (q.2.1, layF g.2.1 (w.1 k) 0 q.2.2)
  | 1 => .inl (g.2.2.1 0, q.2.1, .inl (w.1 k))
  | 2 => .inl (g.2.2.1 1, q.2.1, .inl (w.1 k))
  | 3 => .inl (g.2.2.1 2, q.2.1, .inl (w.1 k))
  | 4 => .inl (g.2.2.1 3, q.2.1, .inr (.inl w.2))
  | _ => .inl (g.2.2.1 4, q.2.1, .inr (.inr (.inr (.inr (fun j => (q.2.2.getD j none).map (g.2.1 + ·))))))
theorem layE_same {g : GC} {w w' : XW} {k : Nat} {q : Sh} (h1 : w'.1 k = w.1 k) (h2 : w'.2 = w.2) : layE g w' k q = layE g w k q := by
  unfold layE
  rw [h1, h2]
theorem wset_ne {w : XW} {k j k' : Nat} {v : Int32} (h : k' ≠ k) : (wset w k j v).1 k' = w.1 k' := by
  funext c
  simp [wset, h]
theorem wset_eq {w : XW} {k j : Nat} {v : Int32} : (wset w k j v).1 k = fun c => if c = j then v else w.1 k c := by
  funext c
  simp [wset]
theorem wcpy_ne {w : XW} {sk sp dk dp n k' : Nat} (h : k' ≠ dk) : (wcpy w sk sp dk dp n).1 k' = w.1 k' := by
  funext c
  simp [wcpy, h]
theorem wcpy_eq {w : XW} {sk sp dk dp n : Nat} : (wcpy w sk sp dk dp n).1 dk = va_cpy (w.1 sk) (w.1 dk) sp dp n := by
  funext c
  simp [wcpy, va_cpy]
def tysL (g : GC) : List (ClassId × FieldType) := [(g.2.2.1 0, .int), (g.2.2.1 1, .boolean), (g.2.2.1 2, .char), (g.2.2.1 3, .long), (g.2.2.1 4, .object "FoldedArchive$State"), (g.2.2.1 5, .byte)]
/-! ===== the world: every cell of TT lies at its place ===== -/
def RW (g : GC) (w : XW) (H : Heap) : Prop := ∀ (k : Nat) (q : Sh), TT[k]? = some q → va_at g.2.2.2.1 vwCl (g.2.1 + k, layE g w k q) H
theorem RW.one {g : GC} {w : XW} {H : Heap} (h : RW g w H) {k : Nat} {q : Sh} (hk : TT[k]? = some q) : va_P g.2.2.2.1 vwCl [(g.2.1 + k, layE g w k q)] H := by
  intro i x hx
  have hz : i < 1 := (List.getElem?_eq_some_iff.mp hx).1
  rw [show i = 0 by omega] at hx
  cases hx
  exact h k q hk
theorem RW.put {g : GC} {w w' : XW} {H H1 : Heap} {k : Nat} {q : Sh} (h : RW g w H) (hk : TT[k]? = some q) (he : va_at g.2.2.2.1 vwCl (g.2.1 + k, layE g w' k q) H1) (oq : ∀ a : Nat, a ≠ g.2.1 + k → H1[a]? = H[a]?) (h1 : ∀ k', k' ≠ k → w'.1 k' = w.1 k') (h2 : w'.2 = w.2 ∨ ∀ (k' : Nat) (q' : Sh), k' ≠ k → TT[k']? = some q' → layE g w' k' q' = layE g w k' q') : RW g w' H1 := by
  intro k' q' hk'
  by_cases hkk : k' = k
  · subst hkk
    cases hk.symm.trans hk'
    exact he
  · have e : layE g w' k' q' = layE g w k' q' := by
      rcases h2 with h2 | h2
      · exact layE_same (h1 k' hkk) h2
      · exact h2 k' q' hkk hk'
    rw [e]
    exact (h k' q' hk').kept (oq _ (fun z => hkk (by simp only at z; omega)))
theorem RW.kept {g : GC} {w : XW} {H H1 : Heap} (h : RW g w H) (hq : ∀ a : Nat, a < H.size → H1[a]? = H[a]?) : RW g w H1 := fun k q hk => (h k q hk).kept (hq _ ((h k q hk).lt))
/-! ===== what lies below: statics of the throws, String constants ===== -/
/-- the builder's private methods that are called on it -/
def sbPv : List MethodName := [yJ5_ensureCapacityInternal_d00df, yJ5_putStringAt_47b60, yJ5_inflateIfNeededFor_a7421]
def GW : List Cond := (lw_tbl ++ sbPv.map fun y => Cond.selects RJ4 y y).filter goodWord
theorem GW_good {w : Cond} (h : w ∈ GW) : (w.onTables && w.keeps) = true ∨ ∃ ty, w = .arrayClass ty := good_of_word (List.mem_filter.mp h).2
theorem GW_of (i : Nat) {w : Cond} (h : lw_tbl[i]? = some w) (hg : goodWord w = true) : w ∈ GW := List.mem_filter.mpr ⟨List.mem_append_left _ (List.mem_of_getElem? h), hg⟩
theorem GW_sp (i : Nat) {y : MethodName} (h : sbPv[i]? = some y) : Cond.selects RJ4 y y ∈ GW := List.mem_filter.mpr ⟨List.mem_append_right _ (List.mem_map.mpr ⟨y, List.mem_of_getElem? h, rfl⟩), rfl⟩
/-- where the world's cells lie -/
def TTr (g : GC) : Nat → Prop := fun q => g.2.1 ≤ q ∧ q < g.2.1 + TT.length
theorem TTr_of {g : GC} {k : Nat} {q : Sh} (h : TT[k]? = some q) : TTr g (g.2.1 + k) := ⟨Nat.le_add_right _ _, Nat.add_lt_add_left (List.getElem?_eq_some_iff.mp h).1 _⟩
/-- what a method has changed: old cells of the world alone -/
def VS (g : GC) (H0 H : Heap) (locs : List Loc) : Prop := H0.size ≤ H.size ∧ (∀ q : Nat, q < H0.size → ¬ TTr g q → H[q]? = H0[q]?) ∧ ∀ l ∈ locs, g.2.1 ≤ l.base
theorem VS.rf {g : GC} {H : Heap} : VS g H H [] := ⟨Nat.le_refl _, fun _ _ _ => rfl, fun _ h => absurd h List.not_mem_nil⟩
theorem VS.S {g : GC} {H0 H : Heap} {locs : List Loc} (h : VS g H0 H locs) : va_S (fun q => g.2.1 ≤ q) H0 H locs := ⟨h.1, fun q h1 h2 => h.2.1 q h1 (fun z => h2 z.1), h.2.2⟩
theorem VS.F {g : GC} {s t : State} {H : Heap} {locs : List Loc} (h : VS g s.heap H locs) (ht : t.heap = H) : va_F (TTr g) s t := ⟨by rw [ht]; exact h.1, fun q h1 h2 => by rw [ht]; exact h.2.1 q h1 h2⟩
theorem VS.put {g : GC} {H0 H H1 : Heap} {locs : List Loc} {k j : Nat} {q : Sh} (h : VS g H0 H locs) (hT : TT[k]? = some q) (e2 : H1.size = H.size) (e3 : ∀ a : Nat, a ≠ g.2.1 + k → H1[a]? = H[a]?) : VS g H0 H1 (locs ++ [⟨g.2.1 + k, j⟩]) :=
  ⟨by rw [e2]; exact h.1, fun a h1 h2 => by rw [e3 a (fun z => h2 (z ▸ TTr_of hT))]; exact h.2.1 a h1 h2, fun l hl => by
    rcases List.mem_append.mp hl with z | z
    · exact h.2.2 l z
    · rw [List.mem_singleton.mp z]; exact Nat.le_add_right _ _⟩
theorem VS.keep {g : GC} {s st₀ t T' : State} {H : Heap} {locs L : List Loc} (h0 : st₀.heap = H) (e1 : T'.heap = t.heap) (hS : VS g s.heap H locs) (hL : ∀ q ∈ L, g.2.1 ≤ q.base) (hF : va_F (TTr g) st₀ t) : VS g s.heap T'.heap (locs ++ L) := by
  obtain ⟨hz, hk⟩ := hF
  rw [h0] at hz hk
  refine ⟨Nat.le_trans hS.1 (by rw [e1]; exact hz), fun q h1 h2 => ?_, fun q hq => ?_⟩
  · rw [e1, hk q (Nat.lt_of_lt_of_le h1 hS.1) h2]; exact hS.2.1 q h1 h2
  · rcases List.mem_append.mp hq with h | h
    · exact hS.2.2 q h
    · exact hL q h
def strT (g : GC) (i : Nat) : Option (List Int32) := if i = 26 then (if g.2.2.2.2.2.2.2.2.2.length ≤ 100 then some g.2.2.2.2.2.2.2.2.2 else none) else (strTab[i]?).map fun q => q.2.2.2
def StrAt (g : GC) (i : Nat) (L : List Int32) (U : State) (H : Heap) : Prop := va_O "java/lang/String" (g.2.2.2.2.1 i) (TTr g) U H ∧ va_OF "java/lang/String" "coder" "B" (.int 0) (g.2.2.2.2.1 i) (TTr g) U H ∧ va_OF "java/lang/String" "value" "[B" (.ref (g.2.2.2.2.2.1 i)) (g.2.2.2.2.1 i) (TTr g) U H ∧ va_T .byte (g.2.2.2.2.2.1 i) L.length (fun j => .int (L.getD j 0)) (TTr g) U H
/-- Integer's two tables of digits -/
def DGa (A : Nat → Prop) (U : State) (H : Heap) : Prop := (∃ d : Nat, va_Z "java/lang/Integer" "DigitOnes" "[B" (.ref d) A U H ∧ va_T .byte d 100 (fun r => .int (Int32.ofNat (48 + r % 10))) A U H) ∧ ∃ d : Nat, va_Z "java/lang/Integer" "DigitTens" "[B" (.ref d) A U H ∧ va_T .byte d 100 (fun r => .int (Int32.ofNat (48 + r / 10))) A U H
theorem DGa.moved {A : Nat → Prop} {u U : State} {H : Heap} (hvm : u.vm.Alike U.vm) (h : DGa A u H) : DGa A U H := by
  obtain ⟨⟨d, h1, h2⟩, e, h3, h4⟩ := h
  exact ⟨⟨d, h1.moved hvm, h2.moved hvm⟩, e, h3.moved hvm, h4.moved hvm⟩
theorem DGa.kept {A : Nat → Prop} {U : State} {H H1 : Heap} (h : DGa A U H) (hq : ∀ a : Nat, a < H.size → ¬ A a → H1[a]? = H[a]?) : DGa A U H1 := by
  obtain ⟨⟨d, h1, h2⟩, e, h3, h4⟩ := h
  exact ⟨⟨d, h1.kept hq, h2.kept hq⟩, e, h3.kept hq, h4.kept hq⟩
theorem DGa.narrow {A B : Nat → Prop} {U : State} {H : Heap} (h : DGa A U H) (hAB : ∀ q, B q → A q) : DGa B U H := by
  obtain ⟨⟨d, h1, h2⟩, e, h3, h4⟩ := h
  exact ⟨⟨d, h1.narrow hAB, h2.narrow hAB⟩, e, h3.narrow hAB, h4.narrow hAB⟩
def SFs (g : GC) (U : State) (H : Heap) : Prop :=
  vx_Zq Bundle.tN "UNASSIGNED_STACK" Bundle.steD (fun q => g.2.1 ≤ q) U H ∧ vx_Zq Bundle.tN "SUPPRESSED_SENTINEL" Bundle.listD (fun q => g.2.1 ≤ q) U H ∧
  (va_Z "java/lang/String" "COMPACT_STRINGS" "Z" (.int 1) (fun q => g.2.1 ≤ q) U H ∧ va_Zq "jdk/internal/util/Preconditions" "SIOOBE_FORMATTER" "Ljava/util/function/BiFunction;" (fun q => g.2.1 ≤ q) U H) ∧ va_T .int g.2.2.2.2.2.2.1 g.2.2.2.2.2.2.2.1 (fun j => .int (g.2.2.2.2.2.2.2.2.1 j)) (fun q => g.2.1 ≤ q) U H ∧
  (∀ (i : Nat) (L : List Int32), strT g i = some L → StrAt g i L U H) ∧ DGa (fun q => g.2.1 ≤ q) U H
theorem SFs.moved {g : GC} {u U : State} {H : Heap} (hvm : u.vm.Alike U.vm) (h : SFs g u H) : SFs g U H :=
  ⟨h.1.moved hvm, h.2.1.moved hvm, ⟨h.2.2.1.1.moved hvm, h.2.2.1.2.moved hvm⟩, h.2.2.2.1.moved hvm, fun i q hi => ⟨(h.2.2.2.2.1 i q hi).1.moved hvm, (h.2.2.2.2.1 i q hi).2.1.moved hvm, (h.2.2.2.2.1 i q hi).2.2.1.moved hvm, (h.2.2.2.2.1 i q hi).2.2.2.moved hvm⟩, h.2.2.2.2.2.moved hvm⟩
theorem SFs.kept {g : GC} {U : State} {H H1 : Heap} (h : SFs g U H) (hq0 : ∀ a : Nat, a < H.size → ¬ TTr g a → H1[a]? = H[a]?) : SFs g U H1 :=
  have hq : ∀ a : Nat, a < H.size → ¬ (g.2.1 ≤ a) → H1[a]? = H[a]? := fun a h1 h2 => hq0 a h1 (fun z => h2 z.1)
  ⟨h.1.kept hq, h.2.1.kept hq, ⟨h.2.2.1.1.kept hq, h.2.2.1.2.kept hq⟩, h.2.2.2.1.kept hq, fun i q hi => ⟨(h.2.2.2.2.1 i q hi).1.kept hq0, (h.2.2.2.2.1 i q hi).2.1.kept hq0, (h.2.2.2.2.1 i q hi).2.2.1.kept hq0, (h.2.2.2.2.1 i q hi).2.2.2.kept hq0⟩, h.2.2.2.2.2.kept hq⟩
def ncTab : List (String × String) := [("java/lang/IllegalArgumentException", "java/lang/IndexOutOfBoundsException"), ("java/lang/UnsupportedOperationException", "java/lang/IndexOutOfBoundsException"), ("java/lang/UnsupportedOperationException", "java/lang/IllegalArgumentException"), ("java/util/NoSuchElementException", "java/lang/IndexOutOfBoundsException")]
def NGW : List Cond := [.castable "[B" "java/lang/Cloneable", .castable "java/lang/IndexOutOfBoundsException" "java/lang/IndexOutOfBoundsException", .castable "java/lang/IllegalArgumentException" "java/lang/IllegalArgumentException", .castable "java/lang/UnsupportedOperationException" "java/lang/UnsupportedOperationException", .castable "java/util/NoSuchElementException" "java/util/NoSuchElementException", .castable "java/lang/ArithmeticException" "java/lang/ArithmeticException", .castable "java/lang/IllegalStateException" "java/lang/IllegalStateException", .declares ⟨"java/lang/RuntimeException", "<init>", "()V"⟩, .declares ⟨"java/lang/Exception", "<init>", "()V"⟩, .declares ⟨"java/lang/Throwable", "<init>", "()V"⟩]
theorem ng_castable {C T : String} {u U : State} {a a' : Array Value} (hvm : u.vm.Alike U.vm) (h : (Cond.castable C T).before a u = true) : (Cond.castable C T).before a' U = true := by
  simp only [Cond.before, Cond.holds, Cond.value, hvm.findClass, hvm.assignable] at h ⊢
  exact h
theorem ng_declares {x : MethodName} {u U : State} {a a' : Array Value} (hvm : u.vm.Alike U.vm) (h : (Cond.declares x).before a u = true) : (Cond.declares x).before a' U = true := by
  have e1 : U.methodNamed? x = u.methodNamed? x := State.methodNamed?_setVm hvm x
  have e2 : U.vm.method? = u.vm.method? := funext hvm.method?
  simp only [Cond.before, Cond.holds, Cond.value, e1, e2] at h ⊢
  exact h
theorem ng_moved {u U : State} {a a' : Array Value} (hvm : u.vm.Alike U.vm) {w : Cond} (hw : w ∈ NGW) (h : w.before a u = true) : w.before a' U = true := by
  simp only [NGW, List.mem_cons, List.not_mem_nil, or_false] at hw
  rcases hw with rfl | rfl | rfl | rfl | rfl | rfl | rfl | rfl | rfl | rfl
  · exact ng_castable hvm h
  · exact ng_castable hvm h
  · exact ng_castable hvm h
  · exact ng_castable hvm h
  · exact ng_castable hvm h
  · exact ng_castable hvm h
  · exact ng_castable hvm h
  · exact ng_declares hvm h
  · exact ng_declares hvm h
  · exact ng_declares hvm h
def STR (g : GC) (U : State) : Prop := (∀ w ∈ NGW, w.before #[] U = true) ∧ (∀ (i : Nat) (q : String × Nat × String × List Int32), strTab[i]? = some q → vk_R q.1 q.2.1 q.2.2.1 (g.2.2.2.2.1 i) U) ∧ ∀ q ∈ ncTab, va_Nc q.1 q.2 U
/-! ===== outcomes, contracts ===== -/
abbrev Out : Type := (Option Value ⊕ String) × XW
def PO (g : GC) (av : List Value) (w : XW) : Array Value → State → Prop := fun v U => v = av.toArray ∧ g.2.1 ≤ U.heap.size ∧ RW g w U.heap ∧ va_K g.2.2.2.1 vwCl (tysL g) U ∧ SFs g U U.heap ∧ STR g U
def QO (g : GC) (o : Out) : Array Value → State → Outcome → State → Prop := fun _ st oc t => (∃ v, o.1 = .inl v ∧ oc = .returned v) ∧ RW g o.2 t.heap ∧ va_F (TTr g) st t
def XO (g : GC) (o : Out) : String → State → State → Prop := fun E st t => o.1 = .inr E ∧ RW g o.2 t.heap ∧ va_F (TTr g) st t
def MM (g : GC) (hd : Cond) (y : MethodName) (rm : Room) (mc ms : Nat) (av : List Value) (w : XW) (o : Out) : Prop := vx_Met g.1 y (hd :: GW) rm (PO g av w) (QO g o) (XO g o) mc ms (fun q => g.2.1 ≤ q)
theorem PO_blind {g : GC} {av : List Value} {w : XW} : FrameBlind (PO g av w) := fun a U f mk q => ⟨q.1, q.2.1, q.2.2.1, va_K.moved (u := U) (U := U.calling f mk a) (Vm.Alike.refl U.vm) q.2.2.2.1, SFs.moved (u := U) (U := U.calling f mk a) (Vm.Alike.refl U.vm) q.2.2.2.2.1, fun w hw => ng_moved (u := U) (U := U.calling f mk a) (Vm.Alike.refl U.vm) hw (q.2.2.2.2.2.1 w hw), fun i x hx => vk_R.same (u := U) (U := U.calling f mk a) rfl (q.2.2.2.2.2.2.1 i x hx), fun x hx => va_Nc.moved (u := U) (U := U.calling f mk a) (Vm.Alike.refl U.vm) (q.2.2.2.2.2.2.2 x hx)⟩
/-- what holds of a method's frame all along -/
def FX (g : GC) (cc : ByteArray) (nL : Nat) (own : String) (rt : Option FieldType) (hh : List (Nat × Nat × Nat × Nat)) (p : Program) (s : State) (m : MethodId) (args : Array Value) (meth : Method) (c : Code) : Prop :=
  p.tables.exec = Jvm.exec ∧ c.code = cc ∧ c.maxLocals = nL ∧ s.vm.findClass own = some m.cls ∧ (∀ w ∈ GW, w.before args s = true) ∧ va_K g.2.2.2.1 vwCl (tysL g) s ∧ g.2.1 ≤ s.heap.size ∧ SFs g s s.heap ∧ STR g s ∧ meth.locks = false ∧ meth.sig.returnType = rt ∧ g.1.stackTraces = false ∧ c.exceptionTable.toList = tableOf hh
def VB (g : GC) (cc : ByteArray) (nL : Nat) (own : String) (rt : Option FieldType) (hh : List (Nat × Nat × Nat × Nat)) (R : Room) (mc ms : Nat) (o : Out) (kc ks pc : Nat) (lv : List (Nat × Value)) (st : List Value) (w : XW) : Prop :=
  ∀ (p : Program) (e : Env) (s : State) (m : MethodId) (args : Array Value) (below : List Frame) (meth : Method) (c : Code), FX g cc nL own rt hh p s m args meth c →
    ∀ (H : Heap) (locs : List Loc) (ls : Array Slot), RW g w H → VS g s.heap H locs → lv_has ls nL lv →
      W p g.1 e R s m args below meth c H locs kc ks (vx_MQ below (QO g o) (XO g o) args s mc ms (fun q => g.2.1 ≤ q)) (F0 m pc ls st)
def VE {ρ : Type} (g : GC) (cc : ByteArray) (nL : Nat) (own : String) (rt : Option FieldType) (hh : List (Nat × Nat × Nat × Nat)) (R : Room) (mc ms : Nat) (out : ρ → Out) (kc ks pc : Nat) (lv : List (Nat × Value)) (st : List Value) (w : XW) (E : Option ρ) : Prop :=
  ∀ r, E = some r → VB g cc nL own rt hh R mc ms (out r) kc ks pc lv st w
/-- an exception has come up at this place -/
def VX {ρ : Type} (g : GC) (cc : ByteArray) (nL : Nat) (own : String) (rt : Option FieldType) (hh : List (Nat × Nat × Nat × Nat)) (R : Room) (mc ms : Nat) (out : ρ → Out) (kc ks pc : Nat) (lv : List (Nat × Value)) (E0 : String) (w : XW) (E : Option ρ) : Prop :=
  ∀ r, E = some r → ∀ (p : Program) (e : Env) (s : State) (m : MethodId) (args : Array Value) (below : List Frame) (meth : Method) (c : Code), FX g cc nL own rt hh p s m args meth c →
    ∀ (H : Heap) (locs : List Loc) (ls : Array Slot) (rest : List Value) (q : Addr) (ce : Cell), RW g w H → VS g s.heap H locs → lv_has ls nL lv → H[q]? = some ce → ce.vm = .none → s.vm.findClass E0 = some ce.cls →
      vx_W p g.1 e R s m args below meth c H locs kc ks (vx_MQ below (QO g (out r)) (XO g (out r)) args s mc ms (fun q => g.2.1 ≤ q)) (F0 m pc ls rest) q
/-- the room of a level -/
def rmL (n mc ms : Nat) : Room := { frames := 16 + n, cells := mc, slots := ms, locals := 200 + 64 * n }
section CORE
variable {ρ : Type} {g : GC} {cc : ByteArray} {nL : Nat} {own : String} {rt : Option FieldType} {hh : List (Nat × Nat × Nat × Nat)} {R : Room} {mc ms : Nat} {out : ρ → Out} {kc ks pc : Nat} {lv : List (Nat × Value)} {rest : List Value} {w : XW} {E E1 E2 : Option ρ}
theorem VE.eq {st st' : List Value} (h : st = st') (k : VE g cc nL own rt hh R mc ms out kc ks pc lv st' w E) : VE g cc nL own rt hh R mc ms out kc ks pc lv st w E := h ▸ k
theorem v_none {st : List Value} : VE g cc nL own rt hh R mc ms out kc ks pc lv st w (none : Option ρ) := fun r hr => by cases hr
theorem v_guard {c : Prop} [Decidable c] {st : List Value} (k : c → VE g cc nL own rt hh R mc ms out kc ks pc lv st w E) : VE g cc nL own rt hh R mc ms out kc ks pc lv st w (if c then E else none) := by
  intro r hr
  by_cases h : c
  · rw [if_pos h] at hr
    exact k h r hr
  · rw [if_neg h] at hr
    cases hr
theorem v_widen {st : List Value} (kc' ks' : Nat) (h1 : kc ≤ kc') (h2 : ks ≤ ks') (k : VE g cc nL own rt hh R mc ms out kc' ks' pc lv st w E) : VE g cc nL own rt hh R mc ms out kc ks pc lv st w E :=
  fun r hr p e s m args below meth c F H locs ls hW hS hl => W.widen h1 h2 (k r hr p e s m args below meth c F H locs ls hW hS hl)
/-- fewer locals, in another order: by their places -/
theorem v_sub {st : List Value} {lv' : List (Nat × Value)} (is : List Nat) (h : lv_pick lv is = lv') (k : VE g cc nL own rt hh R mc ms out kc ks pc lv' st w E) : VE g cc nL own rt hh R mc ms out kc ks pc lv st w E :=
  fun r hr p e s m args below meth c F H locs ls hW hS hl => k r hr p e s m args below meth c F H locs ls hW hS (lv_sub hl is h)
theorem v_iconst {n : Int} {v : Int32} (hd : decode cc pc = .ok (.iconst n, 1)) (hv : Int32.ofInt n = v) (k : VE g cc nL own rt hh R mc ms out kc ks (pc + 1) lv (.int v :: rest) w E) : VE g cc nL own rt hh R mc ms out kc ks pc lv (rest) w E := fun r hr p e s m args below meth c F H locs ls hW hS hl => lv_iconst F.1 F.2.1 hd hv (k r hr p e s m args below meth c F H locs ls hW hS hl)
theorem v_bipush {n : Int} {v : Int32} (hd : decode cc pc = .ok (.bipush n, 2)) (hv : (Int8.ofInt n).toInt32 = v) (k : VE g cc nL own rt hh R mc ms out kc ks (pc + 2) lv (.int v :: rest) w E) : VE g cc nL own rt hh R mc ms out kc ks pc lv (rest) w E := fun r hr p e s m args below meth c F H locs ls hW hS hl => lv_bipush F.1 F.2.1 hd hv (k r hr p e s m args below meth c F H locs ls hW hS hl)
theorem v_sipush {n : Int} {v : Int32} (hd : decode cc pc = .ok (.sipush n, 3)) (hv : (Int16.ofInt n).toInt32 = v) (k : VE g cc nL own rt hh R mc ms out kc ks (pc + 3) lv (.int v :: rest) w E) : VE g cc nL own rt hh R mc ms out kc ks pc lv (rest) w E := fun r hr p e s m args below meth c F H locs ls hW hS hl => lv_sipush F.1 F.2.1 hd hv (k r hr p e s m args below meth c F H locs ls hW hS hl)
theorem v_lconst {n : Fin 2} {v : Int64} (hd : decode cc pc = .ok (.lconst n, 1)) (hv : Int64.ofNat (n : Nat) = v) (k : VE g cc nL own rt hh R mc ms out kc ks (pc + 1) lv (.long v :: rest) w E) : VE g cc nL own rt hh R mc ms out kc ks pc lv (rest) w E := fun r hr p e s m args below meth c F H locs ls hW hS hl => lv_lconst F.1 F.2.1 hd hv (k r hr p e s m args below meth c F H locs ls hW hS hl)
theorem v_null  (hd : decode cc pc = .ok (.aconst_null, 1)) (k : VE g cc nL own rt hh R mc ms out kc ks (pc + 1) lv (.null :: rest) w E) : VE g cc nL own rt hh R mc ms out kc ks pc lv (rest) w E := fun r hr p e s m args below meth c F H locs ls hW hS hl => lv_null F.1 F.2.1 hd (k r hr p e s m args below meth c F H locs ls hW hS hl)
theorem v_fconst0  (hd : decode cc pc = .ok (.fconst 0, 1)) (k : VE g cc nL own rt hh R mc ms out kc ks (pc + 1) lv (.float FP.fconst0 :: rest) w E) : VE g cc nL own rt hh R mc ms out kc ks pc lv (rest) w E := fun r hr p e s m args below meth c F H locs ls hW hS hl => lv_fconst0 F.1 F.2.1 hd (k r hr p e s m args below meth c F H locs ls hW hS hl)
theorem v_dconst0  (hd : decode cc pc = .ok (.dconst 0, 1)) (k : VE g cc nL own rt hh R mc ms out kc ks (pc + 1) lv (.double FP.dconst0 :: rest) w E) : VE g cc nL own rt hh R mc ms out kc ks pc lv (rest) w E := fun r hr p e s m args below meth c F H locs ls hW hS hl => lv_dconst0 F.1 F.2.1 hd (k r hr p e s m args below meth c F H locs ls hW hS hl)
theorem v_iload_n {j : Fin 4} {i : Nat} {x : Int32} (hd : decode cc pc = .ok (.iload_n j, 1)) (hi : (j : Nat) = i) (q : Nat) (hq : lv[q]? = some (i, .int x)) (k : VE g cc nL own rt hh R mc ms out kc ks (pc + 1) lv (.int x :: rest) w E) : VE g cc nL own rt hh R mc ms out kc ks pc lv (rest) w E := fun r hr p e s m args below meth c F H locs ls hW hS hl => lv_iload_n F.1 F.2.1 hd hi (lv_at hl q hq) (k r hr p e s m args below meth c F H locs ls hW hS hl)
theorem v_iload {i : Nat} {x : Int32} (hd : decode cc pc = .ok (.iload i, 2)) (q : Nat) (hq : lv[q]? = some (i, .int x)) (k : VE g cc nL own rt hh R mc ms out kc ks (pc + 2) lv (.int x :: rest) w E) : VE g cc nL own rt hh R mc ms out kc ks pc lv (rest) w E := fun r hr p e s m args below meth c F H locs ls hW hS hl => lv_iload F.1 F.2.1 hd (lv_at hl q hq) (k r hr p e s m args below meth c F H locs ls hW hS hl)
theorem v_aload_n {j : Fin 4} {i : Nat} {x : Nat} (hd : decode cc pc = .ok (.aload_n j, 1)) (hi : (j : Nat) = i) (q : Nat) (hq : lv[q]? = some (i, .ref x)) (k : VE g cc nL own rt hh R mc ms out kc ks (pc + 1) lv (.ref x :: rest) w E) : VE g cc nL own rt hh R mc ms out kc ks pc lv (rest) w E := fun r hr p e s m args below meth c F H locs ls hW hS hl => lv_aload_n F.1 F.2.1 hd hi (lv_at hl q hq) (k r hr p e s m args below meth c F H locs ls hW hS hl)
theorem v_aload {i : Nat} {x : Nat} (hd : decode cc pc = .ok (.aload i, 2)) (q : Nat) (hq : lv[q]? = some (i, .ref x)) (k : VE g cc nL own rt hh R mc ms out kc ks (pc + 2) lv (.ref x :: rest) w E) : VE g cc nL own rt hh R mc ms out kc ks pc lv (rest) w E := fun r hr p e s m args below meth c F H locs ls hW hS hl => lv_aload F.1 F.2.1 hd (lv_at hl q hq) (k r hr p e s m args below meth c F H locs ls hW hS hl)
theorem v_fload_n {j : Fin 4} {i : Nat} {x : UInt32} (hd : decode cc pc = .ok (.fload_n j, 1)) (hi : (j : Nat) = i) (q : Nat) (hq : lv[q]? = some (i, .float x)) (k : VE g cc nL own rt hh R mc ms out kc ks (pc + 1) lv (.float x :: rest) w E) : VE g cc nL own rt hh R mc ms out kc ks pc lv (rest) w E := fun r hr p e s m args below meth c F H locs ls hW hS hl => lv_fload_n F.1 F.2.1 hd hi (lv_at hl q hq) (k r hr p e s m args below meth c F H locs ls hW hS hl)
theorem v_fload {i : Nat} {x : UInt32} (hd : decode cc pc = .ok (.fload i, 2)) (q : Nat) (hq : lv[q]? = some (i, .float x)) (k : VE g cc nL own rt hh R mc ms out kc ks (pc + 2) lv (.float x :: rest) w E) : VE g cc nL own rt hh R mc ms out kc ks pc lv (rest) w E := fun r hr p e s m args below meth c F H locs ls hW hS hl => lv_fload F.1 F.2.1 hd (lv_at hl q hq) (k r hr p e s m args below meth c F H locs ls hW hS hl)
theorem v_dload_n {j : Fin 4} {i : Nat} {x : UInt64} (hd : decode cc pc = .ok (.dload_n j, 1)) (hi : (j : Nat) = i) (q : Nat) (hq : lv[q]? = some (i, .double x)) (k : VE g cc nL own rt hh R mc ms out kc ks (pc + 1) lv (.double x :: rest) w E) : VE g cc nL own rt hh R mc ms out kc ks pc lv (rest) w E := fun r hr p e s m args below meth c F H locs ls hW hS hl => lv_dload_n F.1 F.2.1 hd hi (lv_at hl q hq) (k r hr p e s m args below meth c F H locs ls hW hS hl)
theorem v_dload {i : Nat} {x : UInt64} (hd : decode cc pc = .ok (.dload i, 2)) (q : Nat) (hq : lv[q]? = some (i, .double x)) (k : VE g cc nL own rt hh R mc ms out kc ks (pc + 2) lv (.double x :: rest) w E) : VE g cc nL own rt hh R mc ms out kc ks pc lv (rest) w E := fun r hr p e s m args below meth c F H locs ls hW hS hl => lv_dload F.1 F.2.1 hd (lv_at hl q hq) (k r hr p e s m args below meth c F H locs ls hW hS hl)
theorem v_lload_n {j : Fin 4} {i : Nat} {x : Int64} (hd : decode cc pc = .ok (.lload_n j, 1)) (hi : (j : Nat) = i) (q : Nat) (hq : lv[q]? = some (i, .long x)) (k : VE g cc nL own rt hh R mc ms out kc ks (pc + 1) lv (.long x :: rest) w E) : VE g cc nL own rt hh R mc ms out kc ks pc lv (rest) w E := fun r hr p e s m args below meth c F H locs ls hW hS hl => lv_lload_n F.1 F.2.1 hd hi (lv_at hl q hq) (k r hr p e s m args below meth c F H locs ls hW hS hl)
theorem v_lload {i : Nat} {x : Int64} (hd : decode cc pc = .ok (.lload i, 2)) (q : Nat) (hq : lv[q]? = some (i, .long x)) (k : VE g cc nL own rt hh R mc ms out kc ks (pc + 2) lv (.long x :: rest) w E) : VE g cc nL own rt hh R mc ms out kc ks pc lv (rest) w E := fun r hr p e s m args below meth c F H locs ls hW hS hl => lv_lload F.1 F.2.1 hd (lv_at hl q hq) (k r hr p e s m args below meth c F H locs ls hW hS hl)
theorem v_aload_nN {j : Fin 4} {i : Nat} (hd : decode cc pc = .ok (.aload_n j, 1)) (hi : (j : Nat) = i) (q : Nat) (hq : lv[q]? = some (i, .null)) (k : VE g cc nL own rt hh R mc ms out kc ks (pc + 1) lv (.null :: rest) w E) : VE g cc nL own rt hh R mc ms out kc ks pc lv (rest) w E := fun r hr p e s m args below meth c F H locs ls hW hS hl => lv_aload_nN F.1 F.2.1 hd hi (lv_at hl q hq) (k r hr p e s m args below meth c F H locs ls hW hS hl)
theorem v_aloadN {i : Nat} (hd : decode cc pc = .ok (.aload i, 2)) (q : Nat) (hq : lv[q]? = some (i, .null)) (k : VE g cc nL own rt hh R mc ms out kc ks (pc + 2) lv (.null :: rest) w E) : VE g cc nL own rt hh R mc ms out kc ks pc lv (rest) w E := fun r hr p e s m args below meth c F H locs ls hW hS hl => lv_aloadN F.1 F.2.1 hd (lv_at hl q hq) (k r hr p e s m args below meth c F H locs ls hW hS hl)
theorem v_istore_n {j : Fin 4} {i : Nat} {x : Int32} {lv1 : List (Nat × Value)} (hd : decode cc pc = .ok (.istore_n j, 1)) (hi : (j : Nat) = i) (hn : i < nL) (hq : (i, Value.int x) :: lv.filter (fun q => !(q.1 == i) && !(q.1 + 1 == i && q.2.category == 2)) = lv1) (k : VE g cc nL own rt hh R mc ms out kc ks (pc + 1) lv1 rest w E) : VE g cc nL own rt hh R mc ms out kc ks pc lv (.int x :: rest) w E := fun r hr p e s m args below meth c F H locs ls hW hS hl => lv_istore_n F.1 F.2.1 hd hi hl hn hq (fun ls hl => k r hr p e s m args below meth c F H locs ls hW hS hl)
theorem v_istore {i : Nat} {x : Int32} {lv1 : List (Nat × Value)} (hd : decode cc pc = .ok (.istore i, 2)) (hn : i < nL) (hq : (i, Value.int x) :: lv.filter (fun q => !(q.1 == i) && !(q.1 + 1 == i && q.2.category == 2)) = lv1) (k : VE g cc nL own rt hh R mc ms out kc ks (pc + 2) lv1 rest w E) : VE g cc nL own rt hh R mc ms out kc ks pc lv (.int x :: rest) w E := fun r hr p e s m args below meth c F H locs ls hW hS hl => lv_istore F.1 F.2.1 hd hl hn hq (fun ls hl => k r hr p e s m args below meth c F H locs ls hW hS hl)
theorem v_astore_n {j : Fin 4} {i : Nat} {x : Nat} {lv1 : List (Nat × Value)} (hd : decode cc pc = .ok (.astore_n j, 1)) (hi : (j : Nat) = i) (hn : i < nL) (hq : (i, Value.ref x) :: lv.filter (fun q => !(q.1 == i) && !(q.1 + 1 == i && q.2.category == 2)) = lv1) (k : VE g cc nL own rt hh R mc ms out kc ks (pc + 1) lv1 rest w E) : VE g cc nL own rt hh R mc ms out kc ks pc lv (.ref x :: rest) w E := fun r hr p e s m args below meth c F H locs ls hW hS hl => lv_astore_n F.1 F.2.1 hd hi hl hn hq (fun ls hl => k r hr p e s m args below meth c F H locs ls hW hS hl)
theorem v_astore {i : Nat} {x : Nat} {lv1 : List (Nat × Value)} (hd : decode cc pc = .ok (.astore i, 2)) (hn : i < nL) (hq : (i, Value.ref x) :: lv.filter (fun q => !(q.1 == i) && !(q.1 + 1 == i && q.2.category == 2)) = lv1) (k : VE g cc nL own rt hh R mc ms out kc ks (pc + 2) lv1 rest w E) : VE g cc nL own rt hh R mc ms out kc ks pc lv (.ref x :: rest) w E := fun r hr p e s m args below meth c F H locs ls hW hS hl => lv_astore F.1 F.2.1 hd hl hn hq (fun ls hl => k r hr p e s m args below meth c F H locs ls hW hS hl)
theorem v_fstore_n {j : Fin 4} {i : Nat} {x : UInt32} {lv1 : List (Nat × Value)} (hd : decode cc pc = .ok (.fstore_n j, 1)) (hi : (j : Nat) = i) (hn : i < nL) (hq : (i, Value.float x) :: lv.filter (fun q => !(q.1 == i) && !(q.1 + 1 == i && q.2.category == 2)) = lv1) (k : VE g cc nL own rt hh R mc ms out kc ks (pc + 1) lv1 rest w E) : VE g cc nL own rt hh R mc ms out kc ks pc lv (.float x :: rest) w E := fun r hr p e s m args below meth c F H locs ls hW hS hl => lv_fstore_n F.1 F.2.1 hd hi hl hn hq (fun ls hl => k r hr p e s m args below meth c F H locs ls hW hS hl)
theorem v_fstore {i : Nat} {x : UInt32} {lv1 : List (Nat × Value)} (hd : decode cc pc = .ok (.fstore i, 2)) (hn : i < nL) (hq : (i, Value.float x) :: lv.filter (fun q => !(q.1 == i) && !(q.1 + 1 == i && q.2.category == 2)) = lv1) (k : VE g cc nL own rt hh R mc ms out kc ks (pc + 2) lv1 rest w E) : VE g cc nL own rt hh R mc ms out kc ks pc lv (.float x :: rest) w E := fun r hr p e s m args below meth c F H locs ls hW hS hl => lv_fstore F.1 F.2.1 hd hl hn hq (fun ls hl => k r hr p e s m args below meth c F H locs ls hW hS hl)
theorem v_dstore_n {j : Fin 4} {i : Nat} {x : UInt64} {lv1 : List (Nat × Value)} (hd : decode cc pc = .ok (.dstore_n j, 1)) (hi : (j : Nat) = i) (hn : i + 1 < nL) (hq : (i, Value.double x) :: lv.filter (fun q => !(q.1 == i) && (!(q.1 == i + 1) && !(q.1 + 1 == i && q.2.category == 2))) = lv1) (k : VE g cc nL own rt hh R mc ms out kc ks (pc + 1) lv1 rest w E) : VE g cc nL own rt hh R mc ms out kc ks pc lv (.double x :: rest) w E := fun r hr p e s m args below meth c F H locs ls hW hS hl => lv_dstore_n F.1 F.2.1 hd hi hl hn hq (fun ls hl => k r hr p e s m args below meth c F H locs ls hW hS hl)
theorem v_dstore {i : Nat} {x : UInt64} {lv1 : List (Nat × Value)} (hd : decode cc pc = .ok (.dstore i, 2)) (hn : i + 1 < nL) (hq : (i, Value.double x) :: lv.filter (fun q => !(q.1 == i) && (!(q.1 == i + 1) && !(q.1 + 1 == i && q.2.category == 2))) = lv1) (k : VE g cc nL own rt hh R mc ms out kc ks (pc + 2) lv1 rest w E) : VE g cc nL own rt hh R mc ms out kc ks pc lv (.double x :: rest) w E := fun r hr p e s m args below meth c F H locs ls hW hS hl => lv_dstore F.1 F.2.1 hd hl hn hq (fun ls hl => k r hr p e s m args below meth c F H locs ls hW hS hl)
theorem v_lstore_n {j : Fin 4} {i : Nat} {x : Int64} {lv1 : List (Nat × Value)} (hd : decode cc pc = .ok (.lstore_n j, 1)) (hi : (j : Nat) = i) (hn : i + 1 < nL) (hq : (i, Value.long x) :: lv.filter (fun q => !(q.1 == i) && (!(q.1 == i + 1) && !(q.1 + 1 == i && q.2.category == 2))) = lv1) (k : VE g cc nL own rt hh R mc ms out kc ks (pc + 1) lv1 rest w E) : VE g cc nL own rt hh R mc ms out kc ks pc lv (.long x :: rest) w E := fun r hr p e s m args below meth c F H locs ls hW hS hl => lv_lstore_n F.1 F.2.1 hd hi hl hn hq (fun ls hl => k r hr p e s m args below meth c F H locs ls hW hS hl)
theorem v_lstore {i : Nat} {x : Int64} {lv1 : List (Nat × Value)} (hd : decode cc pc = .ok (.lstore i, 2)) (hn : i + 1 < nL) (hq : (i, Value.long x) :: lv.filter (fun q => !(q.1 == i) && (!(q.1 == i + 1) && !(q.1 + 1 == i && q.2.category == 2))) = lv1) (k : VE g cc nL own rt hh R mc ms out kc ks (pc + 2) lv1 rest w E) : VE g cc nL own rt hh R mc ms out kc ks pc lv (.long x :: rest) w E := fun r hr p e s m args below meth c F H locs ls hW hS hl => lv_lstore F.1 F.2.1 hd hl hn hq (fun ls hl => k r hr p e s m args below meth c F H locs ls hW hS hl)
theorem v_astore_nN {j : Fin 4} {i : Nat} {lv1 : List (Nat × Value)} (hd : decode cc pc = .ok (.astore_n j, 1)) (hi : (j : Nat) = i) (hn : i < nL) (hq : (i, Value.null) :: lv.filter (fun q => !(q.1 == i) && !(q.1 + 1 == i && q.2.category == 2)) = lv1) (k : VE g cc nL own rt hh R mc ms out kc ks (pc + 1) lv1 rest w E) : VE g cc nL own rt hh R mc ms out kc ks pc lv (.null :: rest) w E := fun r hr p e s m args below meth c F H locs ls hW hS hl => lv_astore_nN F.1 F.2.1 hd hi hl hn hq (fun ls hl => k r hr p e s m args below meth c F H locs ls hW hS hl)
theorem v_iinc {i q : Nat} {n : Int} {x v : Int32} {lv1 : List (Nat × Value)} (hd : decode cc pc = .ok (.iinc i n, 3)) (hx : lv[q]? = some (i, .int x)) (hv : x + Int32.ofInt n = v) (hn : i < nL) (hq : (i, Value.int v) :: lv.filter (fun q => !(q.1 == i) && !(q.1 + 1 == i && q.2.category == 2)) = lv1) (k : VE g cc nL own rt hh R mc ms out kc ks (pc + 3) lv1 rest w E) : VE g cc nL own rt hh R mc ms out kc ks pc lv rest w E := fun r hr p e s m args below meth c F H locs ls hW hS hl => lv_iinc F.1 F.2.1 hd hl hx hv hn hq (fun ls hl => k r hr p e s m args below meth c F H locs ls hW hS hl)
theorem v_iadd {x y : Int32} (hd : decode cc pc = .ok (.iadd, 1)) (k : VE g cc nL own rt hh R mc ms out kc ks (pc + 1) lv (.int (x + y) :: rest) w E) : VE g cc nL own rt hh R mc ms out kc ks pc lv (.int y :: .int x :: rest) w E := fun r hr p e s m args below meth c F H locs ls hW hS hl => lv_iadd F.1 F.2.1 hd (k r hr p e s m args below meth c F H locs ls hW hS hl)
theorem v_isub {x y : Int32} (hd : decode cc pc = .ok (.isub, 1)) (k : VE g cc nL own rt hh R mc ms out kc ks (pc + 1) lv (.int (x - y) :: rest) w E) : VE g cc nL own rt hh R mc ms out kc ks pc lv (.int y :: .int x :: rest) w E := fun r hr p e s m args below meth c F H locs ls hW hS hl => lv_isub F.1 F.2.1 hd (k r hr p e s m args below meth c F H locs ls hW hS hl)
theorem v_imul {x y : Int32} (hd : decode cc pc = .ok (.imul, 1)) (k : VE g cc nL own rt hh R mc ms out kc ks (pc + 1) lv (.int (x * y) :: rest) w E) : VE g cc nL own rt hh R mc ms out kc ks pc lv (.int y :: .int x :: rest) w E := fun r hr p e s m args below meth c F H locs ls hW hS hl => lv_imul F.1 F.2.1 hd (k r hr p e s m args below meth c F H locs ls hW hS hl)
theorem v_iand {x y : Int32} (hd : decode cc pc = .ok (.iand, 1)) (k : VE g cc nL own rt hh R mc ms out kc ks (pc + 1) lv (.int (x &&& y) :: rest) w E) : VE g cc nL own rt hh R mc ms out kc ks pc lv (.int y :: .int x :: rest) w E := fun r hr p e s m args below meth c F H locs ls hW hS hl => lv_iand F.1 F.2.1 hd (k r hr p e s m args below meth c F H locs ls hW hS hl)
theorem v_ior {x y : Int32} (hd : decode cc pc = .ok (.ior, 1)) (k : VE g cc nL own rt hh R mc ms out kc ks (pc + 1) lv (.int (x ||| y) :: rest) w E) : VE g cc nL own rt hh R mc ms out kc ks pc lv (.int y :: .int x :: rest) w E := fun r hr p e s m args below meth c F H locs ls hW hS hl => lv_ior F.1 F.2.1 hd (k r hr p e s m args below meth c F H locs ls hW hS hl)
theorem v_ixor {x y : Int32} (hd : decode cc pc = .ok (.ixor, 1)) (k : VE g cc nL own rt hh R mc ms out kc ks (pc + 1) lv (.int (x ^^^ y) :: rest) w E) : VE g cc nL own rt hh R mc ms out kc ks pc lv (.int y :: .int x :: rest) w E := fun r hr p e s m args below meth c F H locs ls hW hS hl => lv_ixor F.1 F.2.1 hd (k r hr p e s m args below meth c F H locs ls hW hS hl)
theorem v_ishl {x y : Int32} (hd : decode cc pc = .ok (.ishl, 1)) (k : VE g cc nL own rt hh R mc ms out kc ks (pc + 1) lv (.int (x <<< (y &&& 31)) :: rest) w E) : VE g cc nL own rt hh R mc ms out kc ks pc lv (.int y :: .int x :: rest) w E := fun r hr p e s m args below meth c F H locs ls hW hS hl => lv_ishl F.1 F.2.1 hd (k r hr p e s m args below meth c F H locs ls hW hS hl)
theorem v_ishr {x y : Int32} (hd : decode cc pc = .ok (.ishr, 1)) (k : VE g cc nL own rt hh R mc ms out kc ks (pc + 1) lv (.int (x >>> (y &&& 31)) :: rest) w E) : VE g cc nL own rt hh R mc ms out kc ks pc lv (.int y :: .int x :: rest) w E := fun r hr p e s m args below meth c F H locs ls hW hS hl => lv_ishr F.1 F.2.1 hd (k r hr p e s m args below meth c F H locs ls hW hS hl)
theorem v_idiv {x y : Int32} (hd : decode cc pc = .ok (.idiv, 1)) (hne : ¬ y = 0) (k : VE g cc nL own rt hh R mc ms out kc ks (pc + 1) lv (.int (x / y) :: rest) w E) : VE g cc nL own rt hh R mc ms out kc ks pc lv (.int y :: .int x :: rest) w E := fun r hr p e s m args below meth c F H locs ls hW hS hl => lv_idiv F.1 F.2.1 hd hne (k r hr p e s m args below meth c F H locs ls hW hS hl)
theorem v_irem {x y : Int32} (hd : decode cc pc = .ok (.irem, 1)) (hne : ¬ y = 0) (k : VE g cc nL own rt hh R mc ms out kc ks (pc + 1) lv (.int (x - x / y * y) :: rest) w E) : VE g cc nL own rt hh R mc ms out kc ks pc lv (.int y :: .int x :: rest) w E := fun r hr p e s m args below meth c F H locs ls hW hS hl => lv_irem F.1 F.2.1 hd hne (k r hr p e s m args below meth c F H locs ls hW hS hl)
theorem v_ineg {x : Int32} (hd : decode cc pc = .ok (.ineg, 1)) (k : VE g cc nL own rt hh R mc ms out kc ks (pc + 1) lv (.int (-x) :: rest) w E) : VE g cc nL own rt hh R mc ms out kc ks pc lv (.int x :: rest) w E := fun r hr p e s m args below meth c F H locs ls hW hS hl => lv_ineg F.1 F.2.1 hd (k r hr p e s m args below meth c F H locs ls hW hS hl)
theorem v_i2l {x : Int32} (hd : decode cc pc = .ok (.i2l, 1)) (k : VE g cc nL own rt hh R mc ms out kc ks (pc + 1) lv (.long x.toInt64 :: rest) w E) : VE g cc nL own rt hh R mc ms out kc ks pc lv (.int x :: rest) w E := fun r hr p e s m args below meth c F H locs ls hW hS hl => lv_i2l F.1 F.2.1 hd rfl (k r hr p e s m args below meth c F H locs ls hW hS hl)
theorem v_i2c {x : Int32} (hd : decode cc pc = .ok (.i2c, 1)) (k : VE g cc nL own rt hh R mc ms out kc ks (pc + 1) lv (.int (x.toUInt32 % 65536).toInt32 :: rest) w E) : VE g cc nL own rt hh R mc ms out kc ks pc lv (.int x :: rest) w E := fun r hr p e s m args below meth c F H locs ls hW hS hl => lv_i2c F.1 F.2.1 hd rfl (k r hr p e s m args below meth c F H locs ls hW hS hl)
theorem v_i2f {x : Int32} (hd : decode cc pc = .ok (.i2f, 1)) (k : VE g cc nL own rt hh R mc ms out kc ks (pc + 1) lv (.float (FP.i2f x) :: rest) w E) : VE g cc nL own rt hh R mc ms out kc ks pc lv (.int x :: rest) w E := fun r hr p e s m args below meth c F H locs ls hW hS hl => lv_i2f F.1 F.2.1 hd (k r hr p e s m args below meth c F H locs ls hW hS hl)
theorem v_i2d {x : Int32} (hd : decode cc pc = .ok (.i2d, 1)) (k : VE g cc nL own rt hh R mc ms out kc ks (pc + 1) lv (.double (FP.i2d x) :: rest) w E) : VE g cc nL own rt hh R mc ms out kc ks pc lv (.int x :: rest) w E := fun r hr p e s m args below meth c F H locs ls hW hS hl => lv_i2d F.1 F.2.1 hd (k r hr p e s m args below meth c F H locs ls hW hS hl)
theorem v_fdiv {x y : UInt32} (hd : decode cc pc = .ok (.fdiv, 1)) (hne : vf_n32 (FP.fdiv x y)) (k : VE g cc nL own rt hh R mc ms out kc ks (pc + 1) lv (.float (FP.fdiv x y) :: rest) w E) : VE g cc nL own rt hh R mc ms out kc ks pc lv (.float y :: .float x :: rest) w E := fun r hr p e s m args below meth c F H locs ls hW hS hl => lv_fdiv F.1 F.2.1 hd hne (k r hr p e s m args below meth c F H locs ls hW hS hl)
theorem v_ddiv {x y : UInt64} (hd : decode cc pc = .ok (.ddiv, 1)) (hne : vf_n64 (FP.ddiv x y)) (k : VE g cc nL own rt hh R mc ms out kc ks (pc + 1) lv (.double (FP.ddiv x y) :: rest) w E) : VE g cc nL own rt hh R mc ms out kc ks pc lv (.double y :: .double x :: rest) w E := fun r hr p e s m args below meth c F H locs ls hW hS hl => lv_ddiv F.1 F.2.1 hd hne (k r hr p e s m args below meth c F H locs ls hW hS hl)
theorem v_f2d {x : UInt32} (hd : decode cc pc = .ok (.f2d, 1)) (hne : vf_n64 (FP.f2d x)) (k : VE g cc nL own rt hh R mc ms out kc ks (pc + 1) lv (.double (FP.f2d x) :: rest) w E) : VE g cc nL own rt hh R mc ms out kc ks pc lv (.float x :: rest) w E := fun r hr p e s m args below meth c F H locs ls hW hS hl => lv_f2d F.1 F.2.1 hd hne (k r hr p e s m args below meth c F H locs ls hW hS hl)
theorem v_fcmp {x y : UInt32} {op : CmpOp} (hd : decode cc pc = .ok (.fcmp op, 1)) (k : VE g cc nL own rt hh R mc ms out kc ks (pc + 1) lv (.int (Op.cmpValue (FP.fcmp x y) op) :: rest) w E) : VE g cc nL own rt hh R mc ms out kc ks pc lv (.float y :: .float x :: rest) w E := fun r hr p e s m args below meth c F H locs ls hW hS hl => lv_fcmp F.1 F.2.1 hd (k r hr p e s m args below meth c F H locs ls hW hS hl)
theorem v_dcmp {x y : UInt64} {op : CmpOp} (hd : decode cc pc = .ok (.dcmp op, 1)) (k : VE g cc nL own rt hh R mc ms out kc ks (pc + 1) lv (.int (Op.cmpValue (FP.dcmp x y) op) :: rest) w E) : VE g cc nL own rt hh R mc ms out kc ks pc lv (.double y :: .double x :: rest) w E := fun r hr p e s m args below meth c F H locs ls hW hS hl => lv_dcmp F.1 F.2.1 hd (k r hr p e s m args below meth c F H locs ls hW hS hl)
theorem v_ladd {x y : Int64} (hd : decode cc pc = .ok (.ladd, 1)) (k : VE g cc nL own rt hh R mc ms out kc ks (pc + 1) lv (.long (x + y) :: rest) w E) : VE g cc nL own rt hh R mc ms out kc ks pc lv (.long y :: .long x :: rest) w E := fun r hr p e s m args below meth c F H locs ls hW hS hl => lv_ladd F.1 F.2.1 hd (k r hr p e s m args below meth c F H locs ls hW hS hl)
theorem v_lmul {x y : Int64} (hd : decode cc pc = .ok (.lmul, 1)) (k : VE g cc nL own rt hh R mc ms out kc ks (pc + 1) lv (.long (x * y) :: rest) w E) : VE g cc nL own rt hh R mc ms out kc ks pc lv (.long y :: .long x :: rest) w E := fun r hr p e s m args below meth c F H locs ls hW hS hl => lv_lmul F.1 F.2.1 hd (k r hr p e s m args below meth c F H locs ls hW hS hl)
theorem v_lcmp {x y : Int64} (hd : decode cc pc = .ok (.lcmp, 1)) (k : VE g cc nL own rt hh R mc ms out kc ks (pc + 1) lv (.int (lg_cmp x y) :: rest) w E) : VE g cc nL own rt hh R mc ms out kc ks pc lv (.long y :: .long x :: rest) w E := fun r hr p e s m args below meth c F H locs ls hW hS hl => W.lcmp F.1 F.2.1 hd (k r hr p e s m args below meth c F H locs ls hW hS hl)
theorem v_dup {a : Value} (hd : decode cc pc = .ok (.dup, 1)) (ha : a.category = 1) (k : VE g cc nL own rt hh R mc ms out kc ks (pc + 1) lv (a :: a :: rest) w E) : VE g cc nL own rt hh R mc ms out kc ks pc lv (a :: rest) w E := fun r hr p e s m args below meth c F H locs ls hW hS hl => lv_dup F.1 F.2.1 hd ha (k r hr p e s m args below meth c F H locs ls hW hS hl)
theorem v_pop {a : Value} (hd : decode cc pc = .ok (.pop, 1)) (ha : a.category = 1) (k : VE g cc nL own rt hh R mc ms out kc ks (pc + 1) lv (rest) w E) : VE g cc nL own rt hh R mc ms out kc ks pc lv (a :: rest) w E := fun r hr p e s m args below meth c F H locs ls hW hS hl => lv_pop F.1 F.2.1 hd ha (k r hr p e s m args below meth c F H locs ls hW hS hl)
theorem v_dup2 {a b : Value} (hd : decode cc pc = .ok (.dup2, 1)) (ha : a.category = 1) (hb : b.category = 1) (k : VE g cc nL own rt hh R mc ms out kc ks (pc + 1) lv (a :: b :: a :: b :: rest) w E) : VE g cc nL own rt hh R mc ms out kc ks pc lv (a :: b :: rest) w E := fun r hr p e s m args below meth c F H locs ls hW hS hl => lv_dup2_11 F.1 F.2.1 hd ha hb (k r hr p e s m args below meth c F H locs ls hW hS hl)
theorem v_goto {off : Int} {tgt : Nat} (hd : decode cc pc = .ok (.goto off, 3)) (ht : (pc : Int) + off = (tgt : Int)) (k : VE g cc nL own rt hh R mc ms out kc ks tgt lv rest w E) : VE g cc nL own rt hh R mc ms out kc ks pc lv rest w E := fun r hr p e s m args below meth c F H locs ls hW hS hl => lv_goto F.1 F.2.1 hd ht (k r hr p e s m args below meth c F H locs ls hW hS hl)
theorem v_if_eq {x : Int32} {off : Int} {tgt : Nat} (hd : decode cc pc = .ok (.ifCond .eq off, 3)) (ht : (pc : Int) + off = (tgt : Int)) (kt : VE g cc nL own rt hh R mc ms out kc ks tgt lv rest w E1) (kf : VE g cc nL own rt hh R mc ms out kc ks (pc + 3) lv rest w E2) : VE g cc nL own rt hh R mc ms out kc ks pc lv (.int x :: rest) w (if x = 0 then E1 else E2) := fun r hr p e s m args below meth c F H locs ls hW hS hl => lv_if_eq F.1 F.2.1 hd ht (fun h => kt r (by rw [if_pos h] at hr; exact hr) p e s m args below meth c F H locs ls hW hS hl) (fun h => kf r (by rw [if_neg h] at hr; exact hr) p e s m args below meth c F H locs ls hW hS hl)
theorem v_if_eqT {x : Int32} {off : Int} {tgt : Nat} (hd : decode cc pc = .ok (.ifCond .eq off, 3)) (ht : (pc : Int) + off = (tgt : Int)) (hc : x = 0) (kt : VE g cc nL own rt hh R mc ms out kc ks tgt lv rest w E) : VE g cc nL own rt hh R mc ms out kc ks pc lv (.int x :: rest) w E := fun r hr p e s m args below meth c F H locs ls hW hS hl => lv_if_eq F.1 F.2.1 hd ht (fun _ => kt r hr p e s m args below meth c F H locs ls hW hS hl) (fun h => absurd hc h)
theorem v_if_eqF {x : Int32} {off : Int} {tgt : Nat} (hd : decode cc pc = .ok (.ifCond .eq off, 3)) (ht : (pc : Int) + off = (tgt : Int)) (hc : ¬ (x = 0)) (kf : VE g cc nL own rt hh R mc ms out kc ks (pc + 3) lv rest w E) : VE g cc nL own rt hh R mc ms out kc ks pc lv (.int x :: rest) w E := fun r hr p e s m args below meth c F H locs ls hW hS hl => lv_if_eq F.1 F.2.1 hd ht (fun h => absurd h hc) (fun _ => kf r hr p e s m args below meth c F H locs ls hW hS hl)
theorem v_icmp_eq {x y : Int32} {off : Int} {tgt : Nat} (hd : decode cc pc = .ok (.if_icmp .eq off, 3)) (ht : (pc : Int) + off = (tgt : Int)) (kt : VE g cc nL own rt hh R mc ms out kc ks tgt lv rest w E1) (kf : VE g cc nL own rt hh R mc ms out kc ks (pc + 3) lv rest w E2) : VE g cc nL own rt hh R mc ms out kc ks pc lv (.int y :: .int x :: rest) w (if x = y then E1 else E2) := fun r hr p e s m args below meth c F H locs ls hW hS hl => lv_icmp_eq F.1 F.2.1 hd ht (fun h => kt r (by rw [if_pos h] at hr; exact hr) p e s m args below meth c F H locs ls hW hS hl) (fun h => kf r (by rw [if_neg h] at hr; exact hr) p e s m args below meth c F H locs ls hW hS hl)
theorem v_icmp_eqT {x y : Int32} {off : Int} {tgt : Nat} (hd : decode cc pc = .ok (.if_icmp .eq off, 3)) (ht : (pc : Int) + off = (tgt : Int)) (hc : x = y) (kt : VE g cc nL own rt hh R mc ms out kc ks tgt lv rest w E) : VE g cc nL own rt hh R mc ms out kc ks pc lv (.int y :: .int x :: rest) w E := fun r hr p e s m args below meth c F H locs ls hW hS hl => lv_icmp_eq F.1 F.2.1 hd ht (fun _ => kt r hr p e s m args below meth c F H locs ls hW hS hl) (fun h => absurd hc h)
theorem v_icmp_eqF {x y : Int32} {off : Int} {tgt : Nat} (hd : decode cc pc = .ok (.if_icmp .eq off, 3)) (ht : (pc : Int) + off = (tgt : Int)) (hc : ¬ (x = y)) (kf : VE g cc nL own rt hh R mc ms out kc ks (pc + 3) lv rest w E) : VE g cc nL own rt hh R mc ms out kc ks pc lv (.int y :: .int x :: rest) w E := fun r hr p e s m args below meth c F H locs ls hW hS hl => lv_icmp_eq F.1 F.2.1 hd ht (fun h => absurd h hc) (fun _ => kf r hr p e s m args below meth c F H locs ls hW hS hl)
theorem v_if_ne {x : Int32} {off : Int} {tgt : Nat} (hd : decode cc pc = .ok (.ifCond .ne off, 3)) (ht : (pc : Int) + off = (tgt : Int)) (kt : VE g cc nL own rt hh R mc ms out kc ks tgt lv rest w E1) (kf : VE g cc nL own rt hh R mc ms out kc ks (pc + 3) lv rest w E2) : VE g cc nL own rt hh R mc ms out kc ks pc lv (.int x :: rest) w (if x = 0 then E2 else E1) := fun r hr p e s m args below meth c F H locs ls hW hS hl => lv_if_ne F.1 F.2.1 hd ht (fun h => kt r (by rw [if_neg h] at hr; exact hr) p e s m args below meth c F H locs ls hW hS hl) (fun h => kf r (by rw [if_pos h] at hr; exact hr) p e s m args below meth c F H locs ls hW hS hl)
theorem v_if_neT {x : Int32} {off : Int} {tgt : Nat} (hd : decode cc pc = .ok (.ifCond .ne off, 3)) (ht : (pc : Int) + off = (tgt : Int)) (hc : ¬ (x = 0)) (kt : VE g cc nL own rt hh R mc ms out kc ks tgt lv rest w E) : VE g cc nL own rt hh R mc ms out kc ks pc lv (.int x :: rest) w E := fun r hr p e s m args below meth c F H locs ls hW hS hl => lv_if_ne F.1 F.2.1 hd ht (fun _ => kt r hr p e s m args below meth c F H locs ls hW hS hl) (fun h => absurd h hc)
theorem v_if_neF {x : Int32} {off : Int} {tgt : Nat} (hd : decode cc pc = .ok (.ifCond .ne off, 3)) (ht : (pc : Int) + off = (tgt : Int)) (hc : x = 0) (kf : VE g cc nL own rt hh R mc ms out kc ks (pc + 3) lv rest w E) : VE g cc nL own rt hh R mc ms out kc ks pc lv (.int x :: rest) w E := fun r hr p e s m args below meth c F H locs ls hW hS hl => lv_if_ne F.1 F.2.1 hd ht (fun h => absurd hc h) (fun _ => kf r hr p e s m args below meth c F H locs ls hW hS hl)
theorem v_icmp_ne {x y : Int32} {off : Int} {tgt : Nat} (hd : decode cc pc = .ok (.if_icmp .ne off, 3)) (ht : (pc : Int) + off = (tgt : Int)) (kt : VE g cc nL own rt hh R mc ms out kc ks tgt lv rest w E1) (kf : VE g cc nL own rt hh R mc ms out kc ks (pc + 3) lv rest w E2) : VE g cc nL own rt hh R mc ms out kc ks pc lv (.int y :: .int x :: rest) w (if x = y then E2 else E1) := fun r hr p e s m args below meth c F H locs ls hW hS hl => lv_icmp_ne F.1 F.2.1 hd ht (fun h => kt r (by rw [if_neg h] at hr; exact hr) p e s m args below meth c F H locs ls hW hS hl) (fun h => kf r (by rw [if_pos h] at hr; exact hr) p e s m args below meth c F H locs ls hW hS hl)
theorem v_icmp_neT {x y : Int32} {off : Int} {tgt : Nat} (hd : decode cc pc = .ok (.if_icmp .ne off, 3)) (ht : (pc : Int) + off = (tgt : Int)) (hc : ¬ (x = y)) (kt : VE g cc nL own rt hh R mc ms out kc ks tgt lv rest w E) : VE g cc nL own rt hh R mc ms out kc ks pc lv (.int y :: .int x :: rest) w E := fun r hr p e s m args below meth c F H locs ls hW hS hl => lv_icmp_ne F.1 F.2.1 hd ht (fun _ => kt r hr p e s m args below meth c F H locs ls hW hS hl) (fun h => absurd h hc)
theorem v_icmp_neF {x y : Int32} {off : Int} {tgt : Nat} (hd : decode cc pc = .ok (.if_icmp .ne off, 3)) (ht : (pc : Int) + off = (tgt : Int)) (hc : x = y) (kf : VE g cc nL own rt hh R mc ms out kc ks (pc + 3) lv rest w E) : VE g cc nL own rt hh R mc ms out kc ks pc lv (.int y :: .int x :: rest) w E := fun r hr p e s m args below meth c F H locs ls hW hS hl => lv_icmp_ne F.1 F.2.1 hd ht (fun h => absurd hc h) (fun _ => kf r hr p e s m args below meth c F H locs ls hW hS hl)
theorem v_if_lt {x : Int32} {off : Int} {tgt : Nat} (hd : decode cc pc = .ok (.ifCond .lt off, 3)) (ht : (pc : Int) + off = (tgt : Int)) (kt : VE g cc nL own rt hh R mc ms out kc ks tgt lv rest w E1) (kf : VE g cc nL own rt hh R mc ms out kc ks (pc + 3) lv rest w E2) : VE g cc nL own rt hh R mc ms out kc ks pc lv (.int x :: rest) w (if x < 0 then E1 else E2) := fun r hr p e s m args below meth c F H locs ls hW hS hl => lv_if_lt F.1 F.2.1 hd ht (fun h => kt r (by rw [if_pos h] at hr; exact hr) p e s m args below meth c F H locs ls hW hS hl) (fun h => kf r (by rw [if_neg h] at hr; exact hr) p e s m args below meth c F H locs ls hW hS hl)
theorem v_if_ltT {x : Int32} {off : Int} {tgt : Nat} (hd : decode cc pc = .ok (.ifCond .lt off, 3)) (ht : (pc : Int) + off = (tgt : Int)) (hc : x < 0) (kt : VE g cc nL own rt hh R mc ms out kc ks tgt lv rest w E) : VE g cc nL own rt hh R mc ms out kc ks pc lv (.int x :: rest) w E := fun r hr p e s m args below meth c F H locs ls hW hS hl => lv_if_lt F.1 F.2.1 hd ht (fun _ => kt r hr p e s m args below meth c F H locs ls hW hS hl) (fun h => absurd hc h)
theorem v_if_ltF {x : Int32} {off : Int} {tgt : Nat} (hd : decode cc pc = .ok (.ifCond .lt off, 3)) (ht : (pc : Int) + off = (tgt : Int)) (hc : ¬ (x < 0)) (kf : VE g cc nL own rt hh R mc ms out kc ks (pc + 3) lv rest w E) : VE g cc nL own rt hh R mc ms out kc ks pc lv (.int x :: rest) w E := fun r hr p e s m args below meth c F H locs ls hW hS hl => lv_if_lt F.1 F.2.1 hd ht (fun h => absurd h hc) (fun _ => kf r hr p e s m args below meth c F H locs ls hW hS hl)
theorem v_icmp_lt {x y : Int32} {off : Int} {tgt : Nat} (hd : decode cc pc = .ok (.if_icmp .lt off, 3)) (ht : (pc : Int) + off = (tgt : Int)) (kt : VE g cc nL own rt hh R mc ms out kc ks tgt lv rest w E1) (kf : VE g cc nL own rt hh R mc ms out kc ks (pc + 3) lv rest w E2) : VE g cc nL own rt hh R mc ms out kc ks pc lv (.int y :: .int x :: rest) w (if x < y then E1 else E2) := fun r hr p e s m args below meth c F H locs ls hW hS hl => lv_icmp_lt F.1 F.2.1 hd ht (fun h => kt r (by rw [if_pos h] at hr; exact hr) p e s m args below meth c F H locs ls hW hS hl) (fun h => kf r (by rw [if_neg h] at hr; exact hr) p e s m args below meth c F H locs ls hW hS hl)
theorem v_icmp_ltT {x y : Int32} {off : Int} {tgt : Nat} (hd : decode cc pc = .ok (.if_icmp .lt off, 3)) (ht : (pc : Int) + off = (tgt : Int)) (hc : x < y) (kt : VE g cc nL own rt hh R mc ms out kc ks tgt lv rest w E) : VE g cc nL own rt hh R mc ms out kc ks pc lv (.int y :: .int x :: rest) w E := fun r hr p e s m args below meth c F H locs ls hW hS hl => lv_icmp_lt F.1 F.2.1 hd ht (fun _ => kt r hr p e s m args below meth c F H locs ls hW hS hl) (fun h => absurd hc h)
theorem v_icmp_ltF {x y : Int32} {off : Int} {tgt : Nat} (hd : decode cc pc = .ok (.if_icmp .lt off, 3)) (ht : (pc : Int) + off = (tgt : Int)) (hc : ¬ (x < y)) (kf : VE g cc nL own rt hh R mc ms out kc ks (pc + 3) lv rest w E) : VE g cc nL own rt hh R mc ms out kc ks pc lv (.int y :: .int x :: rest) w E := fun r hr p e s m args below meth c F H locs ls hW hS hl => lv_icmp_lt F.1 F.2.1 hd ht (fun h => absurd h hc) (fun _ => kf r hr p e s m args below meth c F H locs ls hW hS hl)
theorem v_if_ge {x : Int32} {off : Int} {tgt : Nat} (hd : decode cc pc = .ok (.ifCond .ge off, 3)) (ht : (pc : Int) + off = (tgt : Int)) (kt : VE g cc nL own rt hh R mc ms out kc ks tgt lv rest w E1) (kf : VE g cc nL own rt hh R mc ms out kc ks (pc + 3) lv rest w E2) : VE g cc nL own rt hh R mc ms out kc ks pc lv (.int x :: rest) w (if 0 ≤ x then E1 else E2) := fun r hr p e s m args below meth c F H locs ls hW hS hl => lv_if_ge F.1 F.2.1 hd ht (fun h => kt r (by rw [if_pos h] at hr; exact hr) p e s m args below meth c F H locs ls hW hS hl) (fun h => kf r (by rw [if_neg h] at hr; exact hr) p e s m args below meth c F H locs ls hW hS hl)
theorem v_if_geT {x : Int32} {off : Int} {tgt : Nat} (hd : decode cc pc = .ok (.ifCond .ge off, 3)) (ht : (pc : Int) + off = (tgt : Int)) (hc : 0 ≤ x) (kt : VE g cc nL own rt hh R mc ms out kc ks tgt lv rest w E) : VE g cc nL own rt hh R mc ms out kc ks pc lv (.int x :: rest) w E := fun r hr p e s m args below meth c F H locs ls hW hS hl => lv_if_ge F.1 F.2.1 hd ht (fun _ => kt r hr p e s m args below meth c F H locs ls hW hS hl) (fun h => absurd hc h)
theorem v_if_geF {x : Int32} {off : Int} {tgt : Nat} (hd : decode cc pc = .ok (.ifCond .ge off, 3)) (ht : (pc : Int) + off = (tgt : Int)) (hc : ¬ (0 ≤ x)) (kf : VE g cc nL own rt hh R mc ms out kc ks (pc + 3) lv rest w E) : VE g cc nL own rt hh R mc ms out kc ks pc lv (.int x :: rest) w E := fun r hr p e s m args below meth c F H locs ls hW hS hl => lv_if_ge F.1 F.2.1 hd ht (fun h => absurd h hc) (fun _ => kf r hr p e s m args below meth c F H locs ls hW hS hl)
theorem v_icmp_ge {x y : Int32} {off : Int} {tgt : Nat} (hd : decode cc pc = .ok (.if_icmp .ge off, 3)) (ht : (pc : Int) + off = (tgt : Int)) (kt : VE g cc nL own rt hh R mc ms out kc ks tgt lv rest w E1) (kf : VE g cc nL own rt hh R mc ms out kc ks (pc + 3) lv rest w E2) : VE g cc nL own rt hh R mc ms out kc ks pc lv (.int y :: .int x :: rest) w (if y ≤ x then E1 else E2) := fun r hr p e s m args below meth c F H locs ls hW hS hl => lv_icmp_ge F.1 F.2.1 hd ht (fun h => kt r (by rw [if_pos h] at hr; exact hr) p e s m args below meth c F H locs ls hW hS hl) (fun h => kf r (by rw [if_neg h] at hr; exact hr) p e s m args below meth c F H locs ls hW hS hl)
theorem v_icmp_geT {x y : Int32} {off : Int} {tgt : Nat} (hd : decode cc pc = .ok (.if_icmp .ge off, 3)) (ht : (pc : Int) + off = (tgt : Int)) (hc : y ≤ x) (kt : VE g cc nL own rt hh R mc ms out kc ks tgt lv rest w E) : VE g cc nL own rt hh R mc ms out kc ks pc lv (.int y :: .int x :: rest) w E := fun r hr p e s m args below meth c F H locs ls hW hS hl => lv_icmp_ge F.1 F.2.1 hd ht (fun _ => kt r hr p e s m args below meth c F H locs ls hW hS hl) (fun h => absurd hc h)
theorem v_icmp_geF {x y : Int32} {off : Int} {tgt : Nat} (hd : decode cc pc = .ok (.if_icmp .ge off, 3)) (ht : (pc : Int) + off = (tgt : Int)) (hc : ¬ (y ≤ x)) (kf : VE g cc nL own rt hh R mc ms out kc ks (pc + 3) lv rest w E) : VE g cc nL own rt hh R mc ms out kc ks pc lv (.int y :: .int x :: rest) w E := fun r hr p e s m args below meth c F H locs ls hW hS hl => lv_icmp_ge F.1 F.2.1 hd ht (fun h => absurd h hc) (fun _ => kf r hr p e s m args below meth c F H locs ls hW hS hl)
theorem v_if_gt {x : Int32} {off : Int} {tgt : Nat} (hd : decode cc pc = .ok (.ifCond .gt off, 3)) (ht : (pc : Int) + off = (tgt : Int)) (kt : VE g cc nL own rt hh R mc ms out kc ks tgt lv rest w E1) (kf : VE g cc nL own rt hh R mc ms out kc ks (pc + 3) lv rest w E2) : VE g cc nL own rt hh R mc ms out kc ks pc lv (.int x :: rest) w (if 0 < x then E1 else E2) := fun r hr p e s m args below meth c F H locs ls hW hS hl => lv_if_gt F.1 F.2.1 hd ht (fun h => kt r (by rw [if_pos h] at hr; exact hr) p e s m args below meth c F H locs ls hW hS hl) (fun h => kf r (by rw [if_neg h] at hr; exact hr) p e s m args below meth c F H locs ls hW hS hl)
theorem v_if_gtT {x : Int32} {off : Int} {tgt : Nat} (hd : decode cc pc = .ok (.ifCond .gt off, 3)) (ht : (pc : Int) + off = (tgt : Int)) (hc : 0 < x) (kt : VE g cc nL own rt hh R mc ms out kc ks tgt lv rest w E) : VE g cc nL own rt hh R mc ms out kc ks pc lv (.int x :: rest) w E := fun r hr p e s m args below meth c F H locs ls hW hS hl => lv_if_gt F.1 F.2.1 hd ht (fun _ => kt r hr p e s m args below meth c F H locs ls hW hS hl) (fun h => absurd hc h)
theorem v_if_gtF {x : Int32} {off : Int} {tgt : Nat} (hd : decode cc pc = .ok (.ifCond .gt off, 3)) (ht : (pc : Int) + off = (tgt : Int)) (hc : ¬ (0 < x)) (kf : VE g cc nL own rt hh R mc ms out kc ks (pc + 3) lv rest w E) : VE g cc nL own rt hh R mc ms out kc ks pc lv (.int x :: rest) w E := fun r hr p e s m args below meth c F H locs ls hW hS hl => lv_if_gt F.1 F.2.1 hd ht (fun h => absurd h hc) (fun _ => kf r hr p e s m args below meth c F H locs ls hW hS hl)
theorem v_icmp_gt {x y : Int32} {off : Int} {tgt : Nat} (hd : decode cc pc = .ok (.if_icmp .gt off, 3)) (ht : (pc : Int) + off = (tgt : Int)) (kt : VE g cc nL own rt hh R mc ms out kc ks tgt lv rest w E1) (kf : VE g cc nL own rt hh R mc ms out kc ks (pc + 3) lv rest w E2) : VE g cc nL own rt hh R mc ms out kc ks pc lv (.int y :: .int x :: rest) w (if y < x then E1 else E2) := fun r hr p e s m args below meth c F H locs ls hW hS hl => lv_icmp_gt F.1 F.2.1 hd ht (fun h => kt r (by rw [if_pos h] at hr; exact hr) p e s m args below meth c F H locs ls hW hS hl) (fun h => kf r (by rw [if_neg h] at hr; exact hr) p e s m args below meth c F H locs ls hW hS hl)
theorem v_icmp_gtT {x y : Int32} {off : Int} {tgt : Nat} (hd : decode cc pc = .ok (.if_icmp .gt off, 3)) (ht : (pc : Int) + off = (tgt : Int)) (hc : y < x) (kt : VE g cc nL own rt hh R mc ms out kc ks tgt lv rest w E) : VE g cc nL own rt hh R mc ms out kc ks pc lv (.int y :: .int x :: rest) w E := fun r hr p e s m args below meth c F H locs ls hW hS hl => lv_icmp_gt F.1 F.2.1 hd ht (fun _ => kt r hr p e s m args below meth c F H locs ls hW hS hl) (fun h => absurd hc h)
theorem v_icmp_gtF {x y : Int32} {off : Int} {tgt : Nat} (hd : decode cc pc = .ok (.if_icmp .gt off, 3)) (ht : (pc : Int) + off = (tgt : Int)) (hc : ¬ (y < x)) (kf : VE g cc nL own rt hh R mc ms out kc ks (pc + 3) lv rest w E) : VE g cc nL own rt hh R mc ms out kc ks pc lv (.int y :: .int x :: rest) w E := fun r hr p e s m args below meth c F H locs ls hW hS hl => lv_icmp_gt F.1 F.2.1 hd ht (fun h => absurd h hc) (fun _ => kf r hr p e s m args below meth c F H locs ls hW hS hl)
theorem v_if_le {x : Int32} {off : Int} {tgt : Nat} (hd : decode cc pc = .ok (.ifCond .le off, 3)) (ht : (pc : Int) + off = (tgt : Int)) (kt : VE g cc nL own rt hh R mc ms out kc ks tgt lv rest w E1) (kf : VE g cc nL own rt hh R mc ms out kc ks (pc + 3) lv rest w E2) : VE g cc nL own rt hh R mc ms out kc ks pc lv (.int x :: rest) w (if x ≤ 0 then E1 else E2) := fun r hr p e s m args below meth c F H locs ls hW hS hl => lv_if_le F.1 F.2.1 hd ht (fun h => kt r (by rw [if_pos h] at hr; exact hr) p e s m args below meth c F H locs ls hW hS hl) (fun h => kf r (by rw [if_neg h] at hr; exact hr) p e s m args below meth c F H locs ls hW hS hl)
theorem v_if_leT {x : Int32} {off : Int} {tgt : Nat} (hd : decode cc pc = .ok (.ifCond .le off, 3)) (ht : (pc : Int) + off = (tgt : Int)) (hc : x ≤ 0) (kt : VE g cc nL own rt hh R mc ms out kc ks tgt lv rest w E) : VE g cc nL own rt hh R mc ms out kc ks pc lv (.int x :: rest) w E := fun r hr p e s m args below meth c F H locs ls hW hS hl => lv_if_le F.1 F.2.1 hd ht (fun _ => kt r hr p e s m args below meth c F H locs ls hW hS hl) (fun h => absurd hc h)
theorem v_if_leF {x : Int32} {off : Int} {tgt : Nat} (hd : decode cc pc = .ok (.ifCond .le off, 3)) (ht : (pc : Int) + off = (tgt : Int)) (hc : ¬ (x ≤ 0)) (kf : VE g cc nL own rt hh R mc ms out kc ks (pc + 3) lv rest w E) : VE g cc nL own rt hh R mc ms out kc ks pc lv (.int x :: rest) w E := fun r hr p e s m args below meth c F H locs ls hW hS hl => lv_if_le F.1 F.2.1 hd ht (fun h => absurd h hc) (fun _ => kf r hr p e s m args below meth c F H locs ls hW hS hl)
theorem v_icmp_le {x y : Int32} {off : Int} {tgt : Nat} (hd : decode cc pc = .ok (.if_icmp .le off, 3)) (ht : (pc : Int) + off = (tgt : Int)) (kt : VE g cc nL own rt hh R mc ms out kc ks tgt lv rest w E1) (kf : VE g cc nL own rt hh R mc ms out kc ks (pc + 3) lv rest w E2) : VE g cc nL own rt hh R mc ms out kc ks pc lv (.int y :: .int x :: rest) w (if x ≤ y then E1 else E2) := fun r hr p e s m args below meth c F H locs ls hW hS hl => lv_icmp_le F.1 F.2.1 hd ht (fun h => kt r (by rw [if_pos h] at hr; exact hr) p e s m args below meth c F H locs ls hW hS hl) (fun h => kf r (by rw [if_neg h] at hr; exact hr) p e s m args below meth c F H locs ls hW hS hl)
theorem v_icmp_leT {x y : Int32} {off : Int} {tgt : Nat} (hd : decode cc pc = .ok (.if_icmp .le off, 3)) (ht : (pc : Int) + off = (tgt : Int)) (hc : x ≤ y) (kt : VE g cc nL own rt hh R mc ms out kc ks tgt lv rest w E) : VE g cc nL own rt hh R mc ms out kc ks pc lv (.int y :: .int x :: rest) w E := fun r hr p e s m args below meth c F H locs ls hW hS hl => lv_icmp_le F.1 F.2.1 hd ht (fun _ => kt r hr p e s m args below meth c F H locs ls hW hS hl) (fun h => absurd hc h)
theorem v_icmp_leF {x y : Int32} {off : Int} {tgt : Nat} (hd : decode cc pc = .ok (.if_icmp .le off, 3)) (ht : (pc : Int) + off = (tgt : Int)) (hc : ¬ (x ≤ y)) (kf : VE g cc nL own rt hh R mc ms out kc ks (pc + 3) lv rest w E) : VE g cc nL own rt hh R mc ms out kc ks pc lv (.int y :: .int x :: rest) w E := fun r hr p e s m args below meth c F H locs ls hW hS hl => lv_icmp_le F.1 F.2.1 hd ht (fun h => absurd h hc) (fun _ => kf r hr p e s m args below meth c F H locs ls hW hS hl)
theorem v_ifnull {x : Nat} {off : Int} (hd : decode cc pc = .ok (.ifnull off, 3)) (k : VE g cc nL own rt hh R mc ms out kc ks (pc + 3) lv rest w E) : VE g cc nL own rt hh R mc ms out kc ks pc lv (.ref x :: rest) w E := fun r hr p e s m args below meth c F H locs ls hW hS hl => lv_ifnull F.1 F.2.1 hd (k r hr p e s m args below meth c F H locs ls hW hS hl)
theorem v_ifnullN {off : Int} {tgt : Nat} (hd : decode cc pc = .ok (.ifnull off, 3)) (ht : (pc : Int) + off = (tgt : Int)) (k : VE g cc nL own rt hh R mc ms out kc ks tgt lv rest w E) : VE g cc nL own rt hh R mc ms out kc ks pc lv (.null :: rest) w E := fun r hr p e s m args below meth c F H locs ls hW hS hl => lv_ifnullN F.1 F.2.1 hd ht (k r hr p e s m args below meth c F H locs ls hW hS hl)
/-! fields -/
/-- a field's link: its class's number and place, with all that the tables say -/
def FL (own : String) (index ci j : Nat) (d : String) (fin : Bool) : Prop := ∃ (C : String) (T : u_T) (N : Nat) (ty : Nat → FieldType), vwCl[ci]? = some (C, T, N) ∧ (∀ w ∈ u_ws C T N, w ∈ GW) ∧ j < N ∧ Cond.fieldLink own index (T j).1 (T j).2.1 (T j).2.2.1 ∈ GW ∧ (∀ k, k < N → parseFieldDescriptor (T k).2.2.1 = some (ty k)) ∧ (∀ a, a < N → ∀ b, b < N → a ≠ b → (T a).2.1 ≠ (T b).2.1) ∧ (T j).2.2.1 = d ∧ (T j).2.2.2 = fin
theorem v_getI {index ci j k : Nat} {d : String} {fin : Bool} {fs : List (Option Nat)} (hL : FL own index ci j d fin) (hT : TT[k]? = some (0, ci, fs)) (hf : fs[j]? = some none) (hd : decode cc pc = .ok (.getfield index, 3))
    (kk : VE g cc nL own rt hh R mc ms out kc ks (pc + 3) lv (.int (w.1 k j) :: rest) w E) : VE g cc nL own rt hh R mc ms out kc ks pc lv (.ref (g.2.1 + k) :: rest) w E := by
  intro r hr p e s m args below meth c F H locs ls hW hS hl
  obtain ⟨C, T, N, ty, h1, h2, h3, h4, -⟩ := hL
  refine va_get (D := g.2.2.2.1) (cl := vwCl) (tys := tysL g) (ci := ci) (v := .int (w.1 k j)) F.1 F.2.1 F.2.2.2.2.1 h2 F.2.2.2.1 F.2.2.2.2.2.1 (hW.one hT) 0 rfl h1 j h3 (F.2.2.2.2.1 _ h4) (fun _ h9 => h9) ?_ hd (kk r hr p e s m args below meth c F H locs ls hW hS hl)
  show (layF g.2.1 (w.1 k) 0 fs)[j]? = _
  rw [layF_get, hf]
  simp
theorem v_getR {index ci j k t : Nat} {d : String} {fin : Bool} {fs : List (Option Nat)} (hL : FL own index ci j d fin) (hT : TT[k]? = some (0, ci, fs)) (hf : fs[j]? = some (some t)) (hd : decode cc pc = .ok (.getfield index, 3))
    (kk : VE g cc nL own rt hh R mc ms out kc ks (pc + 3) lv (.ref (g.2.1 + t) :: rest) w E) : VE g cc nL own rt hh R mc ms out kc ks pc lv (.ref (g.2.1 + k) :: rest) w E := by
  intro r hr p e s m args below meth c F H locs ls hW hS hl
  obtain ⟨C, T, N, ty, h1, h2, h3, h4, -⟩ := hL
  refine va_get (D := g.2.2.2.1) (cl := vwCl) (tys := tysL g) (ci := ci) (v := .ref (g.2.1 + t)) F.1 F.2.1 F.2.2.2.2.1 h2 F.2.2.2.1 F.2.2.2.2.2.1 (hW.one hT) 0 rfl h1 j h3 (F.2.2.2.2.1 _ h4) (fun _ h9 => h9) ?_ hd (kk r hr p e s m args below meth c F H locs ls hW hS hl)
  show (layF g.2.1 (w.1 k) 0 fs)[j]? = _
  rw [layF_get, hf]
  simp
theorem v_putI {index ci j k : Nat} {d : String} {ty0 : FieldType} {v : Int32} {fs : List (Option Nat)} (hL : FL own index ci j d false) (hT : TT[k]? = some (0, ci, fs)) (hf : fs[j]? = some none) (hty : parseFieldDescriptor d = some ty0) (hn : narrow ty0 (.int v) = .int v) (hfit : fits ty0 (.int v) = true) (hd : decode cc pc = .ok (.putfield index, 3))
    (kk : VE g cc nL own rt hh R mc ms out kc ks (pc + 3) lv rest (wset w k j v) E) : VE g cc nL own rt hh R mc ms out kc ks pc lv (.int v :: .ref (g.2.1 + k) :: rest) w E := by
  intro r hr p e s m args below meth c F H locs ls hW hS hl
  obtain ⟨C, T, N, ty, h1, h2, h3, h4, h5, h6, h7, h8⟩ := hL
  have hts := F.2.2.2.2.1
  have hK := F.2.2.2.2.2.1
  have hap := va_apart (own := own) hts h2 ty h5 h6 hK h1
  obtain ⟨r0, q0, cell, q1, q2, q3, q4⟩ := hW k _ hT
  have hr0 : r0 = (C, T, N) := Option.some.inj (q0.symm.trans h1)
  subst hr0
  obtain ⟨hSi, hfc, kC, hkC, hkind⟩ := hK.1 ci _ h1
  obtain ⟨cf, kf, fi, f, hi, hsl⟩ := hSi j h3
  have hlay := hts _ (h2 _ (u_in_lay h3))
  unfold u_lay at hlay
  rw [if_neg (by rw [h8]; decide)] at hlay
  have hst := (u_facts hfc hkC (u_lays hts h2 h3) hi).1
  have hS6 := u_store hfc hkC hkind hlay hi (by rw [h7]; exact hty) hn hfit
  refine W.putK F.1 F.2.1 (f := f) ⟨F.2.2.2.1, hts _ h4, ⟨_, _, _, hi⟩, hst⟩ (by rw [q2]; exact hS6) q1 q3 (by rw [hsl]; exact k2_hasslot (q4 j h3)) rfl rfl hd fun H' e1 e2 e3 => ?_
  rw [hsl] at e1 ⊢
  have hl2 : j < (layF g.2.1 (w.1 k) 0 fs).length := by rw [layF_len]; exact (List.getElem?_eq_some_iff.mp hf).1
  refine kk r hr p e s m args below meth c F H' _ ls ?_ (hS.put hT e2 e3) hl
  refine RW.put hW hT ?_ e3 (fun k' hk' => wset_ne hk') (Or.inl rfl)
  refine ⟨_, h1, ?_⟩
  have ev : layF g.2.1 ((wset w k j v).1 k) 0 fs = (layF g.2.1 (w.1 k) 0 fs).set j (.int v) := by
    rw [layF_set _ _ _ _ _ hf, wset_eq]
  rw [ev]
  exact t_OB.to (V := updV (vp_V (layF g.2.1 (w.1 k) 0 fs)) j (.int v)) ⟨_, e1, q2, q3, t_set q4 hap h3 _⟩ (fun i _ => vp_updV_set hl2 _ i)
/-! arrays -/
theorem v_ald_aux {kd : Nat} {n k : Nat} {fs : List (Option Nat)} {H : Heap} {s : State} {i : Int32} {ty : FieldType} (hW : RW g w H) (hK : va_K g.2.2.2.1 vwCl (tysL g) s) (hT : TT[k]? = some (kd, n, fs)) (hkd : kd = 1 ∨ kd = 2 ∨ kd = 3) (hty : (tysL g)[kd - 1]? = some (g.2.2.1 (kd - 1), ty)) :
    H[g.2.1 + k]? = some (vp_cell (g.2.2.1 (kd - 1)) (n, .inl (w.1 k))) ∧ s.isArrayOf (vp_cell (g.2.2.1 (kd - 1)) (n, .inl (w.1 k))) ty := by
  have h := hW k _ hT
  have h2 := (hK.2 _ _ hty).1 n (fun j => .int (w.1 k j))
  refine ⟨?_, h2⟩
  rcases hkd with rfl | rfl | rfl <;> exact h
theorem v_iald {n k : Nat} {fs : List (Option Nat)} {i : Int32} (hT : TT[k]? = some (1, n, fs)) (hin : vp_in i n) (hd : decode cc pc = .ok (.iaload, 1))
    (kk : VE g cc nL own rt hh R mc ms out kc ks (pc + 1) lv (.int (w.1 k i.toNatClampNeg) :: rest) w E) : VE g cc nL own rt hh R mc ms out kc ks pc lv (.int i :: .ref (g.2.1 + k) :: rest) w E := by
  intro r hr p e s m args below meth c F H locs ls hW hS hl
  exact va_iald (D := g.2.2.2.1) (cl := vwCl) (tys := tysL g) F.1 F.2.1 F.2.2.2.2.2.1 (hW.one hT) 0 0 rfl rfl hin hd (kk r hr p e s m args below meth c F H locs ls hW hS hl)
theorem v_zald {n k : Nat} {fs : List (Option Nat)} {i : Int32} (hT : TT[k]? = some (2, n, fs)) (hin : vp_in i n) (hd : decode cc pc = .ok (.baload, 1))
    (kk : VE g cc nL own rt hh R mc ms out kc ks (pc + 1) lv (.int (w.1 k i.toNatClampNeg) :: rest) w E) : VE g cc nL own rt hh R mc ms out kc ks pc lv (.int i :: .ref (g.2.1 + k) :: rest) w E := by
  intro r hr p e s m args below meth c F H locs ls hW hS hl
  exact va_zald (D := g.2.2.2.1) (cl := vwCl) (tys := tysL g) F.1 F.2.1 F.2.2.2.2.2.1 (hW.one hT) 0 1 rfl rfl hin hd (kk r hr p e s m args below meth c F H locs ls hW hS hl)
theorem v_cald {n k : Nat} {fs : List (Option Nat)} {i : Int32} (hT : TT[k]? = some (3, n, fs)) (hin : vp_in i n) (hd : decode cc pc = .ok (.caload, 1))
    (kk : VE g cc nL own rt hh R mc ms out kc ks (pc + 1) lv (.int (w.1 k i.toNatClampNeg) :: rest) w E) : VE g cc nL own rt hh R mc ms out kc ks pc lv (.int i :: .ref (g.2.1 + k) :: rest) w E := by
  intro r hr p e s m args below meth c F H locs ls hW hS hl
  exact va_cald (D := g.2.2.2.1) (cl := vwCl) (tys := tysL g) F.1 F.2.1 F.2.2.2.2.2.1 (hW.one hT) 0 2 rfl rfl hin hd (kk r hr p e s m args below meth c F H locs ls hW hS hl)
theorem v_ast_eq {cA : ClassId} {n i k : Nat} {x : Int32} : (vp_cell cA (n, .inl (w.1 k))).setSlot i (.int x) = vp_cell cA (n, .inl ((wset w k i x).1 k)) := by
  rw [vp_cell_i, vp_cell_i, arrV_store, wset_eq]
  congr 1
  funext q
  by_cases hq : q = i
  · simp [updV, hq]
  · simp [updV, hq]
theorem v_iast {n k : Nat} {fs : List (Option Nat)} {i x : Int32} (hT : TT[k]? = some (1, n, fs)) (hin : vp_in i n) (hd : decode cc pc = .ok (.iastore, 1))
    (kk : VE g cc nL own rt hh R mc ms out kc ks (pc + 1) lv rest (wset w k i.toNatClampNeg x) E) : VE g cc nL own rt hh R mc ms out kc ks pc lv (.int x :: .int i :: .ref (g.2.1 + k) :: rest) w E := by
  intro r hr p e s m args below meth c F H locs ls hW hS hl
  obtain ⟨h1, h2⟩ := v_ald_aux (i := i) (ty := .int) hW F.2.2.2.2.2.1 hT (Or.inl rfl) rfl
  refine W.iast F.1 F.2.1 h1 h2 (fun q => by cases q) (by show ¬ (i < 0 ∨ (arrV _ _ _).slots.size ≤ _); rw [arrV_size]; exact hin) rfl rfl hd fun H1 e1 z oq => ?_
  rw [v_ast_eq] at e1
  exact kk r hr p e s m args below meth c F H1 _ ls (RW.put hW hT e1 oq (fun k' hk' => wset_ne hk') (Or.inl rfl)) (hS.put hT z oq) hl
theorem v_zast {n k : Nat} {fs : List (Option Nat)} {i x : Int32} (hT : TT[k]? = some (2, n, fs)) (hin : vp_in i n) (hd : decode cc pc = .ok (.bastore, 1))
    (kk : VE g cc nL own rt hh R mc ms out kc ks (pc + 1) lv rest (wset w k i.toNatClampNeg (vp_nar .boolean x)) E) : VE g cc nL own rt hh R mc ms out kc ks pc lv (.int x :: .int i :: .ref (g.2.1 + k) :: rest) w E := by
  intro r hr p e s m args below meth c F H locs ls hW hS hl
  obtain ⟨h1, h2⟩ := v_ald_aux (i := i) (ty := .boolean) hW F.2.2.2.2.2.1 hT (Or.inr (Or.inl rfl)) rfl
  refine W.zast F.1 F.2.1 h1 h2 (fun q => by cases q) (by show ¬ (i < 0 ∨ (arrV _ _ _).slots.size ≤ _); rw [arrV_size]; exact hin) rfl rfl hd fun H1 e1 z oq => ?_
  rw [show narrow .boolean (.int x) = .int (vp_nar .boolean x) from rfl, v_ast_eq] at e1
  exact kk r hr p e s m args below meth c F H1 _ ls (RW.put hW hT e1 oq (fun k' hk' => wset_ne hk') (Or.inl rfl)) (hS.put hT z oq) hl
theorem v_cast {n k : Nat} {fs : List (Option Nat)} {i x : Int32} (hT : TT[k]? = some (3, n, fs)) (hin : vp_in i n) (hd : decode cc pc = .ok (.castore, 1))
    (kk : VE g cc nL own rt hh R mc ms out kc ks (pc + 1) lv rest (wset w k i.toNatClampNeg (vp_nar .char x)) E) : VE g cc nL own rt hh R mc ms out kc ks pc lv (.int x :: .int i :: .ref (g.2.1 + k) :: rest) w E := by
  intro r hr p e s m args below meth c F H locs ls hW hS hl
  obtain ⟨h1, h2⟩ := v_ald_aux (i := i) (ty := .char) hW F.2.2.2.2.2.1 hT (Or.inr (Or.inr rfl)) rfl
  refine W.cast F.1 F.2.1 h1 h2 (fun q => by cases q) (by show ¬ (i < 0 ∨ (arrV _ _ _).slots.size ≤ _); rw [arrV_size]; exact hin) rfl rfl hd fun H1 e1 z oq => ?_
  rw [show narrow .char (.int x) = .int (vp_nar .char x) from rfl, v_ast_eq] at e1
  exact kk r hr p e s m args below meth c F H1 _ ls (RW.put hW hT e1 oq (fun k' hk' => wset_ne hk') (Or.inl rfl)) (hS.put hT z oq) hl
theorem v_alen {kd n k : Nat} {fs : List (Option Nat)} {v : Int32} (hT : TT[k]? = some (kd, n, fs)) (hkd : kd = 1 ∨ kd = 3 ∨ kd = 6) (hv : Int32.ofNat n = v) (hd : decode cc pc = .ok (.arraylength, 1))
    (kk : VE g cc nL own rt hh R mc ms out kc ks (pc + 1) lv (.int v :: rest) w E) : VE g cc nL own rt hh R mc ms out kc ks pc lv (.ref (g.2.1 + k) :: rest) w E := by
  intro r hr p e s m args below meth c F H locs ls hW hS hl
  rcases hkd with rfl | rfl | rfl
  · exact va_alen (D := g.2.2.2.1) (cl := vwCl) (tys := tysL g) (x := (n, .inl (w.1 k))) F.1 F.2.1 F.2.2.2.2.2.1 (hW.one hT) 0 0 rfl rfl hv hd (kk r hr p e s m args below meth c F H locs ls hW hS hl)
  · exact va_alen (D := g.2.2.2.1) (cl := vwCl) (tys := tysL g) (x := (n, .inl (w.1 k))) F.1 F.2.1 F.2.2.2.2.2.1 (hW.one hT) 0 2 rfl rfl hv hd (kk r hr p e s m args below meth c F H locs ls hW hS hl)
  · exact va_alen (D := g.2.2.2.1) (cl := vwCl) (tys := tysL g) (x := (n, .inr (.inr (.inr (.inr (fun j => (fs.getD j none).map (g.2.1 + ·))))))) F.1 F.2.1 F.2.2.2.2.2.1 (hW.one hT) 0 4 rfl rfl hv hd (kk r hr p e s m args below meth c F H locs ls hW hS hl)
theorem v_aald {n k t : Nat} {fs : List (Option Nat)} {i : Int32} (hT : TT[k]? = some (6, n, fs)) (hin : vp_in i n) (ht : fs.getD i.toNatClampNeg none = some t) (hd : decode cc pc = .ok (.aaload, 1))
    (kk : VE g cc nL own rt hh R mc ms out kc ks (pc + 1) lv (.ref (g.2.1 + t) :: rest) w E) : VE g cc nL own rt hh R mc ms out kc ks pc lv (.int i :: .ref (g.2.1 + k) :: rest) w E := by
  intro r hr p e s m args below meth c F H locs ls hW hS hl
  refine va_aldq (D := g.2.2.2.1) (cl := vwCl) (tys := tysL g) (f := fun j => (fs.getD j none).map (g.2.1 + ·)) F.1 F.2.1 F.2.2.2.2.2.1 (hW.one hT) 0 4 rfl rfl hin hd ?_
  rw [ht]
  exact kk r hr p e s m args below meth c F H locs ls hW hS hl
/-- System.arraycopy between two int rows, or two boolean rows -/
theorem v_copy {kd k0 k1 n0 n1 index : Nat} {fs0 fs1 : List (Option Nat)} {ty : FieldType} {sp dp n : Int32} (hT0 : TT[k0]? = some (kd, n0, fs0)) (hT1 : TT[k1]? = some (kd, n1, fs1)) (hkd : kd = 1 ∨ kd = 2) (hty : (tysL g)[kd - 1]? = some (g.2.2.1 (kd - 1), ty)) (hprim : refKind ty = false)
    (hlink : Cond.methodLink own index arraycopyName ∈ GW) (hnat : Cond.native arraycopyName ∈ GW) (hstat : Cond.static arraycopyName ∈ GW) (hini : Cond.initialized "java/lang/System" ∈ GW)
    (h1 : ¬ sp < 0) (h2 : ¬ dp < 0) (h3 : ¬ n < 0) (h4 : sp.toNatClampNeg + n.toNatClampNeg ≤ n0) (h5 : dp.toNatClampNeg + n.toNatClampNeg ≤ n1) (hfit : ∀ i, i < n.toNatClampNeg → fits ty (.int (w.1 k0 (sp.toNatClampNeg + i))) = true)
    (hframes : 1 ≤ R.frames) (hlocals : (rest.map fun v => v.category).sum + (nativeFrameWords "java/lang/System" "arraycopy" 5 + 11) ≤ R.locals) (hd : decode cc pc = .ok (.invokestatic index, 3))
    (kk : VE g cc nL own rt hh R mc ms out kc ks (pc + 3) lv rest (wcpy w k0 sp.toNatClampNeg k1 dp.toNatClampNeg n.toNatClampNeg) E) : VE g cc nL own rt hh R mc ms out kc ks pc lv (.int n :: .int dp :: .ref (g.2.1 + k1) :: .int sp :: .ref (g.2.1 + k0) :: rest) w E := by
  intro r hr p e s m args below meth c F H locs ls hW hS hl
  have nn : ∀ z : Int32, ¬ z < 0 → z.toInt = (z.toNatClampNeg : Int) := by
    intro z hz
    have hz0 : (0 : Int) ≤ z.toInt := by
      have := Int32.not_lt.mp hz
      simpa using Int32.le_iff_toInt_le.mp this
    show z.toInt = ((z.toInt.toNat : Nat) : Int)
    omega
  have hts := F.2.2.2.2.1
  have hK := F.2.2.2.2.2.1
  have hkd3 : kd = 1 ∨ kd = 2 ∨ kd = 3 := by rcases hkd with h | h <;> simp [h]
  obtain ⟨hc0, ha0⟩ := v_ald_aux (i := sp) hW hK hT0 hkd3 hty
  obtain ⟨hc1, ha1⟩ := v_ald_aux (i := sp) hW hK hT1 hkd3 hty
  obtain ⟨c0, hc0e⟩ : ∃ z, z = g.2.2.1 (kd - 1) := ⟨_, rfl⟩
  rw [← hc0e] at hc0 ha0 hc1 ha1
  obtain ⟨-, q0, hk0, cm0, hkk0⟩ := ha0
  obtain ⟨-, q1, hk1, cm1, hkk1⟩ := ha1
  intro T hTh X
  obtain ⟨vm', X', step⟩ := X.arraycopy F.1 F.2.2.2.1 (hts _ hlink) (hts _ hnat) (hts _ hstat) (hts _ hini) (src := g.2.1 + k0) (dst := g.2.1 + k1) (cs := vp_cell c0 (n0, .inl (w.1 k0))) (cd := vp_cell c0 (n1, .inl (w.1 k1))) (srcPos := sp) (destPos := dp) (n := n) (by rw [hTh]; exact hc0) (by rw [hTh]; exact hc1)
    (fun _ h => by cases h) (fun _ h => by cases h) (fun h => by cases h) (fun h => by cases h) hk0 hk1 hkk0 hkk1 (by simp [hprim]) h1 h2 h3
    (by rw [nn sp h1, nn n h3]; show ¬ _ > ((arrV c0 n0 (fun j => .int (w.1 k0 j))).slots.size : Int); rw [arrV_size]; omega)
    (by rw [nn dp h2, nn n h3]; show ¬ _ > ((arrV c0 n1 (fun j => .int (w.1 k1 j))).slots.size : Int); rw [arrV_size]; omega)
    (fun vm₁ _ i hi => by
      have e : (vp_cell c0 (n0, .inl (w.1 k0))).slots.getD (sp.toNatClampNeg + i) .null = .int (w.1 k0 (sp.toNatClampNeg + i)) := by
        show (arrV c0 n0 (fun j => .int (w.1 k0 j))).slots.getD _ _ = _
        rw [Array.getD_eq_getD_getElem?, arrV_read _ _ (by omega)]
        rfl
      refine ⟨?_, ?_⟩
      · rw [e]
        exact hfit i hi
      · rw [e]
        exact trivial)
    (g := F0 m pc ls (.int n :: .int dp :: .ref (g.2.1 + k1) :: .int sp :: .ref (g.2.1 + k0) :: rest)) rfl (by rw [F.2.2.1]; exact hl.1) (rest := rest) rfl (by rw [F.2.1]; exact hd) hframes (by show 2 * 0 + _ + _ ≤ _; omega)
  have e1 : copied (vp_cell c0 (n0, .inl (w.1 k0))) (vp_cell c0 (n1, .inl (w.1 k1))) sp dp n = vp_cell c0 (n1, .inl (va_cpy (w.1 k0) (w.1 k1) sp.toNatClampNeg dp.toNatClampNeg n.toNatClampNeg)) := va_copied (fun z => .int z) c0 c0 (w.1 k0) (w.1 k1) h4
  rw [e1] at X' step
  have hlt : g.2.1 + k1 < H.size := (Array.getElem?_eq_some_iff.mp hc1).1
  have hheap : ((T.setVm vm').setCell (g.2.1 + k1) (vp_cell c0 (n1, .inl (va_cpy (w.1 k0) (w.1 k1) sp.toNatClampNeg dp.toNatClampNeg n.toNatClampNeg)))).heap = H.setIfInBounds (g.2.1 + k1) (vp_cell c0 (n1, .inl (va_cpy (w.1 k0) (w.1 k1) sp.toNatClampNeg dp.toNatClampNeg n.toNatClampNeg))) := by rw [← hTh]; rfl
  have oq : ∀ q : Nat, q ≠ g.2.1 + k1 → (H.setIfInBounds (g.2.1 + k1) (vp_cell c0 (n1, .inl (va_cpy (w.1 k0) (w.1 k1) sp.toNatClampNeg dp.toNatClampNeg n.toNatClampNeg))))[q]? = H[q]? := fun q hq => by simp [Array.getElem?_setIfInBounds, Ne.symm hq]
  have hat : (H.setIfInBounds (g.2.1 + k1) (vp_cell c0 (n1, .inl (va_cpy (w.1 k0) (w.1 k1) sp.toNatClampNeg dp.toNatClampNeg n.toNatClampNeg))))[g.2.1 + k1]? = some (vp_cell c0 (n1, .inl (va_cpy (w.1 k0) (w.1 k1) sp.toNatClampNeg dp.toNatClampNeg n.toNatClampNeg))) := by simp [Array.getElem?_setIfInBounds, hlt]
  obtain ⟨t, a1, b1⟩ := kk r hr p e s m args below meth c F _ _ ls (RW.put hW hT1 (by
      have hat2 := hat.trans (congrArg some (congrArg (fun z => vp_cell c0 (n1, .inl z)) (wcpy_eq (w := w) (sk := k0) (sp := sp.toNatClampNeg) (dk := k1) (dp := dp.toNatClampNeg) (n := n.toNatClampNeg)).symm))
      rcases hkd with rfl | rfl
      · subst hc0e; exact hat2
      · subst hc0e; exact hat2) oq (fun k' hk' => wcpy_ne hk') (Or.inl rfl)) ⟨by simp; exact hS.1, fun q g1 g2 => by
      rw [oq q (fun e => g2 (e ▸ TTr_of hT1))]
      exact hS.2.1 q g1 g2, fun q hq => by
      rcases List.mem_append.mp hq with h | h
      · exact hS.2.2 q h
      · obtain ⟨z, -, hz⟩ := List.mem_map.mp h
        rw [← hz]
        exact Nat.le_add_right _ _⟩ hl _ hheap X'
  exact ⟨t, step t a1, b1⟩
/-! ends -/
theorem v_end_aux {v : Option Value} {o : Out} {w0 : XW} {s t : State} {args : Array Value} {H : Heap} {locs : List Loc} (ho : o = (.inl v, w0)) (hW : RW g w0 H) (hS : VS g s.heap H locs) (ht : t.heap = H) : QO g o args s (.returned v) t := by
  subst ho
  exact ⟨⟨v, rfl, rfl⟩, by rw [ht]; exact hW, hS.F ht⟩
theorem v_iret {v : Int32} {r0 : ρ} (hd : decode cc pc = .ok (.ireturn, 1)) (hr : rt = some .int) (ho : out r0 = (.inl (some (.int v)), w)) (h1 : kc ≤ mc) (h2 : ks ≤ ms) : VE g cc nL own rt hh R mc ms out kc ks pc lv [.int v] w (some r0) := by
  intro r hr0 p e s m args below meth c F H locs ls hW hS hl
  cases hr0
  refine vx_ret (W.widen h1 h2 ?_)
  exact W.iret F.1 F.2.1 (F.2.2.2.2.2.2.2.2.2.2.1.trans hr) (fun t ht _ => v_end_aux ho hW hS ht) hS.2.2 hd F.2.2.2.2.2.2.2.2.2.1
theorem v_zret {v : Int32} {ty : FieldType} {r0 : ρ} (hd : decode cc pc = .ok (.ireturn, 1)) (hr : rt = some ty) (hn : narrow ty (.int v) = .int v) (ho : out r0 = (.inl (some (.int v)), w)) (h1 : kc ≤ mc) (h2 : ks ≤ ms) : VE g cc nL own rt hh R mc ms out kc ks pc lv [.int v] w (some r0) := by
  intro r hr0 p e s m args below meth c F H locs ls hW hS hl
  cases hr0
  refine vx_ret (W.widen h1 h2 ?_)
  exact W.zret F.1 F.2.1 (F.2.2.2.2.2.2.2.2.2.2.1.trans hr) hn (fun t ht _ => v_end_aux ho hW hS ht) hS.2.2 hd F.2.2.2.2.2.2.2.2.2.1
theorem v_vret {r0 : ρ} (hd : decode cc pc = .ok (.return_, 1)) (hr : rt = none) (ho : out r0 = (.inl none, w)) (h1 : kc ≤ mc) (h2 : ks ≤ ms) : VE g cc nL own rt hh R mc ms out kc ks pc lv [] w (some r0) := by
  intro r hr0 p e s m args below meth c F H locs ls hW hS hl
  cases hr0
  refine vx_ret (W.widen h1 h2 ?_)
  exact W.vret F.1 F.2.1 (F.2.2.2.2.2.2.2.2.2.2.1.trans hr) (fun t ht _ => v_end_aux ho hW hS ht) hS.2.2 hd F.2.2.2.2.2.2.2.2.2.1
theorem v_aret {v : Value} {ty : FieldType} {r0 : ρ} (hd : decode cc pc = .ok (.areturn, 1)) (hr : rt = some ty) (hrt : (∃ n, ty = .object n) ∨ ∃ t, ty = .array t) (hv : v = .null ∨ ∃ a, v = .ref a) (ho : out r0 = (.inl (some v), w)) (h1 : kc ≤ mc) (h2 : ks ≤ ms) : VE g cc nL own rt hh R mc ms out kc ks pc lv [v] w (some r0) := by
  intro r hr0 p e s m args below meth c F H locs ls hW hS hl
  cases hr0
  refine vx_ret (W.widen h1 h2 ?_)
  exact W.aret F.1 F.2.1 (F.2.2.2.2.2.2.2.2.2.2.1.trans hr) hrt hv (fun t ht _ => v_end_aux ho hW hS ht) hS.2.2 hd F.2.2.2.2.2.2.2.2.2.1
theorem v_dret {v : UInt64} {r0 : ρ} (hd : decode cc pc = .ok (.dreturn, 1)) (hr : rt = some .double) (ho : out r0 = (.inl (some (.double v)), w)) (h1 : kc ≤ mc) (h2 : ks ≤ ms) : VE g cc nL own rt hh R mc ms out kc ks pc lv [.double v] w (some r0) := by
  intro r hr0 p e s m args below meth c F H locs ls hW hS hl
  cases hr0
  refine vx_ret (W.widen h1 h2 ?_)
  exact W.dret F.1 F.2.1 (F.2.2.2.2.2.2.2.2.2.2.1.trans hr) (fun t ht _ => v_end_aux ho hW hS ht) hS.2.2 hd F.2.2.2.2.2.2.2.2.2.1
theorem v_fret {v : UInt32} {r0 : ρ} (hd : decode cc pc = .ok (.freturn, 1)) (hr : rt = some .float) (ho : out r0 = (.inl (some (.float v)), w)) (h1 : kc ≤ mc) (h2 : ks ≤ ms) : VE g cc nL own rt hh R mc ms out kc ks pc lv [.float v] w (some r0) := by
  intro r hr0 p e s m args below meth c F H locs ls hW hS hl
  cases hr0
  refine vx_ret (W.widen h1 h2 ?_)
  exact W.fret F.1 F.2.1 (F.2.2.2.2.2.2.2.2.2.2.1.trans hr) (fun t ht _ => v_end_aux ho hW hS ht) hS.2.2 hd F.2.2.2.2.2.2.2.2.2.1
/-- throw new E() -/
theorem v_throw {cls : String} {names : List String} {ik ic : Nat} {r0 : ρ} (hh0 : hh = []) (hcls : Bundle.fit cls = true) (hnames : ∀ n ∈ names, Bundle.fit n = true) (hk : Cond.classLink own ik cls ∈ GW) (hini : Cond.initialized cls ∈ GW) (hat : ∀ w ∈ vx_at0 own ic cls names, w ∈ GW ∨ w ∈ NGW)
    (hgood : ∀ w ∈ Cond.classLink own ik cls :: Cond.initialized cls :: vx_at0 own ic cls names, vx_ot w = true)
    (d0 : decode cc pc = .ok (.new ik, 3)) (d3 : decode cc (pc + 3) = .ok (.dup, 1)) (d4 : decode cc (pc + 4) = .ok (.invokespecial ic, 3)) (d7 : decode cc (pc + 7) = .ok (.athrow, 1))
    (hRframes : names.length + 3 < R.frames) (hRlocals : (rest.map fun v => v.category).sum + (13 * (names.length + 1) + 42) ≤ R.locals) (hRcells : kc + 1 ≤ R.cells) (hRslots : ks + 6 ≤ R.slots) (ho : out r0 = (.inr cls, w)) (h1 : kc + 1 ≤ mc) (h2 : ks + 6 ≤ ms) :
    VE g cc nL own rt hh R mc ms out kc ks pc lv rest w (some r0) := by
  intro r hr0 p e s m args below meth c F H locs ls hW hS hl
  cases hr0
  have hts := F.2.2.2.2.1
  have htab : c.exceptionTable.toList = tableOf hh := F.2.2.2.2.2.2.2.2.2.2.2.2
  rw [hh0] at htab
  refine vx_throw0 (A := fun q => g.2.1 ≤ q) F.1 F.2.1 F.2.2.2.2.2.2.2.2.2.2.2.1 F.2.2.2.1 hcls hnames (hts _ hk) (hts _ hini) (fun z hz => (hat z hz).elim (hts _) (fun h9 => ng_moved (u := s) (U := s) (Vm.Alike.refl s.vm) h9 (F.2.2.2.2.2.2.2.2.1.1 z h9))) hgood F.2.2.2.2.2.2.2.1.1 F.2.2.2.2.2.2.2.1.2.1 hS.S (by rw [F.2.2.1]; exact hl.1) d0 d3 d4 d7 (fun x hx => by rw [htab] at hx; cases hx) hRframes hRlocals hRcells hRslots F.2.2.2.2.2.2.2.2.2.1 ?_ hS.2.2 h1 h2
  intro t _ hz hq
  rw [ho]
  refine ⟨rfl, hW.kept hq, Nat.le_trans hS.1 hz, fun q g1 g2 => ?_⟩
  rw [hq q (Nat.lt_of_lt_of_le g1 hS.1)]
  exact hS.2.1 q g1 g2
/-! calls -/
theorem v_pre {av : List Value} {s U : State} {H : Heap} {locs : List Loc} {p : Program} {m : MethodId} {args : Array Value} {meth : Method} {c : Code} (F : FX g cc nL own rt hh p s m args meth c) (hW : RW g w H) (hS : VS g s.heap H locs) (hU : U.heap = H) (hX : s.WarmedH U.vm) : PO g av w av.toArray U :=
  ⟨rfl, by rw [hU]; exact Nat.le_trans F.2.2.2.2.2.2.1 hS.1, by rw [hU]; exact hW, va_K.moved hX.alike F.2.2.2.2.2.1, by rw [hU]; exact SFs.moved hX.alike (F.2.2.2.2.2.2.2.1.kept hS.2.1), fun w hw => ng_moved hX.alike hw (F.2.2.2.2.2.2.2.2.1.1 w hw), fun i x hx => vk_R.warm hX (F.2.2.2.2.2.2.2.2.1.2.1 i x hx), fun x hx => va_Nc.moved hX.alike (F.2.2.2.2.2.2.2.2.1.2.2 x hx)⟩
theorem v_run_aux {p : Program} {e : Env} {s : State} {m : MethodId} {args : Array Value} {below : List Frame} {meth : Method} {c : Code} {H : Heap} {locs : List Loc} {ls : Array Slot} {mcy msy : Nat} {st0 : List Value} {a : Array Value} {o : Out} {Q : State → Prop}
    (hr : vx_Run p g.1 e R s m args below meth c H locs kc ks mcy msy (F0 m pc ls st0) rest (QO g o a) (XO g o) (fun q => g.2.1 ≤ q)) (hS : VS g s.heap H locs)
    (kk : ∀ v w', o = (.inl v, w') → ∀ (H1 : Heap) (locs1 : List Loc), RW g w' H1 → VS g s.heap H1 locs1 → W p g.1 e R s m args below meth c H1 locs1 (kc + mcy) (ks + msy) Q (F0 m (pc + 3) ls (v.toList ++ rest)))
    (kx : ∀ E0 w', o = (.inr E0, w') → ∀ (H1 : Heap) (locs1 : List Loc) (q : Addr) (ce : Cell), RW g w' H1 → VS g s.heap H1 locs1 → H1[q]? = some ce → ce.vm = .none → s.vm.findClass E0 = some ce.cls → vx_W p g.1 e R s m args below meth c H1 locs1 (kc + mcy) (ks + msy) Q (F0 m pc ls rest) q) :
    W p g.1 e R s m args below meth c H locs kc ks Q (F0 m pc ls st0) := by
  obtain ⟨o1, w1⟩ := o
  intro T hT X
  rcases hr T hT X with ⟨v, st₀, t, T', L, h0, X', hL, e1, e2, ⟨⟨v', hv1, hv2⟩, hRW, hF⟩, st⟩ | ⟨q, st₀, t, T', L, E0, ce, h0, X', hL, e1, e2, ⟨hx1, hRW, hF⟩, hce, hcv, hcl, st⟩
  · cases hv2
    have k3 := VS.keep h0 e1 hS hL hF
    dsimp only at hv1
    subst hv1
    obtain ⟨t2, a1, b1⟩ := kk v w1 rfl T'.heap (locs ++ L) (by rw [e1]; exact hRW) k3 T' rfl X'
    exact ⟨t2, st t2 a1, b1⟩
  · have k3 := VS.keep h0 e1 hS hL hF
    dsimp only at hx1
    subst hx1
    obtain ⟨t2, a1, b1⟩ := kx E0 w1 rfl T'.heap (locs ++ L) q ce (by rw [e1]; exact hRW) k3 (by rw [e1]; exact hce) hcv hcl T' rfl X'
    exact ⟨t2, st.trans a1, b1⟩
/-- what the tables say of a virtual call -/
def CV (own : String) (index : Nat) (y : MethodName) (cy : ByteArray) (nLy : Nat) (ry : Option FieldType) (n : Nat) : Prop := Cond.methodLink own index y ∈ GW ∧ Cond.instanceMethod y ∈ GW ∧ Cond.selects y.cls y y ∈ GW ∧ Cond.initialized y.cls ∈ GW ∧ Cond.code y cy nLy ry ∈ GW ∧ (y.cls ≠ "java/lang/invoke/MethodHandle" ∧ y.cls ≠ "java/lang/invoke/VarHandle") ∧ (parseMethodDescriptor y.desc).map (fun d => d.parameters.length) = some n
def CS (own : String) (index : Nat) (y : MethodName) (cy : ByteArray) (nLy : Nat) (ry : Option FieldType) (n : Nat) : Prop := Cond.methodLink own index y ∈ GW ∧ Cond.static y ∈ GW ∧ Cond.initialized y.cls ∈ GW ∧ Cond.code y cy nLy ry ∈ GW ∧ (y.cls ≠ "java/lang/invoke/MethodHandle" ∧ y.cls ≠ "java/lang/invoke/VarHandle") ∧ (parseMethodDescriptor y.desc).map (fun d => d.parameters.length) = some n
theorem GW_pay {s : State} {args : Array Value} {hd : Cond} (hhd : hd ∈ GW) (hts : ∀ w ∈ GW, w.before args s = true) : ∀ w ∈ hd :: GW, ∀ (a' : Array Value) (U : State), s.WarmedH U.vm → w.before a' U = true := by
  refine pay_in hts (fun w hw => ?_)
  have h : w ∈ GW := by
    rcases List.mem_cons.mp hw with e | e
    · rw [e]; exact hhd
    · exact e
  exact ⟨h, GW_good h⟩
theorem v_len {y : MethodName} {n : Nat} (h : (parseMethodDescriptor y.desc).map (fun d => d.parameters.length) = some n) : ∀ sig, parseMethodDescriptor y.desc = some sig → n = sig.parameters.length := by
  intro sig h2
  rw [h2] at h
  exact (Option.some.inj h).symm
/-- the room of a callee, and what it may make -/
abbrev CR (R : Room) (nLy mcy msy : Nat) (rm : Room) (kc ks : Nat) : Prop := (rm.cells = mcy ∧ rm.slots = msy ∧ rm.frames + 1 ≤ R.frames ∧ 8 + (nLy + 11) + rm.locals ≤ R.locals) ∧ kc + mcy ≤ R.cells ∧ ks + msy ≤ R.slots
theorem v_runV {index nLy n mcy msy k ci N : Nat} {y : MethodName} {cy : ByteArray} {ry : Option FieldType} {rm : Room} {As : List Value} {fs : List (Option Nat)} {T : u_T} {o : Out} {p : Program} {e : Env} {s : State} {m : MethodId} {args : Array Value} {below : List Frame} {meth : Method} {c : Code} {H : Heap} {locs : List Loc} {ls : Array Slot}
    (F : FX g cc nL own rt hh p s m args meth c) (hc : CV own index y cy nLy ry n) (hM : MM g (.code y cy nLy ry) y rm mcy msy (.ref (g.2.1 + k) :: As) w o) (hT : TT[k]? = some (0, ci, fs)) (hC : vwCl[ci]? = some (y.cls, T, N)) (hn : As.length = n) (hst : (rest.map fun v => v.category).sum ≤ 8)
    (hd : decode cc pc = .ok (.invokevirtual index, 3)) (hR : CR R nLy mcy msy rm kc ks) (hW : RW g w H) (hS : VS g s.heap H locs) (hl : ls.size = nL) :
    vx_Run p g.1 e R s m args below meth c H locs kc ks mcy msy (F0 m pc ls (As.reverse ++ .ref (g.2.1 + k) :: rest)) rest (QO g o (Value.ref (g.2.1 + k) :: As).toArray) (XO g o) (fun q => g.2.1 ≤ q) := by
  have hts := F.2.2.2.2.1
  obtain ⟨c1, c2, c3, c4, c5, c6, c7⟩ := hc
  exact vx_runV (Ts := GW) (nL := nL) (C := y.cls) (n := n) (bytes := cy) (maxL := nLy) (ret := ry) ⟨F.1, F.2.1, F.2.2.1, F.2.2.2.1, hts⟩ hM
    ⟨⟨hR.1.1, hR.1.2.1, hR.1.2.2.1, hR.1.2.2.2, GW_pay c5 hts, List.mem_cons_self, hts _ c5, hts _ c4, c6, v_len c7, hts _ c1⟩, hts _ c2, hts _ c3⟩
    ⟨PO_blind, va_recv (q0 := 0) F.2.2.2.2.2.1 (hW.one hT) hC rfl, fun U hU hX => v_pre F hW hS hU hX⟩ rfl hn hl rfl (by show 2 * 0 + _ ≤ 8; omega) hd hR.2
theorem v_runS {index nLy n mcy msy : Nat} {y : MethodName} {cy : ByteArray} {ry : Option FieldType} {rm : Room} {As : List Value} {o : Out} {p : Program} {e : Env} {s : State} {m : MethodId} {args : Array Value} {below : List Frame} {meth : Method} {c : Code} {H : Heap} {locs : List Loc} {ls : Array Slot}
    (F : FX g cc nL own rt hh p s m args meth c) (hc : CS own index y cy nLy ry n) (hM : MM g (.code y cy nLy ry) y rm mcy msy As w o) (hn : As.length = n) (hst : (rest.map fun v => v.category).sum ≤ 8)
    (hd : decode cc pc = .ok (.invokestatic index, 3)) (hR : CR R nLy mcy msy rm kc ks) (hW : RW g w H) (hS : VS g s.heap H locs) (hl : ls.size = nL) :
    vx_Run p g.1 e R s m args below meth c H locs kc ks mcy msy (F0 m pc ls (As.reverse ++ rest)) rest (QO g o As.toArray) (XO g o) (fun q => g.2.1 ≤ q) := by
  have hts := F.2.2.2.2.1
  obtain ⟨c1, c2, c4, c5, c6, c7⟩ := hc
  exact vx_runS (Ts := GW) (nL := nL) (n := n) (bytes := cy) (maxL := nLy) (ret := ry) ⟨F.1, F.2.1, F.2.2.1, F.2.2.2.1, hts⟩ hM
    ⟨⟨hR.1.1, hR.1.2.1, hR.1.2.2.1, hR.1.2.2.2, GW_pay c5 hts, List.mem_cons_self, hts _ c5, hts _ c4, c6, v_len c7, hts _ c1⟩, hts _ c2⟩
    ⟨PO_blind, fun U hU hX => v_pre F hW hS hU hX⟩ rfl hn hl rfl (by show 2 * 0 + _ ≤ 8; omega) hd hR.2
/-- a virtual call whose callee is F: it returns v in the store w', or throws -/
theorem v_callV {ρF : Type} {Fy : Option ρF} {outF : ρF → Out} {K : ρF → Option ρ} {index nLy n mcy msy k ci N : Nat} {y : MethodName} {cy : ByteArray} {ry : Option FieldType} {rm : Room} {As st : List Value} {fs : List (Option Nat)} {T : u_T}
    (hc : CV own index y cy nLy ry n) (hM : ∀ q, Fy = some q → MM g (.code y cy nLy ry) y rm mcy msy (.ref (g.2.1 + k) :: As) w (outF q)) (hT : TT[k]? = some (0, ci, fs)) (hC : vwCl[ci]? = some (y.cls, T, N)) (hn : As.length = n) (hs : st = As.reverse ++ .ref (g.2.1 + k) :: rest) (hst : (rest.map fun v => v.category).sum ≤ 8)
    (hd : decode cc pc = .ok (.invokevirtual index, 3)) (hR : CR R nLy mcy msy rm kc ks)
    (kk : ∀ q v w', outF q = (.inl v, w') → VE g cc nL own rt hh R mc ms out (kc + mcy) (ks + msy) (pc + 3) lv (v.toList ++ rest) w' (K q))
    (kx : ∀ q E0 w', outF q = (.inr E0, w') → VX g cc nL own rt hh R mc ms out (kc + mcy) (ks + msy) pc lv E0 w' (K q)) :
    VE g cc nL own rt hh R mc ms out kc ks pc lv st w (Fy.bind K) := by
  intro r hr p e s m args below meth c F H locs ls hW hS hl
  cases hF : Fy with
  | none => rw [hF] at hr; cases hr
  | some q =>
    rw [hF] at hr
    have hr' : K q = some r := hr
    subst hs
    exact v_run_aux (v_runV F hc (hM q hF) hT hC hn hst hd hR hW hS hl.1) hS
      (fun v w' ho H1 locs1 hW1 hS1 => kk q v w' ho r hr' p e s m args below meth c F H1 locs1 ls hW1 hS1 hl)
      (fun E0 w' ho H1 locs1 a ce hW1 hS1 h1 h2 h3 => kx q E0 w' ho r hr' p e s m args below meth c F H1 locs1 ls rest a ce hW1 hS1 hl h1 h2 h3)
theorem v_callS {ρF : Type} {Fy : Option ρF} {outF : ρF → Out} {K : ρF → Option ρ} {index nLy n mcy msy : Nat} {y : MethodName} {cy : ByteArray} {ry : Option FieldType} {rm : Room} {As st : List Value}
    (hc : CS own index y cy nLy ry n) (hM : ∀ q, Fy = some q → MM g (.code y cy nLy ry) y rm mcy msy As w (outF q)) (hn : As.length = n) (hs : st = As.reverse ++ rest) (hst : (rest.map fun v => v.category).sum ≤ 8)
    (hd : decode cc pc = .ok (.invokestatic index, 3)) (hR : CR R nLy mcy msy rm kc ks)
    (kk : ∀ q v w', outF q = (.inl v, w') → VE g cc nL own rt hh R mc ms out (kc + mcy) (ks + msy) (pc + 3) lv (v.toList ++ rest) w' (K q))
    (kx : ∀ q E0 w', outF q = (.inr E0, w') → VX g cc nL own rt hh R mc ms out (kc + mcy) (ks + msy) pc lv E0 w' (K q)) :
    VE g cc nL own rt hh R mc ms out kc ks pc lv st w (Fy.bind K) := by
  intro r hr p e s m args below meth c F H locs ls hW hS hl
  cases hF : Fy with
  | none => rw [hF] at hr; cases hr
  | some q =>
    rw [hF] at hr
    have hr' : K q = some r := hr
    subst hs
    exact v_run_aux (v_runS F hc (hM q hF) hn hst hd hR hW hS hl.1) hS
      (fun v w' ho H1 locs1 hW1 hS1 => kk q v w' ho r hr' p e s m args below meth c F H1 locs1 ls hW1 hS1 hl)
      (fun E0 w' ho H1 locs1 a ce hW1 hS1 h1 h2 h3 => kx q E0 w' ho r hr' p e s m args below meth c F H1 locs1 ls rest a ce hW1 hS1 hl h1 h2 h3)
/-- not caught here -/
theorem v_out {E0 : String} {r0 : ρ} (hh0 : hh = []) (ho : out r0 = (.inr E0, w)) (h1 : kc ≤ mc) (h2 : ks ≤ ms) : VX g cc nL own rt hh R mc ms out kc ks pc lv E0 w (some r0) := by
  intro r hr0 p e s m args below meth c F H locs ls rest q ce hW hS hl hce hcv hcl
  cases hr0
  have htab : c.exceptionTable.toList = tableOf hh := F.2.2.2.2.2.2.2.2.2.2.2.2
  rw [hh0] at htab
  refine vx_out (fun x hx => by rw [htab] at hx; cases hx) F.2.2.2.2.2.2.2.2.2.1 hce hcv hcl (fun t ht _ => ?_) hS.2.2 h1 h2
  rw [ho]
  exact ⟨rfl, by rw [ht]; exact hW, hS.F ht⟩
/-! the kinds of outcome: an int, nothing, a reference or null, each perhaps an exception -/
abbrev oI (q : Int32 × XW) : Out := (.inl (some (.int q.1)), q.2)
abbrev oV (q : XW) : Out := (.inl none, q)
abbrev oD (q : UInt64 × XW) : Out := (.inl (some (.double q.1)), q.2)
abbrev oF (q : UInt32 × XW) : Out := (.inl (some (.float q.1)), q.2)
abbrev oQ (g : GC) (q : Option Nat × XW) : Out := (.inl (some (match q.1 with | none => .null | some t => .ref (g.2.1 + t))), q.2)
/-- a String constant, by its place in strTab -/
abbrev oS (g : GC) (q : Nat × XW) : Out := (.inl (some (.ref (g.2.2.2.2.1 q.1))), q.2)
abbrev oIX (q : (Int32 × XW) ⊕ (String × XW)) : Out := match q with | .inl q => oI q | .inr x => (.inr x.1, x.2)
abbrev oVX (q : XW ⊕ (String × XW)) : Out := match q with | .inl q => oV q | .inr x => (.inr x.1, x.2)
abbrev oDX (q : (UInt64 × XW) ⊕ (String × XW)) : Out := match q with | .inl q => oD q | .inr x => (.inr x.1, x.2)
abbrev oFX (q : (UInt32 × XW) ⊕ (String × XW)) : Out := match q with | .inl q => oF q | .inr x => (.inr x.1, x.2)
/-! go on behind a call -/
def bI {ρ : Type} (F : Option (Int32 × XW)) (K : Int32 → XW → Option ρ) : Option ρ := F.bind fun q => K q.1 q.2
def bD {ρ : Type} (F : Option (UInt64 × XW)) (K : UInt64 → XW → Option ρ) : Option ρ := F.bind fun q => K q.1 q.2
def bF {ρ : Type} (F : Option (UInt32 × XW)) (K : UInt32 → XW → Option ρ) : Option ρ := F.bind fun q => K q.1 q.2
def bV {ρ : Type} (F : Option XW) (K : XW → Option ρ) : Option ρ := F.bind fun q => K q
def bQ {ρ : Type} (F : Option (Option Nat × XW)) (K0 : XW → Option ρ) (K1 : Nat → XW → Option ρ) : Option ρ := F.bind fun q => match q.1 with | none => K0 q.2 | some t => K1 t q.2
def bS {ρ : Type} (F : Option (Nat × XW)) (K : Nat → XW → Option ρ) : Option ρ := F.bind fun q => K q.1 q.2
def bIX {β : Type} (F : Option ((Int32 × XW) ⊕ (String × XW))) (K : Int32 → XW → Option (β ⊕ (String × XW))) : Option (β ⊕ (String × XW)) := F.bind fun q => match q with | .inl a => K a.1 a.2 | .inr x => some (.inr x)
def bVX {β : Type} (F : Option (XW ⊕ (String × XW))) (K : XW → Option (β ⊕ (String × XW))) : Option (β ⊕ (String × XW)) := F.bind fun q => match q with | .inl a => K a | .inr x => some (.inr x)
/-- a guard, an index in its row -/
abbrev inB (i : Int32) (n : Nat) : Prop := ¬ (i < 0 ∨ n ≤ i.toNatClampNeg)
abbrev fitsZ (w : XW) (k n : Nat) : Prop := ∀ i, i < n → fits .boolean (.int (w.1 k ((0 : Int32).toNatClampNeg + i))) = true
section CALLS
variable {index nLy n mcy msy k ci N : Nat} {y : MethodName} {cy : ByteArray} {ry : Option FieldType} {rm : Room} {As st : List Value} {fs : List (Option Nat)} {T : u_T}
theorem v_callVi {Fy : Option (Int32 × XW)} {K : Int32 → XW → Option ρ} (hc : CV own index y cy nLy ry n) (hM : ∀ q, Fy = some q → MM g (.code y cy nLy ry) y rm mcy msy (.ref (g.2.1 + k) :: As) w (oI q)) (hT : TT[k]? = some (0, ci, fs)) (hC : vwCl[ci]? = some (y.cls, T, N)) (hn : As.length = n) (hs : st = As.reverse ++ .ref (g.2.1 + k) :: rest) (hst : (rest.map fun v => v.category).sum ≤ 8) (hd : decode cc pc = .ok (.invokevirtual index, 3)) (hR : CR R nLy mcy msy rm kc ks)
    (kk : ∀ x w', VE g cc nL own rt hh R mc ms out (kc + mcy) (ks + msy) (pc + 3) lv (.int x :: rest) w' (K x w')) : VE g cc nL own rt hh R mc ms out kc ks pc lv st w (bI Fy K) :=
  v_callV hc hM hT hC hn hs hst hd hR (fun q v w' h => by cases h; exact kk q.1 q.2) (fun q E0 w' h => by cases h)
theorem v_callVv {Fy : Option XW} {K : XW → Option ρ} (hc : CV own index y cy nLy ry n) (hM : ∀ q, Fy = some q → MM g (.code y cy nLy ry) y rm mcy msy (.ref (g.2.1 + k) :: As) w (oV q)) (hT : TT[k]? = some (0, ci, fs)) (hC : vwCl[ci]? = some (y.cls, T, N)) (hn : As.length = n) (hs : st = As.reverse ++ .ref (g.2.1 + k) :: rest) (hst : (rest.map fun v => v.category).sum ≤ 8) (hd : decode cc pc = .ok (.invokevirtual index, 3)) (hR : CR R nLy mcy msy rm kc ks)
    (kk : ∀ w', VE g cc nL own rt hh R mc ms out (kc + mcy) (ks + msy) (pc + 3) lv rest w' (K w')) : VE g cc nL own rt hh R mc ms out kc ks pc lv st w (bV Fy K) :=
  v_callV hc hM hT hC hn hs hst hd hR (fun q v w' h => by cases h; exact kk q) (fun q E0 w' h => by cases h)
theorem v_callVq {Fy : Option (Option Nat × XW)} {K0 : XW → Option ρ} {K1 : Nat → XW → Option ρ} (hc : CV own index y cy nLy ry n) (hM : ∀ q, Fy = some q → MM g (.code y cy nLy ry) y rm mcy msy (.ref (g.2.1 + k) :: As) w (oQ g q)) (hT : TT[k]? = some (0, ci, fs)) (hC : vwCl[ci]? = some (y.cls, T, N)) (hn : As.length = n) (hs : st = As.reverse ++ .ref (g.2.1 + k) :: rest) (hst : (rest.map fun v => v.category).sum ≤ 8) (hd : decode cc pc = .ok (.invokevirtual index, 3)) (hR : CR R nLy mcy msy rm kc ks)
    (k0 : ∀ w', VE g cc nL own rt hh R mc ms out (kc + mcy) (ks + msy) (pc + 3) lv (.null :: rest) w' (K0 w')) (k1 : ∀ t w', VE g cc nL own rt hh R mc ms out (kc + mcy) (ks + msy) (pc + 3) lv (.ref (g.2.1 + t) :: rest) w' (K1 t w')) : VE g cc nL own rt hh R mc ms out kc ks pc lv st w (bQ Fy K0 K1) :=
  v_callV hc hM hT hC hn hs hst hd hR (fun q v w' h => by
    obtain ⟨q1, q2⟩ := q
    cases q1 with
    | none => cases h; exact k0 q2
    | some t => cases h; exact k1 t q2) (fun q E0 w' h => by cases h)
theorem v_callVix {β : Type} {out : (β ⊕ (String × XW)) → Out} {Fy : Option ((Int32 × XW) ⊕ (String × XW))} {K : Int32 → XW → Option (β ⊕ (String × XW))} (hh0 : hh = []) (hox : ∀ x, out (.inr x) = (.inr x.1, x.2)) (h1 : kc + mcy ≤ mc) (h2 : ks + msy ≤ ms) (hc : CV own index y cy nLy ry n) (hM : ∀ q, Fy = some q → MM g (.code y cy nLy ry) y rm mcy msy (.ref (g.2.1 + k) :: As) w (oIX q)) (hT : TT[k]? = some (0, ci, fs)) (hC : vwCl[ci]? = some (y.cls, T, N)) (hn : As.length = n) (hs : st = As.reverse ++ .ref (g.2.1 + k) :: rest) (hst : (rest.map fun v => v.category).sum ≤ 8) (hd : decode cc pc = .ok (.invokevirtual index, 3)) (hR : CR R nLy mcy msy rm kc ks)
    (kk : ∀ x w', VE g cc nL own rt hh R mc ms out (kc + mcy) (ks + msy) (pc + 3) lv (.int x :: rest) w' (K x w')) : VE g cc nL own rt hh R mc ms out kc ks pc lv st w (bIX Fy K) :=
  v_callV hc hM hT hC hn hs hst hd hR (fun q v w' h => by
    cases q with
    | inl q => cases h; exact kk q.1 q.2
    | inr x => cases h) (fun q E0 w' h => by
    cases q with
    | inl q => cases h
    | inr x => cases h; exact v_out hh0 (hox x) h1 h2)
theorem v_callVvx {β : Type} {out : (β ⊕ (String × XW)) → Out} {Fy : Option (XW ⊕ (String × XW))} {K : XW → Option (β ⊕ (String × XW))} (hh0 : hh = []) (hox : ∀ x, out (.inr x) = (.inr x.1, x.2)) (h1 : kc + mcy ≤ mc) (h2 : ks + msy ≤ ms) (hc : CV own index y cy nLy ry n) (hM : ∀ q, Fy = some q → MM g (.code y cy nLy ry) y rm mcy msy (.ref (g.2.1 + k) :: As) w (oVX q)) (hT : TT[k]? = some (0, ci, fs)) (hC : vwCl[ci]? = some (y.cls, T, N)) (hn : As.length = n) (hs : st = As.reverse ++ .ref (g.2.1 + k) :: rest) (hst : (rest.map fun v => v.category).sum ≤ 8) (hd : decode cc pc = .ok (.invokevirtual index, 3)) (hR : CR R nLy mcy msy rm kc ks)
    (kk : ∀ w', VE g cc nL own rt hh R mc ms out (kc + mcy) (ks + msy) (pc + 3) lv rest w' (K w')) : VE g cc nL own rt hh R mc ms out kc ks pc lv st w (bVX Fy K) :=
  v_callV hc hM hT hC hn hs hst hd hR (fun q v w' h => by
    cases q with
    | inl q => cases h; exact kk _
    | inr x => cases h) (fun q E0 w' h => by
    cases q with
    | inl q => cases h
    | inr x => cases h; exact v_out hh0 (hox x) h1 h2)
theorem v_callSi {Fy : Option (Int32 × XW)} {K : Int32 → XW → Option ρ} (hc : CS own index y cy nLy ry n) (hM : ∀ q, Fy = some q → MM g (.code y cy nLy ry) y rm mcy msy As w (oI q)) (hn : As.length = n) (hs : st = As.reverse ++ rest) (hst : (rest.map fun v => v.category).sum ≤ 8) (hd : decode cc pc = .ok (.invokestatic index, 3)) (hR : CR R nLy mcy msy rm kc ks)
    (kk : ∀ x w', VE g cc nL own rt hh R mc ms out (kc + mcy) (ks + msy) (pc + 3) lv (.int x :: rest) w' (K x w')) : VE g cc nL own rt hh R mc ms out kc ks pc lv st w (bI Fy K) :=
  v_callS hc hM hn hs hst hd hR (fun q v w' h => by cases h; exact kk q.1 q.2) (fun q E0 w' h => by cases h)
theorem v_callSv {Fy : Option XW} {K : XW → Option ρ} (hc : CS own index y cy nLy ry n) (hM : ∀ q, Fy = some q → MM g (.code y cy nLy ry) y rm mcy msy As w (oV q)) (hn : As.length = n) (hs : st = As.reverse ++ rest) (hst : (rest.map fun v => v.category).sum ≤ 8) (hd : decode cc pc = .ok (.invokestatic index, 3)) (hR : CR R nLy mcy msy rm kc ks)
    (kk : ∀ w', VE g cc nL own rt hh R mc ms out (kc + mcy) (ks + msy) (pc + 3) lv rest w' (K w')) : VE g cc nL own rt hh R mc ms out kc ks pc lv st w (bV Fy K) :=
  v_callS hc hM hn hs hst hd hR (fun q v w' h => by cases h; exact kk q) (fun q E0 w' h => by cases h)
theorem v_callSs {Fy : Option (Nat × XW)} {K : Nat → XW → Option ρ} (hc : CS own index y cy nLy ry n) (hM : ∀ q, Fy = some q → MM g (.code y cy nLy ry) y rm mcy msy As w (oS g q)) (hn : As.length = n) (hs : st = As.reverse ++ rest) (hst : (rest.map fun v => v.category).sum ≤ 8) (hd : decode cc pc = .ok (.invokestatic index, 3)) (hR : CR R nLy mcy msy rm kc ks)
    (kk : ∀ x w', VE g cc nL own rt hh R mc ms out (kc + mcy) (ks + msy) (pc + 3) lv (.ref (g.2.2.2.2.1 x) :: rest) w' (K x w')) : VE g cc nL own rt hh R mc ms out kc ks pc lv st w (bS Fy K) :=
  v_callS hc hM hn hs hst hd hR (fun q v w' h => by cases h; exact kk q.1 q.2) (fun q E0 w' h => by cases h)
end CALLS
/-! constants, Strings, the script, the law's long and double -/
theorem v_ldc {index : Nat} {v : Int32} (hw : Cond.constant own index v ∈ GW) (hd : decode cc pc = .ok (.ldc index, 2)) (k : VE g cc nL own rt hh R mc ms out kc ks (pc + 2) lv (.int v :: rest) w E) : VE g cc nL own rt hh R mc ms out kc ks pc lv rest w E :=
  fun r hr p e s m args below meth c F H locs ls hW hS hl => lv_ldc F.1 F.2.1 F.2.2.2.1 (F.2.2.2.2.1 _ hw) hd (k r hr p e s m args below meth c F H locs ls hW hS hl)
theorem v_ldcw {index : Nat} {v : Int32} (hw : Cond.constant own index v ∈ GW) (hd : decode cc pc = .ok (.ldc_w index, 3)) (k : VE g cc nL own rt hh R mc ms out kc ks (pc + 3) lv (.int v :: rest) w E) : VE g cc nL own rt hh R mc ms out kc ks pc lv rest w E :=
  fun r hr p e s m args below meth c F H locs ls hW hS hl => lv_ldcw F.1 F.2.1 F.2.2.2.1 (F.2.2.2.2.1 _ hw) hd (k r hr p e s m args below meth c F H locs ls hW hS hl)
theorem v_ldcS {index i : Nat} {tx : String} {bs : List Int32} (hi : strTab[i]? = some (own, index, tx, bs)) (hd : decode cc pc = .ok (.ldc index, 2)) (k : VE g cc nL own rt hh R mc ms out kc ks (pc + 2) lv (.ref (g.2.2.2.2.1 i) :: rest) w E) : VE g cc nL own rt hh R mc ms out kc ks pc lv rest w E :=
  fun r hr p e s m args below meth c F H locs ls hW hS hl => va_ldcS F.1 F.2.1 F.2.2.2.1 (F.2.2.2.2.2.2.2.2.1.2.1 i _ hi) hd (k r hr p e s m args below meth c F H locs ls hW hS hl)
theorem v_ldcSw {index i : Nat} {tx : String} {bs : List Int32} (hi : strTab[i]? = some (own, index, tx, bs)) (hd : decode cc pc = .ok (.ldc_w index, 3)) (k : VE g cc nL own rt hh R mc ms out kc ks (pc + 3) lv (.ref (g.2.2.2.2.1 i) :: rest) w E) : VE g cc nL own rt hh R mc ms out kc ks pc lv rest w E := by
  intro r hr p e s m args below meth c F H locs ls hW hS hl T hT X
  obtain ⟨t, a1, b1⟩ := k r hr p e s m args below meth c F H locs ls hW hS hl T hT X
  have hz := F.2.2.2.2.2.2.2.2.1.2.1 i _ hi
  have hz0 : (Cond.stringRef own index tx).before args s = true := hz.1
  exact ⟨t, X.ldcStringW F.1 F.2.2.2.1 (text := tx) (a := g.2.2.2.2.1 i) hz.1 hz.2 (g := F0 m pc ls rest) rfl (by rw [F.2.1]; exact hd) t a1, b1⟩
theorem v_iushr {x y : Int32} (hd : decode cc pc = .ok (.iushr, 1)) (k : VE g cc nL own rt hh R mc ms out kc ks (pc + 1) lv (.int (x.toUInt32 >>> (y.toUInt32 &&& Int32.toUInt32 31)).toInt32 :: rest) w E) : VE g cc nL own rt hh R mc ms out kc ks pc lv (.int y :: .int x :: rest) w E :=
  fun r hr p e s m args below meth c F H locs ls hW hS hl => lv_iushr F.1 F.2.1 hd rfl (k r hr p e s m args below meth c F H locs ls hW hS hl)
theorem v_sld {i : Int32} (hin : vp_in i g.2.2.2.2.2.2.2.1) (hd : decode cc pc = .ok (.iaload, 1)) (k : VE g cc nL own rt hh R mc ms out kc ks (pc + 1) lv (.int (g.2.2.2.2.2.2.2.2.1 i.toNatClampNeg) :: rest) w E) : VE g cc nL own rt hh R mc ms out kc ks pc lv (.int i :: .ref g.2.2.2.2.2.2.1 :: rest) w E :=
  fun r hr p e s m args below meth c F H locs ls hW hS hl => va_ti F.1 F.2.1 F.2.2.2.2.2.2.2.1.2.2.2.1 hS.S hin rfl hd (k r hr p e s m args below meth c F H locs ls hW hS hl)
theorem v_slen (hd : decode cc pc = .ok (.arraylength, 1)) (k : VE g cc nL own rt hh R mc ms out kc ks (pc + 1) lv (.int (Int32.ofNat g.2.2.2.2.2.2.2.1) :: rest) w E) : VE g cc nL own rt hh R mc ms out kc ks pc lv (.ref g.2.2.2.2.2.2.1 :: rest) w E :=
  fun r hr p e s m args below meth c F H locs ls hW hS hl => va_tlen F.1 F.2.1 F.2.2.2.2.2.2.2.1.2.2.2.1 hS.S rfl hd (k r hr p e s m args below meth c F H locs ls hW hS hl)
theorem TT_4 : ∀ k q, TT[k]? = some q → k ≠ 141 → q.1 ≠ 4 := by
  have h : ∀ k, k < 142 → ∀ q ∈ TT[k]?, k ≠ 141 → q.1 ≠ 4 := by decide +kernel
  intro k q hk
  have hl : k < TT.length := (List.getElem?_eq_some_iff.mp hk).1
  exact h k (by have : TT.length = 142 := by decide +kernel
                omega) q hk
theorem TT_141 : TT[141]? = some (4, 70, []) := by decide +kernel
/-- the law's row of long numbers -/
def lset (w : XW) (j : Nat) (v : Int64) : XW := (w.1, fun c => if c = j then v else w.2 c)
theorem v_lastG {n : Nat} {i : Int32} {x : Int64} (hT : TT[141]? = some (4, n, [])) (hin : vp_in i n) (hd : decode cc pc = .ok (.lastore, 1)) (kk : VE g cc nL own rt hh R mc ms out kc ks (pc + 1) lv rest (lset w i.toNatClampNeg x) E) : VE g cc nL own rt hh R mc ms out kc ks pc lv (.long x :: .int i :: .ref (g.2.1 + 141) :: rest) w E := by
  intro r hr p e s m args below meth c F H locs ls hW hS hl
  have h1 := hW 141 _ hT
  have h2 := (F.2.2.2.2.2.1.2 3 _ rfl).1 n (fun j => .long (w.2 j))
  refine W.last F.1 F.2.1 h1 h2 (fun q => by cases q) (by show ¬ (i < 0 ∨ (arrV _ _ _).slots.size ≤ _); rw [arrV_size]; exact hin) rfl rfl hd fun H1 e1 z oq => ?_
  refine kk r hr p e s m args below meth c F H1 _ ls (RW.put hW hT ?_ oq (fun _ _ => rfl) (Or.inr fun k' q' hk' hq' => ?_)) (hS.put hT z oq) hl
  · show H1[_]? = some (vp_cell _ _)
    rw [e1, vp_cell_l, vp_cell_l, arrV_store]
    have ef : updV (fun j => Value.long (w.2 j)) i.toNatClampNeg (.long x) = fun j => Value.long ((lset w i.toNatClampNeg x).2 j) := by
      funext q
      unfold lset
      by_cases hq : q = i.toNatClampNeg
      · simp [updV, hq]
      · simp [updV, hq]
    rw [ef]
  · have q1 := TT_4 k' q' hq' hk'
    obtain ⟨a1, a2⟩ := q'
    unfold layE
    match a1, q1 with
    | 0, _ => rfl
    | 1, _ => rfl
    | 2, _ => rfl
    | 3, _ => rfl
    | 4, h => exact absurd rfl h
    | 5, _ => rfl
    | n + 6, _ => rfl
theorem v_last {i : Int32} {x : Int64} (hin : vp_in i 70) (hd : decode cc pc = .ok (.lastore, 1)) (kk : VE g cc nL own rt hh R mc ms out kc ks (pc + 1) lv rest (lset w i.toNatClampNeg x) E) : VE g cc nL own rt hh R mc ms out kc ks pc lv (.long x :: .int i :: .ref (g.2.1 + 141) :: rest) w E := v_lastG TT_141 hin hd kk
theorem v_lald {i : Int32} (hin : vp_in i 70) (hd : decode cc pc = .ok (.laload, 1)) (k : VE g cc nL own rt hh R mc ms out kc ks (pc + 1) lv (.long (w.2 i.toNatClampNeg) :: rest) w E) : VE g cc nL own rt hh R mc ms out kc ks pc lv (.int i :: .ref (g.2.1 + 141) :: rest) w E :=
  fun r hr p e s m args below meth c F H locs ls hW hS hl => va_lald (D := g.2.2.2.1) (cl := vwCl) (tys := tysL g) (f := w.2) F.1 F.2.1 F.2.2.2.2.2.1 (hW.one TT_141) 0 3 rfl rfl hin hd (k r hr p e s m args below meth c F H locs ls hW hS hl)
theorem v_lret {v : Int64} {r0 : ρ} (hd : decode cc pc = .ok (.lreturn, 1)) (hr : rt = some .long) (ho : out r0 = (.inl (some (.long v)), w)) (h1 : kc ≤ mc) (h2 : ks ≤ ms) : VE g cc nL own rt hh R mc ms out kc ks pc lv [.long v] w (some r0) := by
  intro r hr0 p e s m args below meth c F H locs ls hW hS hl
  cases hr0
  refine vx_ret (W.widen h1 h2 ?_)
  exact W.lret F.1 F.2.1 (F.2.2.2.2.2.2.2.2.2.2.1.trans hr) (fun t ht _ => v_end_aux ho hW hS ht) hS.2.2 hd F.2.2.2.2.2.2.2.2.2.1
theorem v_ldc2 {index : Nat} {v : Int64} (hw : Cond.constantLong own index v ∈ GW) (hd : decode cc pc = .ok (.ldc2_w index, 3)) (k : VE g cc nL own rt hh R mc ms out kc ks (pc + 3) lv (.long v :: rest) w E) : VE g cc nL own rt hh R mc ms out kc ks pc lv rest w E :=
  fun r hr p e s m args below meth c F H locs ls hW hS hl => lv_ldc2 F.1 F.2.1 F.2.2.2.1 (F.2.2.2.2.1 _ hw) hd (k r hr p e s m args below meth c F H locs ls hW hS hl)
theorem v_ldc2d {index : Nat} {v : UInt64} (hw : Cond.constantDouble own index v ∈ GW) (hd : decode cc pc = .ok (.ldc2_w index, 3)) (k : VE g cc nL own rt hh R mc ms out kc ks (pc + 3) lv (.double v :: rest) w E) : VE g cc nL own rt hh R mc ms out kc ks pc lv rest w E :=
  fun r hr p e s m args below meth c F H locs ls hW hS hl => lv_ldc2d F.1 F.2.1 F.2.2.2.1 (F.2.2.2.2.1 _ hw) hd (k r hr p e s m args below meth c F H locs ls hW hS hl)
theorem v_ldcf {index : Nat} {v : UInt32} (hw : Cond.constantFloat own index v ∈ GW) (hd : decode cc pc = .ok (.ldc index, 2)) (k : VE g cc nL own rt hh R mc ms out kc ks (pc + 2) lv (.float v :: rest) w E) : VE g cc nL own rt hh R mc ms out kc ks pc lv rest w E :=
  fun r hr p e s m args below meth c F H locs ls hW hS hl => lv_ldcf F.1 F.2.1 F.2.2.2.1 (F.2.2.2.2.1 _ hw) hd (k r hr p e s m args below meth c F H locs ls hW hS hl)
/-! Math.min, Math.max -/
theorem v_min {index : Nat} {x y : Int32} (h1 : Cond.methodLink own index Lib.Math.min.name ∈ GW) (h2 : Cond.static Lib.Math.min.name ∈ GW) (h3 : Cond.initialized "java/lang/Math" ∈ GW) (h4 : Cond.code Lib.Math.min.name Lib.Math.min.code 2 (some .int) ∈ GW) (hd : decode cc pc = .ok (.invokestatic index, 3)) (hf : 1 ≤ R.frames) (hlo : (rest.map fun v => v.category).sum + 13 ≤ R.locals) (hkc : kc ≤ R.cells) (hks : ks ≤ R.slots)
    (k : VE g cc nL own rt hh R mc ms out kc ks (pc + 3) lv (.int (if y < x then y else x) :: rest) w E) : VE g cc nL own rt hh R mc ms out kc ks pc lv (.int y :: .int x :: rest) w E :=
  fun r hr p e s m args below meth c F H locs ls hW hS hl => va_mmin F.1 F.2.1 (by rw [F.2.2.1]; exact hl.1.symm) F.2.2.2.1 (F.2.2.2.2.1 _ h1) (F.2.2.2.2.1 _ h2) (F.2.2.2.2.1 _ h3) (F.2.2.2.2.1 _ h4) hf hlo hkc hks hd (k r hr p e s m args below meth c F H locs ls hW hS hl)
theorem v_max {index : Nat} {x y : Int32} (h1 : Cond.methodLink own index Lib.Math.max.name ∈ GW) (h2 : Cond.static Lib.Math.max.name ∈ GW) (h3 : Cond.initialized "java/lang/Math" ∈ GW) (h4 : Cond.code Lib.Math.max.name Lib.Math.max.code 2 (some .int) ∈ GW) (hd : decode cc pc = .ok (.invokestatic index, 3)) (hf : 1 ≤ R.frames) (hlo : (rest.map fun v => v.category).sum + 13 ≤ R.locals) (hkc : kc ≤ R.cells) (hks : ks ≤ R.slots)
    (k : VE g cc nL own rt hh R mc ms out kc ks (pc + 3) lv (.int (if x < y then y else x) :: rest) w E) : VE g cc nL own rt hh R mc ms out kc ks pc lv (.int y :: .int x :: rest) w E :=
  fun r hr p e s m args below meth c F H locs ls hW hS hl => va_mmax F.1 F.2.1 (by rw [F.2.2.1]; exact hl.1.symm) F.2.2.2.1 (F.2.2.2.2.1 _ h1) (F.2.2.2.2.1 _ h2) (F.2.2.2.2.1 _ h3) (F.2.2.2.2.1 _ h4) hf hlo hkc hks hd (k r hr p e s m args below meth c F H locs ls hW hS hl)
/-! a method's contract out of its walk -/
theorem MM_of {y : MethodName} {av : List Value} {o : Out} (hl : g.1.stackTraces = false) (hy : plainName y.cls = true) (hcode : Cond.code y cc nL rt ∈ GW) (ho : y.cls = own) (hav : (lg_sl av).length ≤ nL)
    (body : VB g cc nL own rt [] R mc ms o 0 0 0 (lv_args 0 av) [] w) (hR : R.cells = mc ∧ R.slots = ms) : MM g (.code y cc nL rt) y R mc ms av w o := by
  refine vx_ofW (cc := cc) (maxL := nL) (ret := rt) hy rfl ?_
  intro p e s m args below meth c s₁ B hml htab hP
  obtain ⟨rfl, hb, hW, hK, hSF, hSTR⟩ := hP
  have hts := atoms_spec (ws := .code y cc nL rt :: GW) B.pre
  have hown : s.vm.findClass own = some m.cls := ho ▸ findClass_of_methodNamed B.named
  have F : FX g cc nL own rt [] p s m av.toArray meth c := ⟨B.exec, B.bytes, hml, hown, fun z hz => hts z (List.mem_cons_of_mem _ hz), hK, hb, hSF, hSTR, B.notSynchronized, B.returns, hl, by
    cases hct : c.exceptionTable.toList with
    | nil => rfl
    | cons x l => exact absurd (htab x (by rw [hct]; exact List.mem_cons_self)) id⟩
  rw [lg_entry_eq]
  exact body p e s m av.toArray below meth c F s.heap [] _ hW VS.rf (lv_entry av hav)
theorem v_split {c : Prop} [Decidable c] {st : List Value} (h1 : c → VE g cc nL own rt hh R mc ms out kc ks pc lv st w E1) (h2 : ¬ c → VE g cc nL own rt hh R mc ms out kc ks pc lv st w E2) : VE g cc nL own rt hh R mc ms out kc ks pc lv st w (if c then E1 else E2) := by
  intro r hr
  by_cases h : c
  · rw [if_pos h] at hr
    exact h1 h r hr
  · rw [if_neg h] at hr
    exact h2 h r hr
theorem v_tsIn {dflt lo hi : Int} {offs : Array Int} {len : Nat} {x : Int32} (v : Int32) {off : Int} {tgt : Nat} (hx : x = v) (hd : decode cc pc = .ok (.tableswitch dflt lo hi offs, len)) (h1 : ¬ v.toInt < lo) (h2 : ¬ hi < v.toInt) (ho : offs[(v.toInt - lo).toNat]? = some off) (ht : (pc : Int) + off = (tgt : Int)) (k : VE g cc nL own rt hh R mc ms out kc ks tgt lv rest w E) : VE g cc nL own rt hh R mc ms out kc ks pc lv (.int x :: rest) w E := by
  subst hx
  exact fun r hr p e s m args below meth c F H locs ls hW hS hl => lv_tableIn F.1 F.2.1 hd h1 h2 ho ht (k r hr p e s m args below meth c F H locs ls hW hS hl)
theorem v_tsOut {dflt lo hi : Int} {offs : Array Int} {len : Nat} {x : Int32} {tgt : Nat} (hd : decode cc pc = .ok (.tableswitch dflt lo hi offs, len)) (h : x.toInt < lo ∨ hi < x.toInt) (ht : (pc : Int) + dflt = (tgt : Int)) (k : VE g cc nL own rt hh R mc ms out kc ks tgt lv rest w E) : VE g cc nL own rt hh R mc ms out kc ks pc lv (.int x :: rest) w E :=
  fun r hr p e s m args below meth c F H locs ls hW hS hl => lv_tableOut F.1 F.2.1 hd h ht (k r hr p e s m args below meth c F H locs ls hW hS hl)
theorem v_tsNe {x : Int32} {z : Int} {v : Int32} (hv : v.toInt = z) (h : ¬ x = v) : x.toInt ≠ z := fun e => h (Int32.toInt_inj.mp (e.trans hv.symm))
theorem CR_rm {n n' nLy mc ms mcy msy kc ks : Nat} (h : n' < n) (hm : nLy ≤ 45) (hc : kc + mcy ≤ mc) (hs : ks + msy ≤ ms) : CR (rmL n mc ms) nLy mcy msy (rmL n' mcy msy) kc ks :=
  ⟨⟨rfl, rfl, by show 16 + n' + 1 ≤ 16 + n; omega, by show 8 + (nLy + 11) + (200 + 64 * n') ≤ 200 + 64 * n; omega⟩, hc, hs⟩
end CORE

