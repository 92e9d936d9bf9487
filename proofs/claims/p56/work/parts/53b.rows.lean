/-! a constructor's walk -/
def FN (g : GC) (cc : ByteArray) (nL : Nat) (own : String) (rt : Option FieldType) (p : Program) (s : State) (m : MethodId) (args : Array Value) (meth : Method) (c : Code) : Prop :=
  p.tables.exec = Jvm.exec ∧ c.code = cc ∧ c.maxLocals = nL ∧ s.vm.findClass own = some m.cls ∧ (∀ w ∈ GW, w.before args s = true) ∧ va_K g.2.2.2.1 vwCl (tysL g) s ∧ g.2.1 ≤ s.heap.size ∧ True ∧ True ∧ meth.locks = false ∧ meth.sig.returnType = rt ∧ va_AO "FoldedArchive$State" s
def VN (g : GC) (cc : ByteArray) (nL : Nat) (own : String) (rt : Option FieldType) (ini : Bool) (R : Room) (Qf : List Frame → Array Value → State → State → Prop) (kc ks pc : Nat) (lv : List (Nat × Value)) (st : List Value) (C : List va_E) : Prop :=
  ∀ (p : Program) (e : Env) (s : State) (m : MethodId) (args : Array Value) (below : List Frame) (meth : Method) (c : Code), FN g cc nL own rt p s m args meth c → ((ini = true → meth.name = "<init>") ∧ (ini = false → c.exceptionTable.toList = tableOf [] ∧ SFs g s s.heap ∧ STR g s ∧ g.2.1 = s.heap.size)) →
    ∀ (H : Heap) (locs : List Loc) (ls : Array Slot), HCn g C H → va_S (fun q => g.2.1 ≤ q) s.heap H locs → lv_has ls nL lv →
      W p g.1 e R s m args below meth c H locs kc ks (Qf below args s) (F0 m pc ls st)
section
variable {g : GC} {cc : ByteArray} {nL : Nat} {own : String} {rt : Option FieldType} {ini : Bool} {R : Room} {Qf : List Frame → Array Value → State → State → Prop} {kc ks pc : Nat} {lv : List (Nat × Value)} {rest : List Value} {C : List va_E}
theorem n_iconst {n : Int} {v : Int32} (hd : decode cc pc = .ok (.iconst n, 1)) (hv : Int32.ofInt n = v) (k : VN g cc nL own rt ini R Qf kc ks (pc + 1) lv (.int v :: rest) C) : VN g cc nL own rt ini R Qf kc ks pc lv rest C := fun p e s m args below meth c F hi H locs ls hW hS hl => lv_iconst F.1 F.2.1 hd hv (k p e s m args below meth c F hi H locs ls hW hS hl)
theorem n_bipush {n : Int} {v : Int32} (hd : decode cc pc = .ok (.bipush n, 2)) (hv : (Int8.ofInt n).toInt32 = v) (k : VN g cc nL own rt ini R Qf kc ks (pc + 2) lv (.int v :: rest) C) : VN g cc nL own rt ini R Qf kc ks pc lv rest C := fun p e s m args below meth c F hi H locs ls hW hS hl => lv_bipush F.1 F.2.1 hd hv (k p e s m args below meth c F hi H locs ls hW hS hl)
theorem n_sipush {n : Int} {v : Int32} (hd : decode cc pc = .ok (.sipush n, 3)) (hv : (Int16.ofInt n).toInt32 = v) (k : VN g cc nL own rt ini R Qf kc ks (pc + 3) lv (.int v :: rest) C) : VN g cc nL own rt ini R Qf kc ks pc lv rest C := fun p e s m args below meth c F hi H locs ls hW hS hl => lv_sipush F.1 F.2.1 hd hv (k p e s m args below meth c F hi H locs ls hW hS hl)
theorem n_aload_n {j : Fin 4} {i : Nat} {x : Nat} (hd : decode cc pc = .ok (.aload_n j, 1)) (hi : (j : Nat) = i) (q : Nat) (hq : lv[q]? = some (i, .ref x)) (k : VN g cc nL own rt ini R Qf kc ks (pc + 1) lv (.ref x :: rest) C) : VN g cc nL own rt ini R Qf kc ks pc lv rest C := fun p e s m args below meth c F hn H locs ls hW hS hl => lv_aload_n F.1 F.2.1 hd hi (lv_at hl q hq) (k p e s m args below meth c F hn H locs ls hW hS hl)
theorem n_iload_n {j : Fin 4} {i : Nat} {x : Int32} (hd : decode cc pc = .ok (.iload_n j, 1)) (hi : (j : Nat) = i) (q : Nat) (hq : lv[q]? = some (i, .int x)) (k : VN g cc nL own rt ini R Qf kc ks (pc + 1) lv (.int x :: rest) C) : VN g cc nL own rt ini R Qf kc ks pc lv rest C := fun p e s m args below meth c F hn H locs ls hW hS hl => lv_iload_n F.1 F.2.1 hd hi (lv_at hl q hq) (k p e s m args below meth c F hn H locs ls hW hS hl)
theorem n_dup {a : Value} (hd : decode cc pc = .ok (.dup, 1)) (ha : a.category = 1) (k : VN g cc nL own rt ini R Qf kc ks (pc + 1) lv (a :: a :: rest) C) : VN g cc nL own rt ini R Qf kc ks pc lv (a :: rest) C := fun p e s m args below meth c F hi H locs ls hW hS hl => lv_dup F.1 F.2.1 hd ha (k p e s m args below meth c F hi H locs ls hW hS hl)
theorem n_widen {st : List Value} (kc' ks' : Nat) (h1 : kc ≤ kc') (h2 : ks ≤ ks') (k : VN g cc nL own rt ini R Qf kc' ks' pc lv st C) : VN g cc nL own rt ini R Qf kc ks pc lv st C :=
  fun p e s m args below meth c F hi H locs ls hW hS hl => W.widen h1 h2 (k p e s m args below meth c F hi H locs ls hW hS hl)
theorem HCn.push {H H1 : Heap} {x : va_E} (h : HCn g C H) (z : H1.size = H.size + 1) (o : ∀ q, q < H.size → H1[q]? = H[q]?) (he : va_at g.2.2.2.1 vwCl (H.size, x) H1) : HCn g (C ++ [x]) H1 := by
  refine ⟨by rw [z, h.1, List.length_append]; rfl, ?_⟩
  intro k q hq
  rw [adr_app] at hq
  by_cases hk : k < (adr g.2.1 0 C).length
  · rw [List.getElem?_append_left hk] at hq
    exact (h.2 k q hq).kept (o _ ((h.2 k q hq).lt))
  · rw [List.getElem?_append_right (by omega)] at hq
    have hz : k - (adr g.2.1 0 C).length < 1 := (List.getElem?_eq_some_iff.mp hq).1
    rw [show k - (adr g.2.1 0 C).length = 0 by omega] at hq
    have hq : (g.2.1 + (0 + C.length), x) = q := Option.some.inj hq
    rw [← hq, Nat.zero_add, ← h.1]
    exact he
theorem n_new {index ci N : Nat} {Cn : String} {T : u_T} (ty : Nat → FieldType) (hty : ∀ k, k < N → parseFieldDescriptor (T k).2.2.1 = some (ty k)) (hin : ∀ w ∈ u_ws Cn T N, w ∈ GW) (hc : vwCl[ci]? = some (Cn, T, N)) (h1 : Cond.classLink own index Cn ∈ GW) (h2 : Cond.instantiable Cn N ∈ GW) (h3 : Cond.initialized Cn ∈ GW) {fs : List Value} (hfs : ∀ j, j < N → defaultValue (ty j) = vp_V fs j) (hcells : kc + 1 ≤ R.cells) (hslots : ks + N ≤ R.slots) (hd : decode cc pc = .ok (.new index, 3))
    (k : VN g cc nL own rt ini R Qf (kc + 1) (ks + N) (pc + 3) lv (.ref (g.2.1 + C.length) :: rest) (C ++ [.inr (ci, fs)])) : VN g cc nL own rt ini R Qf kc ks pc lv rest C := by
  intro p e s m args below meth c F hi H locs ls hW hS hl
  have hts := F.2.2.2.2.1
  have hK := F.2.2.2.2.2.1
  have hKn := hK.1 ci _ hc
  refine W.newcK F.1 F.2.1 F.2.2.2.1 (hts _ h1) (hts _ h2) (hts _ h3) rfl hd hcells hslots hKn.2.1 rfl fun H1 kC hkC e1 z1 o1 => ?_
  have hW1 : HCn g (C ++ [.inr (ci, fs)]) H1 := hW.push z1 o1 ⟨_, hc, (u_born ty hts hin hKn hkC e1 hty).to hfs⟩
  have hS1 : va_S (fun q => g.2.1 ≤ q) s.heap H1 locs := ⟨Nat.le_trans hS.1 (by omega), fun x h1 h2 => (o1 x (Nat.lt_of_lt_of_le h1 hS.1)).trans (hS.2.1 x h1 h2), hS.2.2⟩
  rw [hW.1]
  exact k p e s m args below meth c F hi H1 locs ls hW1 hS1 hl
end
