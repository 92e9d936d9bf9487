section
variable {g : GC} {cc : ByteArray} {nL : Nat} {own : String} {rt : Option FieldType} {ini : Bool} {R : Room} {Qf : List Frame → Array Value → State → State → Prop} {kc ks pc : Nat} {lv : List (Nat × Value)} {rest : List Value} {C : List va_E}
theorem n_istore_n {j : Fin 4} {i : Nat} {x : Int32} {lv1 : List (Nat × Value)} (hd : decode cc pc = .ok (.istore_n j, 1)) (hi : (j : Nat) = i) (hn : i < nL) (hq : (i, Value.int x) :: lv.filter (fun q => !(q.1 == i) && !(q.1 + 1 == i && q.2.category == 2)) = lv1) (k : VN g cc nL own rt ini R Qf kc ks (pc + 1) lv1 rest C) : VN g cc nL own rt ini R Qf kc ks pc lv (.int x :: rest) C := fun p e s m args below meth c F hI H locs ls hW hS hl => lv_istore_n F.1 F.2.1 hd hi hl hn hq (fun ls hl => k p e s m args below meth c F hI H locs ls hW hS hl)
theorem n_istore {i : Nat} {x : Int32} {lv1 : List (Nat × Value)} (hd : decode cc pc = .ok (.istore i, 2)) (hn : i < nL) (hq : (i, Value.int x) :: lv.filter (fun q => !(q.1 == i) && !(q.1 + 1 == i && q.2.category == 2)) = lv1) (k : VN g cc nL own rt ini R Qf kc ks (pc + 2) lv1 rest C) : VN g cc nL own rt ini R Qf kc ks pc lv (.int x :: rest) C := fun p e s m args below meth c F hI H locs ls hW hS hl => lv_istore F.1 F.2.1 hd hl hn hq (fun ls hl => k p e s m args below meth c F hI H locs ls hW hS hl)
theorem n_astore_n {j : Fin 4} {i : Nat} {x : Nat} {lv1 : List (Nat × Value)} (hd : decode cc pc = .ok (.astore_n j, 1)) (hi : (j : Nat) = i) (hn : i < nL) (hq : (i, Value.ref x) :: lv.filter (fun q => !(q.1 == i) && !(q.1 + 1 == i && q.2.category == 2)) = lv1) (k : VN g cc nL own rt ini R Qf kc ks (pc + 1) lv1 rest C) : VN g cc nL own rt ini R Qf kc ks pc lv (.ref x :: rest) C := fun p e s m args below meth c F hI H locs ls hW hS hl => lv_astore_n F.1 F.2.1 hd hi hl hn hq (fun ls hl => k p e s m args below meth c F hI H locs ls hW hS hl)
theorem n_astore {i : Nat} {x : Nat} {lv1 : List (Nat × Value)} (hd : decode cc pc = .ok (.astore i, 2)) (hn : i < nL) (hq : (i, Value.ref x) :: lv.filter (fun q => !(q.1 == i) && !(q.1 + 1 == i && q.2.category == 2)) = lv1) (k : VN g cc nL own rt ini R Qf kc ks (pc + 2) lv1 rest C) : VN g cc nL own rt ini R Qf kc ks pc lv (.ref x :: rest) C := fun p e s m args below meth c F hI H locs ls hW hS hl => lv_astore F.1 F.2.1 hd hl hn hq (fun ls hl => k p e s m args below meth c F hI H locs ls hW hS hl)
theorem n_iinc {i q : Nat} {n : Int} {x v : Int32} {lv1 : List (Nat × Value)} (hd : decode cc pc = .ok (.iinc i n, 3)) (hx : lv[q]? = some (i, .int x)) (hv : x + Int32.ofInt n = v) (hn : i < nL) (hq : (i, Value.int v) :: lv.filter (fun q => !(q.1 == i) && !(q.1 + 1 == i && q.2.category == 2)) = lv1) (k : VN g cc nL own rt ini R Qf kc ks (pc + 3) lv1 rest C) : VN g cc nL own rt ini R Qf kc ks pc lv rest C := fun p e s m args below meth c F hI H locs ls hW hS hl => lv_iinc F.1 F.2.1 hd hl hx hv hn hq (fun ls hl => k p e s m args below meth c F hI H locs ls hW hS hl)
theorem n_goto {off : Int} {tgt : Nat} (hd : decode cc pc = .ok (.goto off, 3)) (ht : (pc : Int) + off = (tgt : Int)) (k : VN g cc nL own rt ini R Qf kc ks tgt lv rest C) : VN g cc nL own rt ini R Qf kc ks pc lv rest C := fun p e s m args below meth c F hI H locs ls hW hS hl => lv_goto F.1 F.2.1 hd ht (k p e s m args below meth c F hI H locs ls hW hS hl)
theorem n_icmp_geT {x y : Int32} {off : Int} {tgt : Nat} (hd : decode cc pc = .ok (.if_icmp .ge off, 3)) (ht : (pc : Int) + off = (tgt : Int)) (hc : y ≤ x) (k : VN g cc nL own rt ini R Qf kc ks tgt lv rest C) : VN g cc nL own rt ini R Qf kc ks pc lv (.int y :: .int x :: rest) C := fun p e s m args below meth c F hI H locs ls hW hS hl => lv_icmp_ge F.1 F.2.1 hd ht (fun _ => k p e s m args below meth c F hI H locs ls hW hS hl) (fun h => absurd hc h)
theorem n_icmp_geF {x y : Int32} {off : Int} {tgt : Nat} (hd : decode cc pc = .ok (.if_icmp .ge off, 3)) (ht : (pc : Int) + off = (tgt : Int)) (hc : ¬ (y ≤ x)) (k : VN g cc nL own rt ini R Qf kc ks (pc + 3) lv rest C) : VN g cc nL own rt ini R Qf kc ks pc lv (.int y :: .int x :: rest) C := fun p e s m args below meth c F hI H locs ls hW hS hl => lv_icmp_ge F.1 F.2.1 hd ht (fun h => absurd h hc) (fun _ => k p e s m args below meth c F hI H locs ls hW hS hl)
theorem n_max {index : Nat} {x y v : Int32} (h1 : Cond.methodLink own index Lib.Math.max.name ∈ GW) (h2 : Cond.static Lib.Math.max.name ∈ GW) (h3 : Cond.initialized "java/lang/Math" ∈ GW) (h4 : Cond.code Lib.Math.max.name Lib.Math.max.code 2 (some .int) ∈ GW) (hv : (if x < y then y else x) = v) (hd : decode cc pc = .ok (.invokestatic index, 3)) (hf : 1 ≤ R.frames) (hlo : (rest.map fun v => v.category).sum + 13 ≤ R.locals) (hkc : kc ≤ R.cells) (hks : ks ≤ R.slots)
    (k : VN g cc nL own rt ini R Qf kc ks (pc + 3) lv (.int v :: rest) C) : VN g cc nL own rt ini R Qf kc ks pc lv (.int y :: .int x :: rest) C := by
  subst hv
  exact fun p e s m args below meth c F hI H locs ls hW hS hl => va_mmax F.1 F.2.1 (by rw [F.2.2.1]; exact hl.1.symm) F.2.2.2.1 (F.2.2.2.2.1 _ h1) (F.2.2.2.2.1 _ h2) (F.2.2.2.2.1 _ h3) (F.2.2.2.2.1 _ h4) hf hlo hkc hks hd (k p e s m args below meth c F hI H locs ls hW hS hl)
theorem cl_set {C : List va_E} {x y : va_E} {r : List va_E} : (C ++ x :: r).set C.length y = C ++ y :: r := by
  rw [List.set_append_right _ _ (Nat.le_refl _), Nat.sub_self]
  rfl
theorem cl_set1 {C : List va_E} {x y z : va_E} {r : List va_E} : (C ++ x :: y :: r).set (C.length + 1) z = C ++ x :: z :: r := by
  rw [List.set_append_right _ _ (Nat.le_add_right _ _), Nat.add_sub_cancel_left]
  rfl
theorem cl_get {C L : List va_E} (k : Nat) : (C ++ L)[C.length + k]? = L[k]? := by
  rw [List.getElem?_append_right (Nat.le_add_right _ _), Nat.add_sub_cancel_left]
theorem cl_get0 {C : List va_E} {x : va_E} {r : List va_E} : (C ++ x :: r)[C.length]? = some x := cl_get 0
theorem cl_app {C : List va_E} {x : va_E} {r l : List va_E} : (C ++ x :: r) ++ l = C ++ x :: (r ++ l) := List.append_assoc C (x :: r) l
theorem cl_len {C : List va_E} {x : va_E} {r : List va_E} {k : Nat} (h : r.length + 1 = k) : (C ++ x :: r).length = C.length + k := by
  rw [List.length_append, List.length_cons, h]
theorem a_new {index ci N k : Nat} {Cn : String} {T : u_T} {x : va_E} {r r1 : List va_E} {fs : List Value} (hk : r.length + 1 = k) (hr : r ++ [.inr (ci, fs)] = r1) (ty : Nat → FieldType) (hty : ∀ k, k < N → parseFieldDescriptor (T k).2.2.1 = some (ty k)) (hin : ∀ w ∈ u_ws Cn T N, w ∈ GW) (hc : vwCl[ci]? = some (Cn, T, N)) (h1 : Cond.classLink own index Cn ∈ GW) (h2 : Cond.instantiable Cn N ∈ GW) (h3 : Cond.initialized Cn ∈ GW) (hfs : ∀ j, j < N → defaultValue (ty j) = vp_V fs j) (hcells : kc + 1 ≤ R.cells) (hslots : ks + N ≤ R.slots) (hd : decode cc pc = .ok (.new index, 3))
    (kk : VN g cc nL own rt ini R Qf (kc + 1) (ks + N) (pc + 3) lv (.ref (g.2.1 + (C.length + k)) :: rest) (C ++ x :: r1)) : VN g cc nL own rt ini R Qf kc ks pc lv rest (C ++ x :: r) := by
  refine n_new ty hty hin hc h1 h2 h3 hfs hcells hslots hd ?_
  rw [cl_app, cl_len hk, hr]
  exact kk
theorem a_newa {atype : ArrayType} {ty : FieldType} {i N k : Nat} {n : Int32} {a0 : vp_A} {x : va_E} {r r1 : List va_E} (hk : r.length + 1 = k) (hr : r ++ [.inl (g.2.2.1 i, a0)] = r1) (hw : Cond.arrayClass (newarray.typeOf atype) ∈ GW) (hty : newarray.typeOf atype = ty) (hi : ∀ g : GC, (tysL g)[i]? = some (g.2.2.1 i, ty)) (hT : ∀ (U : State) (cA : ClassId), va_RA U cA ty → U.vm.findClass ("[" ++ ty.toString) = some cA) (ha : ∀ cA : ClassId, vp_cell cA a0 = arrV cA N (fun _ => defaultValue ty)) (hn : ¬ n < 0) (hN : n.toNatClampNeg = N) (hbytes : N * componentBytes ty ≤ 536870912) (hcells : kc + 1 ≤ R.cells) (hslots : ks + N ≤ R.slots) (hd : decode cc pc = .ok (.newarray atype, 2))
    (kk : VN g cc nL own rt ini R Qf (kc + 1) (ks + N) (pc + 2) lv (.ref (g.2.1 + (C.length + k)) :: rest) (C ++ x :: r1)) : VN g cc nL own rt ini R Qf kc ks pc lv (.int n :: rest) (C ++ x :: r) := by
  refine n_newa hw hty hi hT ha hn hN hbytes hcells hslots hd ?_
  rw [cl_app, cl_len hk, hr]
  exact kk
theorem a_anewa {index i N k : Nat} {Cn : String} {n : Int32} {x : va_E} {r r1 : List va_E} (hk : r.length + 1 = k) (hr : r ++ [.inl (g.2.2.1 i, N, .inr (.inr (.inr (.inr (fun _ => none)))))] = r1) (h1 : Cond.classLink own index Cn ∈ GW) (hCn : Cn = "FoldedArchive$State") (hi : ∀ g : GC, (tysL g)[i]? = some (g.2.2.1 i, .object Cn)) (hn : ¬ n < 0) (hN : n.toNatClampNeg = N) (hbytes : N * 4 ≤ 536870912) (hcells : kc + 1 ≤ R.cells) (hslots : ks + N ≤ R.slots) (hd : decode cc pc = .ok (.anewarray index, 3))
    (kk : VN g cc nL own rt ini R Qf (kc + 1) (ks + N) (pc + 3) lv (.ref (g.2.1 + (C.length + k)) :: rest) (C ++ x :: r1)) : VN g cc nL own rt ini R Qf kc ks pc lv (.int n :: rest) (C ++ x :: r) := by
  refine n_anewa h1 hCn hi hn hN hbytes hcells hslots hd ?_
  rw [cl_app, cl_len hk, hr]
  exact kk
theorem a_putF {index ci k N : Nat} {Cn : String} {T : u_T} {fs fs1 : List Value} {v : Value} {ty : FieldType} {r : List va_E} (ty0 : Nat → FieldType) (hty : ∀ k, k < N → parseFieldDescriptor (T k).2.2.1 = some (ty0 k)) (hnm : ∀ a, a < N → ∀ b, b < N → a ≠ b → (T a).2.1 ≠ (T b).2.1) (hin : ∀ w ∈ u_ws Cn T N, w ∈ GW) (hc : vwCl[ci]? = some (Cn, T, N)) (hk : k < N) (hlink : Cond.fieldLink own index (T k).1 (T k).2.1 (T k).2.2.1 ∈ GW) (hfin : (T k).2.2.2 = true) (hdecl : (T k).1 = own) (hI : ini = true) (hd' : parseFieldDescriptor (T k).2.2.1 = some ty) (hn : narrow ty v = v) (hfit : fits ty v = true) (hl' : k < fs.length) (hfs : fs.set k v = fs1) (hd : decode cc pc = .ok (.putfield index, 3))
    (kk : VN g cc nL own rt ini R Qf kc ks (pc + 3) lv rest (C ++ .inr (ci, fs1) :: r)) : VN g cc nL own rt ini R Qf kc ks pc lv (v :: .ref (g.2.1 + C.length) :: rest) (C ++ .inr (ci, fs) :: r) := by
  refine n_putF ty0 hty hnm hin hc (cl_get0) hk hlink hfin hdecl hI hd' hn hfit hl' hd ?_
  rw [cl_set, hfs]
  exact kk
theorem a_put {index ci k N : Nat} {Cn : String} {T : u_T} {fs fs1 : List Value} {v : Value} {ty : FieldType} {r : List va_E} (ty0 : Nat → FieldType) (hty : ∀ k, k < N → parseFieldDescriptor (T k).2.2.1 = some (ty0 k)) (hnm : ∀ a, a < N → ∀ b, b < N → a ≠ b → (T a).2.1 ≠ (T b).2.1) (hin : ∀ w ∈ u_ws Cn T N, w ∈ GW) (hc : vwCl[ci]? = some (Cn, T, N)) (hk : k < N) (hlink : Cond.fieldLink own index (T k).1 (T k).2.1 (T k).2.2.1 ∈ GW) (hfin : (T k).2.2.2 = false) (hd' : parseFieldDescriptor (T k).2.2.1 = some ty) (hn : narrow ty v = v) (hfit : fits ty v = true) (hl' : k < fs.length) (hfs : fs.set k v = fs1) (hd : decode cc pc = .ok (.putfield index, 3))
    (kk : VN g cc nL own rt ini R Qf kc ks (pc + 3) lv rest (C ++ .inr (ci, fs1) :: r)) : VN g cc nL own rt ini R Qf kc ks pc lv (v :: .ref (g.2.1 + C.length) :: rest) (C ++ .inr (ci, fs) :: r) := by
  refine n_put ty0 hty hnm hin hc (cl_get0) hk hlink hfin hd' hn hfit hl' hd ?_
  rw [cl_set, hfs]
  exact kk
theorem a_init {index nLy n mcy msy k : Nat} {y : MethodName} {cy : ByteArray} {rm : Room} {As st : List Value} {x b : va_E} {r r0 r1 : List va_E} {bk : Nat → List va_E} (hk : r.length + 1 = k) (hr0 : r ++ [b] = r0) (hr : r ++ bk (C.length + k) = r1) (hname : y.name = "<init>") (c1 : Cond.methodLink own index y ∈ GW) (c2 : Cond.instanceMethod y ∈ GW) (c4 : Cond.initialized y.cls ∈ GW) (c5 : Cond.code y cy nLy none ∈ GW) (c6 : y.cls ≠ "java/lang/invoke/MethodHandle" ∧ y.cls ≠ "java/lang/invoke/VarHandle") (c7 : (parseMethodDescriptor y.desc).map (fun d => d.parameters.length) = some n)
    (hM : ∀ C' : List va_E, MMc g (.code y cy nLy none) y rm mcy msy (.ref (g.2.1 + C'.length) :: As) (C' ++ [b]) (C' ++ bk C'.length)) (hn : As.length = n) (hs : st = As.reverse ++ .ref (g.2.1 + (C.length + k)) :: rest) (hst : (rest.map fun v => v.category).sum ≤ 8) (hd : decode cc pc = .ok (.invokespecial index, 3)) (hR : CR R nLy mcy msy rm kc ks)
    (kk : VN g cc nL own rt ini R Qf (kc + mcy) (ks + msy) (pc + 3) lv rest (C ++ x :: r1)) : VN g cc nL own rt ini R Qf kc ks pc lv st (C ++ x :: r0) := by
  have e := hM (C ++ x :: r)
  rw [cl_app, cl_app, cl_len hk, hr0, hr] at e
  exact n_init hname c1 c2 c4 c5 c6 c7 e hn hs hst hd hR kk
theorem a_getR {index ci j N : Nat} {Cn : String} {T : u_T} {fs : List Value} {v : Value} {r : List va_E} (hin : ∀ w ∈ u_ws Cn T N, w ∈ GW) (hc : vwCl[ci]? = some (Cn, T, N)) (hj : j < N) (hlink : Cond.fieldLink own index (T j).1 (T j).2.1 (T j).2.2.1 ∈ GW) (hv : fs[j]? = some v) (hd : decode cc pc = .ok (.getfield index, 3))
    (kk : VN g cc nL own rt ini R Qf kc ks (pc + 3) lv (v :: rest) (C ++ .inr (ci, fs) :: r)) : VN g cc nL own rt ini R Qf kc ks pc lv (.ref (g.2.1 + C.length) :: rest) (C ++ .inr (ci, fs) :: r) := by
  intro p e s m args below meth c F hI H locs ls hW hS hl
  have hP : va_P g.2.2.2.1 vwCl [(g.2.1 + C.length, .inr (ci, fs))] H := by
    intro i x hx
    have hz : i < 1 := (List.getElem?_eq_some_iff.mp hx).1
    rw [show i = 0 by omega] at hx
    cases hx
    exact hW.get cl_get0
  exact va_get (D := g.2.2.2.1) (cl := vwCl) (tys := tysL g) (ci := ci) (v := v) F.1 F.2.1 F.2.2.2.2.1 hin F.2.2.2.1 F.2.2.2.2.2.1 hP 0 rfl hc j hj (F.2.2.2.2.1 _ hlink) (fun _ h9 => h9) hv hd (kk p e s m args below meth c F hI H locs ls hW hS hl)
/-- a reference into the row of references that lies behind the object itself -/
theorem a_aast {i5 ci n k : Nat} {q : vw_C} {f f1 : Nat → Option Nat} {fs : List Value} {i : Int32} {x : va_E} {r : List va_E} (hi : ∀ g : GC, (tysL g)[i5]? = some (g.2.2.1 i5, .object q.1)) (hv : (x :: .inl (g.2.2.1 i5, n, .inr (.inr (.inr (.inr f)))) :: r)[k]? = some (.inr (ci, fs))) (hc : vwCl[ci]? = some q) (hin : vp_in i n) (hf : va_up f i.toNatClampNeg (some (g.2.1 + (C.length + k))) = f1) (hd : decode cc pc = .ok (.aastore, 1))
    (kk : VN g cc nL own rt ini R Qf kc ks (pc + 1) lv rest (C ++ x :: .inl (g.2.2.1 i5, n, .inr (.inr (.inr (.inr f1)))) :: r)) : VN g cc nL own rt ini R Qf kc ks pc lv (.ref (g.2.1 + (C.length + k)) :: .int i :: .ref (g.2.1 + (C.length + 1)) :: rest) (C ++ x :: .inl (g.2.2.1 i5, n, .inr (.inr (.inr (.inr f)))) :: r) := by
  intro p e s m args below meth c F hI H locs ls hW hS hl
  subst hf
  have hK := F.2.2.2.2.2.1
  have hlt : i.toNatClampNeg < n := Nat.not_le.mp fun q => hin (Or.inr q)
  have h0 : ¬ i < 0 := fun q => hin (Or.inl q)
  obtain ⟨r', hr', cellV, g1, g2, g3, -⟩ := hW.get (i := C.length + k) ((cl_get k).trans hv)
  have hcls := (hK.1 ci q hc).2
  obtain ⟨kA, comp, k1, k2, k3, -⟩ := (hK.2 i5 _ (hi g)).2
  have hcomp : comp = g.2.2.2.1.1 ci := Option.some.inj (k3.symm.trans hcls.1)
  subst hcomp
  have hcl := hcls
  obtain ⟨kC, hkC, -⟩ := hcls.2
  have hcell : H[g.2.1 + (C.length + 1)]? = some (vp_cell (g.2.2.1 i5) (n, .inr (.inr (.inr (.inr f))))) := hW.get (i := C.length + 1) (cl_get 1)
  refine W.aast F.1 F.2.1 hcell (fun q h => by cases h) (fun h => by cases h) k1 k2 rfl hkC ⟨h0, by show _ < (arrV _ _ _).slots.size; rw [arrV_size]; exact hlt⟩ g1 (fun q h => by rw [g3] at h; cases h) (by rw [g2]; exact hkC) (by rw [g2]; exact va_assign hcl) rfl rfl hd fun H1 e1 z oq => ?_
  have hW1 := hW.set (i := C.length + 1) (x := .inl (g.2.2.1 i5, n, .inr (.inr (.inr (.inr (va_up f i.toNatClampNeg (some (g.2.1 + (C.length + k))))))))) z oq (by
    show H1[g.2.1 + (C.length + 1)]? = some (vp_cell _ _)
    rw [e1, vp_cell_q, vp_cell_q, arrV_store]
    congr 2
    funext q
    by_cases hq : q = i.toNatClampNeg
    · subst hq
      simp [updV, va_up, va_rf]
    · simp [updV, va_up, hq])
  rw [cl_set1] at hW1
  exact kk p e s m args below meth c F hI H1 _ ls hW1 (hS.put z oq (Nat.le_add_right _ _)) hl
end
