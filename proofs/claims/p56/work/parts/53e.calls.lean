theorem PON_blind {g : GC} {av : List Value} {C : List va_E} : FrameBlind (PON g av C) := fun a U f mk q => ⟨q.1, q.2.1, q.2.2.1, va_K.moved (u := U) (U := U.calling f mk a) (Vm.Alike.refl U.vm) q.2.2.2.1, trivial, trivial, va_AO.moved (u := U) (U := U.calling f mk a) (Vm.Alike.refl U.vm) q.2.2.2.2.2.2⟩
section
variable {g : GC} {cc : ByteArray} {nL : Nat} {own : String} {rt : Option FieldType} {ini : Bool} {R : Room} {Qf : List Frame → Array Value → State → State → Prop} {mc ms : Nat} {Z : List va_E} {kc ks pc : Nat} {lv : List (Nat × Value)} {rest : List Value} {C : List va_E}
theorem n_pre {av : List Value} {s U : State} {H : Heap} {locs : List Loc} {p : Program} {m : MethodId} {args : Array Value} {meth : Method} {c : Code} (F : FN g cc nL own rt p s m args meth c) (hW : HCn g C H) (hS : va_S (fun q => g.2.1 ≤ q) s.heap H locs) (hU : U.heap = H) (hX : s.WarmedH U.vm) : PON g av C av.toArray U :=
  ⟨rfl, by rw [hU]; exact Nat.le_trans F.2.2.2.2.2.2.1 hS.1, by rw [hU]; exact hW, va_K.moved hX.alike F.2.2.2.2.2.1, trivial, trivial, va_AO.moved hX.alike F.2.2.2.2.2.2.2.2.2.2.2⟩
/-- a constructor, called -/
theorem n_init {index nLy n mcy msy a : Nat} {y : MethodName} {cy : ByteArray} {rm : Room} {As st : List Value} (hname : y.name = "<init>") (c1 : Cond.methodLink own index y ∈ GW) (c2 : Cond.instanceMethod y ∈ GW) (c4 : Cond.initialized y.cls ∈ GW) (c5 : Cond.code y cy nLy none ∈ GW) (c6 : y.cls ≠ "java/lang/invoke/MethodHandle" ∧ y.cls ≠ "java/lang/invoke/VarHandle") (c7 : (parseMethodDescriptor y.desc).map (fun d => d.parameters.length) = some n)
    (hM : MMc g (.code y cy nLy none) y rm mcy msy (.ref a :: As) C Z) (hn : As.length = n) (hs : st = As.reverse ++ .ref a :: rest) (hst : (rest.map fun v => v.category).sum ≤ 8) (hd : decode cc pc = .ok (.invokespecial index, 3)) (hR : CR R nLy mcy msy rm kc ks)
    (k : VN g cc nL own rt ini R Qf (kc + mcy) (ks + msy) (pc + 3) lv rest Z) : VN g cc nL own rt ini R Qf kc ks pc lv st C := by
  intro p e s m args below meth c F hi H locs ls hW hS hl
  have hts := F.2.2.2.2.1
  subst hs
  have hr : va_Run p g.1 e R s m args below meth c H locs kc ks mcy msy (F0 m pc ls (As.reverse ++ .ref a :: rest)) rest (QON g Z (Value.ref a :: As).toArray) (fun q => g.2.1 ≤ q) := va_runI (Ts := GW) (nL := nL) (n := n) (bytes := cy) (maxL := nLy) (As := As) (rest := rest) (g := F0 m pc ls (As.reverse ++ .ref a :: rest)) ⟨F.1, F.2.1, F.2.2.1, F.2.2.2.1, hts⟩ hM
    ⟨⟨hR.1.1, hR.1.2.1, hR.1.2.2.1, hR.1.2.2.2, GW_pay c5 hts, List.mem_cons_self, hts _ c5, hts _ c4, c6, v_len c7, hts _ c1⟩, hname, hts _ c2⟩
    ⟨PON_blind, fun U hU hX => n_pre F hW hS hU hX⟩ rfl hn hl.1 rfl (by show 2 * 0 + _ ≤ 8; omega) hd hR.2
  intro T hT X
  obtain ⟨v, st₀, t, T', L, h0, X', hL, e1, e2, ⟨hv, hC, hF⟩, st⟩ := hr T hT X
  cases hv
  obtain ⟨-, -, k3⟩ := vx_keep (A1 := fun q => g.2.1 ≤ q) h0 e1 hS (fun _ _ h => h) (fun _ h => h) hL hF
  obtain ⟨t2, a1, b1⟩ := k p e s m args below meth c F hi T'.heap (locs ++ L) ls (by rw [e1]; exact hC) k3 hl T' rfl X'
  exact ⟨t2, st t2 a1, b1⟩
end
