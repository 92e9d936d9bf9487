section
variable {g : GC} {cc : ByteArray} {nL : Nat} {own : String} {rt : Option FieldType} {ini : Bool} {R : Room} {Qf : List Frame → Array Value → State → State → Prop} {kc ks pc : Nat} {lv : List (Nat × Value)} {rest : List Value} {C : List va_E}
theorem n_newa {atype : ArrayType} {ty : FieldType} {i N : Nat} {n : Int32} {a0 : vp_A} (hw : Cond.arrayClass (newarray.typeOf atype) ∈ GW) (hty : newarray.typeOf atype = ty) (hi : ∀ g : GC, (tysL g)[i]? = some (g.2.2.1 i, ty)) (hT : ∀ (U : State) (cA : ClassId), va_RA U cA ty → U.vm.findClass ("[" ++ ty.toString) = some cA) (ha : ∀ cA : ClassId, vp_cell cA a0 = arrV cA N (fun _ => defaultValue ty)) (hn : ¬ n < 0) (hN : n.toNatClampNeg = N) (hbytes : N * componentBytes ty ≤ 536870912) (hcells : kc + 1 ≤ R.cells) (hslots : ks + N ≤ R.slots) (hd : decode cc pc = .ok (.newarray atype, 2))
    (k : VN g cc nL own rt ini R Qf (kc + 1) (ks + N) (pc + 2) lv (.ref (g.2.1 + C.length) :: rest) (C ++ [.inl (g.2.2.1 i, a0)])) : VN g cc nL own rt ini R Qf kc ks pc lv (.int n :: rest) C := by
  intro p e s m args below meth c F hini H locs ls hW hS hl
  subst hty
  have hts := F.2.2.2.2.1
  have hK := F.2.2.2.2.2.1
  refine va_newaK F.1 F.2.1 (hts _ hw) rfl hd rfl hn hN hbytes hcells hslots rfl fun H1 cA e1 z1 o1 hAr hNm => ?_
  have hcA : cA = g.2.2.1 i := Option.some.inj (hNm.symm.trans (hT s _ (hK.2 i _ (hi g)).2))
  subst hcA
  have hW1 : HCn g (C ++ [.inl (g.2.2.1 i, a0)]) H1 := hW.push z1 o1 (by show H1[H.size]? = some (vp_cell _ _); rw [ha]; exact e1)
  have hS1 : va_S (fun q => g.2.1 ≤ q) s.heap H1 locs := ⟨Nat.le_trans hS.1 (by omega), fun x h1 h2 => (o1 x (Nat.lt_of_lt_of_le h1 hS.1)).trans (hS.2.1 x h1 h2), hS.2.2⟩
  rw [hW.1]
  exact k p e s m args below meth c F hini H1 locs ls hW1 hS1 hl
theorem HCn.set {H H1 : Heap} {x : va_E} {i : Nat} (h : HCn g C H) (z : H1.size = H.size) (o : ∀ q, q ≠ g.2.1 + i → H1[q]? = H[q]?) (he : va_at g.2.2.2.1 vwCl (g.2.1 + i, x) H1) : HCn g (C.set i x) H1 := by
  refine ⟨by rw [z, h.1, List.length_set], ?_⟩
  intro k q hq
  rw [adr_get, List.getElem?_set] at hq
  by_cases hk : i = k
  · subst hk
    rw [if_pos rfl] at hq
    by_cases hl : i < C.length
    · rw [if_pos hl] at hq
      have hq : (g.2.1 + (0 + i), x) = q := Option.some.inj hq
      rw [← hq, Nat.zero_add]
      exact he
    · rw [if_neg hl] at hq; cases hq
  · rw [if_neg hk, ← adr_get] at hq
    have hq1 : q.1 = g.2.1 + k := by
      rw [adr_get] at hq
      obtain ⟨y, -, hy⟩ := Option.map_eq_some_iff.mp hq
      rw [← hy]
      show g.2.1 + (0 + k) = g.2.1 + k
      omega
    exact (h.2 k q hq).kept (o _ (by rw [hq1]; omega))
theorem HCn.get {H : Heap} {x : va_E} {i : Nat} (h : HCn g C H) (hi : C[i]? = some x) : va_at g.2.2.2.1 vwCl (g.2.1 + i, x) H := by
  have := h.2 i (g.2.1 + (0 + i), x) (by rw [adr_get, hi]; rfl)
  rw [Nat.zero_add] at this
  exact this
/-- a final field, in its own constructor -/
theorem n_putF {index ci k i N : Nat} {Cn : String} {T : u_T} {fs : List Value} {v : Value} {ty : FieldType} (ty0 : Nat → FieldType) (hty : ∀ k, k < N → parseFieldDescriptor (T k).2.2.1 = some (ty0 k)) (hnm : ∀ a, a < N → ∀ b, b < N → a ≠ b → (T a).2.1 ≠ (T b).2.1) (hin : ∀ w ∈ u_ws Cn T N, w ∈ GW) (hc : vwCl[ci]? = some (Cn, T, N)) (hCi : C[i]? = some (.inr (ci, fs))) (hk : k < N) (hlink : Cond.fieldLink own index (T k).1 (T k).2.1 (T k).2.2.1 ∈ GW) (hfin : (T k).2.2.2 = true) (hdecl : (T k).1 = own) (hI : ini = true) (hd' : parseFieldDescriptor (T k).2.2.1 = some ty) (hn : narrow ty v = v) (hfit : fits ty v = true) (hl' : k < fs.length) (hd : decode cc pc = .ok (.putfield index, 3))
    (kk : VN g cc nL own rt ini R Qf kc ks (pc + 3) lv rest (C.set i (.inr (ci, fs.set k v)))) : VN g cc nL own rt ini R Qf kc ks pc lv (v :: .ref (g.2.1 + i) :: rest) C := by
  intro p e s m args below meth c F hini H locs ls hW hS hl
  have hts := F.2.2.2.2.1
  have hK := F.2.2.2.2.2.1
  have hap := va_apart (own := own) hts hin ty0 hty hnm hK hc
  obtain ⟨r, h1, cell, q1, q2, q3, q4⟩ := hW.get hCi
  have hr : r = (Cn, T, N) := Option.some.inj (h1.symm.trans hc)
  subst hr
  obtain ⟨hSi, hfc, kC, hkC, hkind⟩ := hK.1 ci _ hc
  obtain ⟨cf, kf, fi, f, hi, hsl⟩ := hSi k hk
  have hlay := hts _ (hin _ (u_in_lay hk))
  unfold u_lay at hlay
  rw [if_pos hfin] at hlay
  have hst := (u_facts hfc hkC (u_lays hts hin hk) hi).1
  have hcf : m.cls = cf := by
    obtain ⟨_, _, c', _, _, _, -, -, hf', -, -, -, hown2, -⟩ := Cond.laysFinal_spec hlay
    have e1 : c' = cf := by have := hi.symm.trans hf'; simp at this; exact this.1.symm
    rw [hdecl] at hown2
    rw [← e1]; exact Option.some.inj (F.2.2.2.1.symm.trans hown2)
  have h6 := u_fits hfc hkC hkind (Or.inr hlay) hi hd' hn hfit
  refine W.putFinK F.1 F.2.1 F.2.2.2.1 (hts _ hlink) hi hst hcf (hini.1 hI) (by rw [q2]; exact h6) q1 q3 (by rw [hsl]; exact k2_hasslot (q4 k hk)) rfl rfl hd fun H' e1 e2 e3 => ?_
  rw [hsl] at e1 ⊢
  refine kk p e s m args below meth c F hini H' _ ls (hW.set e2 e3 ⟨_, hc, t_OB.to (V := updV (vp_V fs) k v) ⟨_, e1, q2, q3, t_set q4 hap hk v⟩ (fun j _ => vp_updV_set hl' v j)⟩) (hS.put e2 e3 (Nat.le_add_right _ _)) hl
/-- a field that is not final -/
theorem n_put {index ci k i N : Nat} {Cn : String} {T : u_T} {fs : List Value} {v : Value} {ty : FieldType} (ty0 : Nat → FieldType) (hty : ∀ k, k < N → parseFieldDescriptor (T k).2.2.1 = some (ty0 k)) (hnm : ∀ a, a < N → ∀ b, b < N → a ≠ b → (T a).2.1 ≠ (T b).2.1) (hin : ∀ w ∈ u_ws Cn T N, w ∈ GW) (hc : vwCl[ci]? = some (Cn, T, N)) (hCi : C[i]? = some (.inr (ci, fs))) (hk : k < N) (hlink : Cond.fieldLink own index (T k).1 (T k).2.1 (T k).2.2.1 ∈ GW) (hfin : (T k).2.2.2 = false) (hd' : parseFieldDescriptor (T k).2.2.1 = some ty) (hn : narrow ty v = v) (hfit : fits ty v = true) (hl' : k < fs.length) (hd : decode cc pc = .ok (.putfield index, 3))
    (kk : VN g cc nL own rt ini R Qf kc ks (pc + 3) lv rest (C.set i (.inr (ci, fs.set k v)))) : VN g cc nL own rt ini R Qf kc ks pc lv (v :: .ref (g.2.1 + i) :: rest) C := by
  intro p e s m args below meth c F hini H locs ls hW hS hl
  have hts := F.2.2.2.2.1
  have hK := F.2.2.2.2.2.1
  have hap := va_apart (own := own) hts hin ty0 hty hnm hK hc
  obtain ⟨r, h1, cell, q1, q2, q3, q4⟩ := hW.get hCi
  have hr : r = (Cn, T, N) := Option.some.inj (h1.symm.trans hc)
  subst hr
  obtain ⟨hSi, hfc, kC, hkC, hkind⟩ := hK.1 ci _ hc
  obtain ⟨cf, kf, fi, f, hi, hsl⟩ := hSi k hk
  have hlay := hts _ (hin _ (u_in_lay hk))
  unfold u_lay at hlay
  rw [if_neg (by rw [hfin]; decide)] at hlay
  have hst := (u_facts hfc hkC (u_lays hts hin hk) hi).1
  have h6 := u_store hfc hkC hkind hlay hi hd' hn hfit
  refine W.putK F.1 F.2.1 (f := f) ⟨F.2.2.2.1, hts _ hlink, ⟨_, _, _, hi⟩, hst⟩ (by rw [q2]; exact h6) q1 q3 (by rw [hsl]; exact k2_hasslot (q4 k hk)) rfl rfl hd fun H' e1 e2 e3 => ?_
  rw [hsl] at e1 ⊢
  refine kk p e s m args below meth c F hini H' _ ls (hW.set e2 e3 ⟨_, hc, t_OB.to (V := updV (vp_V fs) k v) ⟨_, e1, q2, q3, t_set q4 hap hk v⟩ (fun j _ => vp_updV_set hl' v j)⟩) (hS.put e2 e3 (Nat.le_add_right _ _)) hl
end
