section
variable {g : GC} {cc : ByteArray} {nL : Nat} {own : String} {rt : Option FieldType} {ini : Bool} {R : Room} {Qf : List Frame → Array Value → State → State → Prop} {kc ks pc : Nat} {lv : List (Nat × Value)} {rest : List Value} {C : List va_E}
/-- a row of references, all null -/
theorem n_anewa {index i N : Nat} {Cn : String} {n : Int32} (h1 : Cond.classLink own index Cn ∈ GW) (hCn : Cn = "FoldedArchive$State") (hi : ∀ g : GC, (tysL g)[i]? = some (g.2.2.1 i, .object Cn)) (hn : ¬ n < 0) (hN : n.toNatClampNeg = N) (hbytes : N * 4 ≤ 536870912) (hcells : kc + 1 ≤ R.cells) (hslots : ks + N ≤ R.slots) (hd : decode cc pc = .ok (.anewarray index, 3))
    (k : VN g cc nL own rt ini R Qf (kc + 1) (ks + N) (pc + 3) lv (.ref (g.2.1 + C.length) :: rest) (C ++ [.inl (g.2.2.1 i, N, .inr (.inr (.inr (.inr (fun _ => none)))))])) : VN g cc nL own rt ini R Qf kc ks pc lv (.int n :: rest) C := by
  intro p e s m args below meth c F hini H locs ls hW hS hl
  subst hN
  have hts := F.2.2.2.2.1
  have hK := F.2.2.2.2.2.1
  refine W.anew F.1 F.2.1 F.2.2.2.1 (hts _ h1) (va_AO.use (hCn ▸ F.2.2.2.2.2.2.2.2.2.2.2)) rfl hd rfl hn hbytes hcells hslots fun cA kA comp f1 f2 f3 f4 => ?_
  generalize hH1 : H.push ({ cls := cA, slots := Array.replicate n.toNatClampNeg .null, vm := .none } : Cell) = H1
  have z1 : H1.size = H.size + 1 := by rw [← hH1, Array.size_push]
  have e1 : H1[H.size]? = some (arrV cA n.toNatClampNeg (fun _ => .null)) := by rw [← hH1, Array.getElem?_push_size, ← arrV_new]
  have o1 : ∀ q : Nat, q < H.size → H1[q]? = H[q]? := fun q hq => by rw [← hH1, Array.getElem?_push, if_neg (Nat.ne_of_lt hq)]
  have hcA : cA = g.2.2.1 i := by
    obtain ⟨kA', comp', r1, r2, r3, r4⟩ := (hK.2 i _ (hi g)).2
    exact Option.some.inj (f1.symm.trans r4)
  subst hcA
  have hW1 : HCn g (C ++ [.inl (g.2.2.1 i, n.toNatClampNeg, .inr (.inr (.inr (.inr (fun _ => none)))))]) H1 := hW.push z1 o1 (by show H1[H.size]? = some (vp_cell _ _); rw [vp_cell_q]; exact e1)
  have hS1 : va_S (fun q => g.2.1 ≤ q) s.heap H1 locs := ⟨Nat.le_trans hS.1 (by omega), fun x h1 h2 => (o1 x (Nat.lt_of_lt_of_le h1 hS.1)).trans (hS.2.1 x h1 h2), hS.2.2⟩
  rw [hW.1]
  exact k p e s m args below meth c F hini H1 locs ls hW1 hS1 hl
end
