/-! a constructor's contract -/
def QfC (g : GC) (Z : List va_E) (mc ms : Nat) : List Frame → Array Value → State → State → Prop := fun below args s => MQ below (QON g Z) args s mc ms (fun q => g.2.1 ≤ q)
def MMc (g : GC) (hd : Cond) (y : MethodName) (rm : Room) (mc ms : Nat) (av : List Value) (C Z : List va_E) : Prop := Met g.1 y (hd :: GW) rm (PON g av C) (QON g Z) mc ms (fun q => g.2.1 ≤ q)
section
variable {g : GC} {cc : ByteArray} {nL : Nat} {own : String} {rt : Option FieldType} {ini : Bool} {R : Room} {Qf : List Frame → Array Value → State → State → Prop} {mc ms : Nat} {Z : List va_E} {kc ks pc : Nat} {lv : List (Nat × Value)} {rest : List Value} {C : List va_E}
theorem n_vret (hd : decode cc pc = .ok (.return_, 1)) (h1 : kc ≤ mc) (h2 : ks ≤ ms) (hZ : C = Z) : VN g cc nL own none ini R (QfC g Z mc ms) kc ks pc lv [] C := by
  intro p e s m args below meth c F hi H locs ls hW hS hl
  subst hZ
  refine W.widen h1 h2 ?_
  exact W.vret F.1 F.2.1 F.2.2.2.2.2.2.2.2.2.2.1 (fun t ht _ => ⟨rfl, by rw [ht]; exact hW, hS.F ht⟩) hS.2.2 hd F.2.2.2.2.2.2.2.2.2.1
theorem n_objInit {index a : Nat} (h1 : Cond.methodLink own index Lib.objectInit ∈ GW) (h2 : Cond.instanceMethod Lib.objectInit ∈ GW) (h3 : Cond.code Lib.objectInit ⟨#[0xb1]⟩ 1 none ∈ GW) (hd : decode cc pc = .ok (.invokespecial index, 3)) (hf : 1 ≤ R.frames) (hlo : (rest.map fun v => v.category).sum + 12 ≤ R.locals) (k : VN g cc nL own rt ini R Qf kc ks (pc + 3) lv rest C) : VN g cc nL own rt ini R Qf kc ks pc lv (.ref a :: rest) C := by
  intro p e s m args below meth c F hi H locs ls hW hS hl
  have hts := F.2.2.2.2.1
  refine W.objInit F.1 F.2.1 F.2.2.2.1 (hts _ h1) (hts _ h2) (hts _ h3) rfl (by rw [F.2.2.1]; exact hl.1) rfl hd hf (by show 2 * 0 + _ + 12 ≤ R.locals; omega) ?_
  exact k p e s m args below meth c F hi H locs ls hW hS hl
theorem MMc_of {y : MethodName} {av : List Value} (hy : plainName y.cls = true) (hcode : Cond.code y cc nL none ∈ GW) (ho : y.cls = own) (hnm : y.name = "<init>") (hav : (lg_sl av).length ≤ nL)
    (body : VN g cc nL own none true R (QfC g Z mc ms) 0 0 0 (lv_args 0 av) [] C) (hR : R.cells = mc ∧ R.slots = ms) : MMc g (.code y cc nL none) y R mc ms av C Z := by
  refine Met.ofW (cc := cc) (maxL := nL) (ret := none) hy rfl ?_
  intro p e s m args below meth c s₁ B hml hP
  obtain ⟨rfl, hb, hW, hK, hSF, hSTR, hAO⟩ := hP
  have hts := atoms_spec (ws := .code y cc nL none :: GW) B.pre
  have hown : s.vm.findClass own = some m.cls := ho ▸ findClass_of_methodNamed B.named
  have F : FN g cc nL own none p s m av.toArray meth c := ⟨B.exec, B.bytes, hml, hown, fun z hz => hts z (List.mem_cons_of_mem _ hz), hK, hb, hSF, hSTR, B.notSynchronized, B.returns, hAO⟩
  have hin : meth.name = "<init>" := (name_of_methodNamed B.named B.method).1.trans hnm
  rw [lg_entry_eq]
  exact body p e s m av.toArray below meth c F ⟨fun _ => hin, fun h => by cases h⟩ s.heap [] _ hW va_S.rf (lv_entry av hav)
end
