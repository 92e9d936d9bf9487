/-! methods with handlers: what is thrown is caught by a row of the table -/
/-- the script, the text: what the law's methods read beside the store -/
abbrev scG (g : GC) : Nat × (Nat → Int32) := (g.2.2.2.2.2.2.2.1, g.2.2.2.2.2.2.2.2.1)
abbrev txG (g : GC) : List Int32 := g.2.2.2.2.2.2.2.2.2
/-- the letters of a number below a hundred -/
def dgL (v : Int32) : List Int32 := if v < 10 then [48 + v] else [48 + v / 10, 48 + (v - v / 10 * 10)]
def bL {ρ : Type} (F : Option (Int64 × XW)) (K : Int64 → XW → Option ρ) : Option ρ := F.bind fun q => K q.1 q.2
def oL : Int64 × XW → Out := fun q => (.inl (some (.long q.1)), q.2)
theorem CR_k1 {n mc ms kc : Nat} (h : kc ≤ mc) : kc ≤ (rmL n mc ms).cells := h
theorem CR_l1 {kc : Nat} (h : kc ≤ 300000) : kc ≤ room_1.cells := Nat.le_trans h (Nat.le_of_ble_eq_true rfl)
theorem CR_l2 {ks : Nat} (h : ks ≤ 2000000) : ks ≤ room_1.slots := Nat.le_trans h (Nat.le_of_ble_eq_true rfl)
theorem CR_k2 {n mc ms ks : Nat} (h : ks ≤ ms) : ks ≤ (rmL n mc ms).slots := h
def bCI {ρ : Type} (F : Option ((Int32 × XW) ⊕ (String × XW))) (K : Int32 → XW → Option ρ) (KX : String → XW → Option ρ) : Option ρ := F.bind fun q => match q with | .inl a => K a.1 a.2 | .inr x => KX x.1 x.2
def bCD {ρ : Type} (F : Option ((UInt64 × XW) ⊕ (String × XW))) (K : UInt64 → XW → Option ρ) (KX : String → XW → Option ρ) : Option ρ := F.bind fun q => match q with | .inl a => K a.1 a.2 | .inr x => KX x.1 x.2
def bCF {ρ : Type} (F : Option ((UInt32 × XW) ⊕ (String × XW))) (K : UInt32 → XW → Option ρ) (KX : String → XW → Option ρ) : Option ρ := F.bind fun q => match q with | .inl a => K a.1 a.2 | .inr x => KX x.1 x.2
def CSH (own : String) (index : Nat) (y : MethodName) (cy : ByteArray) (nLy : Nat) (ry : Option FieldType) (hy : List (Nat × Nat × Nat × Nat)) (n : Nat) : Prop := Cond.methodLink own index y ∈ GW ∧ Cond.static y ∈ GW ∧ Cond.initialized y.cls ∈ GW ∧ Cond.codeWith y cy nLy ry hy ∈ GW ∧ (y.cls ≠ "java/lang/invoke/MethodHandle" ∧ y.cls ≠ "java/lang/invoke/VarHandle") ∧ (parseMethodDescriptor y.desc).map (fun d => d.parameters.length) = some n
section WRAP
variable {ρ : Type} {g : GC} {cc : ByteArray} {nL : Nat} {own : String} {rt : Option FieldType} {hh : List (Nat × Nat × Nat × Nat)} {R : Room} {mc ms : Nat} {out : ρ → Out} {kc ks pc : Nat} {lv : List (Nat × Value)} {rest st : List Value} {w : XW} {E E1 E2 : Option ρ}
variable {index nLy n mcy msy k ci N : Nat} {y : MethodName} {cy : ByteArray} {ry : Option FieldType} {rm : Room} {As : List Value} {fs : List (Option Nat)} {T : u_T}
theorem v_callVic {Fy : Option ((Int32 × XW) ⊕ (String × XW))} {K : Int32 → XW → Option ρ} {KX : String → XW → Option ρ} (hc : CV own index y cy nLy ry n) (hM : ∀ q, Fy = some q → MM g (.code y cy nLy ry) y rm mcy msy (.ref (g.2.1 + k) :: As) w (oIX q)) (hT : TT[k]? = some (0, ci, fs)) (hC : vwCl[ci]? = some (y.cls, T, N)) (hn : As.length = n) (hs : st = As.reverse ++ .ref (g.2.1 + k) :: rest) (hst : (rest.map fun v => v.category).sum ≤ 8) (hd : decode cc pc = .ok (.invokevirtual index, 3)) (hR : CR R nLy mcy msy rm kc ks)
    (kk : ∀ x w', VE g cc nL own rt hh R mc ms out (kc + mcy) (ks + msy) (pc + 3) lv (.int x :: rest) w' (K x w')) (kx : ∀ e w', VX g cc nL own rt hh R mc ms out (kc + mcy) (ks + msy) pc lv e w' (KX e w')) : VE g cc nL own rt hh R mc ms out kc ks pc lv st w (bCI Fy K KX) :=
  v_callV hc hM hT hC hn hs hst hd hR (fun q v w' h => by
    cases q with
    | inl q => cases h; exact kk _ _
    | inr x => cases h) (fun q E0 w' h => by
    cases q with
    | inl q => cases h
    | inr x => cases h; exact kx _ _)
theorem v_callVdc {Fy : Option ((UInt64 × XW) ⊕ (String × XW))} {K : UInt64 → XW → Option ρ} {KX : String → XW → Option ρ} (hc : CV own index y cy nLy ry n) (hM : ∀ q, Fy = some q → MM g (.code y cy nLy ry) y rm mcy msy (.ref (g.2.1 + k) :: As) w (oDX q)) (hT : TT[k]? = some (0, ci, fs)) (hC : vwCl[ci]? = some (y.cls, T, N)) (hn : As.length = n) (hs : st = As.reverse ++ .ref (g.2.1 + k) :: rest) (hst : (rest.map fun v => v.category).sum ≤ 8) (hd : decode cc pc = .ok (.invokevirtual index, 3)) (hR : CR R nLy mcy msy rm kc ks)
    (kk : ∀ x w', VE g cc nL own rt hh R mc ms out (kc + mcy) (ks + msy) (pc + 3) lv (.double x :: rest) w' (K x w')) (kx : ∀ e w', VX g cc nL own rt hh R mc ms out (kc + mcy) (ks + msy) pc lv e w' (KX e w')) : VE g cc nL own rt hh R mc ms out kc ks pc lv st w (bCD Fy K KX) :=
  v_callV hc hM hT hC hn hs hst hd hR (fun q v w' h => by
    cases q with
    | inl q => cases h; exact kk _ _
    | inr x => cases h) (fun q E0 w' h => by
    cases q with
    | inl q => cases h
    | inr x => cases h; exact kx _ _)
theorem v_callVfc {Fy : Option ((UInt32 × XW) ⊕ (String × XW))} {K : UInt32 → XW → Option ρ} {KX : String → XW → Option ρ} (hc : CV own index y cy nLy ry n) (hM : ∀ q, Fy = some q → MM g (.code y cy nLy ry) y rm mcy msy (.ref (g.2.1 + k) :: As) w (oFX q)) (hT : TT[k]? = some (0, ci, fs)) (hC : vwCl[ci]? = some (y.cls, T, N)) (hn : As.length = n) (hs : st = As.reverse ++ .ref (g.2.1 + k) :: rest) (hst : (rest.map fun v => v.category).sum ≤ 8) (hd : decode cc pc = .ok (.invokevirtual index, 3)) (hR : CR R nLy mcy msy rm kc ks)
    (kk : ∀ x w', VE g cc nL own rt hh R mc ms out (kc + mcy) (ks + msy) (pc + 3) lv (.float x :: rest) w' (K x w')) (kx : ∀ e w', VX g cc nL own rt hh R mc ms out (kc + mcy) (ks + msy) pc lv e w' (KX e w')) : VE g cc nL own rt hh R mc ms out kc ks pc lv st w (bCF Fy K KX) :=
  v_callV hc hM hT hC hn hs hst hd hR (fun q v w' h => by
    cases q with
    | inl q => cases h; exact kk _ _
    | inr x => cases h) (fun q E0 w' h => by
    cases q with
    | inl q => cases h
    | inr x => cases h; exact kx _ _)
theorem v_callVd {Fy : Option (UInt64 × XW)} {K : UInt64 → XW → Option ρ} (hc : CV own index y cy nLy ry n) (hM : ∀ q, Fy = some q → MM g (.code y cy nLy ry) y rm mcy msy (.ref (g.2.1 + k) :: As) w (oD q)) (hT : TT[k]? = some (0, ci, fs)) (hC : vwCl[ci]? = some (y.cls, T, N)) (hn : As.length = n) (hs : st = As.reverse ++ .ref (g.2.1 + k) :: rest) (hst : (rest.map fun v => v.category).sum ≤ 8) (hd : decode cc pc = .ok (.invokevirtual index, 3)) (hR : CR R nLy mcy msy rm kc ks)
    (kk : ∀ x w', VE g cc nL own rt hh R mc ms out (kc + mcy) (ks + msy) (pc + 3) lv (.double x :: rest) w' (K x w')) : VE g cc nL own rt hh R mc ms out kc ks pc lv st w (bD Fy K) :=
  v_callV hc hM hT hC hn hs hst hd hR (fun q v w' h => by cases h; exact kk q.1 q.2) (fun q E0 w' h => by cases h)
theorem v_callVf {Fy : Option (UInt32 × XW)} {K : UInt32 → XW → Option ρ} (hc : CV own index y cy nLy ry n) (hM : ∀ q, Fy = some q → MM g (.code y cy nLy ry) y rm mcy msy (.ref (g.2.1 + k) :: As) w (oF q)) (hT : TT[k]? = some (0, ci, fs)) (hC : vwCl[ci]? = some (y.cls, T, N)) (hn : As.length = n) (hs : st = As.reverse ++ .ref (g.2.1 + k) :: rest) (hst : (rest.map fun v => v.category).sum ≤ 8) (hd : decode cc pc = .ok (.invokevirtual index, 3)) (hR : CR R nLy mcy msy rm kc ks)
    (kk : ∀ x w', VE g cc nL own rt hh R mc ms out (kc + mcy) (ks + msy) (pc + 3) lv (.float x :: rest) w' (K x w')) : VE g cc nL own rt hh R mc ms out kc ks pc lv st w (bF Fy K) :=
  v_callV hc hM hT hC hn hs hst hd hR (fun q v w' h => by cases h; exact kk q.1 q.2) (fun q E0 w' h => by cases h)
theorem v_callSl {Fy : Option (Int64 × XW)} {K : Int64 → XW → Option ρ} (hc : CS own index y cy nLy ry n) (hM : ∀ q, Fy = some q → MM g (.code y cy nLy ry) y rm mcy msy As w (oL q)) (hn : As.length = n) (hs : st = As.reverse ++ rest) (hst : (rest.map fun v => v.category).sum ≤ 8) (hd : decode cc pc = .ok (.invokestatic index, 3)) (hR : CR R nLy mcy msy rm kc ks)
    (kk : ∀ x w', VE g cc nL own rt hh R mc ms out (kc + mcy) (ks + msy) (pc + 3) lv (.long x :: rest) w' (K x w')) : VE g cc nL own rt hh R mc ms out kc ks pc lv st w (bL Fy K) :=
  v_callS hc hM hn hs hst hd hR (fun q v w' h => by cases h; exact kk q.1 q.2) (fun q E0 w' h => by cases h)
/-- a static call of a method with handlers -/
theorem v_callSh {Fy : Option (Int32 × XW)} {K : Int32 → XW → Option ρ} {hy : List (Nat × Nat × Nat × Nat)} (hc : CSH own index y cy nLy ry hy n) (hM : ∀ q, Fy = some q → MM g (.codeWith y cy nLy ry hy) y rm mcy msy As w (oI q)) (hn : As.length = n) (hs : st = As.reverse ++ rest) (hst : (rest.map fun v => v.category).sum ≤ 8) (hd : decode cc pc = .ok (.invokestatic index, 3)) (hR : CR R nLy mcy msy rm kc ks)
    (kk : ∀ x w', VE g cc nL own rt hh R mc ms out (kc + mcy) (ks + msy) (pc + 3) lv (.int x :: rest) w' (K x w')) : VE g cc nL own rt hh R mc ms out kc ks pc lv st w (bI Fy K) := by
  intro r hr p e s m args below meth c F H locs ls hW hS hl
  cases hF : Fy with
  | none => rw [hF] at hr; cases hr
  | some q =>
    rw [hF] at hr
    have hr' : K q.1 q.2 = some r := hr
    subst hs
    have hts := F.2.2.2.2.1
    obtain ⟨c1, c2, c4, c5, c6, c7⟩ := hc
    refine v_run_aux (o := oI q) (vx_runSX (hh := hy) (Ts := GW) (nL := nL) (n := n) (bytes := cy) (maxL := nLy) (ret := ry) ⟨F.1, F.2.1, F.2.2.1, F.2.2.2.1, hts⟩ (hM q hF)
      ⟨⟨hR.1.1, hR.1.2.1, hR.1.2.2.1, hR.1.2.2.2, GW_pay c5 hts, List.mem_cons_self⟩, hts _ c5, hts _ c4, c6, v_len c7, hts _ c1, hts _ c2⟩
      ⟨PO_blind, fun U hU hX => v_pre F hW hS hU hX⟩ rfl hn hl.1 rfl (by show 2 * 0 + _ ≤ 8; omega) hd hR.2) hS ?_ ?_
    · intro v w' ho H1 locs1 hW1 hS1
      cases ho
      exact kk q.1 q.2 r hr' p e s m args below meth c F H1 locs1 ls hW1 hS1 hl
    · intro E0 w' ho
      cases ho
theorem v_callShd {Fy : Option (UInt64 × XW)} {K : UInt64 → XW → Option ρ} {hy : List (Nat × Nat × Nat × Nat)} (hc : CSH own index y cy nLy ry hy n) (hM : ∀ q, Fy = some q → MM g (.codeWith y cy nLy ry hy) y rm mcy msy As w (oD q)) (hn : As.length = n) (hs : st = As.reverse ++ rest) (hst : (rest.map fun v => v.category).sum ≤ 8) (hd : decode cc pc = .ok (.invokestatic index, 3)) (hR : CR R nLy mcy msy rm kc ks)
    (kk : ∀ x w', VE g cc nL own rt hh R mc ms out (kc + mcy) (ks + msy) (pc + 3) lv (.double x :: rest) w' (K x w')) : VE g cc nL own rt hh R mc ms out kc ks pc lv st w (bD Fy K) := by
  intro r hr p e s m args below meth c F H locs ls hW hS hl
  cases hF : Fy with
  | none => rw [hF] at hr; cases hr
  | some q =>
    rw [hF] at hr
    have hr' : K q.1 q.2 = some r := hr
    subst hs
    have hts := F.2.2.2.2.1
    obtain ⟨c1, c2, c4, c5, c6, c7⟩ := hc
    refine v_run_aux (o := oD q) (vx_runSX (hh := hy) (Ts := GW) (nL := nL) (n := n) (bytes := cy) (maxL := nLy) (ret := ry) ⟨F.1, F.2.1, F.2.2.1, F.2.2.2.1, hts⟩ (hM q hF)
      ⟨⟨hR.1.1, hR.1.2.1, hR.1.2.2.1, hR.1.2.2.2, GW_pay c5 hts, List.mem_cons_self⟩, hts _ c5, hts _ c4, c6, v_len c7, hts _ c1, hts _ c2⟩
      ⟨PO_blind, fun U hU hX => v_pre F hW hS hU hX⟩ rfl hn hl.1 rfl (by show 2 * 0 + _ ≤ 8; omega) hd hR.2) hS ?_ ?_
    · intro v w' ho H1 locs1 hW1 hS1
      cases ho
      exact kk q.1 q.2 r hr' p e s m args below meth c F H1 locs1 ls hW1 hS1 hl
    · intro E0 w' ho
      cases ho
theorem v_callShf {Fy : Option (UInt32 × XW)} {K : UInt32 → XW → Option ρ} {hy : List (Nat × Nat × Nat × Nat)} (hc : CSH own index y cy nLy ry hy n) (hM : ∀ q, Fy = some q → MM g (.codeWith y cy nLy ry hy) y rm mcy msy As w (oF q)) (hn : As.length = n) (hs : st = As.reverse ++ rest) (hst : (rest.map fun v => v.category).sum ≤ 8) (hd : decode cc pc = .ok (.invokestatic index, 3)) (hR : CR R nLy mcy msy rm kc ks)
    (kk : ∀ x w', VE g cc nL own rt hh R mc ms out (kc + mcy) (ks + msy) (pc + 3) lv (.float x :: rest) w' (K x w')) : VE g cc nL own rt hh R mc ms out kc ks pc lv st w (bF Fy K) := by
  intro r hr p e s m args below meth c F H locs ls hW hS hl
  cases hF : Fy with
  | none => rw [hF] at hr; cases hr
  | some q =>
    rw [hF] at hr
    have hr' : K q.1 q.2 = some r := hr
    subst hs
    have hts := F.2.2.2.2.1
    obtain ⟨c1, c2, c4, c5, c6, c7⟩ := hc
    refine v_run_aux (o := oF q) (vx_runSX (hh := hy) (Ts := GW) (nL := nL) (n := n) (bytes := cy) (maxL := nLy) (ret := ry) ⟨F.1, F.2.1, F.2.2.1, F.2.2.2.1, hts⟩ (hM q hF)
      ⟨⟨hR.1.1, hR.1.2.1, hR.1.2.2.1, hR.1.2.2.2, GW_pay c5 hts, List.mem_cons_self⟩, hts _ c5, hts _ c4, c6, v_len c7, hts _ c1, hts _ c2⟩
      ⟨PO_blind, fun U hU hX => v_pre F hW hS hU hX⟩ rfl hn hl.1 rfl (by show 2 * 0 + _ ≤ 8; omega) hd hR.2) hS ?_ ?_
    · intro v w' ho H1 locs1 hW1 hS1
      cases ho
      exact kk q.1 q.2 r hr' p e s m args below meth c F H1 locs1 ls hW1 hS1 hl
    · intro E0 w' ho
      cases ho
theorem v_xnone {e : String} : VX g cc nL own rt hh R mc ms out kc ks pc lv e w (none : Option ρ) := fun r hr => by cases hr
theorem v_xsplit {e a : String} (h1 : VX g cc nL own rt hh R mc ms out kc ks pc lv a w E1) (h2 : VX g cc nL own rt hh R mc ms out kc ks pc lv e w E2) : VX g cc nL own rt hh R mc ms out kc ks pc lv e w (if e = a then E1 else E2) := by
  intro r hr
  by_cases h : e = a
  · rw [if_pos h] at hr
    subst h
    exact h1 r hr
  · rw [if_neg h] at hr
    exact h2 r hr
theorem v_catch {a : String} (pre : List (Nat × Nat × Nat × Nat)) (x : Nat × Nat × Nat × Nat) (suf : List (Nat × Nat × Nat × Nat)) (hs : hh = pre ++ x :: suf) (hpass : ∀ z ∈ pre, z.2.2.2 ≠ 0 ∧ ∃ nm : String, Cond.classLink own z.2.2.2 nm ∈ GW ∧ (a, nm) ∈ ncTab)
    (hx : covers ⟨x.1, x.2.1, x.2.2.1, x.2.2.2⟩ pc = true) (h0 : x.2.2.2 ≠ 0) (hlink : Cond.classLink own x.2.2.2 a ∈ GW) (hcast : Cond.castable a a ∈ NGW) (kk : ∀ q : Nat, VE g cc nL own rt hh R mc ms out kc ks x.2.2.1 lv [.ref q] w E) : VX g cc nL own rt hh R mc ms out kc ks pc lv a w E := by
  intro r hr p e s m args below meth c F H locs ls rest q ce hW hS hl hce hcv hcl
  have hts := F.2.2.2.2.1
  have htab : c.exceptionTable.toList = tableOf hh := F.2.2.2.2.2.2.2.2.2.2.2.2
  have htab2 : c.exceptionTable.toList = tableOf pre ++ ⟨x.1, x.2.1, x.2.2.1, x.2.2.2⟩ :: tableOf suf := by
    rw [htab, hs]
    simp [tableOf]
  refine vx_catch (name := a) F.2.2.2.1 (tableOf pre) _ (tableOf suf) htab2 ?_ hx h0 (hts _ hlink) (ng_moved (u := s) (U := s) (a := #[]) (a' := args) (Vm.Alike.refl s.vm) hcast (F.2.2.2.2.2.2.2.2.1.1 _ hcast)) hce hcv hcl (kk q r hr p e s m args below meth c F H locs ls hW hS hl)
  intro z hz
  unfold tableOf at hz
  obtain ⟨z', hz', rfl⟩ := List.mem_map.mp hz
  obtain ⟨h1, nm, h2, h3⟩ := hpass z' hz'
  exact Or.inr ⟨h1, nm, hts _ h2, F.2.2.2.2.2.2.2.2.1.2.2 _ h3⟩
theorem MM_ofH {y : MethodName} {av : List Value} {o : Out} (hl : g.1.stackTraces = false) (hy : plainName y.cls = true) (hcode : Cond.codeWith y cc nL rt hh ∈ GW) (ho : y.cls = own) (hav : (lg_sl av).length ≤ nL)
    (body : VB g cc nL own rt hh R mc ms o 0 0 0 (lv_args 0 av) [] w) (hR : R.cells = mc ∧ R.slots = ms) : MM g (.codeWith y cc nL rt hh) y R mc ms av w o := by
  refine vx_ofWH (cc := cc) (maxL := nL) (ret := rt) (hh := hh) hy rfl ?_
  intro p e s m args below meth c s₁ B hml hP
  obtain ⟨rfl, hb, hW, hK, hSF, hSTR⟩ := hP
  have hts := atoms_spec (ws := .codeWith y cc nL rt hh :: GW) B.pre
  have hown : s.vm.findClass own = some m.cls := ho ▸ findClass_of_methodNamed B.named
  have F : FX g cc nL own rt hh p s m av.toArray meth c := ⟨B.exec, B.bytes, hml, hown, fun z hz => hts z (List.mem_cons_of_mem _ hz), hK, hb, hSF, hSTR, B.notSynchronized, B.returns, hl, vx_table (x := y) B (hts _ List.mem_cons_self)⟩
  rw [lg_entry_eq]
  exact body p e s m av.toArray below meth c F s.heap [] _ hW VS.rf (lv_entry av hav)
theorem CR_law {n' nLy mcy msy kc ks : Nat} (h : n' ≤ 1000) (hm : nLy ≤ 45) (hc : kc + mcy ≤ 300000) (hs : ks + msy ≤ 2000000) : CR room_1 nLy mcy msy (rmL n' mcy msy) kc ks :=
  ⟨⟨rfl, rfl, by show 16 + n' + 1 ≤ 2048; omega, by show 8 + (nLy + 11) + (200 + 64 * n') ≤ 94400; omega⟩, CR_l1 hc, CR_l2 hs⟩
end WRAP
