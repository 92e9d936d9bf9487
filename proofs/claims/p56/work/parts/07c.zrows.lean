/-! Stretches of the law in which a text is made: beside the world the cells of a builder -/
def TXok (tx : List Int32) : Prop := ∀ c ∈ tx, 0 ≤ c ∧ c ≤ 127
def bR (tx : List Int32) : Nat → Int32 := fun i => tx.getD i 0
def BL (g : GC) (b d : Nat) (tx : List Int32) : va_W := [(b, sbC d tx.length), (d, byC g 16 (bR tx))]
def ZA (g : GC) (s : State) : Nat → Prop := fun q => g.2.1 + TT.length ≤ q ∧ s.heap.size ≤ q
def ZOn : va_W → Prop := fun wo => wo = []
def ZOb (g : GC) (b : Nat) (tx : List Int32) (N : Nat) : va_W → Prop := fun wo => ∃ d, wo = BL g b d tx ∧ tx.length ≤ N ∧ TXok tx
def ZOs (g : GC) (s0 : Nat) (tx : List Int32) (N : Nat) : va_W → Prop := fun wo => ∃ q f, wo = [(s0, .inr (12, [.ref q, .int 0, .int 0, .int 0])), (q, byC g tx.length f)] ∧ (∀ i, i < tx.length → f i = tx.getD i 0) ∧ tx.length ≤ N ∧ TXok tx
def ZZ (g : GC) (s : State) (zo : va_W → Prop) (b : Nat) (tx : List Int32) (N : Nat) (H : Heap) : Prop := ∃ wo d, zo wo ∧ va_P g.2.2.2.1 vwCl wo H ∧ va_P g.2.2.2.1 vwCl (BL g b d tx) H ∧ va_D (ZA g s) (wo ++ BL g b d tx) ∧ tx.length ≤ N ∧ TXok tx
def VZ {ρ : Type} (g : GC) (cc : ByteArray) (nL : Nat) (own : String) (rt : Option FieldType) (hh : List (Nat × Nat × Nat × Nat)) (R : Room) (mc ms : Nat) (out : ρ → Out) (zo : va_W → Prop) (b : Nat) (tx : List Int32) (N : Nat) (kc ks pc : Nat) (lv : List (Nat × Value)) (st : List Value) (w : XW) (E : Option ρ) : Prop :=
  ∀ r, E = some r → ∀ (p : Program) (e : Env) (s : State) (m : MethodId) (args : Array Value) (below : List Frame) (meth : Method) (c : Code), FX g cc nL own rt hh p s m args meth c →
    ∀ (H : Heap) (locs : List Loc) (ls : Array Slot), RW g w H → VS g s.heap H locs → lv_has ls nL lv → ZZ g s zo b tx N H →
      W p g.1 e R s m args below meth c H locs kc ks (vx_MQ below (QO g (out r)) (XO g (out r)) args s mc ms (fun q => g.2.1 ≤ q)) (F0 m pc ls st)
/-- the room that the JDK's methods take -/
def ZR (R : Room) (dc ds kc ks : Nat) : Prop := ∃ n mc ms, R = rmL n mc ms ∧ 8 ≤ n ∧ kc + dc ≤ mc ∧ ks + ds ≤ ms
theorem ZR_rm {n mc ms dc ds kc ks : Nat} (h : 8 ≤ n) (h1 : kc + dc ≤ mc) (h2 : ks + ds ≤ ms) : ZR (rmL n mc ms) dc ds kc ks := ⟨n, mc, ms, rfl, h, h1, h2⟩
theorem ZR.cr {R : Room} {dc ds kc ks nLy n' : Nat} (h : ZR R dc ds kc ks) (hn : n' < 8) (hL : nLy ≤ 45) : CR R nLy dc ds (rmL n' dc ds) kc ks := by
  obtain ⟨n, mc, ms, rfl, h0, h1, h2⟩ := h
  exact CR_rm (Nat.lt_of_lt_of_le hn h0) hL h1 h2
/-! regions -/
theorem va_O.cap {E : String} {t : Nat} {A B : Nat → Prop} {U : State} {H : Heap} (h : va_O E t A U H) (hB : ∀ q, q < H.size → ¬ A q → ¬ B q) : va_O E t B U H := by
  obtain ⟨cell, h1, h2, h3, h4⟩ := h
  exact ⟨cell, h1, h2, h3, hB t (Array.getElem?_eq_some_iff.mp h1).1 h4⟩
theorem va_OF.cap {o n d : String} {v : Value} {t : Nat} {A B : Nat → Prop} {U : State} {H : Heap} (h : va_OF o n d v t A U H) (hB : ∀ q, q < H.size → ¬ A q → ¬ B q) : va_OF o n d v t B U H := by
  obtain ⟨cf, k, i, f, cell, h1, h2, h3, h4, h5, h6⟩ := h
  exact ⟨cf, k, i, f, cell, h1, h2, h3, h4, h5, hB t (Array.getElem?_eq_some_iff.mp h3).1 h6⟩
theorem va_T.cap {ty : FieldType} {t N : Nat} {f : Nat → Value} {A B : Nat → Prop} {U : State} {H : Heap} (h : va_T ty t N f A U H) (hB : ∀ q, q < H.size → ¬ A q → ¬ B q) : va_T ty t N f B U H := by
  obtain ⟨cell, h1, h2, h3, h4, h5, h6, h7⟩ := h
  exact ⟨cell, h1, h2, h3, h4, h5, h6, hB t (Array.getElem?_eq_some_iff.mp h1).1 h7⟩
theorem StrA.cap {A B : Nat → Prop} {x : Nat × Nat × List Int32} {U : State} {H : Heap} (h : StrA A x U H) (hB : ∀ q, q < H.size → ¬ A q → ¬ B q) : StrA B x U H := ⟨h.1.cap hB, h.2.1.cap hB, h.2.2.1.cap hB, h.2.2.2.cap hB⟩
theorem JFs.narrow {A B : Nat → Prop} {sx : SX} {U : State} {H : Heap} (h : JFs A sx U H) (hAB : ∀ q, B q → A q) : JFs B sx U H :=
  ⟨h.1.narrow hAB, ⟨⟨h.2.1.1.1.narrow hAB, h.2.1.1.2.narrow hAB⟩, h.2.1.2.1.narrow hAB, h.2.1.2.2.narrow hAB⟩, fun x hx => (h.2.2.1 x hx).cap (fun q _ h2 h3 => h2 (hAB q h3)), h.2.2.2⟩
def Zr (g : GC) (s : State) : Nat → Prop := fun q => TTr g q ∨ s.heap.size ≤ q
theorem RW.keptT {g : GC} {w : XW} {H H1 : Heap} (h : RW g w H) (hq : ∀ a : Nat, a < H.size → TTr g a → H1[a]? = H[a]?) : RW g w H1 := fun k q hk => (h k q hk).kept (hq _ ((h k q hk).lt) (TTr_of hk))
set_option maxRecDepth 100000 in
theorem RW.top {g : GC} {w : XW} {H : Heap} (h : RW g w H) : g.2.1 + TT.length ≤ H.size := by
  have h1 : TT[141]? = some (TT[141]'(by decide)) := rfl
  have h2 := (h 141 _ h1).lt
  have h3 : TT.length = 142 := by decide
  omega
section ZROWS
variable {ρ : Type} {g : GC} {cc : ByteArray} {nL : Nat} {own : String} {rt : Option FieldType} {hh : List (Nat × Nat × Nat × Nat)} {R : Room} {mc ms : Nat} {out : ρ → Out} {kc ks pc : Nat} {lv : List (Nat × Value)} {rest : List Value} {w : XW} {E E1 E2 : Option ρ}
variable {zo : va_W → Prop} {b : Nat} {tx : List Int32} {N : Nat}
theorem z_iconst {n : Int} {v : Int32} (hd : decode cc pc = .ok (.iconst n, 1)) (hv : Int32.ofInt n = v) (k : VZ g cc nL own rt hh R mc ms out zo b tx N kc ks (pc + 1) lv (.int v :: rest) w E) : VZ g cc nL own rt hh R mc ms out zo b tx N kc ks pc lv (rest) w E := fun r hr p e s m args below meth c F H locs ls hW hS hl hZ => lv_iconst F.1 F.2.1 hd hv (k r hr p e s m args below meth c F H locs ls hW hS hl hZ)
theorem z_bipush {n : Int} {v : Int32} (hd : decode cc pc = .ok (.bipush n, 2)) (hv : (Int8.ofInt n).toInt32 = v) (k : VZ g cc nL own rt hh R mc ms out zo b tx N kc ks (pc + 2) lv (.int v :: rest) w E) : VZ g cc nL own rt hh R mc ms out zo b tx N kc ks pc lv (rest) w E := fun r hr p e s m args below meth c F H locs ls hW hS hl hZ => lv_bipush F.1 F.2.1 hd hv (k r hr p e s m args below meth c F H locs ls hW hS hl hZ)
theorem z_sipush {n : Int} {v : Int32} (hd : decode cc pc = .ok (.sipush n, 3)) (hv : (Int16.ofInt n).toInt32 = v) (k : VZ g cc nL own rt hh R mc ms out zo b tx N kc ks (pc + 3) lv (.int v :: rest) w E) : VZ g cc nL own rt hh R mc ms out zo b tx N kc ks pc lv (rest) w E := fun r hr p e s m args below meth c F H locs ls hW hS hl hZ => lv_sipush F.1 F.2.1 hd hv (k r hr p e s m args below meth c F H locs ls hW hS hl hZ)
theorem z_iload_n {j : Fin 4} {i : Nat} {x : Int32} (hd : decode cc pc = .ok (.iload_n j, 1)) (hi : (j : Nat) = i) (q : Nat) (hq : lv[q]? = some (i, .int x)) (k : VZ g cc nL own rt hh R mc ms out zo b tx N kc ks (pc + 1) lv (.int x :: rest) w E) : VZ g cc nL own rt hh R mc ms out zo b tx N kc ks pc lv (rest) w E := fun r hr p e s m args below meth c F H locs ls hW hS hl hZ => lv_iload_n F.1 F.2.1 hd hi (lv_at hl q hq) (k r hr p e s m args below meth c F H locs ls hW hS hl hZ)
theorem z_iload {i : Nat} {x : Int32} (hd : decode cc pc = .ok (.iload i, 2)) (q : Nat) (hq : lv[q]? = some (i, .int x)) (k : VZ g cc nL own rt hh R mc ms out zo b tx N kc ks (pc + 2) lv (.int x :: rest) w E) : VZ g cc nL own rt hh R mc ms out zo b tx N kc ks pc lv (rest) w E := fun r hr p e s m args below meth c F H locs ls hW hS hl hZ => lv_iload F.1 F.2.1 hd (lv_at hl q hq) (k r hr p e s m args below meth c F H locs ls hW hS hl hZ)
theorem z_aload_n {j : Fin 4} {i : Nat} {x : Nat} (hd : decode cc pc = .ok (.aload_n j, 1)) (hi : (j : Nat) = i) (q : Nat) (hq : lv[q]? = some (i, .ref x)) (k : VZ g cc nL own rt hh R mc ms out zo b tx N kc ks (pc + 1) lv (.ref x :: rest) w E) : VZ g cc nL own rt hh R mc ms out zo b tx N kc ks pc lv (rest) w E := fun r hr p e s m args below meth c F H locs ls hW hS hl hZ => lv_aload_n F.1 F.2.1 hd hi (lv_at hl q hq) (k r hr p e s m args below meth c F H locs ls hW hS hl hZ)
theorem z_aload {i : Nat} {x : Nat} (hd : decode cc pc = .ok (.aload i, 2)) (q : Nat) (hq : lv[q]? = some (i, .ref x)) (k : VZ g cc nL own rt hh R mc ms out zo b tx N kc ks (pc + 2) lv (.ref x :: rest) w E) : VZ g cc nL own rt hh R mc ms out zo b tx N kc ks pc lv (rest) w E := fun r hr p e s m args below meth c F H locs ls hW hS hl hZ => lv_aload F.1 F.2.1 hd (lv_at hl q hq) (k r hr p e s m args below meth c F H locs ls hW hS hl hZ)
theorem z_iadd {x y : Int32} (hd : decode cc pc = .ok (.iadd, 1)) (k : VZ g cc nL own rt hh R mc ms out zo b tx N kc ks (pc + 1) lv (.int (x + y) :: rest) w E) : VZ g cc nL own rt hh R mc ms out zo b tx N kc ks pc lv (.int y :: .int x :: rest) w E := fun r hr p e s m args below meth c F H locs ls hW hS hl hZ => lv_iadd F.1 F.2.1 hd (k r hr p e s m args below meth c F H locs ls hW hS hl hZ)
theorem z_isub {x y : Int32} (hd : decode cc pc = .ok (.isub, 1)) (k : VZ g cc nL own rt hh R mc ms out zo b tx N kc ks (pc + 1) lv (.int (x - y) :: rest) w E) : VZ g cc nL own rt hh R mc ms out zo b tx N kc ks pc lv (.int y :: .int x :: rest) w E := fun r hr p e s m args below meth c F H locs ls hW hS hl hZ => lv_isub F.1 F.2.1 hd (k r hr p e s m args below meth c F H locs ls hW hS hl hZ)
theorem z_irem {x y : Int32} (hd : decode cc pc = .ok (.irem, 1)) (hne : ¬ y = 0) (k : VZ g cc nL own rt hh R mc ms out zo b tx N kc ks (pc + 1) lv (.int (x - x / y * y) :: rest) w E) : VZ g cc nL own rt hh R mc ms out zo b tx N kc ks pc lv (.int y :: .int x :: rest) w E := fun r hr p e s m args below meth c F H locs ls hW hS hl hZ => lv_irem F.1 F.2.1 hd hne (k r hr p e s m args below meth c F H locs ls hW hS hl hZ)
theorem z_idiv {x y : Int32} (hd : decode cc pc = .ok (.idiv, 1)) (hne : ¬ y = 0) (k : VZ g cc nL own rt hh R mc ms out zo b tx N kc ks (pc + 1) lv (.int (x / y) :: rest) w E) : VZ g cc nL own rt hh R mc ms out zo b tx N kc ks pc lv (.int y :: .int x :: rest) w E := fun r hr p e s m args below meth c F H locs ls hW hS hl hZ => lv_idiv F.1 F.2.1 hd hne (k r hr p e s m args below meth c F H locs ls hW hS hl hZ)
theorem z_i2c {x : Int32} (hd : decode cc pc = .ok (.i2c, 1)) (k : VZ g cc nL own rt hh R mc ms out zo b tx N kc ks (pc + 1) lv (.int (x.toUInt32 % 65536).toInt32 :: rest) w E) : VZ g cc nL own rt hh R mc ms out zo b tx N kc ks pc lv (.int x :: rest) w E := fun r hr p e s m args below meth c F H locs ls hW hS hl hZ => lv_i2c F.1 F.2.1 hd rfl (k r hr p e s m args below meth c F H locs ls hW hS hl hZ)
theorem z_goto {off : Int} {tgt : Nat} (hd : decode cc pc = .ok (.goto off, 3)) (ht : (pc : Int) + off = (tgt : Int)) (k : VZ g cc nL own rt hh R mc ms out zo b tx N kc ks tgt lv rest w E) : VZ g cc nL own rt hh R mc ms out zo b tx N kc ks pc lv rest w E := fun r hr p e s m args below meth c F H locs ls hW hS hl hZ => lv_goto F.1 F.2.1 hd ht (k r hr p e s m args below meth c F H locs ls hW hS hl hZ)
theorem z_if_ne {x : Int32} {off : Int} {tgt : Nat} (hd : decode cc pc = .ok (.ifCond .ne off, 3)) (ht : (pc : Int) + off = (tgt : Int)) (kt : VZ g cc nL own rt hh R mc ms out zo b tx N kc ks tgt lv rest w E1) (kf : VZ g cc nL own rt hh R mc ms out zo b tx N kc ks (pc + 3) lv rest w E2) : VZ g cc nL own rt hh R mc ms out zo b tx N kc ks pc lv (.int x :: rest) w (if x = 0 then E2 else E1) := fun r hr p e s m args below meth c F H locs ls hW hS hl hZ => lv_if_ne F.1 F.2.1 hd ht (fun h => kt r (by rw [if_neg h] at hr; exact hr) p e s m args below meth c F H locs ls hW hS hl hZ) (fun h => kf r (by rw [if_pos h] at hr; exact hr) p e s m args below meth c F H locs ls hW hS hl hZ)
theorem z_if_eq {x : Int32} {off : Int} {tgt : Nat} (hd : decode cc pc = .ok (.ifCond .eq off, 3)) (ht : (pc : Int) + off = (tgt : Int)) (kt : VZ g cc nL own rt hh R mc ms out zo b tx N kc ks tgt lv rest w E1) (kf : VZ g cc nL own rt hh R mc ms out zo b tx N kc ks (pc + 3) lv rest w E2) : VZ g cc nL own rt hh R mc ms out zo b tx N kc ks pc lv (.int x :: rest) w (if x = 0 then E1 else E2) := fun r hr p e s m args below meth c F H locs ls hW hS hl hZ => lv_if_eq F.1 F.2.1 hd ht (fun h => kt r (by rw [if_pos h] at hr; exact hr) p e s m args below meth c F H locs ls hW hS hl hZ) (fun h => kf r (by rw [if_neg h] at hr; exact hr) p e s m args below meth c F H locs ls hW hS hl hZ)
theorem z_icmp_ne {x y : Int32} {off : Int} {tgt : Nat} (hd : decode cc pc = .ok (.if_icmp .ne off, 3)) (ht : (pc : Int) + off = (tgt : Int)) (kt : VZ g cc nL own rt hh R mc ms out zo b tx N kc ks tgt lv rest w E1) (kf : VZ g cc nL own rt hh R mc ms out zo b tx N kc ks (pc + 3) lv rest w E2) : VZ g cc nL own rt hh R mc ms out zo b tx N kc ks pc lv (.int y :: .int x :: rest) w (if x = y then E2 else E1) := fun r hr p e s m args below meth c F H locs ls hW hS hl hZ => lv_icmp_ne F.1 F.2.1 hd ht (fun h => kt r (by rw [if_neg h] at hr; exact hr) p e s m args below meth c F H locs ls hW hS hl hZ) (fun h => kf r (by rw [if_pos h] at hr; exact hr) p e s m args below meth c F H locs ls hW hS hl hZ)
theorem z_icmp_eq {x y : Int32} {off : Int} {tgt : Nat} (hd : decode cc pc = .ok (.if_icmp .eq off, 3)) (ht : (pc : Int) + off = (tgt : Int)) (kt : VZ g cc nL own rt hh R mc ms out zo b tx N kc ks tgt lv rest w E1) (kf : VZ g cc nL own rt hh R mc ms out zo b tx N kc ks (pc + 3) lv rest w E2) : VZ g cc nL own rt hh R mc ms out zo b tx N kc ks pc lv (.int y :: .int x :: rest) w (if x = y then E1 else E2) := fun r hr p e s m args below meth c F H locs ls hW hS hl hZ => lv_icmp_eq F.1 F.2.1 hd ht (fun h => kt r (by rw [if_pos h] at hr; exact hr) p e s m args below meth c F H locs ls hW hS hl hZ) (fun h => kf r (by rw [if_neg h] at hr; exact hr) p e s m args below meth c F H locs ls hW hS hl hZ)
theorem z_ldcSw {index i : Nat} {tx9 : String} {bs : List Int32} (hi : strTab[i]? = some (own, index, tx9, bs)) (hd : decode cc pc = .ok (.ldc_w index, 3)) (k : VZ g cc nL own rt hh R mc ms out zo b tx N kc ks (pc + 3) lv (.ref (g.2.2.2.2.1 i) :: rest) w E) : VZ g cc nL own rt hh R mc ms out zo b tx N kc ks pc lv rest w E := by
  intro r hr p e s m args below meth c F H locs ls hW hS hl hZ T hT X
  obtain ⟨t, a1, b1⟩ := k r hr p e s m args below meth c F H locs ls hW hS hl hZ T hT X
  have hz := F.2.2.2.2.2.2.2.2.1.2.1 i _ hi
  have hz0 : (Cond.stringRef own index tx9).before args s = true := hz.1
  exact ⟨t, X.ldcStringW F.1 F.2.2.2.1 (text := tx9) (a := g.2.2.2.2.1 i) hz.1 hz.2 (g := F0 m pc ls rest) rfl (by rw [F.2.1]; exact hd) t a1, b1⟩
theorem z_guard {c : Prop} [Decidable c] {st : List Value} (k : c → VZ g cc nL own rt hh R mc ms out zo b tx N kc ks pc lv st w E) : VZ g cc nL own rt hh R mc ms out zo b tx N kc ks pc lv st w (if c then E else none) := by
  intro r hr
  by_cases h : c
  · rw [if_pos h] at hr; exact k h r hr
  · rw [if_neg h] at hr; cases hr
/-- what the JDK's methods read -/
theorem zJ0 {p : Program} {s : State} {m : MethodId} {args : Array Value} {meth : Method} {c : Code} {H : Heap} {locs : List Loc} (F : FX g cc nL own rt hh p s m args meth c) (hS : VS g s.heap H locs) : ∃ dd, (∀ i L, strT g i = some L → StrA (Zr g s) (g.2.2.2.2.1 i, g.2.2.2.2.2.1 i, L) s H) ∧ JFs (Zr g s) (none, dd) s H := by
  have hSF := F.2.2.2.2.2.2.2.1
  have hlow : ∀ q, Zr g s q → g.2.1 ≤ q := fun q h => h.elim (fun h => h.1) (fun h => Nat.le_trans F.2.2.2.2.2.2.1 h)
  have hq : ∀ q, q < s.heap.size → ¬ Zr g s q → H[q]? = s.heap[q]? := fun q h1 h2 => hS.2.1 q h1 (fun h => h2 (Or.inl h))
  obtain ⟨⟨d1, g1, g2⟩, d2, g3, g4⟩ := hSF.2.2.2.2.2
  have hst : ∀ i L, strT g i = some L → StrA (Zr g s) (g.2.2.2.2.1 i, g.2.2.2.2.2.1 i, L) s H := fun i L hi => by
    have h := hSF.2.2.2.2.1 i L hi
    have h2 : StrA (TTr g) (g.2.2.2.2.1 i, g.2.2.2.2.2.1 i, L) s s.heap := ⟨h.1, h.2.1, h.2.2.1, h.2.2.2⟩
    exact (h2.cap (B := Zr g s) (fun q h3 h4 h5 => h5.elim h4 (fun h6 => absurd h3 (Nat.not_lt.mpr h6)))).kept hq
  have hJ : JFs (Zr g s) (none, (d1, d2)) s s.heap := ⟨hSF.2.2.1.1.narrow hlow, ⟨⟨g1.narrow hlow, g2.narrow hlow⟩, g3.narrow hlow, g4.narrow hlow⟩, (fun x hx => by cases hx), F.2.2.2.2.2.2.2.2.1.1 _ List.mem_cons_self⟩
  exact ⟨(d1, d2), hst, hJ.kept hq⟩
theorem JFs.str {A : Nat → Prop} {x : Nat × Nat × List Int32} {dd : Nat × Nat} {U : State} {H : Heap} (h : JFs A (none, dd) U H) (hx : StrA A x U H) : JFs A (some x, dd) U H := ⟨h.1, h.2.1, fun y hy => by cases hy; exact hx, h.2.2.2⟩
/-- the caller's other cells behind a call -/
theorem zj {A0 : Nat → Prop} {D : va_G} {cl : List vw_C} {wo wi w1 : va_W} {H H1 : Heap} (hP0 : va_P D cl wo H) (hD : va_D A0 (wo ++ wi)) (hk : ∀ q, q < H.size → ¬ va_A wi H.size q → H1[q]? = H[q]?) (hF : ∀ q, H.size ≤ q → A0 q) (hD1 : va_D (va_A wi H.size) w1) : va_P D cl wo H1 ∧ va_D A0 (wo ++ w1) := by
  have hno : ∀ (k : Nat) (q : Nat × va_E), wo[k]? = some q → q.1 < H.size ∧ ¬ va_A wi H.size q.1 := fun k q hq => by
    have hlt := (hP0 k q hq).lt
    refine ⟨hlt, fun h => ?_⟩
    rcases h with ⟨j, e, hj⟩ | h
    · have hkl := (List.getElem?_eq_some_iff.mp hq).1
      have e1 : (wo ++ wi)[k]? = some q := by rw [List.getElem?_append_left hkl]; exact hq
      have e2 : (wo ++ wi)[wo.length + j]? = some (q.1, e) := by rw [List.getElem?_append_right (Nat.le_add_right _ _), Nat.add_sub_cancel_left]; exact hj
      have := hD.1 _ _ _ _ e1 e2 rfl
      omega
    · omega
  refine ⟨hP0.kept fun k q hq => hk _ (hno k q hq).1 (hno k q hq).2, ?_⟩
  refine va_D.app ⟨fun i j x y hx hy hxy => ?_, fun k q hq => ?_⟩ (hD1.weaken fun k q hq h => ?_) (fun i j x y hx hy hxy => ?_)
  · have e1 : (wo ++ wi)[i]? = some x := by rw [List.getElem?_append_left (List.getElem?_eq_some_iff.mp hx).1]; exact hx
    have e2 : (wo ++ wi)[j]? = some y := by rw [List.getElem?_append_left (List.getElem?_eq_some_iff.mp hy).1]; exact hy
    exact hD.1 _ _ _ _ e1 e2 hxy
  · have e1 : (wo ++ wi)[k]? = some q := by rw [List.getElem?_append_left (List.getElem?_eq_some_iff.mp hq).1]; exact hq
    exact hD.2 _ _ e1
  · rcases h with ⟨j, e, hj⟩ | h
    · have e2 : (wo ++ wi)[wo.length + j]? = some (q.1, e) := by rw [List.getElem?_append_right (Nat.le_add_right _ _), Nat.add_sub_cancel_left]; exact hj
      exact hD.2 _ (q.1, e) e2
    · exact hF _ h
  · exact (hno i x hx).2 (hxy ▸ hD1.2 j y hy)
theorem va_D.right {A : Nat → Prop} {w1 w2 : va_W} (h : va_D A (w1 ++ w2)) : va_D A w2 := by
  have e : ∀ (k : Nat) (q : Nat × va_E), w2[k]? = some q → (w1 ++ w2)[w1.length + k]? = some q := fun k q hq => by rw [List.getElem?_append_right (Nat.le_add_right _ _), Nat.add_sub_cancel_left]; exact hq
  exact ⟨fun i j p q hp hq hpq => by have := h.1 _ _ _ _ (e i p hp) (e j q hq) hpq; omega, fun k q hq => h.2 _ _ (e k q hq)⟩
theorem z_run {A : Nat → Prop} {Py : Option Value → va_W → Prop} {mcy msy : Nat} {Q : State → Prop} {p : Program} {e : Env} {s : State} {m : MethodId} {args : Array Value} {below : List Frame} {meth : Method} {c : Code} {H : Heap} {locs : List Loc} {ls : Array Slot} {st0 : List Value} {a : Array Value}
    (hA : ∀ q, A q → ZA g s q) (hW : RW g w H) (hS : VS g s.heap H locs) (hg : g.2.1 ≤ s.heap.size)
    (hr : va_Run p g.1 e R s m args below meth c H locs kc ks mcy msy (F0 m pc ls st0) rest (QU g A Py a) A)
    (kk : ∀ v ws', Py v ws' → ∀ (H1 : Heap) (locs1 : List Loc), RW g w H1 → VS g s.heap H1 locs1 → H.size ≤ H1.size → (∀ q : Nat, q < H.size → ¬ A q → H1[q]? = H[q]?) → va_P g.2.2.2.1 vwCl ws' H1 → va_D A ws' → W p g.1 e R s m args below meth c H1 locs1 (kc + mcy) (ks + msy) Q (F0 m (pc + 3) ls (v.toList ++ rest))) :
    W p g.1 e R s m args below meth c H locs kc ks Q (F0 m pc ls st0) := by
  intro T hT X
  obtain ⟨v, st₀, t, T', L, h0, X', hL, e1, e2, ⟨v', ws', hPy, hv, hP1, hD1, hF⟩, st⟩ := hr T hT X
  cases hv
  obtain ⟨hz, hk⟩ := hF
  rw [h0] at hz hk
  have hz' : H.size ≤ T'.heap.size := by rw [e1]; exact hz
  have hk' : ∀ q : Nat, q < H.size → ¬ A q → T'.heap[q]? = H[q]? := fun q h1 h2 => by rw [e1]; exact hk q h1 h2
  obtain ⟨t2, a1, b1⟩ := kk v ws' hPy T'.heap (locs ++ L) (hW.keptT fun q h1 h2 => hk' q h1 (fun h3 => Nat.not_lt.mpr (hA q h3).1 h2.2))
    ⟨Nat.le_trans hS.1 hz', fun q h1 h2 => (hk' q (Nat.lt_of_lt_of_le h1 hS.1) (fun h3 => Nat.not_lt.mpr (hA q h3).2 h1)).trans (hS.2.1 q h1 h2), fun q hq => by
      rcases List.mem_append.mp hq with h | h
      · exact hS.2.2 q h
      · exact Nat.le_trans hg (hA _ (hL q h)).2⟩ hz' hk' (by rw [e1]; exact hP1) hD1 T' rfl X'
  exact ⟨t2, st t2 a1, b1⟩
theorem z_pre {A : Nat → Prop} {sx : SX} {av : List Value} {ws : va_W} {s U : State} {H : Heap} {p : Program} {m : MethodId} {args : Array Value} {meth : Method} {c : Code} (F : FX g cc nL own rt hh p s m args meth c) (hJ : JFs A sx s H) (hA : ∀ q, H.size ≤ q → A q) (hP : va_P g.2.2.2.1 vwCl ws H) (hD : va_D A ws) (hU : U.heap = H) (hX : s.WarmedH U.vm) : PU g A sx av ws av.toArray U :=
  ⟨rfl, fun q hq => hA q (by rw [← hU]; exact hq), by rw [hU]; exact hP, hD, va_K.moved hX.alike F.2.2.2.2.2.1, by rw [hU]; exact hJ.moved hX.alike⟩
/-- where a builder's cells may be changed -/
theorem zA_in {s : State} {wo wi : va_W} {H : Heap} {locs : List Loc} (hW : RW g w H) (hS : VS g s.heap H locs) (hD : va_D (ZA g s) (wo ++ wi)) : (∀ q, H.size ≤ q → ZA g s q) ∧ ∀ q, va_A wi H.size q → ZA g s q := by
  have h1 : ∀ q, H.size ≤ q → ZA g s q := fun q h => ⟨Nat.le_trans hW.top h, Nat.le_trans hS.1 h⟩
  refine ⟨h1, fun q h => ?_⟩
  rcases h with ⟨j, e, hj⟩ | h
  · exact hD.right.2 j (q, e) hj
  · exact h1 q h
/-- a String among the cells -/
theorem zStr {s : State} {args : Array Value} {H : Heap} {s0 q n : Nat} {f : Nat → Int32} {L : List Int32} {B : Nat → Prop} (hK : va_K g.2.2.2.1 vwCl (tysL g) s) (hts : ∀ w ∈ GW, w.before args s = true) (hP : va_P g.2.2.2.1 vwCl [(s0, .inr (12, [.ref q, .int 0, .int 0, .int 0])), (q, byC g n f)] H) (hn : n = L.length) (hf : ∀ i, i < n → f i = L.getD i 0) (h0 : ¬ B s0) (hq : ¬ B q) : StrA B (s0, q, L) s H := by
  subst hn
  have hr := va_recv (q0 := 0) hK hP (rfl : vwCl[12]? = some (RJ0, TJ0, 4)) rfl
  obtain ⟨cell, g1, g2, g3⟩ := hr
  have hfld : ∀ j, j < 4 → ∀ v, vp_V [.ref q, .int 0, .int 0, .int 0] j = v → va_OF (TJ0 j).1 (TJ0 j).2.1 (TJ0 j).2.2.1 v s0 B s H := by
    intro j hj v hv
    obtain ⟨r, h1, cell, q1, q2, q3, q4⟩ := hP 0 _ rfl
    have hr : r = (RJ0, TJ0, 4) := Option.some.inj (h1.symm.trans (rfl : vwCl[12]? = some (RJ0, TJ0, 4)))
    subst hr
    obtain ⟨hS, hfc, kC, hkC, hkind⟩ := hK.1 12 _ (rfl : vwCl[12]? = some (RJ0, TJ0, 4))
    obtain ⟨cf, kf, fi, f, hi, hsl⟩ := hS j hj
    exact ⟨cf, kf, fi, f, cell, hi, (u_facts hfc hkC (u_lays hts inG_J0 hj) hi).1, q1, (by rw [q3]; exact fun h => by cases h), (by rw [hsl, q4 j hj]; exact congrArg some hv), h0⟩
  refine ⟨⟨cell, g1, g2, g3, h0⟩, hfld 1 (by decide) _ rfl, hfld 0 (by decide) _ rfl, ?_⟩
  have h1 : H[q]? = some (arrV (g.2.2.1 5) L.length (fun j => .int (f j))) := hP 1 _ rfl
  refine ⟨_, h1, (hK.2 5 _ (rfl : (tysL g)[5]? = some (g.2.2.1 5, .byte))).1 L.length (fun j => .int (f j)), (fun h => by cases h), ?_, ?_, fun j hj => ?_, hq⟩
  · show L.length ≤ (arrV _ _ _).slots.size
    rw [arrV_size]; exact Nat.le_refl _
  · rw [arrV_size]
  · rw [arrV_read _ _ hj, hf j hj]
/-! texts as rows of bytes -/
theorem bR_app {tx x : List Int32} : bR (tx ++ x) = va_cpy (fun j => x.getD j 0) (bR tx) 0 tx.length x.length := by
  funext i
  unfold bR va_cpy
  simp only [List.getD_eq_getElem?_getD]
  by_cases h : i < tx.length
  · rw [if_neg (by omega), List.getElem?_append_left h]
  · rw [List.getElem?_append_right (Nat.le_of_not_lt h)]
    by_cases h2 : i < tx.length + x.length
    · rw [if_pos (by omega), Nat.zero_add]
    · rw [if_neg (by omega), List.getElem?_eq_none (by omega : x.length ≤ i - tx.length), List.getElem?_eq_none (by omega : tx.length ≤ i)]
theorem bR_one {tx : List Int32} {c : Int32} : bR (tx ++ [c]) = upd (bR tx) tx.length c := by
  rw [bR_app]
  funext i
  unfold va_cpy upd
  by_cases h : i = tx.length
  · subst h
    simp
  · rw [if_neg (by simp only [List.length_cons, List.length_nil]; omega)]
    simp [h]
theorem bR_two {tx : List Int32} {a c : Int32} : bR (tx ++ [a, c]) = upd (upd (bR tx) (tx.length + 1) c) tx.length a := by
  rw [show tx ++ [a, c] = (tx ++ [a]) ++ [c] by simp, bR_one, bR_one, List.length_append]
  funext i
  unfold upd
  by_cases h : i = tx.length <;> by_cases h2 : i = tx.length + 1 <;> simp [h, h2] <;> omega
theorem fit127 {c : Int32} (h : 0 ≤ c ∧ c ≤ 127) : fits .byte (.int c) = true := by
  obtain ⟨k, hk, rfl⟩ := ch_cases h
  exact (ch_B k hk).2.2.2
theorem getD_ok {tx : List Int32} (h : TXok tx) (i : Nat) : 0 ≤ tx.getD i 0 ∧ tx.getD i 0 ≤ 127 := by
  rw [List.getD_eq_getElem?_getD]
  cases hi : tx[i]? with
  | none => exact by decide
  | some c => exact h c (List.mem_of_getElem? hi)
theorem dgL_I : ∀ k, k < 100 → dgL (Int32.ofNat k) = if k < 10 then [Int32.ofNat (48 + k % 10)] else [Int32.ofNat (48 + k / 10), Int32.ofNat (48 + k % 10)] := by decide +kernel
theorem dg_cases {v : Int32} (h : 0 ≤ v ∧ v ≤ 99) : ∃ k, k < 100 ∧ v = Int32.ofNat k := by
  refine ⟨v.toNatClampNeg, ?_, (Int32.ofNat_toNatClampNeg v h.1).symm⟩
  have h2 := Int32.le_iff_toInt_le.mp h.2
  have h3 : (99 : Int32).toInt = 99 := rfl
  have h4 := Int32.le_iff_toInt_le.mp h.1
  have h5 : (0 : Int32).toInt = 0 := rfl
  show v.toInt.toNat < 100
  omega
theorem dgL_ok {v : Int32} (h : 0 ≤ v ∧ v ≤ 99) : TXok (dgL v) ∧ (dgL v).length ≤ 2 := by
  obtain ⟨k, hk, rfl⟩ := dg_cases h
  rw [dgL_I k hk]
  split
  · exact ⟨fun c hc => by rw [List.mem_singleton.mp hc]; exact dk_0 k, Nat.le_of_ble_eq_true rfl⟩
  · refine ⟨fun c hc => ?_, Nat.le_refl 2⟩
    rcases List.mem_cons.mp hc with rfl | hc
    · exact dk_1 hk
    · rw [List.mem_singleton.mp hc]; exact dk_0 k
section KAPP
variable {A : Nat → Prop} {sx : SX} {d : Nat}
theorem k_appS {x : Nat × Nat × List Int32} (hx : sx.1 = some x) (hok : TXok x.2.2) (hn : (tx ++ x.2.2).length ≤ 16) : JM g A sx (.code yJ4_append_15ec4 cJ4_append_15ec4 2 (some (.object "java/lang/StringBuilder"))) yJ4_append_15ec4 (rmL 7 0 0) 0 0 [.ref b, .ref x.1] (BL g b d tx) (is1 (some (.ref b)) (BL g b d (tx ++ x.2.2))) := by
  rw [List.length_append] at hn
  have e : BL g b d (tx ++ x.2.2) = (b, sbC d (tx.length + x.2.2.length)) :: (d, byC g 16 (va_cpy (fun j => x.2.2.getD j 0) (bR tx) 0 tx.length x.2.2.length)) :: [] := by
    unfold BL; rw [List.length_append, bR_app]
  rw [e]
  exact j_appS hx hn (fun i _ => fit127 (getD_ok hok i))
theorem k_appC {c : Int32} (hc : 0 ≤ c ∧ c ≤ 127) (hn : (tx ++ [c]).length ≤ 16) : JM g A sx (.code yJ4_append_cf468 cJ4_append_cf468 2 (some (.object "java/lang/StringBuilder"))) yJ4_append_cf468 (rmL 3 0 0) 0 0 [.ref b, .int c] (BL g b d tx) (is1 (some (.ref b)) (BL g b d (tx ++ [c]))) := by
  rw [List.length_append] at hn
  have e : BL g b d (tx ++ [c]) = (b, sbC d (tx.length + 1)) :: (d, byC g 16 (upd (bR tx) tx.length c)) :: [] := by
    unfold BL; rw [List.length_append, bR_one]; rfl
  rw [e]
  exact j_appC hn hc
theorem k_appI {v : Int32} (hv : 0 ≤ v ∧ v ≤ 99) (hn : (tx ++ dgL v).length ≤ 16) : JM g A sx (.code yJ4_append_bf812 cJ4_append_bf812 2 (some (.object "java/lang/StringBuilder"))) yJ4_append_bf812 (rmL 4 0 0) 0 0 [.ref b, .int v] (BL g b d tx) (is1 (some (.ref b)) (BL g b d (tx ++ dgL v))) := by
  obtain ⟨k, hk, rfl⟩ := dg_cases hv
  rw [List.length_append] at hn
  rw [dgL_I k hk] at hn ⊢
  by_cases h : k < 10
  · rw [if_pos h] at hn ⊢
    have e : BL g b d (tx ++ [Int32.ofNat (48 + k % 10)]) = (b, sbC d (tx.length + 1)) :: (d, byC g 16 (upd (bR tx) tx.length (Int32.ofNat (48 + k % 10)))) :: [] := by
      unfold BL; rw [List.length_append, bR_one]; rfl
    rw [e]
    exact j_appI1 h hn
  · rw [if_neg h] at hn ⊢
    have e : BL g b d (tx ++ [Int32.ofNat (48 + k / 10), Int32.ofNat (48 + k % 10)]) = (b, sbC d (tx.length + 2)) :: (d, byC g 16 (upd (upd (bR tx) (tx.length + 1) (Int32.ofNat (48 + k % 10))) tx.length (Int32.ofNat (48 + k / 10)))) :: [] := by
      unfold BL; rw [List.length_append, bR_two]; rfl
    rw [e]
    exact j_appI2 (Nat.le_of_not_lt h) hk hn
end KAPP
/-- something is appended: arg, whose letters are add -/
theorem z_app {index nLy n' N' : Nat} {add : List Int32} {arg : Value} {y : MethodName} {cy : ByteArray} {ry : Option FieldType} (hc : CJ own index y cy nLy ry 1) (hin : Cond.instanceMethod y ∈ GW) (hsel : ∀ (args : Array Value) (s : State), (∀ w ∈ GW, w.before args s = true) → (Cond.selects RJ4 y y).before args s = true) (hn' : n' < 8) (hnL : nLy ≤ 45)
    (hJM : ∀ (args : Array Value) (s : State) (H : Heap) (wo : va_W) (d : Nat) (dd : Nat × Nat), va_K g.2.2.2.1 vwCl (tysL g) s → (∀ w ∈ GW, w.before args s = true) → (∀ i L, strT g i = some L → StrA (va_A (BL g b d tx) H.size) (g.2.2.2.2.1 i, g.2.2.2.2.2.1 i, L) s H) → zo wo → va_P g.2.2.2.1 vwCl wo H → va_D (ZA g s) (wo ++ BL g b d tx) → JFs (va_A (BL g b d tx) H.size) (none, dd) s H →
      ∃ x, JFs (va_A (BL g b d tx) H.size) (x, dd) s H ∧ ((tx ++ add).length ≤ 16 → JM g (va_A (BL g b d tx) H.size) (x, dd) (.code y cy nLy ry) y (rmL n' 0 0) 0 0 [.ref b, arg] (BL g b d tx) (is1 (some (.ref b)) (BL g b d (tx ++ add)))))
    (hok : TXok add) (hN : tx.length ≤ N → (tx ++ add).length ≤ N' ∧ N' ≤ 16) (hst : (rest.map fun v => v.category).sum ≤ 8) (hd : decode cc pc = .ok (.invokevirtual index, 3)) (hR : ZR R 0 0 kc ks)
    (kk : VZ g cc nL own rt hh R mc ms out zo b (tx ++ add) N' kc ks (pc + 3) lv (.ref b :: rest) w E) : VZ g cc nL own rt hh R mc ms out zo b tx N kc ks pc lv (arg :: .ref b :: rest) w E := by
  intro r hr p e s m args below meth c F H locs ls hW hS hl hZ
  obtain ⟨wo, d, hzo, hP0, hPi, hD, hlen, hTX⟩ := hZ
  obtain ⟨hF1, hA⟩ := zA_in hW hS hD
  have hts := F.2.2.2.2.1
  obtain ⟨dd, hst1, hJ0⟩ := zJ0 F hS
  have hnar : ∀ q, va_A (BL g b d tx) H.size q → Zr g s q := fun q h => Or.inr (hA q h).2
  obtain ⟨x, hJ1, hM⟩ := hJM args s H wo d dd F.2.2.2.2.2.1 hts (fun i L hi => (hst1 i L hi).cap fun q _ h2 h3 => h2 (hnar q h3)) hzo hP0 hD (hJ0.narrow hnar)
  obtain ⟨c1, c4, c5, c6, c7⟩ := hc
  have hcr := hR.cr (nLy := nLy) hn' hnL
  refine z_run hA hW hS F.2.2.2.2.2.2.1 (va_runV (Ts := GW) (nL := nL) (C := RJ4) (n := 1) (bytes := cy) (maxL := nLy) (ret := ry) (As := [arg]) (rest := rest) (g := F0 m pc ls ([arg].reverse ++ .ref b :: rest)) ⟨F.1, F.2.1, F.2.2.1, F.2.2.2.1, hts⟩ (hM (Nat.le_trans (hN hlen).1 (hN hlen).2))
    ⟨⟨hcr.1.1, hcr.1.2.1, hcr.1.2.2.1, hcr.1.2.2.2, GW_pay c5 hts, List.mem_cons_self, hts _ c5, hts _ c4, c6, v_len c7, hts _ c1⟩, hts _ hin, hsel _ _ hts⟩
    ⟨PU_blind, va_recv (q0 := 0) F.2.2.2.2.2.1 hPi (rfl : vwCl[11]? = some (RJ4, TJ4, 4)) rfl, fun U hU hX => z_pre F hJ1 (fun q h => Or.inr h) hPi (va_D.self hD.right) hU hX⟩ rfl rfl hl.1 rfl (by show 2 * 0 + _ ≤ 8; omega) hd hcr.2) ?_
  rintro v ws' ⟨rfl, rfl⟩ H1 locs1 hW1 hS1 hz1 hk1 hP1 hD1
  obtain ⟨hP0', hD'⟩ := zj hP0 hD hk1 hF1 hD1
  exact kk r hr p e s m args below meth c F H1 locs1 ls hW1 hS1 hl ⟨wo, d, hzo, hP0', hP1, hD', (hN hlen).1, fun c hc => (List.mem_append.mp hc).elim (hTX c) (hok c)⟩
theorem z_appS {index i N' : Nat} (hlink : Cond.methodLink own index yJ4_append_15ec4 ∈ GW) (hi : i < 26) (hok : TXok (strB i)) (hN : tx.length ≤ N → (tx ++ strB i).length ≤ N' ∧ N' ≤ 16) (hst : (rest.map fun v => v.category).sum ≤ 8) (hd : decode cc pc = .ok (.invokevirtual index, 3)) (hR : ZR R 0 0 kc ks)
    (kk : VZ g cc nL own rt hh R mc ms out zo b (tx ++ strB i) N' kc ks (pc + 3) lv (.ref b :: rest) w E) : VZ g cc nL own rt hh R mc ms out zo b tx N kc ks pc lv (.ref (g.2.2.2.2.1 i) :: .ref b :: rest) w E :=
  z_app (n' := 7) (add := strB i) (zc_S hlink) zi_S sl_J4_append_15ec4 (by decide) (by decide) (fun args s H wo d dd hK hts hS hzo hP0 hD hJ => ⟨some (g.2.2.2.2.1 i, g.2.2.2.2.2.1 i, strB i), hJ.str (hS i _ (strT_c hi)), fun hn => k_appS (x := (g.2.2.2.2.1 i, g.2.2.2.2.2.1 i, strB i)) rfl hok hn⟩) hok hN hst hd hR kk
theorem z_appC {index N' : Nat} {v : Int32} (hlink : Cond.methodLink own index yJ4_append_cf468 ∈ GW) (hv : 0 ≤ v ∧ v ≤ 127) (hN : tx.length ≤ N → (tx ++ [v]).length ≤ N' ∧ N' ≤ 16) (hst : (rest.map fun v => v.category).sum ≤ 8) (hd : decode cc pc = .ok (.invokevirtual index, 3)) (hR : ZR R 0 0 kc ks)
    (kk : VZ g cc nL own rt hh R mc ms out zo b (tx ++ [v]) N' kc ks (pc + 3) lv (.ref b :: rest) w E) : VZ g cc nL own rt hh R mc ms out zo b tx N kc ks pc lv (.int v :: .ref b :: rest) w E :=
  z_app (n' := 3) (zc_C hlink) zi_C sl_J4_append_cf468 (by decide) (by decide) (fun args s H wo d dd hK hts hS hzo hP0 hD hJ => ⟨none, hJ, fun hn => k_appC hv hn⟩) (fun c hc => by rw [List.mem_singleton.mp hc]; exact hv) hN hst hd hR kk
theorem z_appI {index N' : Nat} {v : Int32} (hlink : Cond.methodLink own index yJ4_append_bf812 ∈ GW) (hv : 0 ≤ v ∧ v ≤ 99) (hN : tx.length ≤ N → (tx ++ dgL v).length ≤ N' ∧ N' ≤ 16) (hst : (rest.map fun v => v.category).sum ≤ 8) (hd : decode cc pc = .ok (.invokevirtual index, 3)) (hR : ZR R 0 0 kc ks)
    (kk : VZ g cc nL own rt hh R mc ms out zo b (tx ++ dgL v) N' kc ks (pc + 3) lv (.ref b :: rest) w E) : VZ g cc nL own rt hh R mc ms out zo b tx N kc ks pc lv (.int v :: .ref b :: rest) w E :=
  z_app (n' := 4) (zc_I hlink) zi_I sl_J4_append_bf812 (by decide) (by decide) (fun args s H wo d dd hK hts hS hzo hP0 hD hJ => ⟨none, hJ, fun hn => k_appI hv hn⟩) (dgL_ok hv).1 hN hst hd hR kk
/-- a String that was made before -/
theorem z_appD {index N' s2 N2 : Nat} {tx2 : List Int32} (hlink : Cond.methodLink own index yJ4_append_15ec4 ∈ GW) (hN : tx2.length ≤ N2 → tx.length ≤ N → (tx ++ tx2).length ≤ N' ∧ N' ≤ 16) (hst : (rest.map fun v => v.category).sum ≤ 8) (hd : decode cc pc = .ok (.invokevirtual index, 3)) (hR : ZR R 0 0 kc ks)
    (kk : VZ g cc nL own rt hh R mc ms out (ZOs g s2 tx2 N2) b (tx ++ tx2) N' kc ks (pc + 3) lv (.ref b :: rest) w E) : VZ g cc nL own rt hh R mc ms out (ZOs g s2 tx2 N2) b tx N kc ks pc lv (.ref s2 :: .ref b :: rest) w E := by
  intro r hr p e s m args below meth c F H locs ls hW hS hl hZ
  have hZ2 := hZ
  obtain ⟨wo, d, ⟨q, f, rfl, hf, hlen2, hok2⟩, -⟩ := hZ2
  refine z_app (n' := 7) (add := tx2) (zc_S hlink) zi_S sl_J4_append_15ec4 (by decide) (by decide) (fun args s H wo d dd hK hts hS hzo hP0 hD hJ => ?_) hok2 (hN hlen2) hst hd hR kk r hr p e s m args below meth c F H locs ls hW hS hl hZ
  obtain ⟨q, f, rfl, hf, hlen2, hok2⟩ := hzo
  have hno : ∀ (k : Nat) (x : Nat × va_E), [(s2, (.inr (12, [.ref q, .int 0, .int 0, .int 0]) : va_E)), (q, byC g tx2.length f)][k]? = some x → ¬ va_A (BL g b d tx) H.size x.1 := fun k x hx h => by
    rcases h with ⟨j, e, hj⟩ | h
    · have hkl := (List.getElem?_eq_some_iff.mp hx).1
      have e1 : ([(s2, (.inr (12, [.ref q, .int 0, .int 0, .int 0]) : va_E)), (q, byC g tx2.length f)] ++ BL g b d tx)[k]? = some x := by rw [List.getElem?_append_left hkl]; exact hx
      have e2 : ([(s2, (.inr (12, [.ref q, .int 0, .int 0, .int 0]) : va_E)), (q, byC g tx2.length f)] ++ BL g b d tx)[2 + j]? = some (x.1, e) := by rw [Nat.add_comm 2 j]; exact hj
      have := hD.1 _ _ _ _ e1 e2 rfl
      have h3 : k < 2 := hkl
      omega
    · exact Nat.not_lt.mpr h (hP0 k x hx).lt
  exact ⟨some (s2, q, tx2), hJ.str (zStr hK hts hP0 rfl hf (hno 0 _ rfl) (hno 1 _ rfl)), fun hn => k_appS (x := (s2, q, tx2)) rfl hok2 hn⟩
/-! a builder is made -/
theorem z_newW {ik ic : Nat} {Q : State → Prop} {p : Program} {e : Env} {s : State} {m : MethodId} {args : Array Value} {below : List Frame} {meth : Method} {c : Code} {H : Heap} {locs : List Loc} {ls : Array Slot} (F : FX g cc nL own rt hh p s m args meth c) (hW : RW g w H) (hS : VS g s.heap H locs) (hl : lv_has ls nL lv)
    (hnew : Cond.classLink own ik "java/lang/StringBuilder" ∈ GW ∧ Cond.methodLink own ic yJ4_init_da8c8 ∈ GW) (hd1 : decode cc pc = .ok (.new ik, 3)) (hd2 : decode cc (pc + 3) = .ok (.dup, 1)) (hd3 : decode cc (pc + 3 + 1) = .ok (.invokespecial ic, 3)) (hst : (rest.map fun v => v.category).sum ≤ 7) (hR : ZR R 2 20 kc ks)
    (kk : ∀ (H1 : Heap) (locs1 : List Loc) (b d : Nat), RW g w H1 → VS g s.heap H1 locs1 → (∀ q : Nat, q < H.size → H1[q]? = H[q]?) → va_P g.2.2.2.1 vwCl (BL g b d []) H1 → va_D (fun q => H.size ≤ q) (BL g b d []) → W p g.1 e R s m args below meth c H1 locs1 (kc + 2) (ks + 20) Q (F0 m (pc + 7) ls (.ref b :: rest))) :
    W p g.1 e R s m args below meth c H locs kc ks Q (F0 m pc ls rest) := by
  have hts := F.2.2.2.2.1
  have hK := F.2.2.2.2.2.1
  have hKn := hK.1 11 _ (rfl : vwCl[11]? = some (RJ4, TJ4, 4))
  obtain ⟨n, mc', ms', rfl, hn8, hc1, hc2⟩ := hR
  refine W.newcK F.1 F.2.1 F.2.2.2.1 (hts _ hnew.1) (hts _ zn_inst) (hts _ zn_ini) rfl hd1 (by show kc + 1 ≤ mc'; omega) (by show ks + 4 ≤ ms'; omega) hKn.2.1 rfl fun H1 kC hkC e1 z1 o1 => ?_
  refine lv_dup F.1 F.2.1 hd2 rfl ?_
  have hW1 : RW g w H1 := hW.kept fun a ha => o1 a ha
  have hS1 : VS g s.heap H1 locs := ⟨Nat.le_trans hS.1 (by omega), fun x h1 h2 => (o1 x (Nat.lt_of_lt_of_le h1 hS.1)).trans (hS.2.1 x h1 h2), hS.2.2⟩
  have hZA : ∀ q, H.size ≤ q → ZA g s q := fun q h => ⟨Nat.le_trans hW.top h, Nat.le_trans hS.1 h⟩
  obtain ⟨dd, -, hJ0⟩ := zJ0 F hS1
  have hP1 : va_P g.2.2.2.1 vwCl [(H.size, .inr (11, [.null, .int 0, .int 0, .int 0]))] H1 := by
    intro k q hq
    have hk : k < 1 := (List.getElem?_eq_some_iff.mp hq).1
    rw [show k = 0 by omega] at hq
    cases hq
    exact ⟨_, (rfl : vwCl[11]? = some (RJ4, TJ4, 4)), (u_born tyJ4 hts inG_J4 hKn hkC e1 tyJ4_ok).to def_J4⟩
  have hD1 : va_D (fun q => H.size ≤ q) [(H.size, (.inr (11, [.null, .int 0, .int 0, .int 0]) : va_E))] := by
    refine ⟨fun i j x y hx hy _ => ?_, fun k q hq => ?_⟩
    · have h1 : i < 1 := (List.getElem?_eq_some_iff.mp hx).1
      have h2 : j < 1 := (List.getElem?_eq_some_iff.mp hy).1
      omega
    · have hk : k < 1 := (List.getElem?_eq_some_iff.mp hq).1
      rw [show k = 0 by omega] at hq
      cases hq
      exact Nat.le_refl _
  have hcr : CR (rmL n mc' ms') 1 1 16 (rmL 3 1 16) (kc + 1) (ks + 4) := CR_rm (by omega) (by decide) (by omega) (by omega)
  obtain ⟨c1, c4, c5, c6, c7⟩ := zc_N hnew.2
  refine z_run (A := fun q => H.size ≤ q) hZA hW1 hS1 F.2.2.2.2.2.2.1 (va_runI (Ts := GW) (nL := nL) (n := 0) (bytes := cJ4_init_da8c8) (maxL := 1) (As := []) (b := H.size) (rest := .ref H.size :: rest) (g := F0 m (pc + 3 + 1) ls (.ref H.size :: .ref H.size :: rest)) ⟨F.1, F.2.1, F.2.2.1, F.2.2.2.1, hts⟩ (j_sbInit (sx := (none, dd)) (b := H.size))
    ⟨⟨hcr.1.1, hcr.1.2.1, hcr.1.2.2.1, hcr.1.2.2.2, GW_pay c5 hts, List.mem_cons_self, hts _ c5, hts _ c4, c6, v_len c7, hts _ c1⟩, rfl, hts _ zi_N⟩
    ⟨PU_blind, fun U hU hX => z_pre F (hJ0.narrow fun q h => Or.inr (Nat.le_trans hS.1 h)) (fun q h => by omega) hP1 hD1 hU hX⟩ rfl rfl hl.1 rfl (by show 2 * 0 + ((Value.ref H.size :: rest).map fun v => v.category).sum ≤ 8; rw [List.map_cons, List.sum_cons]; show 2 * 0 + (1 + _) ≤ 8; omega) hd3 hcr.2) ?_
  rintro v ws' ⟨d, rfl, rfl⟩ H2 locs2 hW2 hS2 hz2 hk2 hP2 hD2
  have e0 : BL g H.size d [] = (H.size, sbC d 0) :: (d, byC g 16 (fun _ => 0)) :: [] := rfl
  exact kk H2 locs2 H.size d hW2 hS2 (fun q hq => (hk2 q (by omega) (Nat.not_le.mpr hq)).trans (o1 q hq)) (by rw [e0]; exact hP2) (by rw [e0]; exact hD2)
theorem z_new {ik ic : Nat} (hnew : Cond.classLink own ik "java/lang/StringBuilder" ∈ GW ∧ Cond.methodLink own ic yJ4_init_da8c8 ∈ GW) (hd1 : decode cc pc = .ok (.new ik, 3)) (hd2 : decode cc (pc + 3) = .ok (.dup, 1)) (hd3 : decode cc (pc + 3 + 1) = .ok (.invokespecial ic, 3)) (hst : (rest.map fun v => v.category).sum ≤ 7) (hR : ZR R 2 20 kc ks)
    (kk : ∀ b, VZ g cc nL own rt hh R mc ms out ZOn b [] 0 (kc + 2) (ks + 20) (pc + 7) lv (.ref b :: rest) w E) : VE g cc nL own rt hh R mc ms out kc ks pc lv rest w E := by
  intro r hr p e s m args below meth c F H locs ls hW hS hl
  refine z_newW F hW hS hl hnew hd1 hd2 hd3 hst hR fun H1 locs1 b d hW1 hS1 hk1 hP1 hD1 => ?_
  have hZA : ∀ q, H.size ≤ q → ZA g s q := fun q h => ⟨Nat.le_trans hW.top h, Nat.le_trans hS.1 h⟩
  exact kk b r hr p e s m args below meth c F H1 locs1 ls hW1 hS1 hl ⟨[], d, rfl, (fun k q h => by cases h), hP1, hD1.weaken fun k q _ h => hZA _ h, Nat.le_refl 0, fun c hc => by cases hc⟩
theorem z_new2 {ik ic : Nat} (hnew : Cond.classLink own ik "java/lang/StringBuilder" ∈ GW ∧ Cond.methodLink own ic yJ4_init_da8c8 ∈ GW) (hd1 : decode cc pc = .ok (.new ik, 3)) (hd2 : decode cc (pc + 3) = .ok (.dup, 1)) (hd3 : decode cc (pc + 3 + 1) = .ok (.invokespecial ic, 3)) (hst : (rest.map fun v => v.category).sum ≤ 7) (hR : ZR R 2 20 kc ks)
    (kk : ∀ b2, VZ g cc nL own rt hh R mc ms out (ZOb g b tx N) b2 [] 0 (kc + 2) (ks + 20) (pc + 7) lv (.ref b2 :: rest) w E) : VZ g cc nL own rt hh R mc ms out zo b tx N kc ks pc lv rest w E := by
  intro r hr p e s m args below meth c F H locs ls hW hS hl hZ
  obtain ⟨wo, d0, hzo, hP0, hPi, hD, hlen, hTX⟩ := hZ
  refine z_newW F hW hS hl hnew hd1 hd2 hd3 hst hR fun H1 locs1 b2 d hW1 hS1 hk1 hP1 hD1 => ?_
  have hZA : ∀ q, H.size ≤ q → ZA g s q := fun q h => ⟨Nat.le_trans hW.top h, Nat.le_trans hS.1 h⟩
  exact kk b2 r hr p e s m args below meth c F H1 locs1 ls hW1 hS1 hl ⟨BL g b d0 tx, d, ⟨d0, rfl, hlen, hTX⟩, hPi.kept fun k q hq => hk1 _ (hPi k q hq).lt, hP1, va_D.app hD.right (hD1.weaken fun k q _ h => hZA _ h) (fun i j x y hx hy hxy => by
    have h1 := (hPi i x hx).lt
    have h2 := hD1.2 j y hy
    simp only at h2
    omega), Nat.le_refl 0, fun c hc => by cases hc⟩
/-! a String is made -/
def VT {ρ : Type} (g : GC) (cc : ByteArray) (nL : Nat) (own : String) (rt : Option FieldType) (hh : List (Nat × Nat × Nat × Nat)) (R : Room) (mc ms : Nat) (out : ρ → Out) (zo : va_W → Prop) (s0 : Nat) (tx : List Int32) (N : Nat) (kc ks pc : Nat) (lv : List (Nat × Value)) (st : List Value) (w : XW) (E : Option ρ) : Prop :=
  ∀ r, E = some r → ∀ (p : Program) (e : Env) (s : State) (m : MethodId) (args : Array Value) (below : List Frame) (meth : Method) (c : Code), FX g cc nL own rt hh p s m args meth c →
    ∀ (H : Heap) (locs : List Loc) (ls : Array Slot) (wo wi : va_W), RW g w H → VS g s.heap H locs → lv_has ls nL lv → zo wo → ZOs g s0 tx N wi → va_P g.2.2.2.1 vwCl wo H → va_P g.2.2.2.1 vwCl wi H → va_D (ZA g s) (wo ++ wi) →
      W p g.1 e R s m args below meth c H locs kc ks (vx_MQ below (QO g (out r)) (XO g (out r)) args s mc ms (fun q => g.2.1 ≤ q)) (F0 m pc ls st)
theorem z_toStr {index : Nat} (hlink : Cond.methodLink own index yJ4_toString_0e30d ∈ GW) (hN : N ≤ 16) (hst : (rest.map fun v => v.category).sum ≤ 8) (hd : decode cc pc = .ok (.invokevirtual index, 3)) (hR : ZR R 2 20 kc ks)
    (kk : ∀ s0, VT g cc nL own rt hh R mc ms out zo s0 tx N (kc + 2) (ks + 20) (pc + 3) lv (.ref s0 :: rest) w E) : VZ g cc nL own rt hh R mc ms out zo b tx N kc ks pc lv (.ref b :: rest) w E := by
  intro r hr p e s m args below meth c F H locs ls hW hS hl hZ
  obtain ⟨wo, d, hzo, hP0, hPi, hD, hlen, hTX⟩ := hZ
  obtain ⟨hF1, hA⟩ := zA_in hW hS hD
  have hts := F.2.2.2.2.1
  obtain ⟨dd, -, hJ0⟩ := zJ0 F hS
  obtain ⟨c1, c4, c5, c6, c7⟩ := zc_T hlink
  have hcr := hR.cr (nLy := 1) (n' := 6) (by decide) (by decide)
  refine z_run hA hW hS F.2.2.2.2.2.2.1 (va_runV (Ts := GW) (nL := nL) (C := RJ4) (n := 0) (bytes := cJ4_toString_0e30d) (maxL := 1) (As := []) (rest := rest) (g := F0 m pc ls (.ref b :: rest)) ⟨F.1, F.2.1, F.2.2.1, F.2.2.2.1, hts⟩ (j_toString (sx := (none, dd)) (b := b) (d := d) (n := tx.length) (f := bR tx) (Nat.le_trans hlen hN) (fun i _ => fit127 (getD_ok hTX i)))
    ⟨⟨hcr.1.1, hcr.1.2.1, hcr.1.2.2.1, hcr.1.2.2.2, GW_pay c5 hts, List.mem_cons_self, hts _ c5, hts _ c4, c6, v_len c7, hts _ c1⟩, hts _ zi_T, sl_J4_toString_0e30d _ _ hts⟩
    ⟨PU_blind, va_recv (q0 := 0) F.2.2.2.2.2.1 hPi (rfl : vwCl[11]? = some (RJ4, TJ4, 4)) rfl, fun U hU hX => z_pre F (hJ0.narrow fun q h => Or.inr (hA q h).2) (fun q h => Or.inr h) hPi (va_D.self hD.right) hU hX⟩ rfl rfl hl.1 rfl (by show 2 * 0 + _ ≤ 8; omega) hd hcr.2) ?_
  rintro v ws' ⟨s0, q, f2, rfl, hf2, rfl⟩ H1 locs1 hW1 hS1 hz1 hk1 hP1 hD1
  have hP2 : va_P g.2.2.2.1 vwCl [(s0, .inr (12, [.ref q, .int 0, .int 0, .int 0])), (q, byC g tx.length f2)] H1 := hP1.sub [2, 3] rfl
  have hD2 : va_D (va_A (BL g b d tx) H.size) [(s0, (.inr (12, [.ref q, .int 0, .int 0, .int 0]) : va_E)), (q, byC g tx.length f2)] := hD1.sub [2, 3] rfl rfl
  obtain ⟨hP0', hD'⟩ := zj hP0 hD hk1 hF1 hD2
  exact kk s0 r hr p e s m args below meth c F H1 locs1 ls wo _ hW1 hS1 hl hzo ⟨q, f2, rfl, hf2, hlen, hTX⟩ hP0' hP2 hD'
theorem z_str2 {index b2 N2 : Nat} {tx2 : List Int32} (hlink : Cond.methodLink own index yJ4_toString_0e30d ∈ GW) (hN : N2 ≤ 16) (hst : (rest.map fun v => v.category).sum ≤ 8) (hd : decode cc pc = .ok (.invokevirtual index, 3)) (hR : ZR R 2 20 kc ks)
    (kk : ∀ s2, VZ g cc nL own rt hh R mc ms out (ZOs g s2 tx2 N2) b tx N (kc + 2) (ks + 20) (pc + 3) lv (.ref s2 :: rest) w E) : VZ g cc nL own rt hh R mc ms out (ZOb g b tx N) b2 tx2 N2 kc ks pc lv (.ref b2 :: rest) w E := by
  refine z_toStr hlink hN hst hd hR fun s0 => ?_
  intro r hr p e s m args below meth c F H locs ls wo wi hW hS hl hzo hzs hP0 hPi hD
  obtain ⟨d0, rfl, hlen, hTX⟩ := hzo
  exact kk s0 r hr p e s m args below meth c F H locs ls hW hS hl ⟨wi, d0, hzs, hPi, hP0, va_D.swap (a := []) hD, hlen, hTX⟩
/-! the String is given to a method of the law -/
/-- the frame's words with the text in its place -/
abbrev gT (g : GC) (s0 q : Nat) (tx : List Int32) : GC := (g.1, g.2.1, g.2.2.1, g.2.2.2.1, fun i => if i = 26 then s0 else g.2.2.2.2.1 i, fun i => if i = 26 then q else g.2.2.2.2.2.1 i, g.2.2.2.2.2.2.1, g.2.2.2.2.2.2.2.1, g.2.2.2.2.2.2.2.2.1, tx)
theorem SFs.text {s0 q : Nat} {U : State} {H : Heap} (h : SFs g U H) (hx : StrA (TTr g) (s0, q, tx) U H) : SFs (gT g s0 q tx) U H := by
  refine ⟨h.1, h.2.1, h.2.2.1, h.2.2.2.1, fun i L hi => ?_, h.2.2.2.2.2⟩
  by_cases h26 : i = 26
  · subst h26
    have hL : L = tx := by
      unfold strT at hi
      rw [if_pos rfl] at hi
      split at hi
      · exact (Option.some.inj hi).symm
      · cases hi
    subst hL
    exact ⟨hx.1, hx.2.1, hx.2.2.1, hx.2.2.2⟩
  · have hi' : strT g i = some L := by
      unfold strT at hi ⊢
      rw [if_neg h26] at hi ⊢
      exact hi
    have h1 := h.2.2.2.2.1 i L hi'
    unfold StrAt at h1 ⊢
    simp only [if_neg h26]
    exact h1
theorem STR.text {s0 q : Nat} {U : State} (h : STR g U) : STR (gT g s0 q tx) U := by
  refine ⟨h.1, fun i x hx => ?_, h.2.2⟩
  have hi : i < 26 := (List.getElem?_eq_some_iff.mp hx).1
  have h1 := h.2.1 i x hx
  show vk_R x.1 x.2.1 x.2.2.1 (if i = 26 then s0 else g.2.2.2.2.1 i) U
  rw [if_neg (by omega)]
  exact h1
theorem z_runG {ρF : Type} {Fy : List Int32 → Option ρF} {outF : ρF → Out} {K : ρF → Option ρ} {index2 nLy mcy msy s0 : Nat} {y : MethodName} {cy : ByteArray} {ry : Option FieldType} {rm : Room} (hl0 : g.1.stackTraces = false) (hc : CS own index2 y cy nLy ry 2)
    (hM : ∀ g1 : GC, g1.1.stackTraces = false → ∀ q, Fy (txG g1) = some q → MM g1 (.code y cy nLy ry) y rm mcy msy [.ref (g1.2.1 + 0), .ref (g1.2.2.2.2.1 26)] w (outF q)) (hnx : ∀ q, ∃ v, (outF q).1 = .inl v)
    (hst : (rest.map fun v => v.category).sum ≤ 8) (hd : decode cc pc = .ok (.invokestatic index2, 3)) (hR : CR R nLy mcy msy rm kc ks)
    (kk : ∀ q v w', outF q = (.inl v, w') → VE g cc nL own rt hh R mc ms out (kc + mcy) (ks + msy) (pc + 3) lv (v.toList ++ rest) w' (K q)) :
    VT g cc nL own rt hh R mc ms out zo s0 tx N kc ks pc lv (.ref s0 :: .ref (g.2.1 + 0) :: rest) w ((Fy tx).bind K) := by
  intro r hr p e s m args below meth c F H locs ls wo wi hW hS hl hzo hzs hP0 hPi hD
  cases hF : Fy tx with
  | none => rw [hF] at hr; cases hr
  | some q0 =>
    rw [hF] at hr
    have hr' : K q0 = some r := hr
    have hts := F.2.2.2.2.1
    obtain ⟨q, f, rfl, hf, hlen, hTX⟩ := hzs
    have hin : ∀ (k : Nat) (x : Nat × va_E), [(s0, (.inr (12, [.ref q, .int 0, .int 0, .int 0]) : va_E)), (q, byC g tx.length f)][k]? = some x → ¬ TTr g x.1 := fun k x hx h => Nat.not_lt.mpr (hD.right.2 k x hx).1 h.2
    have hx : StrA (TTr g) (s0, q, tx) s H := zStr F.2.2.2.2.2.1 hts hPi rfl hf (hin 0 _ rfl) (hin 1 _ rfl)
    have hSF : SFs (gT g s0 q tx) s H := SFs.text (F.2.2.2.2.2.2.2.1.kept hS.2.1) hx
    have hM1 := hM (gT g s0 q tx) hl0 q0 hF
    obtain ⟨c1, c2, c4, c5, c6, c7⟩ := hc
    refine v_run_aux (g := g) (o := outF q0) (vx_runS (Ts := GW) (nL := nL) (n := 2) (bytes := cy) (maxL := nLy) (ret := ry) (As := [.ref (g.2.1 + 0), .ref s0]) (rest := rest) (g := F0 m pc ls (.ref s0 :: .ref (g.2.1 + 0) :: rest)) ⟨F.1, F.2.1, F.2.2.1, F.2.2.2.1, hts⟩ hM1
      ⟨⟨hR.1.1, hR.1.2.1, hR.1.2.2.1, hR.1.2.2.2, GW_pay c5 hts, List.mem_cons_self, hts _ c5, hts _ c4, c6, v_len c7, hts _ c1⟩, hts _ c2⟩
      ⟨PO_blind, fun U hU hX => ⟨rfl, by rw [hU]; exact Nat.le_trans F.2.2.2.2.2.2.1 hS.1, by rw [hU]; exact hW, va_K.moved hX.alike F.2.2.2.2.2.1, by rw [hU]; exact SFs.moved hX.alike hSF, STR.text ⟨fun w hw => ng_moved hX.alike hw (F.2.2.2.2.2.2.2.2.1.1 w hw), fun i x hx => vk_R.warm hX (F.2.2.2.2.2.2.2.2.1.2.1 i x hx), fun x hx => va_Nc.moved hX.alike (F.2.2.2.2.2.2.2.2.1.2.2 x hx)⟩⟩⟩ rfl rfl hl.1 rfl (by show 2 * 0 + _ ≤ 8; omega) hd hR.2) hS
      (fun v w' ho H1 locs1 hW1 hS1 => kk q0 v w' ho r hr' p e s m args below meth c F H1 locs1 ls hW1 hS1 hl)
      (fun E0 w' ho => by
        obtain ⟨v, hv⟩ := hnx q0
        rw [ho] at hv
        cases hv)
theorem z_runi {Fy : List Int32 → Option (Int32 × XW)} {K : Int32 → XW → Option ρ} {index index2 nLy mcy msy : Nat} {y : MethodName} {cy : ByteArray} {ry : Option FieldType} {rm : Room} (hl0 : g.1.stackTraces = false) (hlink : Cond.methodLink own index yJ4_toString_0e30d ∈ GW) (hc : CS own index2 y cy nLy ry 2) (hd1 : decode cc pc = .ok (.invokevirtual index, 3))
    (hM : ∀ g1 : GC, g1.1.stackTraces = false → ∀ q, Fy (txG g1) = some q → MM g1 (.code y cy nLy ry) y rm mcy msy [.ref (g1.2.1 + 0), .ref (g1.2.2.2.2.1 26)] w (oI q)) (hN : N ≤ 16)
    (hst : (rest.map fun v => v.category).sum ≤ 7) (hd : decode cc (pc + 3) = .ok (.invokestatic index2, 3)) (hZR : ZR R 2 20 kc ks) (hR : CR R nLy mcy msy rm (kc + 2) (ks + 20))
    (kk : ∀ x w', VE g cc nL own rt hh R mc ms out (kc + 2 + mcy) (ks + 20 + msy) (pc + 3 + 3) lv (.int x :: rest) w' (K x w')) :
    VZ g cc nL own rt hh R mc ms out zo b tx N kc ks pc lv (.ref b :: .ref (g.2.1 + 0) :: rest) w (bI (Fy tx) K) :=
  z_toStr hlink hN (by rw [List.map_cons, List.sum_cons]; show 1 + _ ≤ 8; omega) hd1 hZR fun s0 => z_runG hl0 hc hM (fun q => ⟨_, rfl⟩) (by omega) hd hR fun q v w' h => by cases h; exact kk q.1 q.2
theorem z_runv {Fy : List Int32 → Option XW} {K : XW → Option ρ} {index index2 nLy mcy msy : Nat} {y : MethodName} {cy : ByteArray} {ry : Option FieldType} {rm : Room} (hl0 : g.1.stackTraces = false) (hlink : Cond.methodLink own index yJ4_toString_0e30d ∈ GW) (hc : CS own index2 y cy nLy ry 2) (hd1 : decode cc pc = .ok (.invokevirtual index, 3))
    (hM : ∀ g1 : GC, g1.1.stackTraces = false → ∀ q, Fy (txG g1) = some q → MM g1 (.code y cy nLy ry) y rm mcy msy [.ref (g1.2.1 + 0), .ref (g1.2.2.2.2.1 26)] w (oV q)) (hN : N ≤ 16)
    (hst : (rest.map fun v => v.category).sum ≤ 7) (hd : decode cc (pc + 3) = .ok (.invokestatic index2, 3)) (hZR : ZR R 2 20 kc ks) (hR : CR R nLy mcy msy rm (kc + 2) (ks + 20))
    (kk : ∀ w', VE g cc nL own rt hh R mc ms out (kc + 2 + mcy) (ks + 20 + msy) (pc + 3 + 3) lv rest w' (K w')) :
    VZ g cc nL own rt hh R mc ms out zo b tx N kc ks pc lv (.ref b :: .ref (g.2.1 + 0) :: rest) w (bV (Fy tx) K) :=
  z_toStr hlink hN (by rw [List.map_cons, List.sum_cons]; show 1 + _ ≤ 8; omega) hd1 hZR fun s0 => z_runG hl0 hc hM (fun q => ⟨_, rfl⟩) (by omega) hd hR fun q v w' h => by cases h; exact kk q
end ZROWS
theorem zn_st {tx a : List Int32} {N N' k : Nat} (hk : a.length ≤ k) (h1 : N + k ≤ N') (h2 : N' ≤ 16) : tx.length ≤ N → (tx ++ a).length ≤ N' ∧ N' ≤ 16 := fun h => ⟨by rw [List.length_append]; omega, h2⟩
theorem zn_s2 {tx a : List Int32} {N N' k : Nat} (h1 : N + k ≤ N') (h2 : N' ≤ 16) : a.length ≤ k → tx.length ≤ N → (tx ++ a).length ≤ N' ∧ N' ≤ 16 := fun hk h => ⟨by rw [List.length_append]; omega, h2⟩
theorem zn_g {tx a : List Int32} {N : Nat} (h : (tx ++ a).length ≤ 16) : tx.length ≤ N → (tx ++ a).length ≤ 16 ∧ 16 ≤ 16 := fun _ => ⟨h, Nat.le_refl 16⟩
theorem strB_ok : ∀ i, i < 26 → TXok (strB i) := by
  unfold TXok
  decide +kernel
