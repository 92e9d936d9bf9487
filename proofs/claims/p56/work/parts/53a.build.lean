/-! cells laid one behind the other: the world while it is built -/
def adr (b : Nat) : Nat → List va_E → va_W
  | _, [] => []
  | n, x :: r => (b + n, x) :: adr b (n + 1) r
theorem adr_get (b : Nat) : ∀ (C : List va_E) (n i : Nat), (adr b n C)[i]? = (C[i]?).map (fun x => (b + (n + i), x)) := by
  intro C
  induction C with
  | nil => intro n i; rfl
  | cons x r ih =>
    intro n i
    cases i with
    | zero => rfl
    | succ i =>
      show (adr b (n + 1) r)[i]? = (r[i]?).map _
      rw [ih, show n + 1 + i = n + (i + 1) by omega]
theorem adr_len (b : Nat) : ∀ (C : List va_E) (n : Nat), (adr b n C).length = C.length := by
  intro C
  induction C with
  | nil => intro n; rfl
  | cons x r ih => intro n; show (adr b (n + 1) r).length + 1 = r.length + 1; rw [ih]
theorem adr_app (b : Nat) : ∀ (C C' : List va_E) (n : Nat), adr b n (C ++ C') = adr b n C ++ adr b (n + C.length) C' := by
  intro C
  induction C with
  | nil => intro C' n; rfl
  | cons x r ih =>
    intro C' n
    show (b + n, x) :: adr b (n + 1) (r ++ C') = (b + n, x) :: (adr b (n + 1) r ++ adr b (n + (r.length + 1)) C')
    rw [ih, show n + 1 + r.length = n + (r.length + 1) by omega]
theorem adr_set (b : Nat) (x : va_E) : ∀ (C : List va_E) (n i : Nat), adr b n (C.set i x) = (adr b n C).set i (b + (n + i), x) := by
  intro C
  induction C with
  | nil => intro n i; rfl
  | cons y r ih =>
    intro n i
    cases i with
    | zero => rfl
    | succ i =>
      show (b + n, y) :: adr b (n + 1) (r.set i x) = (b + n, y) :: (adr b (n + 1) r).set i (b + (n + (i + 1)), x)
      rw [ih, show n + 1 + i = n + (i + 1) by omega]
theorem adr_D (b : Nat) (C : List va_E) : va_D (fun q => b ≤ q) (adr b 0 C) := by
  refine ⟨fun i j p q h1 h2 h3 => ?_, fun k q h => ?_⟩
  · rw [adr_get] at h1 h2
    obtain ⟨x, -, hx⟩ := Option.map_eq_some_iff.mp h1
    obtain ⟨y, -, hy⟩ := Option.map_eq_some_iff.mp h2
    rw [← hx, ← hy] at h3
    have h3 : b + (0 + i) = b + (0 + j) := h3
    omega
  · rw [adr_get] at h
    obtain ⟨x, -, hx⟩ := Option.map_eq_some_iff.mp h
    rw [← hx]
    show b ≤ b + (0 + k)
    omega
/-- so far these cells, and nothing behind them -/
def HCn (g : GC) (C : List va_E) (H : Heap) : Prop := H.size = g.2.1 + C.length ∧ va_P g.2.2.2.1 vwCl (adr g.2.1 0 C) H
def PON (g : GC) (av : List Value) (C : List va_E) : Array Value → State → Prop := fun v U => v = av.toArray ∧ g.2.1 ≤ U.heap.size ∧ HCn g C U.heap ∧ va_K g.2.2.2.1 vwCl (tysL g) U ∧ True ∧ True ∧ va_AO "FoldedArchive$State" U
def QON (g : GC) (C : List va_E) : Array Value → State → Outcome → State → Prop := fun _ st oc t => oc = .returned none ∧ HCn g C t.heap ∧ va_F (fun q => g.2.1 ≤ q) st t
/-- a world that is whole is the store's -/
theorem HCn.RW {g : GC} {w : XW} {C : List va_E} {H : Heap} (h : HCn g C H) (e : ∀ (k : Nat) (q : Sh), TT[k]? = some q → C[k]? = some (layE g w k q)) : RW g w H := fun k q hk => by
  have := h.2 k (g.2.1 + (0 + k), layE g w k q) (by rw [adr_get, e k q hk]; rfl)
  rw [Nat.zero_add] at this
  exact this
