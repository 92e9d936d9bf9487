/-! Piles as lists of sections from the bottom: all foldings of up to 7 sections, by number; both counts agree on each -/
def spX (a b c d : Nat) : Bool := if (if d < c then d else c) ≤ (if b < a then b else a) then (if (if c < d then d else c) ≤ (if b < a then b else a) then false else (if (if a < b then b else a) ≤ (if c < d then d else c) then false else true)) else (if (if a < b then b else a) ≤ (if d < c then d else c) then false else (if (if c < d then d else c) ≤ (if a < b then b else a) then false else true))
def laI (L : Nat → Nat) (l s : Nat) : Nat := if L s < l then L s else L s + 1
def crL (G : Nat → Bool) (m : Nat) : Nat → Nat → Option Nat
  | 0, _ => none
  | k + 1, c => if m ≤ c then none else if G c then some c else crL G m k (c + 2)
def crA (L : Nat → Nat) (n l : Nat) : Option Nat := if n = 0 then none else crL (fun c => spX (laI L l (n - 1)) l (laI L l c) (laI L l (c + 1))) (n - 1) 9 ((n - 1) % 2)
def insL : List Nat → Nat → Nat → List Nat
  | P, 0, x => x :: P
  | [], _ + 1, x => [x]
  | p :: P, l + 1, x => p :: insL P l x
def ixL : List Nat → Nat → Nat
  | [], _ => 0
  | p :: P, s => if p = s then 0 else ixL P s + 1
def rvL : List Nat → Nat → List Nat
  | [], _ => []
  | p :: P, x => if p = x then P else p :: rvL P x
def gtL : List Nat → Nat → Nat
  | [], _ => 0
  | p :: _, 0 => p
  | _ :: P, k + 1 => gtL P k
def inL (P : List Nat) (n : Nat) : Nat → Nat → List (List Nat)
  | 0, _ => []
  | k + 1, l => if (crA (ixL P) n l).isNone then insL P l n :: inL P n k (l + 1) else inL P n k (l + 1)
def pilesF (n : Nat) : List (List Nat) → List (List Nat)
  | [] => []
  | P :: r => inL P n (n + 1) 0 ++ pilesF n r
def piles : Nat → List (List Nat)
  | 0 => [[]]
  | n + 1 => pilesF n (piles n)
/-- for all numbers below -/
def alB (p : Nat → Bool) : Nat → Bool
  | 0 => true
  | n + 1 => p n && alB p n
theorem alB_at {p : Nat → Bool} : ∀ {n : Nat}, alB p n = true → ∀ k, k < n → p k = true := by
  intro n
  induction n with
  | zero => intro _ k hk; omega
  | succ n ih =>
    intro h k hk
    rw [alB, Bool.and_eq_true] at h
    by_cases e : k = n
    · exact e ▸ h.1
    · exact ih h.2 k (by omega)
def alP (p : List Nat → Bool) : List (List Nat) → Bool
  | [] => true
  | P :: r => p P && alP p r
theorem alP_at {p : List Nat → Bool} : ∀ {l : List (List Nat)}, alP p l = true → ∀ P ∈ l, p P = true := by
  intro l
  induction l with
  | nil => intro _ P hP; cases hP
  | cons x r ih =>
    intro h P hP
    rw [alP, Bool.and_eq_true] at h
    rcases List.mem_cons.mp hP with rfl | hP
    · exact h.1
    · exact ih h.2 P hP
theorem inL_mem (P : List Nat) (n : Nat) : ∀ (k l0 l : Nat), l0 ≤ l → l < l0 + k → crA (ixL P) n l = none → insL P l n ∈ inL P n k l0 := by
  intro k
  induction k with
  | zero => intro l0 l h1 h2; omega
  | succ k ih =>
    intro l0 l h1 h2 h3
    rw [inL]
    by_cases e : l = l0
    · subst e
      rw [h3]
      exact List.mem_cons_self
    · have hz := ih (l0 + 1) l (by omega) (by omega) h3
      split
      · exact List.mem_cons_of_mem _ hz
      · exact hz
theorem pilesF_mem (n : Nat) : ∀ (ps : List (List Nat)) (P : List Nat), P ∈ ps → ∀ Q ∈ inL P n (n + 1) 0, Q ∈ pilesF n ps := by
  intro ps
  induction ps with
  | nil => intro P h; cases h
  | cons x r ih =>
    intro P h Q hQ
    rw [pilesF, List.mem_append]
    rcases List.mem_cons.mp h with rfl | h
    · exact Or.inl hQ
    · exact Or.inr (ih P h Q hQ)
theorem piles_ins {n : Nat} {P : List Nat} (h : P ∈ piles n) {l : Nat} (hl : l ≤ n) (hc : crA (ixL P) n l = none) : insL P l n ∈ piles (n + 1) :=
  pilesF_mem n _ P h _ (inL_mem P n (n + 1) 0 l (by omega) (by omega) hc)
theorem inL_inv (P : List Nat) (n : Nat) : ∀ (k l0 : Nat) (Q : List Nat), Q ∈ inL P n k l0 → ∃ l, l0 ≤ l ∧ l < l0 + k ∧ Q = insL P l n := by
  intro k
  induction k with
  | zero => intro l0 Q h; cases h
  | succ k ih =>
    intro l0 Q h
    rw [inL] at h
    split at h
    · rcases List.mem_cons.mp h with rfl | h
      · exact ⟨l0, by omega, by omega, rfl⟩
      · obtain ⟨l, a, b, c⟩ := ih _ _ h
        exact ⟨l, by omega, by omega, c⟩
    · obtain ⟨l, a, b, c⟩ := ih _ _ h
      exact ⟨l, by omega, by omega, c⟩
theorem pilesF_inv (n : Nat) : ∀ (ps : List (List Nat)) (Q : List Nat), Q ∈ pilesF n ps → ∃ P ∈ ps, ∃ l, l ≤ n ∧ Q = insL P l n := by
  intro ps
  induction ps with
  | nil => intro Q h; cases h
  | cons x r ih =>
    intro Q h
    rw [pilesF, List.mem_append] at h
    rcases h with h | h
    · obtain ⟨l, a, b, c⟩ := inL_inv x n _ _ _ h
      exact ⟨x, List.mem_cons_self, l, by omega, c⟩
    · obtain ⟨P, a, b⟩ := ih _ h
      exact ⟨P, List.mem_cons_of_mem _ a, b⟩
theorem piles_inv {n : Nat} {Q : List Nat} (h : Q ∈ piles (n + 1)) : ∃ P ∈ piles n, ∃ l, l ≤ n ∧ Q = insL P l n := pilesF_inv n _ Q h
def okP (n : Nat) (P : List Nat) : Bool := (P.length == n) && alB (fun s => decide (ixL P s < n) && (gtL P (ixL P s) == s)) n && alB (fun l => decide (gtL P l < n) && (ixL P (gtL P l) == l)) n
theorem piles_okB : alB (fun n => alP (okP n) (piles n)) 8 = true := by decide +kernel
theorem piles_ok {n : Nat} (hn : n ≤ 7) {P : List Nat} (h : P ∈ piles n) : P.length = n ∧ (∀ s, s < n → ixL P s < n ∧ gtL P (ixL P s) = s) ∧ (∀ l, l < n → gtL P l < n ∧ ixL P (gtL P l) = l) := by
  have h1 := alP_at (alB_at piles_okB n (by omega)) P h
  simp only [okP, Bool.and_eq_true, beq_iff_eq] at h1
  refine ⟨h1.1.1, fun s hs => ?_, fun l hl => ?_⟩
  · have h2 := alB_at h1.1.2 s hs
    simpa only [Bool.and_eq_true, decide_eq_true_eq, beq_iff_eq] using h2
  · have h2 := alB_at h1.2 l hl
    simpa only [Bool.and_eq_true, decide_eq_true_eq, beq_iff_eq] using h2
def okI (n : Nat) (P : List Nat) : Bool := alB (fun l => alB (fun s => ixL (insL P l n) s == laI (ixL P) l s) n && (ixL (insL P l n) n == l) && alB (fun j => gtL (insL P l n) j == (if j < l then gtL P j else if j = l then n else gtL P (j - 1))) (n + 1) && (rvL (insL P l n) n == P)) (n + 1)
theorem piles_okI : alB (fun n => alP (okI n) (piles n)) 7 = true := by decide +kernel
theorem piles_insI {n : Nat} (hn : n < 7) {P : List Nat} (h : P ∈ piles n) {l : Nat} (hl : l ≤ n) : (∀ s, s < n → ixL (insL P l n) s = laI (ixL P) l s) ∧ ixL (insL P l n) n = l ∧ (∀ j, j ≤ n → gtL (insL P l n) j = (if j < l then gtL P j else if j = l then n else gtL P (j - 1))) ∧ rvL (insL P l n) n = P := by
  have h1 := alB_at (alP_at (alB_at piles_okI n (by omega)) P h) l (by omega)
  simp only [Bool.and_eq_true, beq_iff_eq] at h1
  exact ⟨fun s hs => by simpa using alB_at h1.1.1.1 s hs, h1.1.1.2, fun j hj => by simpa using alB_at h1.1.2 j (by omega), h1.2⟩
def okR (n : Nat) (P : List Nat) : Bool := alB (fun l => alB (fun s => ixL P s == (if ixL (insL P l n) n < ixL (insL P l n) s then ixL (insL P l n) s - 1 else ixL (insL P l n) s)) n && alB (fun j => gtL P j == (if j < l then gtL (insL P l n) j else gtL (insL P l n) (j + 1))) n) (n + 1)
theorem piles_okR : alB (fun n => alP (okR n) (piles n)) 7 = true := by decide +kernel
/-- the section folded last, taken out -/
theorem piles_rm {n : Nat} (hn : n < 7) {Q : List Nat} (h : Q ∈ piles (n + 1)) : rvL Q n ∈ piles n ∧ ixL Q n ≤ n ∧ (∀ s, s < n → ixL (rvL Q n) s = (if ixL Q n < ixL Q s then ixL Q s - 1 else ixL Q s)) ∧ (∀ j, j < n → gtL (rvL Q n) j = (if j < ixL Q n then gtL Q j else gtL Q (j + 1))) := by
  obtain ⟨P, hP, l, hl, rfl⟩ := piles_inv h
  obtain ⟨_, h2, _, h4⟩ := piles_insI hn hP hl
  have h1 := alB_at (alP_at (alB_at piles_okR n (by omega)) P hP) l (by omega)
  simp only [Bool.and_eq_true] at h1
  rw [h4, h2]
  refine ⟨hP, hl, fun s hs => ?_, fun j hj => ?_⟩
  · have := alB_at h1.1 s hs
    rw [h2] at this
    simpa using this
  · simpa using alB_at h1.2 j hj
/-- the reference's words for crossing -/
def spY (lo hi c d : Nat) : Bool := (decide ((if c < d then c else d) < lo) && decide (lo < c + d - (if c < d then c else d)) && decide (c + d - (if c < d then c else d) < hi)) || (decide (lo < (if c < d then c else d)) && decide ((if c < d then c else d) < hi) && decide (hi < c + d - (if c < d then c else d)))
def okC (n : Nat) (P : List Nat) : Bool := alB (fun l => alB (fun c => !((n - 1) % 2 == c % 2) || (spX (laI (ixL P) l (n - 1)) l (laI (ixL P) l c) (laI (ixL P) l (c + 1)) == spY (if laI (ixL P) l (n - 1) < l then laI (ixL P) l (n - 1) else l) (laI (ixL P) l (n - 1) + l - (if laI (ixL P) l (n - 1) < l then laI (ixL P) l (n - 1) else l)) (laI (ixL P) l c) (laI (ixL P) l (c + 1)))) (n - 1)) (n + 1)
theorem piles_okC : alB (fun n => alP (okC n) (piles n)) 7 = true := by decide +kernel
theorem piles_spY {n : Nat} (hn : n < 7) {P : List Nat} (h : P ∈ piles n) {l c : Nat} (hl : l ≤ n) (hc : c < n - 1) (hp : (n - 1) % 2 = c % 2) : spX (laI (ixL P) l (n - 1)) l (laI (ixL P) l c) (laI (ixL P) l (c + 1)) = spY (if laI (ixL P) l (n - 1) < l then laI (ixL P) l (n - 1) else l) (laI (ixL P) l (n - 1) + l - (if laI (ixL P) l (n - 1) < l then laI (ixL P) l (n - 1) else l)) (laI (ixL P) l c) (laI (ixL P) l (c + 1)) := by
  have h1 := alB_at (alB_at (alP_at (alB_at piles_okC n (by omega)) P h) l (by omega)) c hc
  simpa [hp] using h1
/-- sums over a loop -/
def smF (G : Nat → Nat) : Nat → Nat → Nat
  | 0, _ => 0
  | k + 1, l => G l + smF G k (l + 1)
def wyL (t : Nat) : Nat → List Nat → Nat → Nat
  | 0, _, _ => 0
  | k + 1, P, n => if t ≤ n then 1 else smF (fun l => if (crA (ixL P) n l).isNone then wyL t k (insL P l n) (n + 1) else 0) (n + 1) 0
def stL : List Nat → Nat → Nat → List Nat
  | [], _, _ => []
  | _ :: Q, 0, x => x :: Q
  | q :: Q, s + 1, x => q :: stL Q s x
def spL (G : Nat → Bool) (t : Nat) : Nat → Nat → Bool
  | 0, _ => false
  | k + 1, c => if t ≤ c + 1 then false else if G c then true else spL G t k (c + 2)
def pcL (Q : List Nat) (t c : Nat) : Nat := if t ≤ c then t else gtL Q c
def spC (Q : List Nat) (t c : Nat) : Bool := if pcL Q t c = t then false else if pcL Q t (c + 1) = t then false else spL (fun o => if o = c then false else spX (pcL Q t c) (pcL Q t (c + 1)) (pcL Q t o) (pcL Q t (o + 1))) t 9 (c % 2)
def nxL (P : List Nat) (n : Nat) (Q : List Nat) (t s : Nat) : Bool := if n ≤ s then true else alB (fun o => if ixL P s ≤ ixL P o then true else !(gtL Q o == t)) n
def odL (P : List Nat) (n t : Nat) : Nat → Nat → List Nat → Nat
  | 0, _, _ => 0
  | k + 1, a, Q => if t ≤ a then 1 else smF (fun s => if gtL Q s = t then (if nxL P n Q t s then (if (if s = 0 then false else spC (stL Q s a) t (s - 1)) then 0 else if spC (stL Q s a) t s then 0 else odL P n t k (a + 1) (stL Q s a)) else 0) else 0) t 0
