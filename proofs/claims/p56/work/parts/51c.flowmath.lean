/-! Greatest flows and smallest cuts, on numbers: what is left of the pipes, sums over a set's border, a way's change -/
def sm (G : Nat → Nat) : Nat → Nat
  | 0 => 0
  | n + 1 => sm G n + G n
theorem sm_congr {G G' : Nat → Nat} : ∀ {n : Nat}, (∀ k, k < n → G k = G' k) → sm G n = sm G' n := by
  intro n
  induction n with
  | zero => intro _; rfl
  | succ n ih => intro h; rw [sm, sm, ih (fun k hk => h k (by omega)), h n (by omega)]
theorem sm_zero {G : Nat → Nat} : ∀ {n : Nat}, (∀ k, k < n → G k = 0) → sm G n = 0 := by
  intro n
  induction n with
  | zero => intro _; rfl
  | succ n ih => intro h; rw [sm, ih (fun k hk => h k (by omega)), h n (by omega)]
theorem sm_off {G G' : Nat → Nat} {x : Nat} : ∀ {n : Nat}, (∀ k, k < n → k ≠ x → G' k = G k) → x < n → sm G' n + G x = sm G n + G' x := by
  intro n
  induction n with
  | zero => intro _ h; omega
  | succ n ih =>
    intro h hx
    rw [sm, sm]
    by_cases e : x = n
    · subst e
      rw [sm_congr (G := G') (G' := G) (fun k hk => h k (by omega) (by omega))]
      omega
    · have := ih (fun k hk => h k (by omega)) (by omega)
      have := h n (by omega) (fun z => e z.symm)
      omega
theorem sm_le {G G' : Nat → Nat} : ∀ {n : Nat}, (∀ k, k < n → G k ≤ G' k) → sm G n ≤ sm G' n := by
  intro n
  induction n with
  | zero => intro _; exact Nat.le_refl _
  | succ n ih => intro h; rw [sm, sm]; exact Nat.add_le_add (ih (fun k hk => h k (by omega))) (h n (by omega))
theorem sm_const (c : Nat) : ∀ n, sm (fun _ => c) n = c * n := by
  intro n
  induction n with
  | zero => rfl
  | succ n ih => rw [sm, ih, Nat.mul_succ]
theorem sm_add (G G' : Nat → Nat) : ∀ n, sm (fun k => G k + G' k) n = sm G n + sm G' n := by
  intro n
  induction n with
  | zero => rfl
  | succ n ih => rw [sm, sm, sm, ih]; omega
/-- of what is left, what leads out of S -/
def rc (r : Nat → Nat → Nat) (S : Nat → Bool) (n : Nat) : Nat := sm (fun u => sm (fun v => if S u && !S v then r u v else 0) n) n
theorem rc_off {r r' : Nat → Nat → Nat} {n u v : Nat} (S : Nat → Bool) (hu : u < n) (hv : v < n) (h : ∀ a b, a < n → b < n → ¬ (a = u ∧ b = v) → r' a b = r a b) :
    rc r' S n + (if S u && !S v then r u v else 0) = rc r S n + (if S u && !S v then r' u v else 0) := by
  have h1 := sm_off (G := fun b => if S u && !S b then r u b else 0) (G' := fun b => if S u && !S b then r' u b else 0) (x := v) (n := n) (fun k hk hne => by
    show (if S u && !S k then r' u k else 0) = (if S u && !S k then r u k else 0)
    rw [h u k hu hk (fun z => hne z.2)]) hv
  have h2 := sm_off (G := fun a => sm (fun b => if S a && !S b then r a b else 0) n) (G' := fun a => sm (fun b => if S a && !S b then r' a b else 0) n) (x := u) (n := n) (fun k hk hne => sm_congr (fun b hb => by rw [h k b hk hb (fun z => hne z.1)])) hu
  unfold rc
  omega
theorem rc_zero {r : Nat → Nat → Nat} {S : Nat → Bool} {n : Nat} (h : ∀ u v, u < n → v < n → S u = true → S v = false → r u v = 0) : rc r S n = 0 :=
  sm_zero fun u hu => sm_zero fun v hv => by
    cases a : S u <;> cases b : S v <;> simp
    exact h u v hu hv a b
/-- d units along an edge, and back -/
theorem rc_push {r r' : Nat → Nat → Nat} {n u v d : Nat} (S : Nat → Bool) (hu : u < n) (hv : v < n) (hne : u ≠ v) (hd : d ≤ r u v)
    (h1 : r' u v = r u v - d) (h2 : r' v u = r v u + d) (h : ∀ a b, a < n → b < n → ¬ (a = u ∧ b = v) → ¬ (a = v ∧ b = u) → r' a b = r a b) :
    rc r' S n + (if S u then d else 0) = rc r S n + (if S v then d else 0) := by
  have e1 := rc_off (r := r) (r' := fun a b => if a = u ∧ b = v then r u v - d else r a b) S hu hv (fun a b _ _ hn => by simp only [hn, if_false])
  have e2 := rc_off (r := fun a b => if a = u ∧ b = v then r u v - d else r a b) (r' := r') S hv hu (fun a b ha hb hn => by
    show r' a b = if a = u ∧ b = v then r u v - d else r a b
    by_cases q : a = u ∧ b = v
    · rw [if_pos q, q.1, q.2, h1]
    · rw [if_neg q]; exact h a b ha hb q hn)
  have n1 : ¬ (v = u ∧ u = v) := fun z => hne z.2
  simp only [and_self, if_true, n1, if_false, h2] at e1 e2
  cases a : S u <;> cases b : S v <;> simp [a, b] at e1 e2 ⊢ <;> omega
/-- the bits of a set -/
def bt (s v : Nat) : Nat := s / 2 ^ v % 2
def mk7 (S : Nat → Bool) : Nat := (S 0).toNat + 2 * (S 1).toNat + 4 * (S 2).toNat + 8 * (S 3).toNat + 16 * (S 4).toNat + 32 * (S 5).toNat + 64 * (S 6).toNat
theorem mk7_B : ∀ b0 b1 b2 b3 b4 b5 b6 : Bool, (∀ v, v < 7 → bt (b0.toNat + 2 * b1.toNat + 4 * b2.toNat + 8 * b3.toNat + 16 * b4.toNat + 32 * b5.toNat + 64 * b6.toNat) v = (if v = 0 then b0.toNat else if v = 1 then b1.toNat else if v = 2 then b2.toNat else if v = 3 then b3.toNat else if v = 4 then b4.toNat else if v = 5 then b5.toNat else b6.toNat)) := by decide +kernel
theorem mk7_bt (S : Nat → Bool) {v : Nat} (hv : v < 7) : bt (mk7 S) v = (S v).toNat := by
  have h := mk7_B (S 0) (S 1) (S 2) (S 3) (S 4) (S 5) (S 6) v hv
  unfold mk7
  rw [h]
  match v, hv with
  | 0, _ => rfl
  | 1, _ => rfl
  | 2, _ => rfl
  | 3, _ => rfl
  | 4, _ => rfl
  | 5, _ => rfl
  | 6, _ => rfl
theorem mk7_lt (S : Nat → Bool) {n : Nat} (hn : 2 ≤ n) (hn7 : n ≤ 7) (h0 : S 0 = true) (h : ∀ v, n - 1 ≤ v → S v = false) : mk7 S < 2 ^ (n - 1) ∧ mk7 S % 2 = 1 := by
  have b1 := Bool.toNat_le (S 1)
  have b2 := Bool.toNat_le (S 2)
  have b3 := Bool.toNat_le (S 3)
  have b4 := Bool.toNat_le (S 4)
  have b5 := Bool.toNat_le (S 5)
  have h6 : S 6 = false := h 6 (by omega)
  unfold mk7
  rw [h0, h6]
  have t1 : (true : Bool).toNat = 1 := rfl
  have t0 : (false : Bool).toNat = 0 := rfl
  rw [t1, t0]
  refine ⟨?_, by omega⟩
  have e : n = 2 ∨ n = 3 ∨ n = 4 ∨ n = 5 ∨ n = 6 ∨ n = 7 := by omega
  rcases e with rfl | rfl | rfl | rfl | rfl | rfl
  · rw [h 1 (by omega), h 2 (by omega), h 3 (by omega), h 4 (by omega), h 5 (by omega)]; decide
  · rw [h 2 (by omega), h 3 (by omega), h 4 (by omega), h 5 (by omega), t0]; show _ < 4; omega
  · rw [h 3 (by omega), h 4 (by omega), h 5 (by omega), t0]; show _ < 8; omega
  · rw [h 4 (by omega), h 5 (by omega), t0]; show _ < 16; omega
  · rw [h 5 (by omega), t0]; show _ < 32; omega
  · show _ < 64; omega
/-- the size of a cut: pipes in rows; wo is taken for a broken one -/
def ctP (F : Nat → Nat) (wo s p : Nat) : Nat := if F (29 + 4 * p) = 0 ∧ p ≠ wo ∧ bt s (F (26 + 4 * p)) = 1 ∧ bt s (F (27 + 4 * p)) = 0 then F (28 + 4 * p) else 0
def ctV (F : Nat → Nat) (wo s : Nat) : Nat := sm (ctP F wo s) (F 2)
def mnF (G : Nat → Nat) : Nat → Nat → Nat → Nat
  | 0, _, b => b
  | k + 1, s, b => mnF G k (s + 2) (if G s < b then G s else b)
def mcF (F : Nat → Nat) (wo n : Nat) : Nat := mnF (ctV F wo) (2 ^ (n - 2) - 1) 3 (ctV F wo 1)
theorem mnF_spec (G : Nat → Nat) : ∀ (k s b : Nat), (mnF G k s b = b ∨ ∃ j, j < k ∧ mnF G k s b = G (s + 2 * j)) ∧ mnF G k s b ≤ b ∧ ∀ j, j < k → mnF G k s b ≤ G (s + 2 * j) := by
  intro k
  induction k with
  | zero => intro s b; exact ⟨Or.inl rfl, Nat.le_refl _, fun j hj => absurd hj (by omega)⟩
  | succ k ih =>
    intro s b
    rw [mnF]
    obtain ⟨h1, h2, h3⟩ := ih (s + 2) (if G s < b then G s else b)
    refine ⟨?_, ?_, ?_⟩
    · rcases h1 with h1 | ⟨j, hj, h1⟩
      · by_cases e : G s < b
        · rw [if_pos e] at h1
          exact Or.inr ⟨0, by omega, by rw [if_pos e]; exact h1⟩
        · rw [if_neg e] at h1
          exact Or.inl (by rw [if_neg e]; exact h1)
      · exact Or.inr ⟨j + 1, by omega, by rw [h1]; congr 1; omega⟩
    · refine Nat.le_trans h2 ?_
      split <;> omega
    · intro j hj
      cases j with
      | zero =>
        refine Nat.le_trans h2 ?_
        split
        · exact Nat.le_refl _
        · rw [Nat.mul_zero, Nat.add_zero]; omega
      | succ j =>
        have := h3 j (by omega)
        rwa [show s + 2 * (j + 1) = s + 2 + 2 * j by omega]
/-- the smallest cut: one of them, and none is smaller -/
theorem mcF_spec (F : Nat → Nat) (wo : Nat) {n : Nat} (hn : 2 ≤ n) : (∃ s, s < 2 ^ (n - 1) ∧ s % 2 = 1 ∧ mcF F wo n = ctV F wo s) ∧ ∀ s, s < 2 ^ (n - 1) → s % 2 = 1 → mcF F wo n ≤ ctV F wo s := by
  have hp : 2 ^ (n - 1) = 2 * 2 ^ (n - 2) := by rw [show n - 1 = (n - 2) + 1 by omega, Nat.pow_succ]; omega
  have hq : 0 < 2 ^ (n - 2) := Nat.pos_of_ne_zero (by simp)
  obtain ⟨h1, h2, h3⟩ := mnF_spec (ctV F wo) (2 ^ (n - 2) - 1) 3 (ctV F wo 1)
  refine ⟨?_, ?_⟩
  · rcases h1 with h1 | ⟨j, hj, h1⟩
    · exact ⟨1, by omega, rfl, h1⟩
    · exact ⟨3 + 2 * j, by omega, by omega, h1⟩
  · intro s hs ho
    by_cases e : s = 1
    · subst e; exact h2
    · have := h3 ((s - 3) / 2) (by omega)
      rwa [show 3 + 2 * ((s - 3) / 2) = s by omega] at this
theorem mcF_eq {F : Nat → Nat} {wo n x : Nat} (hn : 2 ≤ n) (h1 : ∃ s, s < 2 ^ (n - 1) ∧ s % 2 = 1 ∧ x = ctV F wo s) (h2 : ∀ s, s < 2 ^ (n - 1) → s % 2 = 1 → x ≤ ctV F wo s) : x = mcF F wo n := by
  obtain ⟨⟨s, a, b, c⟩, d⟩ := mcF_spec F wo hn
  obtain ⟨t, e, f, i⟩ := h1
  have := h2 s a b
  have := d t e f
  omega
