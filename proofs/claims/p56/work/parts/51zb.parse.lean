/-! the language of searches: one pure reading of it, and the reference reads so -/
def MK (n m : Nat) (S : Nat → Bool) : Prop := m < 2 ^ n ∧ ∀ k, k < n → m.testBit k = S k
theorem zI_and (a b : Nat) : (zI a &&& zI b) = zI (a &&& b) := by
  apply Int32.toBitVec_inj.mp
  show BitVec.ofNat 32 a &&& BitVec.ofNat 32 b = BitVec.ofNat 32 (a &&& b)
  rw [BitVec.ofNat_and]
theorem zI_or (a b : Nat) : (zI a ||| zI b) = zI (a ||| b) := by
  apply Int32.toBitVec_inj.mp
  show BitVec.ofNat 32 a ||| BitVec.ofNat 32 b = BitVec.ofNat 32 (a ||| b)
  rw [BitVec.ofNat_or]
theorem MK.and {n a b : Nat} {S T : Nat → Bool} (h : MK n a S) (h' : MK n b T) : MK n (a &&& b) (fun k => S k && T k) :=
  ⟨Nat.and_lt_two_pow _ h'.1, fun k hk => by rw [Nat.testBit_and, h.2 k hk, h'.2 k hk]⟩
theorem MK.or {n a b : Nat} {S T : Nat → Bool} (h : MK n a S) (h' : MK n b T) : MK n (a ||| b) (fun k => S k || T k) :=
  ⟨Nat.or_lt_two_pow h.1 h'.1, fun k hk => by rw [Nat.testBit_or, h.2 k hk, h'.2 k hk]⟩
theorem not_B : ∀ n, n < 8 → ∀ m, m < 128 → m < 2 ^ n → (zI (2 ^ n - 1) &&& (zI m ^^^ zM)) = zI (2 ^ n - (m + 1)) := by decide +kernel
theorem pow_8 {n : Nat} (h : n ≤ 7) : 2 ^ n ≤ 128 := Nat.pow_le_pow_right (n := 2) (by decide) h
theorem MK.lt {n m : Nat} {S : Nat → Bool} (h : MK n m S) (hn : n ≤ 7) : m < 128 := by have := pow_8 hn; have := h.1; omega
theorem MK.not {n a : Nat} {S : Nat → Bool} (hn : n ≤ 7) (h : MK n a S) : ∃ b, (zI (2 ^ n - 1) &&& (zI a ^^^ zM)) = zI b ∧ MK n b (fun k => !S k) := by
  refine ⟨_, not_B n (by omega) a (h.lt hn) h.1, ?_, fun k hk => ?_⟩
  · have := h.1; omega
  · rw [Nat.testBit_two_pow_sub_succ h.1, h.2 k hk, decide_eq_true hk, Bool.true_and]
theorem smkB : ∀ n, n < 7 → ∀ m, m < 64 → m < 2 ^ n → ∀ g, g < 2 → ∀ k, k < 7 → (m + g * 2 ^ n).testBit k = (if k = n then decide (g = 1) else m.testBit k) := by decide +kernel
theorem smk_MK {G : Nat → Nat} (hG : ∀ k, G k ≤ 1) : ∀ n, n ≤ 7 → MK n (smk G n) (fun k => decide (G k = 1)) := by
  intro n
  induction n with
  | zero => exact fun _ => ⟨smk_lt hG 0, fun k hk => absurd hk (by omega)⟩
  | succ n ih =>
    intro hn
    have h := ih (by omega)
    refine ⟨smk_lt hG _, fun k hk => ?_⟩
    have h6 : 2 ^ n ≤ 64 := (show 2 ^ n ≤ 2 ^ 6 from Nat.pow_le_pow_right (n := 2) (by decide) (by omega))
    have := h.1
    have e := smkB n (by omega) (smk G n) (by omega) h.1 (G n) (by have := hG n; omega) k (by omega)
    show (smk G n + G n * 2 ^ n).testBit k = _
    rw [e]
    by_cases z : k = n
    · rw [if_pos z, z]
    · rw [if_neg z, h.2 k (by omega)]
abbrev isF (c : Nat) : Prop := c = 45 ∨ c = 40 ∨ (97 ≤ c ∧ c ≤ 104)
def nV : Nat → Bool := fun _ => false
abbrev PR : Type := Bool × (Nat → Bool) × Nat
def PGj (r : PR) (K : (Nat → Bool) → Nat → PR) : PR := if r.1 = true then (true, nV, r.2.2) else K r.2.1 r.2.2
def PGc (ch : Nat → Nat) (r : PR) : PR := if r.1 = true then (true, nV, r.2.2) else if ch r.2.2 = 41 then (false, r.2.1, r.2.2 + 1) else (true, nV, r.2.2)
def PG (ch : Nat → Nat) (S : Nat → Nat → Bool) : Nat → Nat → Nat → (Nat → Bool) → Nat → PR
  | 0, _, _, _, p => (true, nV, p)
  | f + 1, m, op, v, p =>
    if m = 0 then
      if 97 ≤ ch p ∧ ch p ≤ 104 then (false, S (ch p - 97), p + 1)
      else if ch p = 45 then ((PG ch S f 0 op nV (p + 1)).1, (fun k => !(PG ch S f 0 op nV (p + 1)).2.1 k), (PG ch S f 0 op nV (p + 1)).2.2)
      else if ch p = 40 then (if op = 4 then (true, nV, p) else PGc ch (PG ch S f 4 (op + 1) nV (p + 1)))
      else (true, nV, p)
    else if m = 1 then (if isF (ch p) then PGj (PG ch S f 0 op nV p) (fun u q => PG ch S f 1 op (fun k => v k && u k) q) else (false, v, p))
    else if m = 2 then PGj (PG ch S f 0 op nV p) (fun u q => PG ch S f 1 op u q)
    else if m = 3 then (if ch p = 43 then PGj (PG ch S f 2 op nV (p + 1)) (fun u q => PG ch S f 3 op (fun k => v k || u k) q) else (false, v, p))
    else PGj (PG ch S f 2 op nV p) (fun u q => PG ch S f 3 op u q)
section
variable {ch : Nat → Nat} {S : Nat → Nat → Bool} {t : Nat}
theorem PG0 {f op p : Nat} {v : Nat → Bool} : PG ch S (f + 1) 0 op v p = (if 97 ≤ ch p ∧ ch p ≤ 104 then (false, S (ch p - 97), p + 1)
      else if ch p = 45 then ((PG ch S f 0 op nV (p + 1)).1, (fun k => !(PG ch S f 0 op nV (p + 1)).2.1 k), (PG ch S f 0 op nV (p + 1)).2.2)
      else if ch p = 40 then (if op = 4 then (true, nV, p) else PGc ch (PG ch S f 4 (op + 1) nV (p + 1)))
      else (true, nV, p)) := (rfl)
theorem PG1 {f op p : Nat} {v : Nat → Bool} : PG ch S (f + 1) 1 op v p = (if isF (ch p) then PGj (PG ch S f 0 op nV p) (fun u q => PG ch S f 1 op (fun k => v k && u k) q) else (false, v, p)) := (rfl)
theorem PG2 {f op p : Nat} {v : Nat → Bool} : PG ch S (f + 1) 2 op v p = PGj (PG ch S f 0 op nV p) (fun u q => PG ch S f 1 op u q) := (rfl)
theorem PG3 {f op p : Nat} {v : Nat → Bool} : PG ch S (f + 1) 3 op v p = (if ch p = 43 then PGj (PG ch S f 2 op nV (p + 1)) (fun u q => PG ch S f 3 op (fun k => v k || u k) q) else (false, v, p)) := (rfl)
theorem PG4 {f op p : Nat} {v : Nat → Bool} : PG ch S (f + 1) 4 op v p = PGj (PG ch S f 2 op nV p) (fun u q => PG ch S f 3 op u q) := (rfl)
/-- a reading goes on, and not beyond the end -/
theorem PGb (hz : ∀ i, t ≤ i → ch i = 0) : ∀ (f m op : Nat) (v : Nat → Bool) (p : Nat), m ≤ 4 → p ≤ t → p ≤ (PG ch S f m op v p).2.2 ∧ (PG ch S f m op v p).2.2 ≤ t ∧ ((m = 0 ∨ m = 2 ∨ m = 4) → (PG ch S f m op v p).1 = false → p < (PG ch S f m op v p).2.2) := by
  intro f
  induction f with
  | zero => exact fun m op v p _ hp => ⟨Nat.le_refl _, hp, fun _ h => by cases h⟩
  | succ f ih =>
    intro m op v p hm hp
    have hlt : ch p ≠ 0 → p < t := fun h => by
      by_cases z : p < t
      · exact z
      · exact absurd (hz p (by omega)) h
    have hj : ∀ (r : PR) (K : (Nat → Bool) → Nat → PR), (p ≤ r.2.2 ∧ r.2.2 ≤ t ∧ (r.1 = false → p < r.2.2)) → (∀ u q, p ≤ q → q ≤ t → q ≤ (K u q).2.2 ∧ (K u q).2.2 ≤ t) → p ≤ (PGj r K).2.2 ∧ (PGj r K).2.2 ≤ t ∧ ((PGj r K).1 = false → p < (PGj r K).2.2) := by
      intro r K h1 h2
      unfold PGj
      by_cases z : r.1 = true
      · rw [if_pos z]
        exact ⟨h1.1, h1.2.1, fun h => by cases h⟩
      · rw [if_neg z]
        have h3 := h1.2.2 (Bool.eq_false_iff.mpr z)
        obtain ⟨h4, h5⟩ := h2 r.2.1 r.2.2 h1.1 h1.2.1
        exact ⟨by omega, h5, fun _ => by omega⟩
    have hm' : m = 0 ∨ m = 1 ∨ m = 2 ∨ m = 3 ∨ m = 4 := by omega
    rcases hm' with rfl | rfl | rfl | rfl | rfl
    · rw [PG0]
      by_cases h1 : 97 ≤ ch p ∧ ch p ≤ 104
      · rw [if_pos h1]
        have := hlt (by omega)
        exact ⟨by show p ≤ p + 1; omega, by show p + 1 ≤ t; omega, fun _ _ => by show p < p + 1; omega⟩
      · rw [if_neg h1]
        by_cases h2 : ch p = 45
        · rw [if_pos h2]
          have h3 := hlt (by omega)
          obtain ⟨a, b, c⟩ := ih 0 op nV (p + 1) (by omega) (by omega)
          exact ⟨by show p ≤ (PG ch S f 0 op nV (p + 1)).2.2; omega, b, fun _ _ => by show p < (PG ch S f 0 op nV (p + 1)).2.2; omega⟩
        · rw [if_neg h2]
          by_cases h3 : ch p = 40
          · rw [if_pos h3]
            by_cases h4 : op = 4
            · rw [if_pos h4]; exact ⟨Nat.le_refl _, hp, fun _ h => by cases h⟩
            · rw [if_neg h4]
              have h5 := hlt (by omega)
              obtain ⟨a, b, c⟩ := ih 4 (op + 1) nV (p + 1) (by omega) (by omega)
              unfold PGc
              by_cases z : (PG ch S f 4 (op + 1) nV (p + 1)).1 = true
              · rw [if_pos z]; exact ⟨by show p ≤ (PG ch S f 4 (op + 1) nV (p + 1)).2.2; omega, b, fun _ h => by cases h⟩
              · rw [if_neg z]
                by_cases y : ch (PG ch S f 4 (op + 1) nV (p + 1)).2.2 = 41
                · rw [if_pos y]
                  have h6 : (PG ch S f 4 (op + 1) nV (p + 1)).2.2 < t := by
                    by_cases x : (PG ch S f 4 (op + 1) nV (p + 1)).2.2 < t
                    · exact x
                    · have := hz _ (Nat.le_of_not_lt x); omega
                  exact ⟨by show p ≤ (PG ch S f 4 (op + 1) nV (p + 1)).2.2 + 1; omega, h6, fun _ _ => by show p < (PG ch S f 4 (op + 1) nV (p + 1)).2.2 + 1; omega⟩
                · rw [if_neg y]; exact ⟨by show p ≤ (PG ch S f 4 (op + 1) nV (p + 1)).2.2; omega, b, fun _ h => by cases h⟩
          · rw [if_neg h3]; exact ⟨Nat.le_refl _, hp, fun _ h => by cases h⟩
    · rw [PG1]
      by_cases h1 : isF (ch p)
      · rw [if_pos h1]
        obtain ⟨a, b, c⟩ := ih 0 op nV p (by omega) hp
        obtain ⟨d, e, _⟩ := hj (PG ch S f 0 op nV p) (fun u q => PG ch S f 1 op (fun k => v k && u k) q) ⟨a, b, c (by omega)⟩ (fun u q h1 h2 => by obtain ⟨d, e, _⟩ := ih 1 op (fun k => v k && u k) q (by omega) h2; exact ⟨d, e⟩)
        exact ⟨d, e, fun h => by omega⟩
      · rw [if_neg h1]; exact ⟨Nat.le_refl _, hp, fun h => by omega⟩
    · rw [PG2]
      obtain ⟨a, b, c⟩ := ih 0 op nV p (by omega) hp
      obtain ⟨d, e, g⟩ := hj (PG ch S f 0 op nV p) (fun u q => PG ch S f 1 op u q) ⟨a, b, c (by omega)⟩ (fun u q h1 h2 => by obtain ⟨d, e, _⟩ := ih 1 op u q (by omega) h2; exact ⟨d, e⟩)
      exact ⟨d, e, fun _ => g⟩
    · rw [PG3]
      by_cases h1 : ch p = 43
      · rw [if_pos h1]
        have h3 := hlt (by omega)
        obtain ⟨a, b, c⟩ := ih 2 op nV (p + 1) (by omega) (by omega)
        obtain ⟨d, e, _⟩ := hj (PG ch S f 2 op nV (p + 1)) (fun u q => PG ch S f 3 op (fun k => v k || u k) q) ⟨by omega, b, fun _ => by omega⟩ (fun u q h1 h2 => by obtain ⟨d, e, _⟩ := ih 3 op (fun k => v k || u k) q (by omega) h2; exact ⟨d, e⟩)
        exact ⟨d, e, fun h => by omega⟩
      · rw [if_neg h1]; exact ⟨Nat.le_refl _, hp, fun h => by omega⟩
    · rw [PG4]
      obtain ⟨a, b, c⟩ := ih 2 op nV p (by omega) hp
      obtain ⟨d, e, g⟩ := hj (PG ch S f 2 op nV p) (fun u q => PG ch S f 3 op u q) ⟨a, b, c (by omega)⟩ (fun u q h1 h2 => by obtain ⟨d, e, _⟩ := ih 3 op u q (by omega) h2; exact ⟨d, e⟩)
      exact ⟨d, e, fun _ => g⟩
end
