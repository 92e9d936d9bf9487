/-! commands: one pure reading -/
def dg (c : Nat) : Bool := decide (48 ≤ c ∧ c ≤ 57)
def tm (c : Nat) : Bool := decide (97 ≤ c ∧ c ≤ 104)
abbrev MR : Type := Bool × Nat × List Nat
def mcs (v : Nat) (r : MR) : MR := (r.1, r.2.1, v :: r.2.2)
def mtc (ch : Nat → Nat) : List Nat → Nat → MR
  | [], p => (true, p, [])
  | s :: l, p =>
    if s = 68 then (if dg (ch p) = true then mcs (ch p - 48) (mtc ch l (p + 1)) else (false, p, []))
    else if s = 78 then (if dg (ch p) = true then (if dg (ch (p + 1)) = true then mcs ((ch p - 48) * 10 + (ch (p + 1) - 48)) (mtc ch l (p + 2)) else mcs (ch p - 48) (mtc ch l (p + 1))) else (false, p, []))
    else if s = 84 then (if tm (ch p) = true then mcs (ch p) (mtc ch l (p + 1)) else (false, p, []))
    else (if ch p = s then mtc ch l (p + 1) else (false, p, []))
theorem mtc_c (ch : Nat → Nat) (s : Nat) (l : List Nat) (p : Nat) : mtc ch (s :: l) p =
    (if s = 68 then (if dg (ch p) = true then mcs (ch p - 48) (mtc ch l (p + 1)) else (false, p, []))
    else if s = 78 then (if dg (ch p) = true then (if dg (ch (p + 1)) = true then mcs ((ch p - 48) * 10 + (ch (p + 1) - 48)) (mtc ch l (p + 2)) else mcs (ch p - 48) (mtc ch l (p + 1))) else (false, p, []))
    else if s = 84 then (if tm (ch p) = true then mcs (ch p) (mtc ch l (p + 1)) else (false, p, []))
    else (if ch p = s then mtc ch l (p + 1) else (false, p, []))) := (rfl)
def sN (i : Nat) : List Nat := (strB (i + 7)).map (fun x => x.toNatClampNeg)
theorem sN_B : ∀ i, i < 12 → (strB (i + 7)).length = (sN i).length ∧ (sN i).length ≤ 10 ∧ (zI (sN i).length >>> (0 &&& 31)) = zI (sN i).length ∧ ∀ j, j < 10 → j < (sN i).length → (((((strB (i + 7)).getD j 0) &&& 255).toUInt32 % 65536).toInt32) = zI (gtL (sN i) j) := by decide +kernel
theorem z_strlen {i : Nat} (hi : i < 12) (w : XW) : f_strlen (i + 7) w = some (zI (sN i).length, w) := by
  obtain ⟨h1, _, h3, _⟩ := sN_B i hi
  unfold f_strlen
  rw [if_pos (by omega), h1]
  show some (zI (sN i).length >>> (0 &&& 31), w) = _
  rw [h3]
theorem z_charAt {i j : Nat} (hi : i < 12) (hj : j < (sN i).length) (w : XW) : f_charAt (i + 7) (zI j) w = some (zI (gtL (sN i) j), w) := by
  obtain ⟨h1, h2, h3, h4⟩ := sN_B i hi
  unfold f_charAt
  rw [if_pos ⟨by omega, by rw [zl_0, zI_lt (by omega) (by omega)]; omega, by rw [h1]; show zI j < zI (sN i).length; rw [zI_lt (by omega) (by omega)]; exact hj⟩, zI_nat (by omega), h4 j (by omega) hj]
theorem mtc_b {ch : Nat → Nat} {t : Nat} (h8 : ∀ i, t ≤ i → ch i = 0) : ∀ (l : List Nat) (p : Nat), (∀ s, s ∈ l → s ≠ 0) → p ≤ t → p ≤ (mtc ch l p).2.1 ∧ (mtc ch l p).2.1 ≤ t ∧ ((mtc ch l p).1 = true → p + l.length ≤ (mtc ch l p).2.1) := by
  intro l
  induction l with
  | nil => exact fun p _ hp => ⟨Nat.le_refl _, hp, fun _ => Nat.le_refl _⟩
  | cons s l ih =>
    intro p hs hp
    have hs' : ∀ s, s ∈ l → s ≠ 0 := fun x hx => hs x (List.mem_cons_of_mem _ hx)
    have hlt : ∀ q, q ≤ t → ch q ≠ 0 → q < t := fun q hq h => by
      by_cases z : q < t
      · exact z
      · exact absurd (h8 q (by omega)) h
    have no : p ≤ ((false, p, []) : MR).2.1 ∧ ((false, p, []) : MR).2.1 ≤ t ∧ (((false, p, []) : MR).1 = true → p + (s :: l).length ≤ ((false, p, []) : MR).2.1) := ⟨Nat.le_refl _, hp, fun h => by cases h⟩
    have one : ∀ q, p + 1 ≤ q → q ≤ t → p ≤ (mtc ch l q).2.1 ∧ (mtc ch l q).2.1 ≤ t ∧ ((mtc ch l q).1 = true → p + (s :: l).length ≤ (mtc ch l q).2.1) := fun q h1 h2 => by
      obtain ⟨a, b, c⟩ := ih q hs' h2
      exact ⟨by omega, b, fun h => by have := c h; show p + (l.length + 1) ≤ _; omega⟩
    have hd : ∀ c, dg c = true → c ≠ 0 := fun c h => by have := of_decide_eq_true h; omega
    have ht : ∀ c, tm c = true → c ≠ 0 := fun c h => by have := of_decide_eq_true h; omega
    rw [mtc_c]
    by_cases h1 : s = 68
    · rw [if_pos h1]
      by_cases h2 : dg (ch p) = true
      · rw [if_pos h2]; exact one (p + 1) (by omega) (hlt p hp (hd _ h2))
      · rw [if_neg h2]; exact no
    · rw [if_neg h1]
      by_cases h3 : s = 78
      · rw [if_pos h3]
        by_cases h2 : dg (ch p) = true
        · rw [if_pos h2]
          have q1 := hlt p hp (hd _ h2)
          by_cases h4 : dg (ch (p + 1)) = true
          · rw [if_pos h4]; exact one (p + 2) (by omega) (hlt (p + 1) q1 (hd _ h4))
          · rw [if_neg h4]; exact one (p + 1) (by omega) q1
        · rw [if_neg h2]; exact no
      · rw [if_neg h3]
        by_cases h4 : s = 84
        · rw [if_pos h4]
          by_cases h2 : tm (ch p) = true
          · rw [if_pos h2]; exact one (p + 1) (by omega) (hlt p hp (ht _ h2))
          · rw [if_neg h2]; exact no
        · rw [if_neg h4]
          by_cases h2 : ch p = s
          · rw [if_pos h2]; exact one (p + 1) (by omega) (hlt p hp (by rw [h2]; exact hs s List.mem_cons_self))
          · rw [if_neg h2]; exact no
theorem mtc_app (ch : Nat → Nat) : ∀ (l l' : List Nat) (p : Nat), mtc ch (l ++ l') p = (if (mtc ch l p).1 = true then ((mtc ch l' (mtc ch l p).2.1).1, (mtc ch l' (mtc ch l p).2.1).2.1, (mtc ch l p).2.2 ++ (mtc ch l' (mtc ch l p).2.1).2.2) else mtc ch l p) := by
  intro l
  induction l with
  | nil => intro l' p; rfl
  | cons s l ih =>
    intro l' p
    have e : ∀ v q, mcs v (mtc ch (l ++ l') q) = (if (mcs v (mtc ch l q)).1 = true then ((mtc ch l' (mcs v (mtc ch l q)).2.1).1, (mtc ch l' (mcs v (mtc ch l q)).2.1).2.1, (mcs v (mtc ch l q)).2.2 ++ (mtc ch l' (mcs v (mtc ch l q)).2.1).2.2) else mcs v (mtc ch l q)) := fun v q => by
      rw [ih]
      show mcs v (if (mtc ch l q).1 = true then _ else _) = (if (mtc ch l q).1 = true then _ else _)
      by_cases z : (mtc ch l q).1 = true
      · rw [if_pos z, if_pos z]; rfl
      · rw [if_neg z, if_neg z]
    show mtc ch (s :: (l ++ l')) p = _
    simp only [mtc_c]
    by_cases h1 : s = 68
    · simp only [if_pos h1]
      by_cases h2 : dg (ch p) = true
      · simp only [if_pos h2]; exact e _ _
      · simp only [if_neg h2]; rfl
    · simp only [if_neg h1]
      by_cases h3 : s = 78
      · simp only [if_pos h3]
        by_cases h2 : dg (ch p) = true
        · simp only [if_pos h2]
          by_cases h4 : dg (ch (p + 1)) = true
          · simp only [if_pos h4]; exact e _ _
          · simp only [if_neg h4]; exact e _ _
        · simp only [if_neg h2]; rfl
      · simp only [if_neg h3]
        by_cases h4 : s = 84
        · simp only [if_pos h4]
          by_cases h2 : tm (ch p) = true
          · simp only [if_pos h2]; exact e _ _
          · simp only [if_neg h2]; rfl
        · simp only [if_neg h4]
          by_cases h2 : ch p = s
          · simp only [if_pos h2]; exact ih _ _
          · simp only [if_neg h2]; rfl
