/-! the reference reads a search as PG does -/
def JM (w0 : XW) (p op wr : Nat) (w : XW) : Prop := w.2 = w0.2 ∧ (∀ a c, ¬ (a = 141 ∧ (c = 18 ∨ c = 21 ∨ c = 22)) → w.1 a c = w0.1 a c) ∧ w.1 141 18 = zI p ∧ w.1 141 21 = zI op ∧ w.1 141 22 = zI wr
def MT (w0 : XW) (t : Nat) (ch : Nat → Nat) : Prop := t ≤ 60 ∧ w0.1 141 19 = zI t ∧ (∀ i, i < t → w0.1 146 i = zI (ch i)) ∧ (∀ i, ch i < 65536) ∧ (∀ i, t ≤ i → ch i = 0)
section
variable {w0 w : XW} {p op wr : Nat}
theorem JM.sp (J : JM w0 p op wr w) (q : Nat) : JM w0 q op wr (wset w 141 18 (zI q)) := by
  obtain ⟨a, b, c, d, e⟩ := J
  refine ⟨a, fun x y h => ?_, ?_, ?_, ?_⟩
  · rw [wset_at, if_neg (by omega), b x y h]
  · rw [wset_hit]
  · rw [wset_at, if_neg (by omega)]; exact d
  · rw [wset_at, if_neg (by omega)]; exact e
theorem JM.opn (J : JM w0 p op wr w) (q : Nat) : JM w0 p q wr (wset w 141 21 (zI q)) := by
  obtain ⟨a, b, c, d, e⟩ := J
  refine ⟨a, fun x y h => ?_, ?_, ?_, ?_⟩
  · rw [wset_at, if_neg (by omega), b x y h]
  · rw [wset_at, if_neg (by omega)]; exact c
  · rw [wset_hit]
  · rw [wset_at, if_neg (by omega)]; exact e
theorem JM.wrg (J : JM w0 p op wr w) (q : Nat) : JM w0 p op q (wset w 141 22 (zI q)) := by
  obtain ⟨a, b, c, d, e⟩ := J
  refine ⟨a, fun x y h => ?_, ?_, ?_, ?_⟩
  · rw [wset_at, if_neg (by omega), b x y h]
  · rw [wset_at, if_neg (by omega)]; exact c
  · rw [wset_at, if_neg (by omega)]; exact d
  · rw [wset_hit]
theorem JM.nx (J : JM w0 p op wr w) : JM w0 (p + 1) op wr (wset w 141 18 (w.1 141 18 + 1)) := by
  rw [J.2.2.1, zl_1, zI_add]; exact J.sp _
theorem JM.up (J : JM w0 p op wr w) : JM w0 p (op + 1) wr (wset w 141 21 (w.1 141 21 + 1)) := by
  rw [J.2.2.2.1, zl_1, zI_add]; exact J.opn _
theorem JM.dn (J : JM w0 p (op + 1) wr w) : JM w0 p op wr (wset w 141 21 (w.1 141 21 - 1)) := by
  rw [J.2.2.2.1, zl_1, zI_sub (by omega)]; exact J.opn _
end
def hvZ (t : Nat) (ch : Nat → Nat) (p : Nat) : Int32 := if p < t then zI (ch p) else zM
section
variable {t : Nat} {ch : Nat → Nat}
theorem hvL (h1 : ∀ i, ch i < 65536) (h2 : ∀ i, t ≤ i → ch i = 0) {p c : Nat} (h0 : 0 < c) (hc : c < 65536) : (hvZ t ch p = zI c) = (ch p = c) := by
  unfold hvZ
  by_cases h : p < t
  · rw [if_pos h, zI_inj (by have := h1 p; omega) (by omega)]
  · rw [if_neg h]
    apply propext
    constructor
    · intro e
      have z := zI_zM (a := c) (by omega)
      rw [← e] at z
      exact (z ▸ rfl : False).elim
    · intro e
      have := h2 p (by omega)
      omega
theorem f_isTermM (w : XW) : f_X11_isTerm zM w = some (zI 0, w) := by
  unfold f_X11_isTerm f_X11_in
  rw [if_pos (by decide), bI_s, if_pos (by decide)]
  rfl
theorem f_isTermZ {c : Nat} (hc : c < 65536) (w : XW) : f_X11_isTerm (zI c) w = some (zI (if 97 ≤ c ∧ c ≤ 104 then 1 else 0), w) := by
  unfold f_X11_isTerm f_X11_in
  by_cases h1 : c < 97
  · rw [if_pos (by rw [zl_97, zI_lt (by omega) (by omega)]; exact h1), if_neg (by omega), bI_s, if_pos (by decide)]
    rfl
  · rw [if_neg (by rw [zl_97, zI_lt (by omega) (by omega)]; exact h1)]
    by_cases h2 : 104 < c
    · rw [if_pos (by rw [zl_104, zI_lt (by omega) (by omega)]; exact h2), if_neg (by omega), bI_s, if_pos (by decide)]
      rfl
    · rw [if_neg (by rw [zl_104, zI_lt (by omega) (by omega)]; exact h2), if_pos (by omega), bI_s, if_pos (by decide)]
      rfl
theorem m_termH (h1 : ∀ i, ch i < 65536) (h2 : ∀ i, t ≤ i → ch i = 0) (p : Nat) (w : XW) : f_X11_isTerm (hvZ t ch p) w = some (zI (if 97 ≤ ch p ∧ ch p ≤ 104 then 1 else 0), w) := by
  unfold hvZ
  by_cases h : p < t
  · rw [if_pos h, f_isTermZ (h1 p)]
  · rw [if_neg h, f_isTermM, if_neg (by have := h2 p (by omega); omega)]
end
section
variable {w0 : XW} {t : Nat} {ch : Nat → Nat} {F : Nat → Nat}
theorem m_hereN {w : XW} {p op wr : Nat} (k : Nat) (T : MT w0 t ch) (J : JM w0 p op wr w) (hp : p + k < 2147483648) : f_X11_here (zI k) w = some (hvZ t ch (p + k), w) := by
  have t1 := T.1
  unfold f_X11_here hvZ
  rw [J.2.2.1, J.2.1 141 19 (by omega), T.2.1, J.2.1 146 _ (by omega)]
  simp only [zI_add]
  by_cases h : p + k < t
  · rw [if_neg (by rw [zI_le (by omega) (by omega)]; omega), if_pos (by rw [inB_z (by omega)]; omega), zI_nat (by omega), T.2.2.1 _ h, if_pos h]
  · rw [if_pos (by rw [zI_le (by omega) (by omega)]; omega), if_neg h]
    rfl
theorem m_here {w : XW} {p op wr : Nat} (T : MT w0 t ch) (J : JM w0 p op wr w) (hp : p ≤ t) : f_X11_here 0 w = some (hvZ t ch p, w) := m_hereN 0 T J (by have := T.1; omega)
theorem m_isFactor {w : XW} {p op wr : Nat} (T : MT w0 t ch) (J : JM w0 p op wr w) (hp : p ≤ t) : f_X11_isFactor w = some (zI (if isF (ch p) then 1 else 0), w) := by
  obtain ⟨t1, _, _, t4, t5⟩ := id T
  unfold f_X11_isFactor
  rw [m_here T J hp, bI_s, m_termH t4 t5, bI_s]
  by_cases h1 : 97 ≤ ch p ∧ ch p ≤ 104
  · rw [if_pos h1, if_neg (by decide), if_pos (Or.inr (Or.inr h1))]
    rfl
  · rw [if_neg h1, if_pos (by rfl), m_here T J hp, bI_s]
    by_cases h2 : ch p = 45
    · rw [if_pos (by rw [zl_45, hvL t4 t5 (by omega) (by omega)]; exact h2), if_pos (Or.inl h2)]
      rfl
    · rw [if_neg (by rw [zl_45, hvL t4 t5 (by omega) (by omega)]; exact h2), m_here T J hp, bI_s]
      by_cases h3 : ch p = 40
      · rw [if_pos (by rw [zl_40, hvL t4 t5 (by omega) (by omega)]; exact h3), if_pos (Or.inr (Or.inl h3))]
        rfl
      · rw [if_neg (by rw [zl_40, hvL t4 t5 (by omega) (by omega)]; exact h3), if_neg (fun z => z.elim h2 (fun z => z.elim h3 h1))]
        rfl
/-- who bears a term, and who all are -/
theorem m_bear {RC : XW → Option (Int32 × XW)} {w : XW} {p op wr c : Nat} (J : JM w0 p op wr w) (hM : Mo w0.1 142 0 F) (hI : Inv F) (hc : c < 8) : f_X11_factor_27 RC (zI (97 + c)) 1000 0 0 w = some (zI (smk (btT F c) (F 0)), w) := by
  have a1 := hI.1
  have hM1 : Mo w.1 142 0 F := fun j hj => by rw [J.2.1 142 _ (by omega)]; exact hM j hj
  have loop : ∀ (d fuel i : Nat), i + d = F 0 → d < fuel → f_X11_factor_27 RC (zI (97 + c)) fuel (zI (smk (btT F c) i)) (zI i) w = some (zI (smk (btT F c) (F 0)), w) := by
    intro d
    induction d with
    | zero =>
      intro fuel i hi hf
      cases fuel with
      | zero => omega
      | succ fuel =>
        unfold f_X11_factor_27
        rw [show Int32.toNatClampNeg 0 = 0 from rfl, hM1.at (by omega), if_pos (by rw [zI_le (by omega) (by omega)]; omega), show i = F 0 by omega]
    | succ d ih =>
      intro fuel i hi hf
      cases fuel with
      | zero => omega
      | succ fuel =>
        unfold f_X11_factor_27
        have a5 := (hI.2.2.2.2.1 i (by omega)).2.1
        rw [show Int32.toNatClampNeg 0 = 0 from rfl, hM1.at (by omega), if_neg (by rw [zI_le (by omega) (by omega)]; omega), m_has hM1 (by omega) a5 hc, bI_s]
        have hb := bt_01 (F (12 + i)) c
        have hs : smk (btT F c) (i + 1) = smk (btT F c) i + bt (F (12 + i)) c * 2 ^ i := rfl
        have hi1 : zI i + 1 = zI (i + 1) := by rw [zl_1, zI_add]
        rcases hb with e | e
        · rw [e, if_pos (by rfl), hi1]
          have e2 : (zI (smk (btT F c) i) ||| 0) = zI (smk (btT F c) (i + 1)) := by
            rw [zl_0, zI_or, Nat.or_zero, hs, e, Nat.zero_mul, Nat.add_zero]
          rw [e2]
          exact ih fuel (i + 1) (by omega) (by omega)
        · rw [e, if_neg (by decide), hi1]
          have e2 : (zI (smk (btT F c) i) ||| ((1 : Int32) <<< (zI i &&& (31 : Int32)))) = zI (smk (btT F c) (i + 1)) := by
            rw [zl_1, zl_31, smk_step (btT_le F c) (by omega), hs, e, Nat.one_mul]
          rw [e2]
          exact ih fuel (i + 1) (by omega) (by omega)
  exact loop (F 0) 1000 0 (by omega) (by omega)
theorem every_B : ∀ n, n < 8 → (zI 1 <<< (zI n &&& zI 31)) - zI 1 = zI (2 ^ n - 1) := by decide +kernel
theorem m_every {w : XW} {p op wr : Nat} (J : JM w0 p op wr w) (hM : Mo w0.1 142 0 F) (hI : Inv F) : f_X11_every w = some (zI (2 ^ F 0 - 1), w) := by
  have a1 := hI.1
  unfold f_X11_every
  rw [show Int32.toNatClampNeg 0 = 0 from rfl, J.2.1 142 0 (by omega), hM.at (by omega), zl_1, zl_31, every_B _ (by omega)]
def MSp (w0 : XW) (n : Nat) (r : PR) (op : Nat) (o : Option (Int32 × XW)) : Prop := ∃ x w', o = some (x, w') ∧ ∃ q, JM w0 r.2.2 q r.1.toNat w' ∧ (r.1 = false → q = op ∧ ∃ m, x = zI m ∧ MK n m r.2.1)
def stF (F : Nat → Nat) (c : Nat) : Nat → Bool := fun s => decide (bt (F (12 + s)) c = 1)
end
