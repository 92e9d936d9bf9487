/-- a whole text of commands -/
def rd (ch : Nat → Nat) (t : Nat) : Nat → Nat → List CM → Bool × Nat × List CM
  | 0, p, cs => (false, p, cs)
  | f + 1, p, cs =>
    if (rcW ch p).1 = true then (if (rcW ch p).2.1 = t then (true, t, cs ++ [(rcW ch p).2.2]) else if ch (rcW ch p).2.1 = 59 then rd ch t f ((rcW ch p).2.1 + 1) (cs ++ [(rcW ch p).2.2]) else (false, (rcW ch p).2.1, cs))
    else (false, (rcW ch p).2.1, cs)
theorem rd_s (ch : Nat → Nat) (t f p : Nat) (cs : List CM) : rd ch t (f + 1) p cs = (if (rcW ch p).1 = true then (if (rcW ch p).2.1 = t then (true, t, cs ++ [(rcW ch p).2.2]) else if ch (rcW ch p).2.1 = 59 then rd ch t f ((rcW ch p).2.1 + 1) (cs ++ [(rcW ch p).2.2]) else (false, (rcW ch p).2.1, cs))
    else (false, (rcW ch p).2.1, cs)) := (rfl)
def gdC (q : CM) : Prop := q.1 < 12 ∧ q.2.length = cS (sN q.1)
theorem rd_b {ch : Nat → Nat} {t : Nat} (h8 : ∀ i, t ≤ i → ch i = 0) (ht : t ≤ 60) : ∀ (f p : Nat) (cs : List CM), p ≤ t → 4 * cs.length ≤ p → (∀ q, q ∈ cs → gdC q) → (rd ch t f p cs).2.1 ≤ t ∧ (rd ch t f p cs).2.2.length ≤ 16 ∧ (∀ q, q ∈ (rd ch t f p cs).2.2 → gdC q) := by
  intro f
  induction f with
  | zero => exact fun p cs hp hc hq => ⟨hp, by show cs.length ≤ 16; omega, hq⟩
  | succ f ih =>
    intro p cs hp hc hq
    obtain ⟨b1, b2, b3⟩ := rcW_b h8 hp
    rw [rd_s]
    by_cases h1 : (rcW ch p).1 = true
    · rw [if_pos h1]
      obtain ⟨c1, c2, c3⟩ := b3 h1
      have hq' : ∀ q, q ∈ cs ++ [(rcW ch p).2.2] → gdC q := fun q h => by
        rcases List.mem_append.mp h with h | h
        · exact hq q h
        · rw [List.mem_singleton.mp h]; exact ⟨c2, c3⟩
      have hl : (cs ++ [(rcW ch p).2.2]).length = cs.length + 1 := by rw [List.length_append]; rfl
      by_cases h2 : (rcW ch p).2.1 = t
      · rw [if_pos h2]; exact ⟨Nat.le_refl _, by show (cs ++ [(rcW ch p).2.2]).length ≤ 16; omega, hq'⟩
      · rw [if_neg h2]
        by_cases h3 : ch (rcW ch p).2.1 = 59
        · rw [if_pos h3]
          exact ih _ _ (by omega) (by omega) hq'
        · rw [if_neg h3]; exact ⟨b2, by show cs.length ≤ 16; omega, hq⟩
    · rw [if_neg h1]; exact ⟨b2, by show cs.length ≤ 16; omega, hq⟩
theorem x_read {w0 : XW} {t : Nat} {ch : Nat → Nat} (T : CT w0 t ch) : ∃ w', f_X0_read w0 = some w' ∧ JX w0 w' ∧ (((rd ch t 100 0 []).1 = true ∧ w'.1 138 3 = zM ∧ CCm w'.1 (rd ch t 100 0 []).2.2) ∨ ((rd ch t 100 0 []).1 = false ∧ w'.1 138 3 = zI (rd ch t 100 0 []).2.1)) := by
  obtain ⟨t1, t2, t3, t4, t5⟩ := id T
  have loop : ∀ (f fuel p : Nat) (cs : List CM) (w : XW), t - p < f → 60 - cs.length < fuel → p ≤ t → 4 * cs.length ≤ p → JX w0 w → CCm w.1 cs → w.1 138 3 = zM → ∃ w', f_X0_read_14 fuel (zI p) (zI cs.length) w = some w' ∧ JX w0 w' ∧ (((rd ch t f p cs).1 = true ∧ w'.1 138 3 = zM ∧ CCm w'.1 (rd ch t f p cs).2.2) ∨ ((rd ch t f p cs).1 = false ∧ w'.1 138 3 = zI (rd ch t f p cs).2.1)) := by
    intro f
    induction f with
    | zero => exact fun fuel p cs w h => by omega
    | succ f ih =>
      intro fuel p cs w hf hfu hp hc J C h3
      cases fuel with
      | zero => omega
      | succ fuel =>
        obtain ⟨b1, b2, b3⟩ := rcW_b t5 hp
        unfold f_X0_read_14
        rw [if_neg (show ¬ (60 ≤ zI cs.length) by rw [zl_60, zI_le (by omega) (by omega)]; omega)]
        obtain ⟨w1, e1, e2, e3⟩ := x_command T hp (show cs.length ≤ 15 by omega) J C h3
        rw [e1, bV_s, rd_s]
        rcases e3 with ⟨g1, g2, g3, g4⟩ | ⟨g1, g2⟩
        · obtain ⟨c1, c2, c3⟩ := b3 g1
          have hl : (cs ++ [(rcW ch p).2.2]).length = cs.length + 1 := by rw [List.length_append]; rfl
          rw [if_pos g1, g3, if_pos (show zM = -1 from rfl), g4, e2.2 132 1 (by omega) (by omega) (by omega), t2]
          by_cases h2 : (rcW ch p).2.1 = t
          · rw [if_pos h2, if_neg (show ¬ (zI (rcW ch p).2.1 < zI t) by rw [zI_lt (by omega) (by omega)]; omega)]
            exact ⟨w1, rfl, e2, Or.inl ⟨rfl, g3, g2⟩⟩
          · rw [if_neg h2, if_pos (show zI (rcW ch p).2.1 < zI t by rw [zI_lt (by omega) (by omega)]; omega), x_at e2 T (by omega), bI_s]
            by_cases h5 : ch (rcW ch p).2.1 = 59
            · rw [if_pos h5, if_pos (show zI (ch (rcW ch p).2.1) = 59 by rw [h5]; rfl), g4, zl_1, zI_add, zI_add, ← hl]
              exact ih fuel _ _ w1 (by omega) (by omega) (by omega) (by omega) e2 g2 g3
            · rw [if_neg h5, if_neg (show ¬ (zI (ch (rcW ch p).2.1) = 59) by rw [zl_59, zI_inj (by have := t4 (rcW ch p).2.1; omega) (by omega)]; exact h5), g4]
              exact ⟨_, rfl, e2.set (by omega) _ _, Or.inr ⟨rfl, wset_hit _ _ _ _⟩⟩
        · rw [if_neg (show ¬ ((rcW ch p).1 = true) by rw [g1]; decide), g2, if_neg (show ¬ (zI (rcW ch p).2.1 = -1) by rw [zl_1, zm1, zI_zM (by omega)]; exact id)]
          exact ⟨w1, rfl, e2, Or.inr ⟨rfl, g2⟩⟩
  have J0 : JX w0 w0 := ⟨rfl, fun _ _ _ _ _ => rfl⟩
  have C0 : CCm (wset (wset w0 138 2 0) 138 3 (-1)).1 [] := ⟨by rw [wset_at, if_neg (by omega), wset_hit]; rfl, fun j q h => by cases h⟩
  exact loop 100 1000 0 [] _ (by omega) (by show 60 - 0 < 1000; omega) (by omega) (by show 4 * 0 ≤ 0; omega) ((J0.set (by omega) _ _).set (by omega) _ _) C0 (by rw [wset_hit, zl_1, zm1])
