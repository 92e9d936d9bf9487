theorem mtc_v {ch : Nat → Nat} (h : ∀ i, ch i < 65536) : ∀ (l : List Nat) (p x : Nat), x ∈ (mtc ch l p).2.2 → x < 1000000 := by
  intro l
  induction l with
  | nil => intro p x hx; cases hx
  | cons s l ih =>
    intro p x hx
    have one : ∀ v q, v < 1000000 → x ∈ (mcs v (mtc ch l q)).2.2 → x < 1000000 := fun v q hv hx => by
      rcases List.mem_cons.mp (show x ∈ v :: (mtc ch l q).2.2 from hx) with e | e
      · rw [e]; exact hv
      · exact ih q x e
    have h1 := h p
    have h2 := h (p + 1)
    rw [mtc_c] at hx
    by_cases c1 : s = 68
    · rw [if_pos c1] at hx
      by_cases c2 : dg (ch p) = true
      · rw [if_pos c2] at hx; exact one _ _ (by omega) hx
      · rw [if_neg c2] at hx; cases hx
    · rw [if_neg c1] at hx
      by_cases c3 : s = 78
      · rw [if_pos c3] at hx
        by_cases c2 : dg (ch p) = true
        · rw [if_pos c2] at hx
          by_cases c4 : dg (ch (p + 1)) = true
          · rw [if_pos c4] at hx; exact one _ _ (by omega) hx
          · rw [if_neg c4] at hx; exact one _ _ (by omega) hx
        · rw [if_neg c2] at hx; cases hx
      · rw [if_neg c3] at hx
        by_cases c4 : s = 84
        · rw [if_pos c4] at hx
          by_cases c2 : tm (ch p) = true
          · rw [if_pos c2] at hx; exact one _ _ (by omega) hx
          · rw [if_neg c2] at hx; cases hx
        · rw [if_neg c4] at hx
          by_cases c2 : ch p = s
          · rw [if_pos c2] at hx; exact ih _ x hx
          · rw [if_neg c2] at hx; cases hx
theorem rd_v {ch : Nat → Nat} {t : Nat} (h : ∀ i, ch i < 65536) : ∀ (f p : Nat) (cs : List CM), (∀ q, q ∈ cs → ∀ x, x ∈ q.2 → x < 1000000) → ∀ q, q ∈ (rd ch t f p cs).2.2 → ∀ x, x ∈ q.2 → x < 1000000 := by
  intro f
  induction f with
  | zero => exact fun p cs hc => hc
  | succ f ih =>
    intro p cs hc
    have hq : ∀ q, q ∈ cs ++ [(rcW ch p).2.2] → ∀ x, x ∈ q.2 → x < 1000000 := fun q hq x hx => by
      rcases List.mem_append.mp hq with e | e
      · exact hc q e x hx
      · rw [List.mem_singleton.mp e] at hx
        unfold rcW at hx
        by_cases z : sel (ch p) (ch (p + 1)) < 12
        · rw [if_pos z] at hx; exact mtc_v h _ _ x hx
        · rw [if_neg z] at hx; cases hx
    rw [rd_s]
    by_cases h1 : (rcW ch p).1 = true
    · rw [if_pos h1]
      by_cases h2 : (rcW ch p).2.1 = t
      · rw [if_pos h2]; exact hq
      · rw [if_neg h2]
        by_cases h3 : ch (rcW ch p).2.1 = 59
        · rw [if_pos h3]; exact ih _ _ hq
        · rw [if_neg h3]; exact hc
    · rw [if_neg h1]; exact hc
def MCm (h : Nat → Nat → Int32) (cs : List CM) : Prop := ∀ (j : Nat) (q : CM), cs[j]? = some q → MQc h j q
theorem MQc.cg {h h' : Nat → Nat → Int32} {n : Nat} {q : CM} (m : MQc h n q) (e : ∀ c, c < 4 * n + 4 → h' 147 c = h 147 c) : MQc h' n q := by
  obtain ⟨q1, q2, q3, q4, q5⟩ := m
  refine ⟨(e _ (by omega)).trans q1, fun z => ?_, fun z => ?_, fun z => ?_, fun z => ?_⟩
  · exact ⟨(e _ (by omega)).trans (q2 z).1, (e _ (by omega)).trans (q2 z).2⟩
  · exact ⟨(e _ (by omega)).trans (q3 z).1, (e _ (by omega)).trans (q3 z).2.1, (e _ (by omega)).trans (q3 z).2.2⟩
  · exact ⟨(e _ (by omega)).trans (q4 z).1, (e _ (by omega)).trans (q4 z).2⟩
  · exact (e _ (by omega)).trans (q5 z)
section
variable {w0 : XW} {t : Nat} {ch : Nat → Nat}
theorem m_reading (T : MT w0 t ch) : ∀ (f p fuel : Nat) (cs : List CM) (w : XW), t - p < f → t - p < fuel → p ≤ t → 4 * cs.length ≤ p → JN w0 p 0 cs.length w → MCm w.1 cs →
    ((rd ch t f p cs).1 = true ∧ ∃ w', JN w0 t 0 (rd ch t f p cs).2.2.length w' ∧ MCm w'.1 (rd ch t f p cs).2.2 ∧ bV (f_X11_readsOne w) (fun w2 => f_X11_execute_36 fuel w2) = f_X11_execute_104 1000 0 w') ∨
    ((rd ch t f p cs).1 = false ∧ ∃ w' wr n, JN w0 (rd ch t f p cs).2.1 wr n w' ∧ bV (f_X11_readsOne w) (fun w2 => f_X11_execute_36 fuel w2) = some (0, wset (wset w' 141 13 (zI (rd ch t f p cs).2.1)) 141 0 1)) := by
  obtain ⟨t1, t2, t3, t4, t5⟩ := id T
  intro f
  induction f with
  | zero => exact fun p fuel cs w h => by omega
  | succ f ih =>
    intro p fuel cs w hf hfu hp hc J C
    obtain ⟨b1, b2, b3⟩ := rcW_b t5 hp
    obtain ⟨u, e1, e2, e3, e4⟩ := m_readsOne T hp (show cs.length ≤ 15 by omega) J
    rw [e1, bV_s, rd_s]
    cases fuel with
    | zero => omega
    | succ fuel =>
      unfold f_X11_execute_36
      have hl : (cs ++ [(rcW ch p).2.2]).length = cs.length + 1 := by rw [List.length_append]; rfl
      have e19 : u.1 141 19 = zI t := (e2.2.1 141 19 (by omega) (by omega)).trans t2
      by_cases h1 : (rcW ch p).1 = true
      · obtain ⟨c1, c2, c3⟩ := b3 h1
        rw [if_pos h1]
        have J1 : JN w0 (rcW ch p).2.1 0 (cs.length + 1) u := by
          have e2' : JN w0 (rcW ch p).2.1 (!(rcW ch p).1).toNat (cs.length + 1) u := e2
          rw [h1] at e2'; exact e2'
        have C1 : MCm u.1 (cs ++ [(rcW ch p).2.2]) := by
          intro j q hq
          by_cases z : j < cs.length
          · rw [List.getElem?_append_left z] at hq
            exact (C j q hq).cg (fun c hc => e3 c (by omega))
          · have hj : j < (cs ++ [(rcW ch p).2.2]).length := (List.getElem?_eq_some_iff.mp hq).1
            have hj : j = cs.length := by omega
            rw [hj, List.getElem?_append_right (Nat.le_refl _), Nat.sub_self] at hq
            have hq : (rcW ch p).2.2 = q := Option.some.inj hq
            rw [← hq, hj]
            exact e4 h1
        rw [J1.2.2.2.1, if_pos (show zI 0 = 0 from rfl), n_here0 T J1 b2, bI_s, J1.2.2.2.1, if_pos (show zI 0 = 0 from rfl), e19, J1.2.2.1]
        by_cases h2 : (rcW ch p).2.1 = t
        · rw [if_pos h2, if_neg (show ¬ (hvZ t ch (rcW ch p).2.1 = 59) by rw [zl_59, hvL t4 t5 (by omega) (by omega), t5 _ (by omega)]; omega), if_pos (show zI t ≤ zI (rcW ch p).2.1 by rw [zI_le (by omega) (by omega)]; omega)]
          refine Or.inl ⟨rfl, u, ?_, C1, rfl⟩
          rw [← h2]
          show JN w0 _ 0 (cs ++ [(rcW ch p).2.2]).length u
          rw [hl]; exact J1
        · rw [if_neg h2]
          by_cases h3 : ch (rcW ch p).2.1 = 59
          · have hlt : (rcW ch p).2.1 < t := by omega
            rw [if_pos h3, if_pos (show hvZ t ch (rcW ch p).2.1 = 59 by rw [zl_59, hvL t4 t5 (by omega) (by omega)]; exact h3), zl_1, zI_add]
            refine ih _ fuel _ _ (by omega) (by omega) (by omega) (by omega) ?_ (fun j q hq => (C1 j q hq).cg (fun c hc => by rw [wset_at, if_neg (by omega)]))
            rw [hl]; exact J1.sp _
          · rw [if_neg h3, if_neg (show ¬ (hvZ t ch (rcW ch p).2.1 = 59) by rw [zl_59, hvL t4 t5 (by omega) (by omega)]; exact h3), if_neg (show ¬ (zI t ≤ zI (rcW ch p).2.1) by rw [zI_le (by omega) (by omega)]; omega)]
            exact Or.inr ⟨rfl, u, 0, _, J1, rfl⟩
      · rw [if_neg h1]
        have h1 := Bool.eq_false_iff.mpr h1
        have J1 : JN w0 (rcW ch p).2.1 1 (cs.length + 1) u := by
          have e2' : JN w0 (rcW ch p).2.1 (!(rcW ch p).1).toNat (cs.length + 1) u := e2
          rw [h1] at e2'; exact e2'
        rw [J1.2.2.2.1, if_neg (show ¬ (zI 1 = 0) by decide), if_neg (show ¬ (zI 1 = 0) by decide), J1.2.2.1]
        exact Or.inr ⟨rfl, u, 1, _, J1, rfl⟩
end
