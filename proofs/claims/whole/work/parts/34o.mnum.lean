def NB (w0 w : XW) (n k : Nat) (r : MR) (o : Option XW) : Prop := ∃ w', o = some w' ∧ JN w0 r.2.1 (!r.1).toNat n w' ∧ (∀ c, c ≠ 4 * n + k → w'.1 147 c = w.1 147 c) ∧ (r.1 = true → ∃ v, r.2.2 = [v] ∧ w'.1 147 (4 * n + k) = zI v)
def ltS (l : List Nat) : Prop := ∀ x, x ∈ l → x ≠ 68 ∧ x ≠ 78 ∧ x ≠ 84 ∧ 0 < x ∧ x < 65536
section
variable {w0 w : XW} {p n t : Nat} {ch : Nat → Nat}
theorem n_word (T : MT w0 t ch) {s : Nat} (hs : s < 26) (hl : ltS (sN s)) (hp : p ≤ t) (J : JN w0 p 0 n w) : ∃ w', f_X11_says s w = some w' ∧ JN w0 (mtc ch (sN s) p).2.1 (!(mtc ch (sN s) p).1).toNat n w' ∧ (∀ c, w'.1 147 c = w.1 147 c) ∧ (mtc ch (sN s) p).2.2 = [] := n_says T hs (sN s) [] p 1000 w rfl (by have := (sN_B s hs).2.1; omega) hp hl J
theorem mtc_1 (q : Nat) : mtc ch [68] q = (if dg (ch q) = true then (true, q + 1, [ch q - 48]) else (false, q, [])) := (rfl)
theorem mtc_2 (q : Nat) : mtc ch [78] q = (if dg (ch q) = true then (if dg (ch (q + 1)) = true then (true, q + 2, [(ch q - 48) * 10 + (ch (q + 1) - 48)]) else (true, q + 1, [ch q - 48])) else (false, q, [])) := (rfl)
theorem mtc_3 (q : Nat) : mtc ch [84] q = (if tm (ch q) = true then (true, q + 1, [ch q]) else (false, q, [])) := (rfl)
theorem n_number (T : MT w0 t ch) {s k : Nat} (hs : s < 26) (hl : ltS (sN s)) (hp : p ≤ t) (hk : 4 * n + k < 240) (J : JN w0 p 0 n w) :
    NB w0 w n k (mtc ch (sN s ++ [68]) p) (f_X11_number s (zI k) (zI 1) w) ∧ NB w0 w n k (mtc ch (sN s ++ [78]) p) (f_X11_number s (zI k) (zI 2) w) := by
  obtain ⟨t1, t2, t3, t4, t5⟩ := id T
  obtain ⟨w1, e1, e2, e3, e4⟩ := n_word T hs hl hp J
  have hb := (mtc_b t5 (sN s) p (fun x hx => by have := hl x hx; omega) hp).2.1
  obtain ⟨q, hq⟩ : ∃ q, q = mtc ch (sN s) p := ⟨_, rfl⟩
  have hlt : ∀ c, dg (ch c) = true → c < t := fun c h => by
    have := of_decide_eq_true h
    by_cases z : c < t
    · exact z
    · have := t5 c (by omega); omega
  rw [mtc_app, mtc_app]
  rw [← hq] at e2 e4 hb ⊢
  unfold f_X11_number
  rw [e1, bV_s, bV_s]
  by_cases z : q.1 = true
  · rw [if_pos z, if_pos z, e4, List.nil_append, List.nil_append, mtc_1, mtc_2]
    rw [z] at e2
    have J1 : JN w0 q.2.1 0 n w1 := e2
    by_cases h1 : dg (ch q.2.1) = true
    · have h2 := hlt _ h1
      have d1 := num_dg (s := s) (k := k) (most := 1) (d := 0) (v := 0) (fuel := 999) T J1 h2 (by omega) (by omega) h1
      have d2 := num_dg (s := s) (k := k) (most := 2) (d := 0) (v := 0) (fuel := 999) T J1 h2 (by omega) (by omega) h1
      rw [show 10 * 0 + (ch q.2.1 - 48) = ch q.2.1 - 48 by omega] at d1 d2
      have J2 := J1.sp (q.2.1 + 1)
      rw [if_pos h1, if_pos h1]
      refine ⟨?_, ?_⟩
      · have s1 := num_stop (s := s) (k := k) (most := 1) (d := 0 + 1) (z4 := zI (ch q.2.1 - 48)) (fuel := 998) J2 hk (by omega) (by omega) (by omega)
        refine ⟨_, d1.trans s1, (J2.wg 0).td _ _, fun c hc => ?_, fun _ => ⟨_, rfl, wset_hit _ _ _ _⟩⟩
        rw [wset_at, if_neg (by omega), wset_at, if_neg (by omega), wset_at, if_neg (by omega)]; exact e3 c
      · by_cases h3 : dg (ch (q.2.1 + 1)) = true
        · have h4 := hlt _ h3
          rw [if_pos h3]
          have d3 := num_dg (s := s) (k := k) (most := 2) (d := 0 + 1) (v := ch q.2.1 - 48) (fuel := 998) T J2 h4 (by omega) (by omega) h3
          have J3 := J2.sp (q.2.1 + 1 + 1)
          have s1 := num_stop (s := s) (k := k) (most := 2) (d := 0 + 1 + 1) (z4 := zI (10 * (ch q.2.1 - 48) + (ch (q.2.1 + 1) - 48))) (fuel := 997) J3 hk (by omega) (by omega) (by omega)
          refine ⟨_, d2.trans (d3.trans s1), (J3.wg 0).td _ _, fun c hc => ?_, fun _ => ⟨_, rfl, ?_⟩⟩
          · rw [wset_at, if_neg (by omega), wset_at, if_neg (by omega), wset_at, if_neg (by omega), wset_at, if_neg (by omega)]; exact e3 c
          · rw [wset_hit, Nat.mul_comm]
        · rw [if_neg h3]
          have s1 := num_no (s := s) (k := k) (most := 2) (d := 0 + 1) (z4 := zI (ch q.2.1 - 48)) (fuel := 998) T J2 (by omega) hk (by omega) (by omega) (Bool.eq_false_iff.mpr h3)
          rw [if_neg (show ¬ (0 + 1 = 0) by omega)] at s1
          refine ⟨_, d2.trans s1, (J2.wg 0).td _ _, fun c hc => ?_, fun _ => ⟨_, rfl, wset_hit _ _ _ _⟩⟩
          rw [wset_at, if_neg (by omega), wset_at, if_neg (by omega), wset_at, if_neg (by omega)]; exact e3 c
    · rw [if_neg h1, if_neg h1]
      have h1 := Bool.eq_false_iff.mpr h1
      have s1 := num_no (s := s) (k := k) (most := 1) (d := 0) (z4 := zI 0) (fuel := 999) T J1 hb hk (by omega) (by omega) h1
      have s2 := num_no (s := s) (k := k) (most := 2) (d := 0) (z4 := zI 0) (fuel := 999) T J1 hb hk (by omega) (by omega) h1
      rw [if_pos (show 0 = 0 from rfl)] at s1 s2
      refine ⟨⟨_, s1, (J1.wg 1).td _ _, fun c hc => ?_, fun h => by cases h⟩, ⟨_, s2, (J1.wg 1).td _ _, fun c hc => ?_, fun h => by cases h⟩⟩
      · rw [wset_at, if_neg (by omega), wset_at, if_neg (by omega)]; exact e3 c
      · rw [wset_at, if_neg (by omega), wset_at, if_neg (by omega)]; exact e3 c
  · rw [if_neg z, if_neg z]
    have z := Bool.eq_false_iff.mpr z
    rw [z] at e2
    have J1 : JN w0 q.2.1 1 n w1 := e2
    refine ⟨⟨_, num_wr J1 hk, ?_, fun c hc => ?_, fun h => by rw [z] at h; cases h⟩, ⟨_, num_wr J1 hk, ?_, fun c hc => ?_, fun h => by rw [z] at h; cases h⟩⟩
    · rw [z]; exact (J1.wg 1).td _ _
    · rw [wset_at, if_neg (by omega), wset_at, if_neg (by omega)]; exact e3 c
    · rw [z]; exact (J1.wg 1).td _ _
    · rw [wset_at, if_neg (by omega), wset_at, if_neg (by omega)]; exact e3 c
theorem n_number_wr {s k : Nat} {most : Int32} (hs : s < 26) (hk : 4 * n + k < 240) (J : JN w0 p 1 n w) : ∃ w', f_X11_number s (zI k) most w = some w' ∧ JN w0 p 1 n w' ∧ (∀ c, c ≠ 4 * n + k → w'.1 147 c = w.1 147 c) := by
  unfold f_X11_number
  rw [n_says_wr hs J, bV_s]
  refine ⟨_, num_wr J hk, (J.wg 1).td _ _, fun c hc => ?_⟩
  rw [wset_at, if_neg (by omega), wset_at, if_neg (by omega)]
theorem n_termH (T : MT w0 t ch) (p : Nat) (w : XW) : f_X11_isTerm (hvZ t ch p) w = some (zI (tm (ch p)).toNat, w) := by
  rw [m_termH T.2.2.2.1 T.2.2.2.2]
  unfold tm
  by_cases h : 97 ≤ ch p ∧ ch p ≤ 104
  · rw [if_pos h, decide_eq_true h]; rfl
  · rw [if_neg h, decide_eq_false h]; rfl
def TB (w0 w : XW) (n : Nat) (r : MR) (o : Option XW) : Prop := ∃ w', o = some w' ∧ JN w0 r.2.1 (!r.1).toNat n w' ∧ (∀ c, c ≠ 4 * n + 1 → c ≠ 4 * n + 2 → w'.1 147 c = w.1 147 c) ∧ (r.1 = true → ∃ v u, r.2.2 = [v, u] ∧ w'.1 147 (4 * n + 1) = zI v ∧ w'.1 147 (4 * n + 2) = zI u)
theorem n_term (T : MT w0 t ch) {s : Nat} (hs : s < 26) (hl : ltS (sN s)) (hp : p ≤ t) (hk : 4 * n + 3 < 240) (J : JN w0 p 0 n w) : TB w0 w n (mtc ch (sN s ++ [68, 84]) p) (f_X11_term s w) := by
  obtain ⟨t1, t2, t3, t4, t5⟩ := id T
  obtain ⟨w1, e1, e2, e3, e4⟩ := (n_number (k := 1) T hs hl hp (by omega) J).1
  have hne : ∀ x, x ∈ sN s ++ [68] → x ≠ 0 := fun x hx => by
    rcases List.mem_append.mp hx with h | h
    · have := hl x h; omega
    · rw [List.mem_singleton.mp h]; omega
  have hb := (mtc_b t5 (sN s ++ [68]) p hne hp).2.1
  obtain ⟨q, hq⟩ : ∃ q, q = mtc ch (sN s ++ [68]) p := ⟨_, rfl⟩
  rw [show sN s ++ [68, 84] = (sN s ++ [68]) ++ [84] by rw [List.append_assoc]; rfl, mtc_app]
  rw [← hq] at e2 e4 hb ⊢
  have ix : ∀ (v : XW) (r y : Nat), JN w0 y r n v → ∀ b : Nat, (4 * ((wset v 141 22 (zI b)).1 141 20)) + 2 = zI (4 * n + 2) := fun v r y Jv b => by
    rw [(Jv.wg b).2.2.2.2, zl_4, zI_mul, zl_2, zI_add]
  have bad : ∀ (v : XW) (r y : Nat), JN w0 y r n v → (if ((wset v 141 22 1).1 141 22) = 0 then (bI (f_X11_here 0 (wset v 141 22 1)) (fun r2 w2 => (if inB ((4 * ((wset v 141 22 1).1 141 20)) + 2) 240 then (if ((wset w2 147 (Int32.toNatClampNeg ((4 * ((wset v 141 22 1).1 141 20)) + 2)) r2).1 141 22) = 0 then (some (wset (wset w2 147 (Int32.toNatClampNeg ((4 * ((wset v 141 22 1).1 141 20)) + 2)) r2) 141 18 (((wset w2 147 (Int32.toNatClampNeg ((4 * ((wset v 141 22 1).1 141 20)) + 2)) r2).1 141 18) + 1))) else (some (wset (wset w2 147 (Int32.toNatClampNeg ((4 * ((wset v 141 22 1).1 141 20)) + 2)) r2) 141 18 (((wset w2 147 (Int32.toNatClampNeg ((4 * ((wset v 141 22 1).1 141 20)) + 2)) r2).1 141 18) + 0)))) else none))) else (if inB ((4 * ((wset v 141 22 1).1 141 20)) + 2) 240 then (if ((wset (wset v 141 22 1) 147 (Int32.toNatClampNeg ((4 * ((wset v 141 22 1).1 141 20)) + 2)) 0).1 141 22) = 0 then (some (wset (wset (wset v 141 22 1) 147 (Int32.toNatClampNeg ((4 * ((wset v 141 22 1).1 141 20)) + 2)) 0) 141 18 (((wset (wset v 141 22 1) 147 (Int32.toNatClampNeg ((4 * ((wset v 141 22 1).1 141 20)) + 2)) 0).1 141 18) + 1))) else (some (wset (wset (wset v 141 22 1) 147 (Int32.toNatClampNeg ((4 * ((wset v 141 22 1).1 141 20)) + 2)) 0) 141 18 (((wset (wset v 141 22 1) 147 (Int32.toNatClampNeg ((4 * ((wset v 141 22 1).1 141 20)) + 2)) 0).1 141 18) + 0)))) else none)) = some (wset (wset (wset v 141 22 (zI 1)) 147 (4 * n + 2) 0) 141 18 (zI y)) := fun v r y Jv => by
    have e := ix v r y Jv 1
    rw [show zI 1 = 1 from rfl] at e
    simp only [e]
    rw [if_neg (show ¬ ((wset v 141 22 1).1 141 22 = 0) by rw [wset_hit]; decide), if_pos (by rw [inB_z (by omega)]; omega), zI_nat (by omega), if_neg (show ¬ ((wset (wset v 141 22 1) 147 (4 * n + 2) 0).1 141 22 = 0) by rw [wset_at, if_neg (by omega), wset_hit]; decide)]
    have := ((Jv.wg 1).td (4 * n + 2) 0).2.2.1
    rw [show (wset (wset v 141 22 1) 147 (4 * n + 2) 0).1 141 18 = zI y from this, zl_0, zI_add, Nat.add_zero]
    rfl
  unfold f_X11_term
  have e1' : f_X11_number s 1 1 w = some w1 := e1
  rw [e1', bV_s]
  by_cases z : q.1 = true
  · rw [if_pos z, mtc_3]
    obtain ⟨v, v1, v2⟩ := e4 z
    rw [z] at e2
    have J1 : JN w0 q.2.1 0 n w1 := e2
    rw [J1.2.2.2.1, if_pos (show zI 0 = 0 from rfl), n_here0 T J1 hb, bI_s, n_termH T, bI_s]
    by_cases h1 : tm (ch q.2.1) = true
    · have h2 := of_decide_eq_true h1
      have hlt : q.2.1 < t := by
        by_cases y : q.2.1 < t
        · exact y
        · have := t5 q.2.1 (by omega); omega
      have hh : hvZ t ch q.2.1 = zI (ch q.2.1) := by unfold hvZ; rw [if_pos hlt]
      rw [if_pos h1, h1, if_neg (show ¬ (zI true.toNat = 0) by decide)]
      have e := ix w1 0 q.2.1 J1 0
      rw [show zI 0 = 0 from rfl] at e
      simp only [e]
      have J2 : JN w0 q.2.1 0 n (wset w1 141 22 0) := J1.wg 0
      rw [if_pos (show (wset w1 141 22 0).1 141 22 = 0 by rw [wset_hit]), n_here0 T J2 hb, bI_s, if_pos (by rw [inB_z (by omega)]; omega), zI_nat (by omega), hh]
      have J3 := J2.td (4 * n + 2) (zI (ch q.2.1))
      rw [show (wset (wset w1 141 22 0) 147 (4 * n + 2) (zI (ch q.2.1))).1 141 22 = zI 0 from J3.2.2.2.1, if_pos (show zI 0 = 0 from rfl), J3.2.2.1, zl_1, zI_add]
      refine ⟨_, rfl, J3.sp _, fun c h3 h4 => ?_, fun _ => ⟨v, ch q.2.1, by show q.2.2 ++ [ch q.2.1] = _; rw [v1]; rfl, ?_, ?_⟩⟩
      · rw [wset_at, if_neg (by omega), wset_at, if_neg (by omega), wset_at, if_neg (by omega)]; exact e3 c h3
      · rw [wset_at, if_neg (by omega), wset_at, if_neg (by omega), wset_at, if_neg (by omega)]; exact v2
      · rw [wset_at, if_neg (by omega), wset_hit]
    · rw [if_neg h1, Bool.eq_false_iff.mpr h1, if_pos (show zI false.toNat = 0 from rfl), bad w1 0 q.2.1 J1]
      refine ⟨_, rfl, ((J1.wg 1).td _ _).sp _, fun c h3 h4 => ?_, fun h => by cases h⟩
      rw [wset_at, if_neg (by omega), wset_at, if_neg (by omega), wset_at, if_neg (by omega)]; exact e3 c h3
  · rw [if_neg z]
    have z := Bool.eq_false_iff.mpr z
    rw [z] at e2
    have J1 : JN w0 q.2.1 1 n w1 := e2
    rw [J1.2.2.2.1, if_neg (show ¬ (zI 1 = 0) by decide), bad w1 1 q.2.1 J1]
    refine ⟨_, rfl, ?_, fun c h3 h4 => ?_, fun h => by rw [z] at h; cases h⟩
    · rw [z]; exact ((J1.wg 1).td _ _).sp _
    · rw [wset_at, if_neg (by omega), wset_at, if_neg (by omega), wset_at, if_neg (by omega)]; exact e3 c h3
end
