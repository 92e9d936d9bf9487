/-! the reference reads a command as mtc does -/
def JN (w0 : XW) (p wr n : Nat) (w : XW) : Prop := w.2 = w0.2 ∧ (∀ a c, ¬ (a = 141 ∧ (c = 18 ∨ c = 20 ∨ c = 22)) → a ≠ 147 → w.1 a c = w0.1 a c) ∧ w.1 141 18 = zI p ∧ w.1 141 22 = zI wr ∧ w.1 141 20 = zI n
section
variable {w0 w : XW} {p wr n t : Nat} {ch : Nat → Nat}
theorem JN.sp (J : JN w0 p wr n w) (q : Nat) : JN w0 q wr n (wset w 141 18 (zI q)) := by
  obtain ⟨a, b, c, d, e⟩ := J
  refine ⟨a, fun x y h h2 => ?_, ?_, ?_, ?_⟩
  · rw [wset_at, if_neg (by omega), b x y h h2]
  · rw [wset_hit]
  · rw [wset_at, if_neg (by omega)]; exact d
  · rw [wset_at, if_neg (by omega)]; exact e
theorem JN.wg (J : JN w0 p wr n w) (q : Nat) : JN w0 p q n (wset w 141 22 (zI q)) := by
  obtain ⟨a, b, c, d, e⟩ := J
  refine ⟨a, fun x y h h2 => ?_, ?_, ?_, ?_⟩
  · rw [wset_at, if_neg (by omega), b x y h h2]
  · rw [wset_at, if_neg (by omega)]; exact c
  · rw [wset_hit]
  · rw [wset_at, if_neg (by omega)]; exact e
theorem JN.td (J : JN w0 p wr n w) (q : Nat) (v : Int32) : JN w0 p wr n (wset w 147 q v) := by
  obtain ⟨a, b, c, d, e⟩ := J
  refine ⟨a, fun x y h h2 => ?_, ?_, ?_, ?_⟩
  · rw [wset_at, if_neg (by omega), b x y h h2]
  · rw [wset_at, if_neg (by omega)]; exact c
  · rw [wset_at, if_neg (by omega)]; exact d
  · rw [wset_at, if_neg (by omega)]; exact e
theorem JN.cm (J : JN w0 p wr n w) (q : Nat) : JN w0 p wr q (wset w 141 20 (zI q)) := by
  obtain ⟨a, b, c, d, e⟩ := J
  refine ⟨a, fun x y h h2 => ?_, ?_, ?_, ?_⟩
  · rw [wset_at, if_neg (by omega), b x y h h2]
  · rw [wset_at, if_neg (by omega)]; exact c
  · rw [wset_at, if_neg (by omega)]; exact d
  · rw [wset_hit]
theorem n_here (k : Nat) (T : MT w0 t ch) (J : JN w0 p wr n w) (hp : p + k < 2147483648) : f_X11_here (zI k) w = some (hvZ t ch (p + k), w) := by
  have t1 := T.1
  unfold f_X11_here hvZ
  rw [J.2.2.1, J.2.1 141 19 (by omega) (by omega), T.2.1, J.2.1 146 _ (by omega) (by omega)]
  simp only [zI_add]
  by_cases h : p + k < t
  · rw [if_neg (by rw [zI_le (by omega) (by omega)]; omega), if_pos (by rw [inB_z (by omega)]; omega), zI_nat (by omega), T.2.2.1 _ h, if_pos h]
  · rw [if_pos (by rw [zI_le (by omega) (by omega)]; omega), if_neg h]
    rfl
theorem n_here0 (T : MT w0 t ch) (J : JN w0 p wr n w) (hp : p ≤ t) : f_X11_here 0 w = some (hvZ t ch p, w) := n_here 0 T J (by have := T.1; omega)
theorem n_digit (T : MT w0 t ch) (p : Nat) (w : XW) : f_X11_in (hvZ t ch p) 48 57 w = some (zI (dg (ch p)).toNat, w) := by
  obtain ⟨_, _, _, t4, t5⟩ := T
  have h4 := t4 p
  unfold hvZ f_X11_in dg
  by_cases h : p < t
  · rw [if_pos h]
    by_cases h1 : ch p < 48
    · rw [if_pos (show zI (ch p) < 48 by rw [zl_48, zI_lt (by omega) (by omega)]; exact h1), decide_eq_false (by omega)]; rfl
    · rw [if_neg (show ¬ (zI (ch p) < 48) by rw [zl_48, zI_lt (by omega) (by omega)]; exact h1)]
      by_cases h2 : 57 < ch p
      · rw [if_pos (show 57 < zI (ch p) by rw [zl_57, zI_lt (by omega) (by omega)]; exact h2), decide_eq_false (by omega)]; rfl
      · rw [if_neg (show ¬ (57 < zI (ch p)) by rw [zl_57, zI_lt (by omega) (by omega)]; exact h2), decide_eq_true (by omega)]; rfl
  · rw [if_neg h, if_pos (show zM < 48 by decide), t5 p (by omega)]; rfl
/-- a word -/
theorem n_says (T : MT w0 t ch) {s : Nat} (hs : s < 26) : ∀ (l pre : List Nat) (p fuel : Nat) (w : XW), sN s = pre ++ l → l.length < fuel → p ≤ t → (∀ x, x ∈ l → x ≠ 68 ∧ x ≠ 78 ∧ x ≠ 84 ∧ 0 < x ∧ x < 65536) → JN w0 p 0 n w → ∃ w', f_X11_says_2 s fuel (zI pre.length) w = some w' ∧ JN w0 (mtc ch l p).2.1 (!(mtc ch l p).1).toNat n w' ∧ (∀ c, w'.1 147 c = w.1 147 c) ∧ (mtc ch l p).2.2 = [] := by
  obtain ⟨t1, t2, t3, t4, t5⟩ := id T
  have hbig := sN_B s hs
  intro l
  induction l with
  | nil =>
    intro pre p fuel w hl hf hp hx J
    cases fuel with
    | zero => omega
    | succ fuel =>
      unfold f_X11_says_2
      rw [List.append_nil] at hl
      rw [z_strlen hs, bI_s, if_pos (show zI (sN s).length ≤ zI pre.length by rw [hl, zI_le (by rw [← hl]; omega) (by rw [← hl]; omega)]; omega)]
      exact ⟨w, rfl, J, fun _ => rfl, rfl⟩
  | cons x l ih =>
    intro pre p fuel w hl hf hp hx J
    cases fuel with
    | zero => omega
    | succ fuel =>
      have hf' : l.length + 1 < fuel + 1 := hf
      have hlen : (sN s).length = pre.length + (l.length + 1) := by rw [hl, List.length_append]; rfl
      have hs' : gtL (sN s) pre.length = x := by rw [hl]; exact gtL_cat pre (x :: l) 0
      have hl' : sN s = (pre ++ [x]) ++ l := by rw [hl, List.append_assoc]; rfl
      have hpl : (pre ++ [x]).length = pre.length + 1 := by rw [List.length_append]; rfl
      obtain ⟨x1, x2, x3, x4, x5⟩ := hx x List.mem_cons_self
      unfold f_X11_says_2
      rw [z_strlen hs, bI_s, if_neg (show ¬ (zI (sN s).length ≤ zI pre.length) by rw [zI_le (by omega) (by omega)]; omega), J.2.2.2.1, if_pos (show zI 0 = 0 from rfl), n_here0 T J hp, bI_s, z_charAt hs (by omega), bI_s, hs', mtc_c, if_neg x1, if_neg x2, if_neg x3, show zI pre.length + 1 = zI (pre ++ [x]).length by rw [zl_1, zI_add, hpl]]
      by_cases h : ch p = x
      · have hlt : p < t := by
          by_cases z : p < t
          · exact z
          · have := t5 p (by omega); omega
        rw [if_pos h, if_pos (show hvZ t ch p = zI x by rw [hvL t4 t5 x4 x5]; exact h), if_pos (show (wset w 141 22 0).1 141 22 = 0 by rw [wset_hit])]
        have J1 := J.wg 0
        have J2 := J1.sp (p + 1)
        rw [show (wset w 141 22 0).1 141 18 = zI p from J1.2.2.1, zl_1, zI_add]
        obtain ⟨w', e1, e2, e3, e4⟩ := ih (pre ++ [x]) (p + 1) fuel _ hl' (by omega) hlt (fun y hy => hx y (List.mem_cons_of_mem _ hy)) J2
        exact ⟨w', e1, e2, fun c => (e3 c).trans (by rw [wset_at, if_neg (by omega), wset_at, if_neg (by omega)]), e4⟩
      · rw [if_neg h, if_neg (show ¬ (hvZ t ch p = zI x) by rw [hvL t4 t5 x4 x5]; exact h), if_neg (show ¬ ((wset w 141 22 1).1 141 22 = 0) by rw [wset_hit]; decide)]
        have J1 := J.wg 1
        have J2 := J1.sp p
        rw [show (wset w 141 22 1).1 141 18 = zI p from J1.2.2.1, zl_0, zI_add, Nat.add_zero]
        cases fuel with
        | zero => omega
        | succ fuel =>
          unfold f_X11_says_2
          rw [z_strlen hs, bI_s, show (wset (wset w 141 22 1) 141 18 (zI p)).1 141 22 = zI 1 from J2.2.2.2.1, if_neg (show ¬ (zI 1 = 0) by decide)]
          refine ⟨wset (wset w 141 22 1) 141 18 (zI p), ?_, J2, fun c => by rw [wset_at, if_neg (by omega), wset_at, if_neg (by omega)], rfl⟩
          split <;> rfl
theorem n_says_wr {s : Nat} (hs : s < 26) (J : JN w0 p 1 n w) : f_X11_says s w = some w := by
  unfold f_X11_says
  show f_X11_says_2 s (999 + 1) 0 w = some w
  unfold f_X11_says_2
  rw [z_strlen hs, bI_s, J.2.2.2.1, if_neg (show ¬ (zI 1 = 0) by decide)]
  split <;> rfl
/-- digits -/
theorem n_ix (J : JN w0 p wr n w) {k : Nat} (q : Nat) : (4 * ((wset w 141 22 (zI q)).1 141 20)) + zI k = zI (4 * n + k) := by
  rw [(J.wg q).2.2.2.2, zl_4, zI_mul, zI_add]
theorem num_wr {s k : Nat} {y3 z4 z5 : Int32} {fuel : Nat} (J : JN w0 p 1 n w) (hn : 4 * n + k < 240) : f_X11_number_11 s (zI k) y3 (fuel + 1) z4 z5 w = some (wset (wset w 141 22 (zI 1)) 147 (4 * n + k) z4) := by
  unfold f_X11_number_11
  rw [J.2.2.2.1]
  simp only [zl_1, n_ix J 1]
  rw [if_neg (show ¬ (zI 1 = 0) by decide), if_neg (show ¬ (zI 1 = 0) by decide), if_pos (by rw [inB_z (by omega)]; omega), zI_nat (by omega)]
theorem num_stop {s k most d : Nat} {z4 : Int32} {fuel : Nat} (J : JN w0 p 0 n w) (hn : 4 * n + k < 240) (hd : 1 ≤ d) (h2 : d < 100) (hm : most ≤ d) : f_X11_number_11 s (zI k) (zI most) (fuel + 1) z4 (zI d) w = some (wset (wset w 141 22 (zI 0)) 147 (4 * n + k) z4) := by
  unfold f_X11_number_11
  rw [J.2.2.2.1]
  simp only [zl_1, zl_0, n_ix J 1, n_ix J 0]
  rw [if_pos (show True from trivial), if_pos (by rw [zI_le (by omega) (by omega)]; exact hm), if_pos (show True from trivial), if_neg (show ¬ (zI d = zI 0) by rw [zI_inj (by omega) (by omega)]; omega), if_pos (by rw [inB_z (by omega)]; omega), zI_nat (by omega)]
theorem num_no {s k most d : Nat} {z4 : Int32} {fuel : Nat} (T : MT w0 t ch) (J : JN w0 p 0 n w) (hp : p ≤ t) (hn : 4 * n + k < 240) (h2 : d < most) (hm : most < 100) (hdg : dg (ch p) = false) : f_X11_number_11 s (zI k) (zI most) (fuel + 1) z4 (zI d) w = some (wset (wset w 141 22 (zI (if d = 0 then 1 else 0))) 147 (4 * n + k) z4) := by
  unfold f_X11_number_11
  rw [J.2.2.2.1, n_here0 T J hp, bI_s, n_digit T, bI_s, J.2.2.2.1, hdg]
  simp only [zl_1, zl_0, n_ix J 1, n_ix J 0]
  rw [if_pos (show True from trivial), if_neg (show ¬ (zI most ≤ zI d) by rw [zI_le (by omega) (by omega)]; omega), if_pos (show zI false.toNat = zI 0 from rfl), if_pos (show True from trivial)]
  by_cases z : d = 0
  · rw [if_pos (by rw [z]), if_pos (by rw [inB_z (by omega)]; omega), zI_nat (by omega), if_pos z]
  · rw [if_neg (show ¬ (zI d = zI 0) by rw [zI_inj (by omega) (by omega)]; exact z), if_pos (by rw [inB_z (by omega)]; omega), zI_nat (by omega), if_neg z]
theorem num_dg {s k most d v : Nat} {fuel : Nat} (T : MT w0 t ch) (J : JN w0 p 0 n w) (hp : p < t) (h2 : d < most) (hm : most < 100) (hdg : dg (ch p) = true) : f_X11_number_11 s (zI k) (zI most) (fuel + 1) (zI v) (zI d) w = f_X11_number_11 s (zI k) (zI most) fuel (zI (10 * v + (ch p - 48))) (zI (d + 1)) (wset w 141 18 (zI (p + 1))) := by
  have hc : 48 ≤ ch p ∧ ch p ≤ 57 := of_decide_eq_true hdg
  have hh : hvZ t ch p = zI (ch p) := by unfold hvZ; rw [if_pos hp]
  obtain ⟨R, hR⟩ : ∃ R, R = f_X11_number_11 s (zI k) (zI most) fuel (zI (10 * v + (ch p - 48))) (zI (d + 1)) (wset w 141 18 (zI (p + 1))) := ⟨_, rfl⟩
  rw [← hR]
  unfold f_X11_number_11
  rw [J.2.2.2.1, n_here0 T J (by omega), bI_s, n_digit T, bI_s, hdg]
  rw [if_pos (show zI 0 = 0 from rfl), if_neg (show ¬ (zI most ≤ zI d) by rw [zI_le (by omega) (by omega)]; omega), if_neg (show ¬ (zI true.toNat = 0) by decide), n_here0 T J (by omega), bI_s, hh, J.2.2.1, zl_10, zl_48, zl_1, zI_mul, zI_add, zI_sub (by omega), zI_add, zI_add, show 10 * v + ch p - 48 = 10 * v + (ch p - 48) by omega, hR]
end
