theorem gtL_app : ∀ (l : List Nat) (c i : Nat), gtL (l ++ [c]) i = if i = l.length then c else gtL l i := by
  intro l
  induction l with
  | nil => intro c i; cases i <;> rfl
  | cons x l ih =>
    intro c i
    cases i with
    | zero => rfl
    | succ i =>
      show gtL (l ++ [c]) i = if i + 1 = l.length + 1 then c else gtL l i
      rw [ih]
      by_cases h : i = l.length
      · rw [if_pos h, if_pos (by omega)]
      · rw [if_neg h, if_neg (by omega)]
/-! the program reads a command as mtc does -/
abbrev CM : Type := Nat × List Nat
def JX (w0 w : XW) : Prop := w.2 = w0.2 ∧ ∀ a c, a ≠ 138 → a ≠ 139 → a ≠ 140 → w.1 a c = w0.1 a c
def CCm (h : Nat → Nat → Int32) (cs : List CM) : Prop := h 138 2 = zI cs.length ∧ ∀ (j : Nat) (q : CM), cs[j]? = some q → h 139 j = zI q.1 ∧ q.2.length ≤ 3 ∧ ∀ i, i < q.2.length → h 140 (3 * j + i) = zI (gtL q.2 i)
def PD (h : Nat → Nat → Int32) (cs : List CM) (os : List Nat) : Prop := CCm h cs ∧ h 138 5 = zI os.length ∧ ∀ i, i < os.length → h 140 (3 * cs.length + i) = zI (gtL os i)
theorem gtL_cat : ∀ (l l' : List Nat) (i : Nat), gtL (l ++ l') (l.length + i) = gtL l' i := by
  intro l
  induction l with
  | nil => intro l' i; rw [List.length_nil, Nat.zero_add]; rfl
  | cons x l ih =>
    intro l' i
    show gtL (x :: (l ++ l')) (l.length + 1 + i) = _
    rw [show l.length + 1 + i = l.length + i + 1 by omega]
    exact ih l' i
section
variable {w0 w : XW} {cs : List CM} {os : List Nat} {t : Nat} {ch : Nat → Nat}
theorem JX.tx (J : JX w0 w) (T : CT w0 t ch) : CT w t ch := ⟨T.1, by rw [J.2 _ _ (by omega) (by omega) (by omega)]; exact T.2.1, fun i hi => by rw [J.2 _ _ (by omega) (by omega) (by omega)]; exact T.2.2.1 i hi, T.2.2.2⟩
theorem JX.set (J : JX w0 w) {k : Nat} (hk : k = 138 ∨ k = 139 ∨ k = 140) (j : Nat) (v : Int32) : JX w0 (wset w k j v) := ⟨J.1, fun a c h1 h2 h3 => by rw [wset_at, if_neg (by omega)]; exact J.2 a c h1 h2 h3⟩
theorem x_at (J : JX w0 w) (T : CT w0 t ch) {p : Nat} (hp : p < 2147483648) : f_X6_at 132 (zI p) w = some (zI (ch p), w) := c_at (J.tx T) (fun _ _ _ => rfl) hp
theorem x_digit {c : Nat} (hc : c < 65536) (w : XW) : f_X0_isDigit (zI c) w = some (zI (dg c).toNat, w) := by
  unfold f_X0_isDigit dg
  by_cases h1 : c < 48
  · rw [if_pos (show zI c < 48 by rw [zl_48, zI_lt (by omega) (by omega)]; exact h1), decide_eq_false (by omega)]
    rfl
  · rw [if_neg (show ¬ (zI c < 48) by rw [zl_48, zI_lt (by omega) (by omega)]; exact h1)]
    by_cases h2 : 57 < c
    · rw [if_pos (show 57 < zI c by rw [zl_57, zI_lt (by omega) (by omega)]; exact h2), decide_eq_false (by omega)]
      rfl
    · rw [if_neg (show ¬ (57 < zI c) by rw [zl_57, zI_lt (by omega) (by omega)]; exact h2), decide_eq_true (by omega)]
      rfl
theorem b01 (b : Bool) : vp_nar .boolean (zI b.toNat) = zI b.toNat := by cases b <;> decide
theorem x_term {c : Nat} (hc : c < 65536) (w : XW) : f_X9_isTerm (zI c) w = some (zI (tm c).toNat, w) := by
  rw [c_isTerm hc]
  unfold tm
  by_cases h : 97 ≤ c ∧ c ≤ 104
  · rw [if_pos h, decide_eq_true h]; rfl
  · rw [if_neg h, decide_eq_false h]; rfl
def fitN (c s : Nat) : Bool := if s = 68 ∨ s = 78 then dg c else if s = 84 then tm c else decide (c = s)
theorem x_fits {c s : Nat} (hc : c < 65536) (hs : s < 65536) (w : XW) : f_X0_fits (zI c) (zI s) w = some (zI (fitN c s).toNat, w) := by
  unfold f_X0_fits fitN
  by_cases h1 : s = 68
  · rw [if_pos (show zI s = 68 by rw [h1]; rfl), if_pos (Or.inl h1), x_digit hc, bI_s, if_pos (b01 _)]
  · rw [if_neg (show ¬ (zI s = 68) by rw [zl_68, zI_inj (by omega) (by omega)]; exact h1)]
    by_cases h2 : s = 78
    · rw [if_pos (show zI s = 78 by rw [h2]; rfl), if_pos (Or.inr h2), x_digit hc, bI_s, if_pos (b01 _)]
    · rw [if_neg (show ¬ (zI s = 78) by rw [zl_78, zI_inj (by omega) (by omega)]; exact h2), if_neg (show ¬ (s = 68 ∨ s = 78) by omega)]
      by_cases h3 : s = 84
      · rw [if_pos (show zI s = 84 by rw [h3]; rfl), if_pos h3, x_term hc, bI_s, if_pos (b01 _)]
      · rw [if_neg (show ¬ (zI s = 84) by rw [zl_84, zI_inj (by omega) (by omega)]; exact h3), if_neg h3]
        by_cases h4 : c = s
        · rw [if_pos (show zI c = zI s by rw [h4]), decide_eq_true h4]; rfl
        · rw [if_neg (show ¬ (zI c = zI s) by rw [zI_inj (by omega) (by omega)]; exact h4), decide_eq_false h4]; rfl
theorem CCm.cg {h h' : Nat → Nat → Int32} (q : CCm h cs) (e1 : h' 138 2 = h 138 2) (e2 : ∀ j, j < cs.length → h' 139 j = h 139 j) (e3 : ∀ j, j < 3 * cs.length → h' 140 j = h 140 j) : CCm h' cs := by
  refine ⟨e1.trans q.1, fun j x hx => ?_⟩
  have hj : j < cs.length := (List.getElem?_eq_some_iff.mp hx).1
  obtain ⟨a, b, c⟩ := q.2 j x hx
  exact ⟨(e2 j hj).trans a, b, fun i hi => (e3 _ (by omega)).trans (c i hi)⟩
theorem x_take {v : Nat} (P : PD w.1 cs os) (hn : cs.length ≤ 15) (ho : os.length ≤ 10) : ∃ w', f_X0_takeOperand (zI v) w = some w' ∧ PD w'.1 cs (os ++ [v]) ∧ (∀ w0, JX w0 w → JX w0 w') ∧ w'.1 138 4 = w.1 138 4 ∧ w'.1 138 3 = w.1 138 3 := by
  obtain ⟨p1, p2, p3⟩ := P
  have e : w.1 138 2 * 3 + w.1 138 5 = zI (3 * cs.length + os.length) := by
    rw [p1.1, p2, zl_3, zI_mul, zI_add, Nat.mul_comm]
  refine ⟨wset (wset w 140 (3 * cs.length + os.length) (zI v)) 138 5 (zI (os.length + 1)), ?_, ⟨p1.cg ?_ (fun j hj => ?_) (fun j hj => ?_), ?_, fun i hi => ?_⟩, fun w0 J => (J.set (by omega) _ _).set (by omega) _ _, ?_, ?_⟩
  · unfold f_X0_takeOperand
    simp only [e]
    rw [if_neg (show ¬ (zI (3 * cs.length + os.length) < 0) by rw [zl_0, zI_lt (by omega) (by omega)]; omega), if_neg (show ¬ (180 ≤ zI (3 * cs.length + os.length)) by rw [zl_180, zI_le (by omega) (by omega)]; omega), if_pos (by rw [inB_z (by omega)]; omega), zI_nat (by omega), wset_at, if_neg (by omega), p2, zl_1, zI_add]
  · rw [wset_at, if_neg (by omega), wset_at, if_neg (by omega)]
  · rw [wset_at, if_neg (by omega), wset_at, if_neg (by omega)]
  · rw [wset_at, if_neg (by omega), wset_at, if_neg (by omega)]
  · rw [wset_hit, List.length_append]; rfl
  · rw [List.length_append] at hi
    have hi : i < os.length + 1 := hi
    rw [wset_at, if_neg (by omega), wset_at, gtL_app]
    by_cases z : i = os.length
    · rw [if_pos ⟨rfl, by rw [z]⟩, if_pos z]
    · rw [if_neg (by omega), if_neg z]; exact p3 i (by omega)
  · rw [wset_at, if_neg (by omega), wset_at, if_neg (by omega)]
  · rw [wset_at, if_neg (by omega), wset_at, if_neg (by omega)]
theorem PD.p4 (P : PD w.1 cs os) (v : Int32) : PD (wset w 138 4 v).1 cs os := by
  obtain ⟨p1, p2, p3⟩ := P
  refine ⟨p1.cg ?_ (fun j hj => ?_) (fun j hj => ?_), ?_, fun i hi => ?_⟩
  · rw [wset_at, if_neg (by omega)]
  · rw [wset_at, if_neg (by omega)]
  · rw [wset_at, if_neg (by omega)]
  · rw [wset_at, if_neg (by omega)]; exact p2
  · rw [wset_at, if_neg (by omega)]; exact p3 i hi
def XS (w0 : XW) (cs : List CM) (os : List Nat) (fa : Int32) (r : MR) (o : Option (Int32 × XW)) : Prop := ∃ w', o = some (zI r.1.toNat, w') ∧ JX w0 w' ∧ w'.1 138 4 = zI r.2.1 ∧ w'.1 138 3 = fa ∧ PD w'.1 cs (os ++ r.2.2)
theorem XS.mcs {w0 : XW} {cs : List CM} {os : List Nat} {fa : Int32} {v : Nat} {r : MR} {o : Option (Int32 × XW)} (h : XS w0 cs (os ++ [v]) fa r o) : XS w0 cs os fa (mcs v r) o := by
  obtain ⟨w', a, b, c, d, e⟩ := h
  rw [List.append_assoc] at e
  exact ⟨w', a, b, c, d, e⟩
theorem x_follows (T : CT w0 t ch) {s3 : Nat} (h3 : s3 < 12) (hn : cs.length ≤ 15) : ∀ (l pre : List Nat) (p fuel : Nat) (os : List Nat) (fa : Int32) (w : XW), sN s3 = pre ++ l → l.length < fuel → p ≤ t → os.length + l.length ≤ 10 → JX w0 w → w.1 138 4 = zI p → w.1 138 3 = fa → PD w.1 cs os → XS w0 cs os fa (mtc ch l p) (f_X0_follows_13 (s3 + 7) fuel (zI pre.length) w) := by
  obtain ⟨t1, t2, t3, t4, t5⟩ := id T
  have hbig := sN_B s3 (by omega)
  have hlt : ∀ q, q ≤ t → ch q ≠ 0 → q < t := fun q hq h => by
    by_cases z : q < t
    · exact z
    · exact absurd (t5 q (by omega)) h
  have hdg : ∀ c, dg c = true → 48 ≤ c ∧ c ≤ 57 := fun c h => of_decide_eq_true h
  have htm : ∀ c, tm c = true → 97 ≤ c ∧ c ≤ 104 := fun c h => of_decide_eq_true h
  intro l
  induction l with
  | nil =>
    intro pre p fuel os fa w hl hf hp ho J j4 j3 P
    cases fuel with
    | zero => omega
    | succ fuel =>
      unfold f_X0_follows_13
      rw [z_strlen (by omega), bI_s]
      rw [List.append_nil] at hl
      rw [if_pos (show zI (sN s3).length ≤ zI pre.length by rw [hl, zI_le (by rw [← hl]; omega) (by rw [← hl]; omega)]; omega)]
      exact ⟨w, rfl, J, j4, j3, by show PD w.1 cs (os ++ []); rw [List.append_nil]; exact P⟩
  | cons s l ih =>
    intro pre p fuel os fa w hl hf hp ho J j4 j3 P
    cases fuel with
    | zero => omega
    | succ fuel =>
      have hlen : (sN s3).length = pre.length + (l.length + 1) := by rw [hl, List.length_append]; rfl
      have hs : gtL (sN s3) pre.length = s := by rw [hl]; exact gtL_cat pre (s :: l) 0
      have hl' : sN s3 = (pre ++ [s]) ++ l := by rw [hl, List.append_assoc]; rfl
      have hpl : (pre ++ [s]).length = pre.length + 1 := by rw [List.length_append]; rfl
      have ho' : os.length + (l.length + 1) ≤ 10 := ho
      have hf' : l.length + 1 < fuel + 1 := hf
      have hs128 : s < 65536 := by
        have h := (show ∀ i, i < 26 → ∀ j, j < 10 → gtL (sN i) j < 128 by decide +kernel) s3 (by omega) pre.length (by omega)
        rw [hs] at h; omega
      unfold f_X0_follows_13
      rw [z_strlen (by omega), bI_s, if_neg (show ¬ (zI (sN s3).length ≤ zI pre.length) by rw [zI_le (by omega) (by omega)]; omega), z_charAt (by omega) (by omega), bI_s, hs]
      -- one sign
      have no : fitN (ch p) s = false → mtc ch (s :: l) p = (false, p, []) → XS w0 cs os fa (mtc ch (s :: l) p) (bI (f_X0_followsSign (zI s) w) (fun r3 w3 => (if r3 = 0 then (some (0, w3)) else (f_X0_follows_13 (s3 + 7) fuel (zI pre.length + 1) w3)))) := fun h1 h2 => by
        unfold f_X0_followsSign
        rw [j4, x_at J T (by omega), bI_s, x_fits (t4 p) hs128, bI_s, h1, if_pos (show zI false.toNat = 0 from rfl), bI_s, if_pos (show (0 : Int32) = 0 from rfl), h2]
        exact ⟨w, rfl, J, j4, j3, by show PD w.1 cs (os ++ []); rw [List.append_nil]; exact P⟩
      have go : ∀ (q : Nat) (os' : List Nat) (w' : XW), f_X0_followsSign (zI s) w = some (1, w') → q ≤ t → os'.length + l.length ≤ 10 → JX w0 w' → w'.1 138 4 = zI q → w'.1 138 3 = fa → PD w'.1 cs os' → XS w0 cs os' fa (mtc ch l q) (bI (f_X0_followsSign (zI s) w) (fun r3 w3 => (if r3 = 0 then (some (0, w3)) else (f_X0_follows_13 (s3 + 7) fuel (zI pre.length + 1) w3)))) := fun q os' w' e h1 h2 h3 h4 h5 h6 => by
        rw [e, bI_s, if_neg (show ¬ ((1 : Int32) = 0) by decide), show zI pre.length + 1 = zI (pre ++ [s]).length by rw [zl_1, zI_add, hpl]]
        exact ih (pre ++ [s]) q fuel os' fa w' hl' (by omega) h1 h2 h3 h4 h5 h6
      have sg : fitN (ch p) s = true → f_X0_followsSign (zI s) w = (if zI s = 68 then (bV (f_X0_takeOperand (zI (ch p) - 48) (wset w 138 4 (zI (p + 1)))) (fun w6 => (some (1, w6)))) else (if zI s = 84 then (bV (f_X0_takeOperand (zI (ch p)) (wset w 138 4 (zI (p + 1)))) (fun w5 => (some (1, w5)))) else (if zI s = 78 then (bI (f_X0_numberFrom (zI (ch p)) (wset w 138 4 (zI (p + 1)))) (fun r3 w3 => (bV (f_X0_takeOperand r3 w3) (fun w4 => (some (1, w4)))))) else (some (1, (wset w 138 4 (zI (p + 1)))))))) := fun h1 => by
        unfold f_X0_followsSign
        rw [j4, x_at J T (by omega), bI_s, x_fits (t4 p) hs128, bI_s, h1, if_neg (show ¬ (zI true.toNat = 0) by decide), j4, zl_1, zI_add]
      have J1 : JX w0 (wset w 138 4 (zI (p + 1))) := J.set (by omega) _ _
      have P1 : PD (wset w 138 4 (zI (p + 1))).1 cs os := P.p4 _
      have j31 : (wset w 138 4 (zI (p + 1))).1 138 3 = fa := by rw [wset_at, if_neg (by omega)]; exact j3
      have sub : ∀ c, 48 ≤ c → zI c - 48 = zI (c - 48) := fun c h => by rw [zl_48, zI_sub h]
      rw [mtc_c] at no ⊢
      by_cases h1 : s = 68
      · rw [if_pos h1] at no ⊢
        by_cases h2 : dg (ch p) = true
        · rw [if_pos h2]
          have hc := hdg _ h2
          obtain ⟨w', e1, e2, e3, e4, e5⟩ := x_take (v := ch p - 48) P1 hn (by omega)
          exact (go (p + 1) (os ++ [ch p - 48]) w' (by rw [sg (by unfold fitN; rw [if_pos (Or.inl h1)]; exact h2), if_pos (show zI s = 68 by rw [h1]; rfl), sub _ (by omega), e1]; rfl) (hlt p hp (by omega)) (by rw [List.length_append]; show os.length + 1 + l.length ≤ 10; omega) (e3 _ J1) (by rw [e4, wset_hit]) (e5.trans j31) e2).mcs
        · rw [if_neg h2] at no ⊢
          exact no (by unfold fitN; rw [if_pos (Or.inl h1)]; exact Bool.eq_false_iff.mpr h2) rfl
      · rw [if_neg h1] at no ⊢
        by_cases h3' : s = 78
        · rw [if_pos h3'] at no ⊢
          by_cases h2 : dg (ch p) = true
          · rw [if_pos h2]
            have hc := hdg _ h2
            have hp1 := hlt p hp (by omega)
            have hfit : fitN (ch p) s = true := by unfold fitN; rw [if_pos (Or.inr h3')]; exact h2
            have s68 : ¬ (zI s = 68) := by rw [zl_68, zI_inj (by omega) (by omega)]; exact h1
            have s84 : ¬ (zI s = 84) := by rw [zl_84, zI_inj (by omega) (by omega)]; omega
            have hnf : ∀ w1 : XW, JX w0 w1 → w1.1 138 4 = zI (p + 1) → f_X0_numberFrom (zI (ch p)) w1 = (if zI (dg (ch (p + 1))).toNat = 0 then (some ((zI (ch p) - 48), w1)) else (some ((((zI (ch p) - 48) * 10) + (zI (ch (p + 1)) - 48)), (wset w1 138 4 (w1.1 138 4 + 1))))) := fun w1 J1 h => by
              unfold f_X0_numberFrom
              rw [h, x_at J1 T (by omega), bI_s, x_digit (t4 _), bI_s, h]
            by_cases h4 : dg (ch (p + 1)) = true
            · rw [if_pos h4]
              have hc2 := hdg _ h4
              have P2 : PD (wset (wset w 138 4 (zI (p + 1))) 138 4 (zI (p + 2))).1 cs os := P1.p4 _
              obtain ⟨w', e1, e2, e3, e4, e5⟩ := x_take (v := (ch p - 48) * 10 + (ch (p + 1) - 48)) P2 hn (by omega)
              exact (go (p + 2) (os ++ [(ch p - 48) * 10 + (ch (p + 1) - 48)]) w' (by rw [sg hfit, if_neg s68, if_neg s84, if_pos (show zI s = 78 by rw [h3']; rfl), hnf _ J1 (wset_hit _ _ _ _), h4, if_neg (show ¬ (zI true.toNat = 0) by decide), bI_s, wset_hit, sub _ (by omega), sub _ (by omega), zl_10, zI_mul, zI_add, zl_1, zI_add, e1]; rfl) (hlt (p + 1) hp1 (by omega)) (by rw [List.length_append]; show os.length + 1 + l.length ≤ 10; omega) (e3 _ (J1.set (by omega) _ _)) (by rw [e4, wset_hit]) (e5.trans (by rw [wset_at, if_neg (by omega)]; exact j31)) e2).mcs
            · rw [if_neg h4]
              obtain ⟨w', e1, e2, e3, e4, e5⟩ := x_take (v := ch p - 48) P1 hn (by omega)
              exact (go (p + 1) (os ++ [ch p - 48]) w' (by rw [sg hfit, if_neg s68, if_neg s84, if_pos (show zI s = 78 by rw [h3']; rfl), hnf _ J1 (wset_hit _ _ _ _), Bool.eq_false_iff.mpr h4, if_pos (show zI false.toNat = 0 from rfl), bI_s, sub _ (by omega), e1]; rfl) hp1 (by rw [List.length_append]; show os.length + 1 + l.length ≤ 10; omega) (e3 _ J1) (by rw [e4, wset_hit]) (e5.trans j31) e2).mcs
          · rw [if_neg h2] at no ⊢
            exact no (by unfold fitN; rw [if_pos (Or.inr h3')]; exact Bool.eq_false_iff.mpr h2) rfl
        · rw [if_neg h3'] at no ⊢
          have s68 : ¬ (zI s = 68) := by rw [zl_68, zI_inj (by omega) (by omega)]; exact h1
          have s78 : ¬ (zI s = 78) := by rw [zl_78, zI_inj (by omega) (by omega)]; exact h3'
          by_cases h5 : s = 84
          · rw [if_pos h5] at no ⊢
            by_cases h2 : tm (ch p) = true
            · rw [if_pos h2]
              have hc := htm _ h2
              obtain ⟨w', e1, e2, e3, e4, e5⟩ := x_take (v := ch p) P1 hn (by omega)
              exact (go (p + 1) (os ++ [ch p]) w' (by rw [sg (by unfold fitN; rw [if_neg (by omega), if_pos h5]; exact h2), if_neg s68, if_pos (show zI s = 84 by rw [h5]; rfl), e1]; rfl) (hlt p hp (by omega)) (by rw [List.length_append]; show os.length + 1 + l.length ≤ 10; omega) (e3 _ J1) (by rw [e4, wset_hit]) (e5.trans j31) e2).mcs
            · rw [if_neg h2] at no ⊢
              exact no (by unfold fitN; rw [if_neg (by omega), if_pos h5]; exact Bool.eq_false_iff.mpr h2) rfl
          · rw [if_neg h5] at no ⊢
            have s84 : ¬ (zI s = 84) := by rw [zl_84, zI_inj (by omega) (by omega)]; exact h5
            by_cases h2 : ch p = s
            · rw [if_pos h2]
              have hs0 : s ≠ 0 := by
                have h := (show ∀ i, i < 12 → ∀ j, j < 10 → j < (sN i).length → gtL (sN i) j ≠ 0 by decide +kernel) s3 h3 pre.length (by omega) (by omega)
                rw [hs] at h; exact h
              exact go (p + 1) os _ (by rw [sg (by unfold fitN; rw [if_neg (by omega), if_neg h5]; exact decide_eq_true h2), if_neg s68, if_neg s84, if_neg s78]) (hlt p hp (by omega)) (by omega) J1 (wset_hit _ _ _ _) j31 P1
            · rw [if_neg h2] at no ⊢
              exact no (by unfold fitN; rw [if_neg (by omega), if_neg h5]; exact decide_eq_false h2) rfl
end
