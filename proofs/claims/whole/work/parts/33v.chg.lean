/-! a change, called: the class's change, the reference's frame around it -/
def MW (mop : XW → Option (Int32 × XW)) (place : Nat) (w : XW) : Option (Int32 × XW) := bV (f_X11_remembers w) (fun w1 => bI (mop w1) (fun r2 w2 => bI (f_X11_ends r2 (zI place) w2) (fun r3 w3 => some (r3, w3))))
theorem neg_B : ∀ n, 1 ≤ n → n ≤ 9 → ¬ (-(zI n) = 0) ∧ ¬ (0 ≤ -(zI n)) ∧ ¬ (-(zI n) = zI 0) ∧ ¬ (-(zI n) = 1) := by
  intro n h1 h2
  have e : n = 1 ∨ n = 2 ∨ n = 3 ∨ n = 4 ∨ n = 5 ∨ n = 6 ∨ n = 7 ∨ n = 8 ∨ n = 9 := by omega
  rcases e with rfl | rfl | rfl | rfl | rfl | rfl | rfl | rfl | rfl <;> decide
theorem ends_err {e place : Nat} (h : 1 ≤ e) (h2 : e ≤ 9) (w : XW) : f_X11_ends (zI e) (zI place) w = some (zI 0, wset w 141 0 (zI e)) := by
  unfold f_X11_ends
  rw [if_neg (by rw [zl_0, zI_inj (by omega) (by omega)]; omega), if_pos (by rw [zl_0, zI_le (by omega) (by omega)]; omega)]
  rfl
theorem ends_den {n place : Nat} (h : 1 ≤ n) (h2 : n ≤ 9) (w : XW) : f_X11_ends (-(zI n)) (zI place) w = some (zI 0, wset w 141 0 (zI place)) := by
  unfold f_X11_ends
  rw [if_neg (neg_B n h h2).1, if_neg (neg_B n h h2).2.1]
  rfl
theorem ends_ok {place : Nat} (w : XW) : f_X11_ends (zI 0) (zI place) w = f_X11_changed (w.1 141 14) w := by
  unfold f_X11_ends
  rw [if_pos (by rfl), bI_id]
def exE (e : Nat) : String := if e = 1 then "java/lang/IndexOutOfBoundsException" else "java/lang/IllegalArgumentException"
theorem obey_err {e : Nat} (h : e = 1 ∨ e = 2) (w : XW) : f_X10_obey (-(zI e)) w = some (.inr (exE e, w)) := by
  unfold f_X10_obey
  rcases h with rfl | rfl
  · rw [if_pos (by decide)]; rfl
  · rw [if_neg (by decide), if_pos (by decide)]; rfl
theorem obey_ok (w : XW) : f_X10_obey (zI 0) w = some (.inl w) := by
  unfold f_X10_obey
  rw [if_neg (by decide), if_neg (by decide), if_pos (by rfl)]
theorem m2_ne {a : Nat} (ha : a < 2147483648) : ¬ (zI a = -2) := by
  intro h
  have h2 := congrArg Int32.toInt h
  rw [zI_toInt ha] at h2
  have : (-2 : Int32).toInt = -2 := rfl
  omega
def denW (w : XW) (n d : Nat) (c : Int32) : XW := wset (wset (wset w 0 12 (zI n)) 0 13 (zI d)) 0 14 c
theorem obey_den {n d : Nat} (h : 1 ≤ n) (h2 : n ≤ 9) (hd : d < 100) (w : XW) : f_X10_obey (zI (n * 100 + d)) w = some (.inr ("java/lang/UnsupportedOperationException", denW w n d zM)) := by
  unfold f_X10_obey
  rw [if_neg (by rw [zl_1, zm1, zI_zM (by omega)]; exact id), if_neg (m2_ne (by omega)), if_neg (by rw [zl_0, zI_inj (by omega) (by omega)]; omega), zl_100, zI_div (by omega) (by omega), zI_mul, zI_sub (by omega), show n * 100 + d - (n * 100 + d) / 100 * 100 = d by omega, show (n * 100 + d) / 100 = n by omega]
  rfl
theorem Rel.mk2 {B : Nat} {h : Nat → Nat → Int32} {F : Nat → Nat} {hs : Nat → Nat → Nat} {n nx : Nat} (hF : F 3 ≤ B) (a1 : RSx h F) (a2 : RNx B h) (b1 : HC h hs n nx) (b2 : HM h hs n) (b3 : ∀ i, i < n → Inv (hs i) ∧ hs i 3 ≤ B) (a4 : RTx h) (a5 : RLx h) (a6 : RFx h) (a7 : RDx h) : Rel B h :=
  ⟨⟨F, hF, a1⟩, a2, ⟨hs, n, nx, b1.1, b1.2.1, b1.2.2.1, b1.2.2.2.1, b2.1, fun i hi => ⟨(b3 i hi).1, (b3 i hi).2, b1.2.2.2.2 i hi, b2.2 i hi⟩⟩, a4, a5, a6, a7⟩
theorem hs_cons {B B' : Nat} {F : Nat → Nat} {hs : Nat → Nat → Nat} {n : Nat} (hI : Inv F) (hF : F 3 ≤ B') (hB : B ≤ B') (h : ∀ i, i < n → Inv (hs i) ∧ hs i 3 ≤ B) : ∀ i, i < n8 n → Inv (hcons F hs i) ∧ hcons F hs i 3 ≤ B' := fun i hi => by
  unfold hcons
  by_cases z : i = 0
  · rw [if_pos z]; exact ⟨hI, hF⟩
  · rw [if_neg z]
    have := h (i - 1) (by unfold n8 at hi; split at hi <;> omega)
    exact ⟨this.1, by omega⟩
/-- a call of a change: an exception, a denial, or done; both alike -/
theorem chg {kd a b c : Int32} {mop : XW → Option (Int32 × XW)} (hop : OpR kd a b c mop) (place : Nat) {B : Nat} {w : XW} (h : Rel B w.1) :
    (∃ e, (e = 1 ∨ e = 2) ∧ f_X10_change kd a b c w = some (.inr (exE e, w)) ∧ ∀ v, ∃ w2, MW mop place (w.1, v) = some (zI 0, w2) ∧ w2.2 = v ∧ w2.1 141 0 = zI e ∧ Rel (B + 99) w2.1) ∨
    (∃ w1, f_X10_change kd a b c w = some (.inr ("java/lang/UnsupportedOperationException", w1)) ∧ ∀ v, ∃ w2, MW mop place (w1.1, v) = some (zI 0, w2) ∧ w2.2 = v ∧ w2.1 141 0 = zI place ∧ Rel (B + 99) w2.1) ∨
    (∃ ans w1, ans < 1000 ∧ f_X10_change kd a b c w = some (.inl (zI ans, w1)) ∧ ∀ v, ∃ w2, MW mop place (w1.1, v) = some (zI ans, w2) ∧ w2.2 = v ∧ w2.1 141 0 = zI 0 ∧ Rel (B + 99) w2.1) := by
  have hR := h
  obtain ⟨⟨F, q1, hI, hC, hM⟩, q2, ⟨hs, n, nx, b1, b2, b3, b4, b5, b6⟩, q4, q5, q6, q7⟩ := h
  rcases hop F hI with ⟨e, he, hj, hm⟩ | ⟨n', d, hn1, hn2, hd, hj, hm⟩ | ⟨ans, G, hG, hG3, hans, hj, ha, hm⟩
  · refine Or.inl ⟨e, he, ?_, fun v => ?_⟩
    · unfold f_X10_change
      rw [hj w hC, bI_s, obey_err he, bVX_x]
    · obtain ⟨w1, e1, e2, e3⟩ := m_rem (w.1, v)
      have hM0 : Mo (wset (w.1, v) 141 0 (zI 0)).1 142 0 F := hM.cg rfl
      refine ⟨wset w1 141 0 (zI e), ?_, e2.2, wset_hit _ _ _ _, hR.cg (by omega) (fun x h1 h2 h3 h4 h5 h6 h7 h8 => ?_) (fun x hx => ?_) (fun x hx => ?_)⟩
      · unfold MW
        rw [e1, bV_s, hm w1 (hM0.fr e2 (by omega)), bI_s, ends_err (by omega) (by omega), bI_s]
      · funext x'
        rw [wset_at, if_neg (by omega), e2.at (by omega), wset_at, if_neg (by omega)]
      · rw [wset_at, if_neg (by omega), e2.at (by omega), wset_at, if_neg (by omega)]
      · rw [wset_at, if_neg (by omega), e2.at (by omega), wset_at, if_neg (by omega)]
  · refine Or.inr (Or.inl ⟨denW w n' d zM, ?_, fun v => ?_⟩)
    · unfold f_X10_change
      rw [hj w hC, bI_s, obey_den hn1 (by omega) hd, bVX_x]
    · obtain ⟨w1, e1, e2, e3⟩ := m_rem ((denW w n' d zM).1, v)
      have hd0 : ∀ x, x ≠ 0 → ∀ y, (denW w n' d zM).1 x y = w.1 x y := fun x hx y => by unfold denW; rw [wset_at, if_neg (by omega), wset_at, if_neg (by omega), wset_at, if_neg (by omega)]
      have hM0 : Mo (wset ((denW w n' d zM).1, v) 141 0 (zI 0)).1 142 0 F := fun j hj => by
        rw [wset_at, if_neg (by omega)]
        exact (hd0 142 (by omega) _).trans (hM j hj)
      obtain ⟨w2, f1, f2⟩ := hm w1 (hM0.fr e2 (by omega))
      have far : ∀ x, x ≠ 0 → x ≠ 141 → x ≠ 143 → x ≠ 149 → ∀ y, w2.1 x y = w.1 x y := fun x h0 h1 h2 h3 y => by
        rw [f2.at (by omega), e2.at (by omega), wset_at, if_neg (by omega)]
        exact hd0 x h0 y
      have f0 : ∀ y, w2.1 0 y = (denW w n' d zM).1 0 y := fun y => by rw [f2.at (by omega), e2.at (by omega), wset_at, if_neg (by omega)]
      have f141 : ∀ y, y ≠ 0 → w2.1 141 y = w.1 141 y := fun y hy => by
        rw [f2.at (by omega), e2.at (by omega), wset_at, if_neg (by omega)]
        exact hd0 141 (by omega) y
      refine ⟨wset (wset (wset (wset w2 141 15 (zI n')) 141 16 (zI d)) 141 17 (zI 0)) 141 0 (zI place), ?_, f2.2.trans e2.2, wset_hit _ _ _ _, ?_⟩
      · unfold MW
        rw [e1, bV_s, f1, bI_s, ends_den hn1 (by omega), bI_s]
      · have g : ∀ x, x ≠ 0 → x ≠ 141 → x ≠ 143 → x ≠ 149 → (wset (wset (wset (wset w2 141 15 (zI n')) 141 16 (zI d)) 141 17 (zI 0)) 141 0 (zI place)).1 x = w.1 x := fun x h0 h1 h2 h3 => by
          funext y
          rw [wset_at, if_neg (by omega), wset_at, if_neg (by omega), wset_at, if_neg (by omega), wset_at, if_neg (by omega)]
          exact far x h0 h1 h2 h3 y
        have g141 : ∀ y, y ≠ 0 → ¬ (15 ≤ y ∧ y ≤ 17) → (wset (wset (wset (wset w2 141 15 (zI n')) 141 16 (zI d)) 141 17 (zI 0)) 141 0 (zI place)).1 141 y = w.1 141 y := fun y h0 h1 => by
          rw [wset_at, if_neg (by omega), wset_at, if_neg (by omega), wset_at, if_neg (by omega), wset_at, if_neg (by omega)]
          exact f141 y h0
        have g0 : ∀ y, (wset (wset (wset (wset w2 141 15 (zI n')) 141 16 (zI d)) 141 17 (zI 0)) 141 0 (zI place)).1 0 y = (denW w n' d zM).1 0 y := fun y => by
          rw [wset_at, if_neg (by omega), wset_at, if_neg (by omega), wset_at, if_neg (by omega), wset_at, if_neg (by omega)]
          exact f0 y
        have d0 : ∀ y, ¬ (12 ≤ y ∧ y ≤ 14) → (denW w n' d zM).1 0 y = w.1 0 y := fun y hy => by unfold denW; rw [wset_at, if_neg (by omega), wset_at, if_neg (by omega), wset_at, if_neg (by omega)]
        have hS : RSx w.1 F := ⟨hI, hC, hM⟩
        have hH : RHx B w.1 := ⟨hs, n, nx, b1, b2, b3, b4, b5, b6⟩
        refine ⟨⟨F, by omega, hS.cg (fun a h1 h2 => g a (by omega) (by omega) (by omega) (by omega)) (g _ (by omega) (by omega) (by omega) (by omega))⟩, q2.cg (by omega) (fun a h1 h2 => g a (by omega) (by omega) (by omega) (by omega)) (g _ (by omega) (by omega) (by omega) (by omega)) (by rw [g0, d0 _ (by omega)]) (g141 _ (by omega) (by omega)), hH.cg (by omega) (fun a h1 h2 => g a (by omega) (by omega) (by omega) (by omega)) (g _ (by omega) (by omega) (by omega) (by omega)) (g _ (by omega) (by omega) (by omega) (by omega)) (g141 _ (by omega) (by omega)), q4.cg (by rw [g 132 (by omega) (by omega) (by omega) (by omega)]) (g _ (by omega) (by omega) (by omega) (by omega)) (g _ (by omega) (by omega) (by omega) (by omega)) (g141 _ (by omega) (by omega)), q5.cg (by rw [g 134 (by omega) (by omega) (by omega) (by omega)]) (g _ (by omega) (by omega) (by omega) (by omega)) (g _ (by omega) (by omega) (by omega) (by omega)) (g141 _ (by omega) (by omega)), q6.cg (by rw [g0, d0 _ (by omega)]) (g141 _ (by omega) (by omega)), Or.inr ⟨n', d, hn1, by omega, hd, ?_, ?_, ?_, ?_⟩, Or.inl ⟨?_, ?_⟩⟩
        · rw [g0]; unfold denW; simp (disch := omega) only [wset_at, if_neg, wset_hit]
          rfl
        · simp only [wset_at]; rfl
        · rw [g0]; unfold denW; simp only [wset_at]; rfl
        · simp only [wset_at]; rfl
        · rw [g0]; unfold denW; simp only [wset_at]; rfl
        · simp only [wset_at]; rfl
  · have hH1 : HC w.1 hs n nx := ⟨b1, b2, b3, b4, fun i hi => (b6 i hi).2.2.1⟩
    have hH2 : HM w.1 hs n := ⟨b5, fun i hi => (b6 i hi).2.2.2⟩
    have hF1 : F 1 ≤ 7 := by have := hI.1; have := hI.2.1; omega
    obtain ⟨w1, k1, k2, k3⟩ := h_keep hH1 hC (by omega) hF1 hI.2.2.1
    have hC1 : Cls w1.1 1 F := hC.fr k2 (fun a h1 h2 => by omega)
    obtain ⟨w2, l1, l2, l3⟩ := ha w1 hC1
    have far : ∀ x, ¬ (2 ≤ x ∧ x ≤ 11) → x ≠ 34 → ¬ (37 ≤ x ∧ x ≤ 123) → ¬ (125 ≤ x ∧ x ≤ 127) → ∀ y, w2.1 x y = w.1 x y := fun x h1 h2 h3 h4 y => by
      rw [l3.at (by omega), k2.at (by omega)]
    refine Or.inr (Or.inr ⟨ans, w2, hans, ?_, fun v => ?_⟩)
    · unfold f_X10_change
      rw [hj w hC, bI_s, obey_ok, bVX_s, k1, bV_s, l1, bI_s]
    · obtain ⟨w3, e1, e2, e3⟩ := m_rem (w2.1, v)
      have hM3 : Mo w3.1 142 0 F := fun j hj => by
        rw [e2.at (by omega), wset_at, if_neg (by omega)]
        exact (far 142 (by omega) (by omega) (by omega) (by omega) _).trans (hM j hj)
      have hM3f : Mo w3.1 143 0 F := fun j hj => by
        rw [Nat.zero_add, e3 j hj]
        exact (far 142 (by omega) (by omega) (by omega) (by omega) _).trans (hM.at hj)
      obtain ⟨w4, f1, f2, f3⟩ := hm w3 hM3
      have f4 : Fr (fun a => a = 141) w4 (wset w4 141 14 (zI ans)) := fr1 _ _
      have hH3 : HM (wset w4 141 14 (zI ans)).1 hs n := by
        refine ⟨?_, fun i hi j hj => ?_⟩
        · rw [wset_at, if_neg (by omega), f3.at (by omega), e2.at (by omega), wset_at, if_neg (by omega)]
          exact (far 141 (by omega) (by omega) (by omega) (by omega) _).trans b5
        · rw [wset_at, if_neg (by omega), f3.at (by omega), e2.at (by omega), wset_at, if_neg (by omega)]
          exact (far 145 (by omega) (by omega) (by omega) (by omega) _).trans (hH2.2 i hi j hj)
      obtain ⟨w5, g1, g2, g3, g4⟩ := m_changed (w := wset w4 141 14 (zI ans)) (F := F) (zI ans) b1 hH3 (hM3f.fr f3 (by omega) |>.fr f4 (by omega))
      have G0 : ∀ x, x ≠ 141 → x ≠ 142 → x ≠ 143 → x ≠ 145 → x ≠ 149 → ∀ y, w5.1 x y = w2.1 x y := fun x h1 h2 h3 h4 h5 y => by
        rw [g2.at (by omega), wset_at, if_neg (by omega), f3.at (by omega), e2.at (by omega), wset_at, if_neg (by omega)]
      have G1 : ∀ y, y ≠ 0 → y ≠ 5 → y ≠ 14 → w5.1 141 y = w.1 141 y := fun y h1 h2 h3 => by
        rw [g3 y h2, wset_at, if_neg (by omega), f3.at (by omega), e2.at (by omega), wset_at, if_neg (by omega)]
        exact far 141 (by omega) (by omega) (by omega) (by omega) y
      have G2 : ∀ x, x ≠ 141 → x ≠ 142 → x ≠ 143 → x ≠ 145 → x ≠ 149 → ¬ (2 ≤ x ∧ x ≤ 11) → x ≠ 34 → ¬ (37 ≤ x ∧ x ≤ 123) → ¬ (125 ≤ x ∧ x ≤ 127) → w5.1 x = w.1 x := fun x h1 h2 h3 h4 h5 h6 h7 h8 h9 => by
        funext y
        rw [G0 x h1 h2 h3 h4 h5 y]; exact far x h6 h7 h8 h9 y
      refine ⟨w5, ?_, g2.2.trans (f3.2.trans e2.2), ?_, ?_⟩
      · unfold MW
        rw [e1, bV_s, f1, bI_s, ends_ok, wset_hit, g1, bI_s]
      · rw [g3 0 (by omega), wset_at, if_neg (by omega), f3.at (by omega), e2.at (by omega), wset_hit]
      · refine Rel.mk2 (F := G) (hs := hcons F hs) (n := n8 n) (nx := (nx + 1) % 8) (by omega) ⟨hG, ?_, ?_⟩ (q2.cg (by omega) (fun a h1 h2 => G2 a (by omega) (by omega) (by omega) (by omega) (by omega) (by omega) (by omega) (by omega) (by omega)) (G2 _ (by omega) (by omega) (by omega) (by omega) (by omega) (by omega) (by omega) (by omega) (by omega)) (by rw [G2 0 (by omega) (by omega) (by omega) (by omega) (by omega) (by omega) (by omega) (by omega) (by omega)]) (G1 _ (by omega) (by omega) (by omega))) ?_ g4 (hs_cons hI (by omega) (by omega) (fun i hi => ⟨(b6 i hi).1, (b6 i hi).2.1⟩)) (q4.cg (by rw [G2 132 (by omega) (by omega) (by omega) (by omega) (by omega) (by omega) (by omega) (by omega) (by omega)]) (G2 _ (by omega) (by omega) (by omega) (by omega) (by omega) (by omega) (by omega) (by omega) (by omega)) (G2 _ (by omega) (by omega) (by omega) (by omega) (by omega) (by omega) (by omega) (by omega) (by omega)) (G1 _ (by omega) (by omega) (by omega))) (q5.cg (by rw [G2 134 (by omega) (by omega) (by omega) (by omega) (by omega) (by omega) (by omega) (by omega) (by omega)]) (G2 _ (by omega) (by omega) (by omega) (by omega) (by omega) (by omega) (by omega) (by omega) (by omega)) (G2 _ (by omega) (by omega) (by omega) (by omega) (by omega) (by omega) (by omega) (by omega) (by omega)) (G1 _ (by omega) (by omega) (by omega))) (q6.cg (by rw [G2 0 (by omega) (by omega) (by omega) (by omega) (by omega) (by omega) (by omega) (by omega) (by omega)]) (G1 _ (by omega) (by omega) (by omega))) (q7.cg (fun x h1 h2 => by rw [G2 0 (by omega) (by omega) (by omega) (by omega) (by omega) (by omega) (by omega) (by omega) (by omega)]) (fun x h1 h2 => G1 x (by omega) (by omega) (by omega)))
        · exact l2.cg (fun a h1 h2 => by funext y; exact G0 a (by omega) (by omega) (by omega) (by omega) (by omega) y)
        · exact ((f2.fr f4 (by omega)).fr g2 (by omega))
        · have k4 : HC w2.1 (hcons F hs) (n8 n) ((nx + 1) % 8) := by
            obtain ⟨z1, z2, z3, z4, z5⟩ := k3
            refine ⟨z1, z2, by rw [l3.at (by omega)]; exact z3, by rw [l3.at (by omega)]; exact z4, fun i hi => ?_⟩
            have hin := slot_in ((nx + 1) % 8) i
            exact (z5 i hi).fr l3 (fun a h1 h2 => by omega)
          obtain ⟨z1, z2, z3, z4, z5⟩ := k4
          refine ⟨z1, z2, by rw [G0 34 (by omega) (by omega) (by omega) (by omega) (by omega)]; exact z3, by rw [G0 34 (by omega) (by omega) (by omega) (by omega) (by omega)]; exact z4, fun i hi => ?_⟩
          have hin := slot_in ((nx + 1) % 8) i
          exact (z5 i hi).cg (fun a h1 h2 => by funext y; exact G0 a (by omega) (by omega) (by omega) (by omega) (by omega) y)
