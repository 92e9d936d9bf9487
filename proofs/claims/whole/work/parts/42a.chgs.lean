/-! the changes, called: which exceptions come -/
theorem chgJ {kd a b c : Int32} {mop : XW → Option (Int32 × XW)} (hop : OpR kd a b c mop) (place : Nat) {B : Nat} {w : XW} (h : Rel B w.1) :
    (∃ e, (e = 1 ∨ e = 2) ∧ (∃ F, Inv F ∧ Cls w.1 1 F ∧ f_X8_judge 1 kd a b c w = some (-(zI e), w)) ∧ f_X10_change kd a b c w = some (.inr (exE e, w)) ∧ ∀ v, ∃ w2, MW mop place (w.1, v) = some (zI 0, w2) ∧ w2.2 = v ∧ w2.1 141 0 = zI e ∧ Rel (B + 99) w2.1) ∨
    (∃ w1, (∃ n d, 1 ≤ n ∧ n ≤ 7 ∧ d < 100 ∧ f_X8_judge 1 kd a b c w = some (zI (n * 100 + d), w)) ∧ f_X10_change kd a b c w = some (.inr ("java/lang/UnsupportedOperationException", w1)) ∧ ∀ v, ∃ w2, MW mop place (w1.1, v) = some (zI 0, w2) ∧ w2.2 = v ∧ w2.1 141 0 = zI place ∧ Rel (B + 99) w2.1) ∨
    (∃ ans w1, ans < 1000 ∧ f_X10_change kd a b c w = some (.inl (zI ans, w1)) ∧ ∀ v, ∃ w2, MW mop place (w1.1, v) = some (zI ans, w2) ∧ w2.2 = v ∧ w2.1 141 0 = zI 0 ∧ Rel (B + 99) w2.1) := by
  have hR := h
  obtain ⟨⟨F, q1, hI, hC, hM⟩, q2, ⟨hs, n, nx, b1, b2, b3, b4, b5, b6⟩, q4, q5, q6, q7⟩ := h
  rcases hop F hI with ⟨e, he, hj, hm⟩ | ⟨n', d, hn1, hn2, hd, hj, hm⟩ | ⟨ans, G, hG, hG3, hans, hj, ha, hm⟩
  · refine Or.inl ⟨e, he, ⟨F, hI, hC, hj w hC⟩, ?_, fun v => ?_⟩
    · unfold f_X10_change
      rw [hj w hC, bI_s, obey_err he, bVX_x]
    · obtain ⟨w1, e1, e2, e3⟩ := m_rem (w.1, v)
      have hM0 : Mo (wset (w.1, v) 141 0 (zI 0)).1 142 0 F := hM.cg rfl
      refine ⟨wset w1 141 0 (zI e), ?_, e2.2, wset_hit _ _ _ _, hR.cg (by omega) (fun x h1 h2 h3 h4 h5 h6 h7 h8 => ?_) (fun x hx => ?_) (fun x hx => ?_)⟩
      · unfold MW
        rw [e1, bV_s, hm w1 (hM0.fr e2 (by omega)), bI_s, ends_err (by omega) (by omega), bI_s]
      · funext x'
        rw [wset_at, if_neg (by omega), e2.at (by omega), wset_at, if_neg (by omega)]
      · rw [wset_at, if_neg (by omega), e2.at (by omega), wset_at, if_neg (by omega)]
      · rw [wset_at, if_neg (by omega), e2.at (by omega), wset_at, if_neg (by omega)]
  · refine Or.inr (Or.inl ⟨denW w n' d zM, ⟨n', d, hn1, hn2, hd, hj w hC⟩, ?_, fun v => ?_⟩)
    · unfold f_X10_change
      rw [hj w hC, bI_s, obey_den hn1 (by omega) hd, bVX_x]
    · obtain ⟨w1, e1, e2, e3⟩ := m_rem ((denW w n' d zM).1, v)
      have hd0 : ∀ x, x ≠ 0 → ∀ y, (denW w n' d zM).1 x y = w.1 x y := fun x hx y => by unfold denW; rw [wset_at, if_neg (by omega), wset_at, if_neg (by omega), wset_at, if_neg (by omega)]
      have hM0 : Mo (wset ((denW w n' d zM).1, v) 141 0 (zI 0)).1 142 0 F := fun j hj => by
        rw [wset_at, if_neg (by omega)]
        exact (hd0 142 (by omega) _).trans (hM j hj)
      obtain ⟨w2, f1, f2⟩ := hm w1 (hM0.fr e2 (by omega))
      have far : ∀ x, x ≠ 0 → x ≠ 141 → x ≠ 143 → x ≠ 149 → ∀ y, w2.1 x y = w.1 x y := fun x h0 h1 h2 h3 y => by
        rw [f2.at (by omega), e2.at (by omega), wset_at, if_neg (by omega)]
        exact hd0 x h0 y
      have f0 : ∀ y, w2.1 0 y = (denW w n' d zM).1 0 y := fun y => by rw [f2.at (by omega), e2.at (by omega), wset_at, if_neg (by omega)]
      have f141 : ∀ y, y ≠ 0 → w2.1 141 y = w.1 141 y := fun y hy => by
        rw [f2.at (by omega), e2.at (by omega), wset_at, if_neg (by omega)]
        exact hd0 141 (by omega) y
      refine ⟨wset (wset (wset (wset w2 141 15 (zI n')) 141 16 (zI d)) 141 17 (zI 0)) 141 0 (zI place), ?_, f2.2.trans e2.2, wset_hit _ _ _ _, ?_⟩
      · unfold MW
        rw [e1, bV_s, f1, bI_s, ends_den hn1 (by omega), bI_s]
      · have g : ∀ x, x ≠ 0 → x ≠ 141 → x ≠ 143 → x ≠ 149 → (wset (wset (wset (wset w2 141 15 (zI n')) 141 16 (zI d)) 141 17 (zI 0)) 141 0 (zI place)).1 x = w.1 x := fun x h0 h1 h2 h3 => by
          funext y
          rw [wset_at, if_neg (by omega), wset_at, if_neg (by omega), wset_at, if_neg (by omega), wset_at, if_neg (by omega)]
          exact far x h0 h1 h2 h3 y
        have g141 : ∀ y, y ≠ 0 → ¬ (15 ≤ y ∧ y ≤ 17) → (wset (wset (wset (wset w2 141 15 (zI n')) 141 16 (zI d)) 141 17 (zI 0)) 141 0 (zI place)).1 141 y = w.1 141 y := fun y h0 h1 => by
          rw [wset_at, if_neg (by omega), wset_at, if_neg (by omega), wset_at, if_neg (by omega), wset_at, if_neg (by omega)]
          exact f141 y h0
        have g0 : ∀ y, (wset (wset (wset (wset w2 141 15 (zI n')) 141 16 (zI d)) 141 17 (zI 0)) 141 0 (zI place)).1 0 y = (denW w n' d zM).1 0 y := fun y => by
          rw [wset_at, if_neg (by omega), wset_at, if_neg (by omega), wset_at, if_neg (by omega), wset_at, if_neg (by omega)]
          exact f0 y
        have d0 : ∀ y, ¬ (12 ≤ y ∧ y ≤ 14) → (denW w n' d zM).1 0 y = w.1 0 y := fun y hy => by unfold denW; rw [wset_at, if_neg (by omega), wset_at, if_neg (by omega), wset_at, if_neg (by omega)]
        have hS : RSx w.1 F := ⟨hI, hC, hM⟩
        have hH : RHx B w.1 := ⟨hs, n, nx, b1, b2, b3, b4, b5, b6⟩
        refine ⟨⟨F, by omega, hS.cg (fun a h1 h2 => g a (by omega) (by omega) (by omega) (by omega)) (g _ (by omega) (by omega) (by omega) (by omega))⟩, q2.cg (by omega) (fun a h1 h2 => g a (by omega) (by omega) (by omega) (by omega)) (g _ (by omega) (by omega) (by omega) (by omega)) (by rw [g0, d0 _ (by omega)]) (g141 _ (by omega) (by omega)), hH.cg (by omega) (fun a h1 h2 => g a (by omega) (by omega) (by omega) (by omega)) (g _ (by omega) (by omega) (by omega) (by omega)) (g _ (by omega) (by omega) (by omega) (by omega)) (g141 _ (by omega) (by omega)), q4.cg (by rw [g 132 (by omega) (by omega) (by omega) (by omega)]) (g _ (by omega) (by omega) (by omega) (by omega)) (g _ (by omega) (by omega) (by omega) (by omega)) (g141 _ (by omega) (by omega)), q5.cg (by rw [g 134 (by omega) (by omega) (by omega) (by omega)]) (g _ (by omega) (by omega) (by omega) (by omega)) (g _ (by omega) (by omega) (by omega) (by omega)) (g141 _ (by omega) (by omega)), q6.cg (by rw [g0, d0 _ (by omega)]) (g141 _ (by omega) (by omega)), Or.inr ⟨n', d, hn1, by omega, hd, ?_, ?_, ?_, ?_⟩, Or.inl ⟨?_, ?_⟩⟩
        · rw [g0]; unfold denW; simp (disch := omega) only [wset_at, if_neg, wset_hit]
          rfl
        · simp only [wset_at]; rfl
        · rw [g0]; unfold denW; simp only [wset_at]; rfl
        · simp only [wset_at]; rfl
        · rw [g0]; unfold denW; simp only [wset_at]; rfl
        · simp only [wset_at]; rfl
  · have hH1 : HC w.1 hs n nx := ⟨b1, b2, b3, b4, fun i hi => (b6 i hi).2.2.1⟩
    have hH2 : HM w.1 hs n := ⟨b5, fun i hi => (b6 i hi).2.2.2⟩
    have hF1 : F 1 ≤ 7 := by have := hI.1; have := hI.2.1; omega
    obtain ⟨w1, k1, k2, k3⟩ := h_keep hH1 hC (by omega) hF1 hI.2.2.1
    have hC1 : Cls w1.1 1 F := hC.fr k2 (fun a h1 h2 => by omega)
    obtain ⟨w2, l1, l2, l3⟩ := ha w1 hC1
    have far : ∀ x, ¬ (2 ≤ x ∧ x ≤ 11) → x ≠ 34 → ¬ (37 ≤ x ∧ x ≤ 123) → ¬ (125 ≤ x ∧ x ≤ 127) → ∀ y, w2.1 x y = w.1 x y := fun x h1 h2 h3 h4 y => by
      rw [l3.at (by omega), k2.at (by omega)]
    refine Or.inr (Or.inr ⟨ans, w2, hans, ?_, fun v => ?_⟩)
    · unfold f_X10_change
      rw [hj w hC, bI_s, obey_ok, bVX_s, k1, bV_s, l1, bI_s]
    · obtain ⟨w3, e1, e2, e3⟩ := m_rem (w2.1, v)
      have hM3 : Mo w3.1 142 0 F := fun j hj => by
        rw [e2.at (by omega), wset_at, if_neg (by omega)]
        exact (far 142 (by omega) (by omega) (by omega) (by omega) _).trans (hM j hj)
      have hM3f : Mo w3.1 143 0 F := fun j hj => by
        rw [Nat.zero_add, e3 j hj]
        exact (far 142 (by omega) (by omega) (by omega) (by omega) _).trans (hM.at hj)
      obtain ⟨w4, f1, f2, f3⟩ := hm w3 hM3
      have f4 : Fr (fun a => a = 141) w4 (wset w4 141 14 (zI ans)) := fr1 _ _
      have hH3 : HM (wset w4 141 14 (zI ans)).1 hs n := by
        refine ⟨?_, fun i hi j hj => ?_⟩
        · rw [wset_at, if_neg (by omega), f3.at (by omega), e2.at (by omega), wset_at, if_neg (by omega)]
          exact (far 141 (by omega) (by omega) (by omega) (by omega) _).trans b5
        · rw [wset_at, if_neg (by omega), f3.at (by omega), e2.at (by omega), wset_at, if_neg (by omega)]
          exact (far 145 (by omega) (by omega) (by omega) (by omega) _).trans (hH2.2 i hi j hj)
      obtain ⟨w5, g1, g2, g3, g4⟩ := m_changed (w := wset w4 141 14 (zI ans)) (F := F) (zI ans) b1 hH3 (hM3f.fr f3 (by omega) |>.fr f4 (by omega))
      have G0 : ∀ x, x ≠ 141 → x ≠ 142 → x ≠ 143 → x ≠ 145 → x ≠ 149 → ∀ y, w5.1 x y = w2.1 x y := fun x h1 h2 h3 h4 h5 y => by
        rw [g2.at (by omega), wset_at, if_neg (by omega), f3.at (by omega), e2.at (by omega), wset_at, if_neg (by omega)]
      have G1 : ∀ y, y ≠ 0 → y ≠ 5 → y ≠ 14 → w5.1 141 y = w.1 141 y := fun y h1 h2 h3 => by
        rw [g3 y h2, wset_at, if_neg (by omega), f3.at (by omega), e2.at (by omega), wset_at, if_neg (by omega)]
        exact far 141 (by omega) (by omega) (by omega) (by omega) y
      have G2 : ∀ x, x ≠ 141 → x ≠ 142 → x ≠ 143 → x ≠ 145 → x ≠ 149 → ¬ (2 ≤ x ∧ x ≤ 11) → x ≠ 34 → ¬ (37 ≤ x ∧ x ≤ 123) → ¬ (125 ≤ x ∧ x ≤ 127) → w5.1 x = w.1 x := fun x h1 h2 h3 h4 h5 h6 h7 h8 h9 => by
        funext y
        rw [G0 x h1 h2 h3 h4 h5 y]; exact far x h6 h7 h8 h9 y
      refine ⟨w5, ?_, g2.2.trans (f3.2.trans e2.2), ?_, ?_⟩
      · unfold MW
        rw [e1, bV_s, f1, bI_s, ends_ok, wset_hit, g1, bI_s]
      · rw [g3 0 (by omega), wset_at, if_neg (by omega), f3.at (by omega), e2.at (by omega), wset_hit]
      · refine Rel.mk2 (F := G) (hs := hcons F hs) (n := n8 n) (nx := (nx + 1) % 8) (by omega) ⟨hG, ?_, ?_⟩ (q2.cg (by omega) (fun a h1 h2 => G2 a (by omega) (by omega) (by omega) (by omega) (by omega) (by omega) (by omega) (by omega) (by omega)) (G2 _ (by omega) (by omega) (by omega) (by omega) (by omega) (by omega) (by omega) (by omega) (by omega)) (by rw [G2 0 (by omega) (by omega) (by omega) (by omega) (by omega) (by omega) (by omega) (by omega) (by omega)]) (G1 _ (by omega) (by omega) (by omega))) ?_ g4 (hs_cons hI (by omega) (by omega) (fun i hi => ⟨(b6 i hi).1, (b6 i hi).2.1⟩)) (q4.cg (by rw [G2 132 (by omega) (by omega) (by omega) (by omega) (by omega) (by omega) (by omega) (by omega) (by omega)]) (G2 _ (by omega) (by omega) (by omega) (by omega) (by omega) (by omega) (by omega) (by omega) (by omega)) (G2 _ (by omega) (by omega) (by omega) (by omega) (by omega) (by omega) (by omega) (by omega) (by omega)) (G1 _ (by omega) (by omega) (by omega))) (q5.cg (by rw [G2 134 (by omega) (by omega) (by omega) (by omega) (by omega) (by omega) (by omega) (by omega) (by omega)]) (G2 _ (by omega) (by omega) (by omega) (by omega) (by omega) (by omega) (by omega) (by omega) (by omega)) (G2 _ (by omega) (by omega) (by omega) (by omega) (by omega) (by omega) (by omega) (by omega) (by omega)) (G1 _ (by omega) (by omega) (by omega))) (q6.cg (by rw [G2 0 (by omega) (by omega) (by omega) (by omega) (by omega) (by omega) (by omega) (by omega) (by omega)]) (G1 _ (by omega) (by omega) (by omega))) (q7.cg (fun x h1 h2 => by rw [G2 0 (by omega) (by omega) (by omega) (by omega) (by omega) (by omega) (by omega) (by omega) (by omega)]) (fun x h1 h2 => G1 x (by omega) (by omega) (by omega)))
        · exact l2.cg (fun a h1 h2 => by funext y; exact G0 a (by omega) (by omega) (by omega) (by omega) (by omega) y)
        · exact ((f2.fr f4 (by omega)).fr g2 (by omega))
        · have k4 : HC w2.1 (hcons F hs) (n8 n) ((nx + 1) % 8) := by
            obtain ⟨z1, z2, z3, z4, z5⟩ := k3
            refine ⟨z1, z2, by rw [l3.at (by omega)]; exact z3, by rw [l3.at (by omega)]; exact z4, fun i hi => ?_⟩
            have hin := slot_in ((nx + 1) % 8) i
            exact (z5 i hi).fr l3 (fun a h1 h2 => by omega)
          obtain ⟨z1, z2, z3, z4, z5⟩ := k4
          refine ⟨z1, z2, by rw [G0 34 (by omega) (by omega) (by omega) (by omega) (by omega)]; exact z3, by rw [G0 34 (by omega) (by omega) (by omega) (by omega) (by omega)]; exact z4, fun i hi => ?_⟩
          have hin := slot_in ((nx + 1) % 8) i
          exact (z5 i hi).cg (fun a h1 h2 => by funext y; exact G0 a (by omega) (by omega) (by omega) (by omega) (by omega) y)

theorem QX.mono {B B1 B2 : Nat} {cl : XW → Option ((Int32 × XW) ⊕ (String × XW))} {md : XW → Option (Int32 × XW)} {es : List (String × Nat)} (h : QX B B1 cl md es) (hB : B1 ≤ B2) : QX B B2 cl md es := fun w q => by
  have up : ∀ h : Nat → Nat → Int32, Rel B1 h → Rel B2 h := fun h q => q.cg hB (fun _ _ _ _ _ _ _ _ _ => rfl) (fun _ _ => rfl) (fun _ _ => rfl)
  rcases h w q with ⟨e, he, w1, h1, h2⟩ | ⟨r, w1, h1, h2⟩
  · refine Or.inl ⟨e, he, w1, h1, fun v => ?_⟩
    obtain ⟨r, w2, a, b, c, d⟩ := h2 v
    exact ⟨r, w2, a, b, c, up _ d⟩
  · refine Or.inr ⟨r, w1, h1, fun v => ?_⟩
    obtain ⟨w2, a, b, c, d⟩ := h2 v
    exact ⟨w2, a, b, c, up _ d⟩
theorem QD.mono {B B1 B2 : Nat} {cl md : XW → Option (Int32 × XW)} (h : QD B B1 cl md) (hB : B1 ≤ B2) : QD B B2 cl md := fun w q => by
  have up : ∀ h : Nat → Nat → Int32, Rel B1 h → Rel B2 h := fun h q => q.cg hB (fun _ _ _ _ _ _ _ _ _ => rfl) (fun _ _ => rfl) (fun _ _ => rfl)
  obtain ⟨r, w1, h1, h2⟩ := h w q
  refine ⟨r, w1, h1, fun v => ?_⟩
  obtain ⟨w2, a, b, d⟩ := h2 v
  exact ⟨w2, a, b, up _ d⟩
theorem qx_chg {kd a b c : Int32} {mop : XW → Option (Int32 × XW)} (hop : OpR kd a b c mop) (place : Nat) {cl : XW → Option ((Int32 × XW) ⊕ (String × XW))} {md : XW → Option (Int32 × XW)} {es : List (String × Nat)} (B : Nat) (hcl : ∀ w, cl w = bIX (f_X10_change kd a b c w) (fun r1 w1 => some (.inl (r1, w1)))) (hmd : ∀ w, md w = MW mop place w)
    (hE : ∀ (w : XW) (F : Nat → Nat) (e : Nat), Inv F → Cls w.1 1 F → (e = 1 ∨ e = 2) → f_X8_judge 1 kd a b c w = some (-(zI e), w) → (exE e, e) ∈ es)
    (hD : ∀ (w : XW) (n d : Nat), 1 ≤ n → n ≤ 7 → d < 100 → f_X8_judge 1 kd a b c w = some (zI (n * 100 + d), w) → (uoe, place) ∈ es) : QX B (B + 1600) cl md es := QX.mono (B1 := B + 99) (fun w q => by
  rw [hcl]
  rcases chgJ hop place q with ⟨e, he, ⟨F, hI, hC, hj⟩, h1, h2⟩ | ⟨w1, ⟨n, d, n1, n2, d1, hj⟩, h1, h2⟩ | ⟨ans, w1, ha, h1, h2⟩
  · refine Or.inl ⟨(exE e, e), hE w F e hI hC he hj, w, by rw [h1]; rfl, fun v => ?_⟩
    obtain ⟨w2, a, b, c, d⟩ := h2 v
    exact ⟨_, w2, by rw [hmd]; exact a, b, c, d⟩
  · refine Or.inl ⟨(uoe, place), hD w n d n1 n2 d1 hj, w1, by rw [h1]; rfl, fun v => ?_⟩
    obtain ⟨w2, a, b, c, d⟩ := h2 v
    exact ⟨_, w2, by rw [hmd]; exact a, b, c, d⟩
  · refine Or.inr ⟨zI ans, w1, by rw [h1]; rfl, fun v => ?_⟩
    obtain ⟨w2, a, b, c, d⟩ := h2 v
    exact ⟨w2, by rw [hmd]; exact a, b, c, d⟩) (by omega)
theorem negz {x e : Nat} (hx : x < 2147483648) (he : e = 1 ∨ e = 2) (h : zI x = -(zI e)) : False := (neg_B e (by omega) (by omega)).2.1 (by rw [← h, zl_0, zI_le (by omega) (by omega)]; omega)
theorem sj {a b : Int32} {w : XW} (h : some (a, w) = some (b, w)) : a = b := congrArg Prod.fst (Option.some.inj h)
section
variable {a b c : Int32} {w : XW} {F : Nat → Nat} {e : Nat}
theorem je_0 (he : e = 1 ∨ e = 2) (h : f_X8_judge 1 0 a b c w = some (-(zI e), w)) : False := by
  rw [jd_0] at h
  by_cases z : 7 ≤ w.1 2 0
  · rw [if_pos z, zl_1, zl_7, den_c, bI_s] at h; exact negz (by omega) he (sj h)
  · rw [if_neg z] at h; exact negz (x := 0) (by omega) he (sj h)
theorem je_5 (hI : Inv F) (hC : Cls w.1 1 F) (he : e = 1 ∨ e = 2) (h : f_X8_judge 1 5 a b c w = some (-(zI e), w)) : False := by
  have a1 := hI.1
  rw [jd_5, show w.1 2 0 = zI (F 0) from hC.1] at h
  by_cases z : w.1 5 0 ≤ 0
  · rw [if_pos z, zl_3, den_c, bI_s] at h; exact negz (by omega) he (sj h)
  · rw [if_neg z] at h; exact negz (x := 0) (by omega) he (sj h)
theorem je_11 (hI : Inv F) (hC : Cls w.1 1 F) (he : e = 1 ∨ e = 2) (h : f_X8_judge 1 11 a b c w = some (-(zI e), w)) : False := by
  have a1 := hI.1
  rw [jd_11, show w.1 2 0 = zI (F 0) from hC.1] at h
  by_cases z : w.1 5 0 ≤ 0
  · rw [if_pos z, zl_3, den_c, bI_s] at h; exact negz (by omega) he (sj h)
  · rw [if_neg z] at h; exact negz (x := 0) (by omega) he (sj h)
theorem je_10 (hI : Inv F) (hC : Cls w.1 1 F) (he : e = 1 ∨ e = 2) (h : f_X8_judge 1 10 a b c w = some (-(zI e), w)) : False := by
  have a1 := hI.1
  rw [jd_10] at h
  unfold f_X8_judgeEnds at h
  rw [show w.1 (1 + 1) 0 = zI (F 0) from hC.1] at h
  by_cases z : zI (F 0) < 2
  · rw [if_pos z, zl_7, den_c, bI_s] at h; exact negz (by omega) he (sj h)
  · rw [if_neg z] at h; exact negz (x := 0) (by omega) he (sj h)
theorem je_4 (hI : Inv F) (hC : Cls w.1 1 F) (h : f_X8_judge 1 4 a b c w = some (-(zI 2), w)) : False := by
  have a1 := hI.1
  have a2 := hI.2.1
  have h8 := inv_ix hI
  have q1 : w.1 (1 + 1) 0 = zI (F 0) := hC.1
  have q6 : w.1 (1 + 4) 0 = zI (F 1) := hC.2.2.2.2.2.1
  rw [jd_4] at h
  unfold f_X8_judgeFold at h
  by_cases z1 : a < 0
  · rw [if_pos z1] at h; exact absurd (sj h) (by decide)
  · rw [if_neg z1, q6, q1] at h
    rcases zI_cases a with ha | ⟨l, hl, rfl⟩
    · exact z1 ha
    · by_cases z2 : zI l ≤ zI (F 1)
      · rw [if_pos z2] at h
        have hl2 : l ≤ F 1 := by rwa [zI_le (by omega) (by omega)] at z2
        by_cases z3 : zI (F 1) < zI (F 0)
        · rw [if_pos z3, p_crease (k := 1 + 4) q6 (by omega) hC.2.2.2.2.2.2.1 h8 (by omega), bI_s] at h
          cases hx : crA (ixL (plF F)) (F 1) l with
          | some x =>
            have hxl := crA_lt hx
            rw [hx] at h
            rw [if_neg (show ¬ (crZ (some x) = -1) by rw [zl_1, zm1]; show ¬ (zI x = zM); rw [zI_zM (by omega)]; exact id)] at h
            have h' : bI (f_X8_denied 4 (zI x) w) (fun r2 w2 => some (r2, w2)) = some (-(zI 2), w) := h
            rw [zl_4, den_c, bI_s] at h'
            exact negz (by omega) (Or.inr rfl) (sj h')
          | none =>
            rw [hx, if_pos (show crZ none = -1 from rfl)] at h
            exact negz (x := 0) (by omega) (Or.inr rfl) (sj h)
        · rw [if_neg z3, zl_2, den_c, bI_s] at h; exact negz (by omega) (Or.inr rfl) (sj h)
      · rw [if_neg z2] at h; exact absurd (sj h) (by decide)
theorem je_7 (h : f_X8_judge 1 7 a b c w = some (-(zI 2), w)) : False := by
  rw [jd_7] at h
  cases hh : f_X5_has 7 a w with
  | none => rw [hh] at h; cases h
  | some q =>
    rw [hh] at h
    have h' : (if q.1 = 0 then some ((-1 : Int32), q.2) else some (0, q.2)) = some (-(zI 2), w) := h
    by_cases z : q.1 = 0
    · rw [if_pos z] at h'; exact absurd (congrArg Prod.fst (Option.some.inj h')) (by show ¬ ((-1 : Int32) = -(zI 2)); decide)
    · rw [if_neg z] at h'; exact absurd (congrArg Prod.fst (Option.some.inj h')) (by show ¬ ((0 : Int32) = -(zI 2)); decide)
theorem jd7_no {n d : Nat} (h1 : 1 ≤ n) (h2 : n ≤ 7) (hd : d < 100) (h : f_X8_judge 1 7 a b c w = some (zI (n * 100 + d), w)) : False := by
  rw [jd_7] at h
  cases hh : f_X5_has 7 a w with
  | none => rw [hh] at h; cases h
  | some q =>
    rw [hh] at h
    have h' : (if q.1 = 0 then some ((-1 : Int32), q.2) else some (0, q.2)) = some (zI (n * 100 + d), w) := h
    by_cases z : q.1 = 0
    · rw [if_pos z] at h'
      have h3 : (-1 : Int32) = zI (n * 100 + d) := congrArg Prod.fst (Option.some.inj h')
      have h4 := zI_zM (a := n * 100 + d) (by omega)
      rw [← h3] at h4
      exact (h4 ▸ rfl : False).elim
    · rw [if_neg z] at h'
      have h3 : (0 : Int32) = zI (n * 100 + d) := congrArg Prod.fst (Option.some.inj h')
      rw [zl_0, zI_inj (by omega) (by omega)] at h3
      omega
theorem reqPh {F : Nat → Nat} (hI : Inv F) {a : Int32} {w : XW} (hC : Cls w.1 1 F) : (∃ i, i < F 2 ∧ a = zI i) ∨ f_X5_has 7 a w = some (zI 0, w) := by
  have a3 := hI.2.2.1
  rcases zI_cases a with h | ⟨x, hx, rfl⟩
  · exact Or.inr (i_hasN h)
  · by_cases z : x < F 2
    · exact Or.inl ⟨x, z, rfl⟩
    · exact Or.inr (i_hasF hC.2.2.2.2.2.2.2.1 a3 hx (by omega))
theorem je_br (x : Int32) (hI : Inv F) (hC : Cls w.1 1 F) (h : f_X8_judgeBroken 1 a x w = some (-(zI 2), w)) : False := by
  have a3 := hI.2.2.1
  unfold f_X8_judgeBroken at h
  rcases reqPh hI (a := a) hC with ⟨i, hi, rfl⟩ | hno
  · have h8 := hI.2.2.2.2.2.2.2 i hi
    rw [show (1 : Nat) + 6 = 7 from rfl, i_hasT hC.2.2.2.2.2.2.2.1 a3 hi, bI_s, if_neg (show ¬ (zI 1 = 0) by decide), i_broken hC.2.2.2.2.2.2.2.1 a3 hi (hC.2.2.2.2.2.2.2.2.1 i hi).2.2.2 h8.2.2.2.2.2, bI_s, i_width hC.2.2.2.2.2.2.2.1 a3 hi (hC.2.2.2.2.2.2.2.2.1 i hi).2.2.1, bI_s, zl_6, den_c, bI_s] at h
    by_cases z : zI (F (29 + 4 * i)) = x
    · rw [if_pos z] at h; exact negz (x := 0) (by omega) (Or.inr rfl) (sj h)
    · rw [if_neg z] at h; exact negz (by omega) (Or.inr rfl) (sj h)
  · rw [show (1 : Nat) + 6 = 7 from rfl, hno, bI_s, if_pos (show zI 0 = 0 from rfl)] at h
    exact absurd (sj h) (by decide)
end
theorem q_addSection (B : Nat) : QX B (B + 1600) f_X10_addSection f_X11_addSection [(uoe, 1)] := qx_chg (op_add 0 0 0) 1 B (fun w => rfl) (fun w => rfl) (fun w F e hI hC he h => (je_0 he h).elim) (fun w n d h1 h2 h3 h => List.mem_cons_self)
theorem q_pour (B : Nat) (x : Int32) (y : Int32) : QX B (B + 1600) (f_X10_pour x y) (f_X11_pour x y) [(ioobe, 1), (iae, 2), (uoe, 3)] := qx_chg (op_pour x y 0) 3 B (fun w => rfl) (fun w => rfl) (fun w F e hI hC he h => by rcases he with rfl | rfl; exact List.mem_cons_self; exact List.mem_cons_of_mem _ List.mem_cons_self) (fun w n d h1 h2 h3 h => List.mem_cons_of_mem _ (List.mem_cons_of_mem _ List.mem_cons_self))
theorem q_tag (B : Nat) (x : Int32) (y : Int32) (hy : ¬ y < 0) : QX B (B + 1600) (f_X10_tag x y) (f_X11_tag x y) [(ioobe, 1), (iae, 2), (uoe, 3)] := qx_chg (op_tag x y 0 hy) 3 B (fun w => rfl) (fun w => rfl) (fun w F e hI hC he h => by rcases he with rfl | rfl; exact List.mem_cons_self; exact List.mem_cons_of_mem _ List.mem_cons_self) (fun w n d h1 h2 h3 h => List.mem_cons_of_mem _ (List.mem_cons_of_mem _ List.mem_cons_self))
theorem q_untag (B : Nat) (x : Int32) (y : Int32) (hy : ¬ y < 0) : QX B (B + 1600) (f_X10_untag x y) (f_X11_untag x y) [(ioobe, 1), (iae, 2), (uoe, 3)] := qx_chg (op_untag x y 0 hy) 3 B (fun w => rfl) (fun w => rfl) (fun w F e hI hC he h => by rcases he with rfl | rfl; exact List.mem_cons_self; exact List.mem_cons_of_mem _ List.mem_cons_self) (fun w n d h1 h2 h3 h => List.mem_cons_of_mem _ (List.mem_cons_of_mem _ List.mem_cons_self))
theorem q_fold (B : Nat) (x : Int32) : QX B (B + 1600) (f_X10_fold x) (f_X11_fold x) [(ioobe, 1), (uoe, 2)] := qx_chg (op_fold x 0 0) 2 B (fun w => rfl) (fun w => rfl) (fun w F e hI hC he h => by rcases he with rfl | rfl; exact List.mem_cons_self; exact (je_4 hI hC h).elim) (fun w n d h1 h2 h3 h => List.mem_cons_of_mem _ List.mem_cons_self)
theorem q_unfold (B : Nat) : QX B (B + 1600) f_X10_unfold f_X11_unfold [(uoe, 1)] := qx_chg (op_open 0 0 0) 1 B (fun w => rfl) (fun w => rfl) (fun w F e hI hC he h => (je_5 hI hC he h).elim) (fun w n d h1 h2 h3 h => List.mem_cons_self)
theorem q_layPipe (B : Nat) (x : Int32) (y : Int32) (z : Int32) : QX B (B + 1600) (f_X10_layPipe x y z) (f_X11_layPipe x y z) [(ioobe, 1), (iae, 2), (uoe, 3)] := qx_chg (op_pipe x y z) 3 B (fun w => rfl) (fun w => rfl) (fun w F e hI hC he h => by rcases he with rfl | rfl; exact List.mem_cons_self; exact List.mem_cons_of_mem _ List.mem_cons_self) (fun w n d h1 h2 h3 h => List.mem_cons_of_mem _ (List.mem_cons_of_mem _ List.mem_cons_self))
theorem q_removePipe (B : Nat) (x : Int32) : QX B (B + 1600) (f_X10_removePipe x) (f_X11_removePipe x) [(ioobe, 1)] := qx_chg (op_cut x 0 0) 1 B (fun w => rfl) (fun w => rfl) (fun w F e hI hC he h => by rcases he with rfl | rfl; exact List.mem_cons_self; exact (je_7 h).elim) (fun w n d h1 h2 h3 h => (jd7_no h1 h2 h3 h).elim)
theorem q_breakPipe (B : Nat) (x : Int32) : QX B (B + 1600) (f_X10_breakPipe x) (f_X11_breakPipe x) [(ioobe, 1), (uoe, 2)] := qx_chg (op_break x 0 0) 2 B (fun w => rfl) (fun w => rfl) (fun w F e hI hC he h => by rcases he with rfl | rfl; exact List.mem_cons_self; exact (je_br 0 hI hC (by rw [← jd_8 x 0 0 w]; exact h)).elim) (fun w n d h1 h2 h3 h => List.mem_cons_of_mem _ List.mem_cons_self)
theorem q_mendPipe (B : Nat) (x : Int32) : QX B (B + 1600) (f_X10_mendPipe x) (f_X11_mendPipe x) [(ioobe, 1), (uoe, 2)] := qx_chg (op_mend x 0 0) 2 B (fun w => rfl) (fun w => rfl) (fun w F e hI hC he h => by rcases he with rfl | rfl; exact List.mem_cons_self; exact (je_br 1 hI hC (by rw [← jd_9 x 0 0 w]; exact h)).elim) (fun w n d h1 h2 h3 h => List.mem_cons_of_mem _ List.mem_cons_self)
theorem q_drain (B : Nat) : QX B (B + 1600) f_X10_drain f_X11_drain [(uoe, 1)] := qx_chg (op_drain 0 0 0) 1 B (fun w => rfl) (fun w => rfl) (fun w F e hI hC he h => (je_10 hI hC he h).elim) (fun w n d h1 h2 h3 h => List.mem_cons_self)
theorem q_seep (B : Nat) : QX B (B + 1600) f_X10_seep f_X11_seep [(uoe, 1)] := qx_chg (op_seep 0 0 0) 1 B (fun w => rfl) (fun w => rfl) (fun w F e hI hC he h => (je_11 hI hC he h).elim) (fun w n d h1 h2 h3 h => List.mem_cons_self)
