/-! the change, and what is looked at behind it -/
theorem kdN_v {k : Nat} : (k < 3 → kdN k = 0) ∧ (3 ≤ k → k < 8 → kdN k = 1) ∧ (14 ≤ k → k < 21 → kdN k = 4) ∧ (21 ≤ k → k < 23 → kdN k = 5) ∧ (31 ≤ k → k < 33 → kdN k = 8) ∧ (33 ≤ k → k < 35 → kdN k = 9) ∧ (35 ≤ k → k < 40 → kdN k = 10) ∧ (40 ≤ k → k < 44 → kdN k = 11) ∧ (k < 35 → kdN k < 10) := by
  unfold kdN
  refine ⟨fun h => ?_, fun h h2 => ?_, fun h h2 => ?_, fun h h2 => ?_, fun h h2 => ?_, fun h h2 => ?_, fun h h2 => ?_, fun h h2 => ?_, fun h => ?_⟩ <;> (repeat' split) <;> omega
theorem agN_v {k a l p : Nat} : (3 ≤ k → k < 14 → agN k a l p = a) ∧ (14 ≤ k → k < 21 → agN k a l p = l) ∧ (30 ≤ k → k < 35 → agN k a l p = p) := by
  unfold agN
  refine ⟨fun h h2 => ?_, fun h h2 => ?_, fun h h2 => ?_⟩ <;> (repeat' split) <;> omega
section
variable {sc : Nat × (Nat → Int32)} {K : Int32 → Int32 → Int32 → XW → Option (Int32 × XW)} {B : Nat} {w : XW} {F : Nat → Nat} {hs : Nat → Nat → Nat} {n nx made c t k a l p : Nat} {z17 z18 z19 z20 z22 : Int32}
theorem t_258 (hsc : sc.1 < 2147483648) (hc : c + 10 < 2147483648) (hR : RC B w F hs n nx) (hB : B + 1600 < 16777216) (hm : made + 1 < 70) (ht : t < 1000) (hk : k < 46) (ha : a < 10) (hl : l ≤ F 1) (hp : p < 2147483648)
    (h17 : a < F 0 → z17 = zI (F (5 + a))) (h18 : 2 ≤ F 0 → z18 = zI (mcF F 99 (F 0))) (h19 : p < F 2 → z19 = zI (mcF F 99 (F 0) - mcF F p (F 0))) (h20 : p < F 2 → z20 = zI (F (29 + 4 * p))) (h22 : F 0 ≠ 0 → z22 = zI (F 5))
    (hKr : ∀ w' G, RC (B + 1600) w' G (hcons F hs) (n8 n) ((nx + 1) % 8) → w'.2 = w.2 → OK (K (zI (made + 1)) (zI (c + 5)) (zI (t + 1)) (lset w' (made + 1) (sumV G))))
    (hKn : ∀ w', RC B w' F hs n nx → w'.2 = w.2 → OK (K (zI made) (zI (c + 5)) (zI (t + 1)) w')) :
    OK (f_L_law_258 sc K (zI made) (zI c) (zI t) (sumV F) (zI n) (zI k) (zI (F 0)) (zI a) (zI (F 1)) (zI l) (zI p) (zI (cfN F l)) z17 z18 z19 z20 (zI (F 4)) z22 w) := by
  have hI := hR.2.1
  have h7 := hI.1
  have h71 := hI.2.1
  have e5 : zI c + 5 = zI (c + 5) := by rw [zl_5, zI_add]
  obtain ⟨r, w1, e, e2, hD⟩ := l_does (p := p) hsc (c := c) (by omega) hR hk ha (show l < 10 by omega)
  unfold f_L_law_258
  rw [l_over hR.2.2.1 hI, bI_s, e, bI_s]
  rcases hD with ⟨hr, hR1, hf, hd, hse⟩ | ⟨v, G, hv, hr, hR1, hko⟩
  · have hI1 := hR1.2.1
    rw [if_pos hr]
    refine t_chain (v := 0) (G := F) hR1.2.2.1 hI hI (by omega) (by omega) (by have := hR.1; omega) (by have := hR.1; omega) (fun h => absurd h (by decide)) (Or.inl rfl) (fun g1 g2 => Or.inl ⟨rfl, hse g1 g2⟩) (fun g1 g2 => Or.inl ⟨rfl, hd g1 g2⟩) (fun h => absurd rfl h) (fun h => absurd rfl h) (fun h => absurd rfl h) (fun g1 g2 => ?_) (fun h => absurd rfl h) (fun w2 f2 => t_794 fun u0 => ?_)
    · obtain ⟨x1, x2⟩ := hf g1 g2 hl
      exact Or.inl ⟨rfl, by rw [x2], x1⟩
    · rw [e5]
      exact t_822n hsc (by omega) (hR1.q f2) (by omega) ht rfl rfl fun w3 f3 => hKn w3 ((hR1.q f2).fr f3) (f3.2.trans (f2.2.trans e2))
  · have hI1 := hR1.2.1
    have hRG := hR1.1
    subst hr
    obtain ⟨k0, k1, k4, k5, k8, k9, k10, k11, k35⟩ := @kdN_v k
    obtain ⟨g3, g14, g30⟩ := @agN_v k a l p
    rw [if_neg (by rw [Int32.le_iff_toInt_le, zI_toInt (by omega), show (-70 : Int32).toInt = -70 from rfl]; omega)]
    refine t_chain (v := v) (G := G) hR1.2.2.1 hI hI1 (by omega) hv (by have := hR.1; omega) (by omega) (fun _ => rfl) ?_ (fun x1 x2 => Or.inr ?_) (fun x1 x2 => Or.inr ?_) (fun _ x1 x2 => ?_) (fun _ x1 x2 => ?_) (fun _ x1 x2 => ?_) (fun x1 x2 => Or.inr ?_) (fun _ x1 x2 => ?_) (fun w2 f2 => t_794 fun u0 => ?_)
    · by_cases z : 34 < k
      · exact Or.inr (Or.inl z)
      · have h10 := k35 (by omega)
        exact Or.inr (Or.inr ((hko (by omega)).1 (fun e => by rw [show (10 : Int32) = zI 10 from rfl, zI_inj (by omega) (by omega)] at e; omega) (fun e => by rw [show (11 : Int32) = zI 11 from rfl, zI_inj (by omega) (by omega)] at e; omega)))
    · have q := (hko (by omega)).2.2.2.2.2.2.2 (by rw [k11 x1 (by omega)]; rfl)
      exact ⟨rfl, fact_seep hI q⟩
    · have q := (hko (by omega)).2.2.2.2.2.2.1 (by rw [k10 x1 (by omega)]; rfl)
      obtain ⟨d1, d2, d3, d4⟩ := fact_drain q
      have h99 := (hI.2.2.2.2.1 0 (by omega)).1
      rw [Nat.add_zero] at h99
      have hm200 := mcF_le (wo := 99) hI q.1
      exact ⟨rfl, mcF F 99 (F 0), by omega, h18 q.1, by omega, h22 (by omega), q.2.1, by omega, d2, d3, d4⟩
    · obtain ⟨p', e1, e2', e3, e4⟩ := (hko (by omega)).2.2.2.2.2.1 (by rw [k9 x1 (by omega)]; rfl)
      rw [g30 (by omega) (by omega), zI_inj hp (by have := hI.2.2.1; omega)] at e1
      subst e1
      subst e4
      have h8 := hI.2.2.2.2.2.2.2 p e2'
      have g2 : uF F (29 + 4 * p) 0 2 = F 2 := uF_ne _ (by omega)
      have g0 : uF F (29 + 4 * p) 0 0 = F 0 := uF_ne _ (by omega)
      have hlb := (loss_B hI1 (x := p) (by rw [g2]; exact e2')).1
      have hmm := mc_mend hI e2' e3
      have hm200 := mcF_le (wo := 99) hI (show 2 ≤ F 0 by omega)
      rw [g0] at hlb
      rw [g0, hmm, g2]
      rw [hmm] at hlb
      exact ⟨by rw [h20 e2', e3], e2', rfl, mcF F 99 (F 0), by omega, h18 (by omega), by omega⟩
    · obtain ⟨p', e1, e2', e3, e4⟩ := (hko (by omega)).2.2.2.2.1 (by rw [k8 x1 (by omega)]; rfl)
      rw [g30 (by omega) (by omega), zI_inj hp (by have := hI.2.2.1; omega)] at e1
      subst e1
      subst e4
      have h8 := hI.2.2.2.2.2.2.2 p e2'
      have g2 : uF F (29 + 4 * p) 1 2 = F 2 := uF_ne _ (by omega)
      have g0 : uF F (29 + 4 * p) 1 0 = F 0 := uF_ne _ (by omega)
      obtain ⟨L1, L2⟩ := loss_B hI e2'
      rw [if_neg (by omega)] at L2
      have hm200 := mcF_le (wo := 99) hI (show 2 ≤ F 0 by omega)
      rw [g0, g2, mc_brk hI e2' 1 (by omega), uF_ne _ (show 28 + 4 * p ≠ 29 + 4 * p by omega)]
      exact ⟨e2', rfl, mcF F 99 (F 0), mcF F 99 (F 0) - mcF F p (F 0), by omega, h18 (by omega), h19 e2', by omega, by omega, by omega⟩
    · have q := (hko (by omega)).2.2.2.1 (by rw [k5 x1 (by omega)]; rfl)
      obtain ⟨o1, o2, o3, o4⟩ := fact_open hI q
      exact ⟨q.1, by omega, o1, o2, rfl, o3, o4⟩
    · have q := (hko (by omega)).2.2.1 (by rw [k4 x1 (by omega)]; rfl)
      rw [g14 x1 (by omega)] at q
      obtain ⟨o1, o2, o3, o4⟩ := fact_fold q (by omega) hI
      exact ⟨rfl, by rw [o2], by rw [o1], o3, o4⟩
    · obtain ⟨i, e1, e2', e3, e4⟩ := (hko (by omega)).2.1 (by rw [k1 x1 (by omega)]; rfl)
      rw [g3 x1 (by omega), zI_inj (by omega) (by omega)] at e1
      subst e1
      have hG7 := hI1.1
      have haG : a < G 0 := by
        by_cases z : a < G 0
        · exact z
        · have := ((hI1.2.2.2.2.1 a (by omega)).2.2 (by omega)).1; omega
      exact ⟨haG, by rw [e3], F (5 + a), e4, h17 e2'⟩
    · rw [e5]
      exact t_822r hsc (by omega) (hR1.q f2) (by omega) hm ht fun w3 f3 => hKr w3 G ((hR1.q f2).fr f3) (f3.2.trans (f2.2.trans e2))
end
