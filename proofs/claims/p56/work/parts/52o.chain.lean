/-! the looks of one turn, all of them -/
section
variable {sc : Nat × (Nat → Int32)} {K : Int32 → Int32 → Int32 → XW → Option (Int32 × XW)} {w : XW} {F G : Nat → Nat} {k a l p v : Nat} {z6 : Int64} {z3 z4 z5 z8 z16 z17 z18 z19 z20 z22 z24 z25 : Int32}
theorem t_chain (hC : Cls w.1 1 G) (hIF : Inv F) (hI : Inv G) (hk : k < 1000) (hv : v < 1000) (hB : F 3 < 16777216) (hBG : G 3 < 16777216) (h24 : z25 = 1 → z24 = zI v)
    (h34 : z25 = 0 ∨ 34 < k ∨ G 4 = F 4)
    (h40 : 40 ≤ k → k ≤ 43 → (z25 = 0 ∧ F 1 = 0 ∧ w.1 0 12 = zI 3) ∨ (z25 = 1 ∧ zI v = zI (G 4) - zI (F 4) ∧ v ≤ ovS F (F 1) ∧ ovS G (G 1) = 0))
    (h35 : 35 ≤ k → k ≤ 39 → (z25 = 0 ∧ F 0 < 2 ∧ w.1 0 12 = zI 7 ∧ w.1 0 13 = zI (F 0)) ∨ (z25 = 1 ∧ ∃ fl, fl < 1000 ∧ z18 = zI fl ∧ F 5 < 1000 ∧ z22 = zI (F 5) ∧ v = minF (F 5) fl ∧ 1 ≤ G 0 ∧ G 5 = F 5 - v ∧ F 4 ≤ G 4 ∧ G 4 ≤ F 4 + v))
    (h33 : z25 ≠ 0 → 33 ≤ k → k ≤ 34 → z20 = zI 1 ∧ p < G 2 ∧ zI p = zI p ∧ ∃ fl, fl < 1000 ∧ z18 = zI fl ∧ mcF G 99 (G 0) = fl + (mcF G 99 (G 0) - mcF G p (G 0)))
    (h31 : z25 ≠ 0 → 31 ≤ k → k ≤ 32 → p < G 2 ∧ zI p = zI p ∧ ∃ fl ls, fl < 1000 ∧ z18 = zI fl ∧ z19 = zI ls ∧ ls ≤ fl ∧ mcF G 99 (G 0) = fl - ls ∧ ls ≤ G (28 + 4 * p))
    (h21 : z25 ≠ 0 → 21 ≤ k → k ≤ 22 → 1 ≤ F 1 ∧ F 1 ≤ 7 ∧ G 1 = F 1 - 1 ∧ G 1 < G 0 ∧ z24 = zI v ∧ v ≤ G 1 ∧ cfN G v = 1)
    (h14 : 14 ≤ k → k ≤ 20 → (z25 = 0 ∧ z16 = zI 0 ∧ w.1 0 12 = zI (if F 1 = F 0 then 2 else 4)) ∨ (z25 = 1 ∧ z16 = zI 1 ∧ z24 = zI (F 1 + 1) ∧ l < G 1 ∧ gtL (plF G) l = F 1))
    (h3 : z25 ≠ 0 → 3 ≤ k → k ≤ 7 → a < G 0 ∧ z24 = zI (G (5 + a)) ∧ ∃ x, x < G (5 + a) ∧ z17 = zI x)
    (fin : ∀ w1, Fr KQ w w1 → OK (f_L_law_794 sc K z3 z4 z5 z6 z8 z25 1 1 w1)) :
    OK (f_L_law_295 sc K z3 z4 z5 z6 z8 (zI k) (zI (F 0)) (zI a) (zI (F 1)) (zI l) (zI p) z16 z17 z18 z19 z20 (zI (F 4)) z22 (zI (ovS F (F 1))) z24 z25 w) := by
  have h7 := hIF.1
  have h71 := hIF.2.1
  have h4F := hIF.2.2.2.1
  have h4G := hI.2.2.2.1
  have hov : ovS F (F 1) < 2147483648 := by
    have := sm_bound (G := fun i => F (5 + i) - 20) (c := 99) (F 1) (fun i hi => by have := (hIF.2.2.2.2.1 i (by omega)).1; omega)
    unfold ovS
    omega
  refine t_295 hC hI hk h3 (t_333 hC hI hk ⟨h7, by omega⟩ h14 (t_419 hC hI hk rfl h21 (t_482 hC hI hk h31 fun w1 f1 => ?_)))
  have hC1 := KQ.c hC f1
  refine t_534 hC1 hI hk h33 fun w2 f2 => ?_
  have f3 := f1.tr f2
  have hC2 := KQ.c hC f3
  have e0 : ∀ c, w2.1 0 c = w.1 0 c := fun c => f3.at (by unfold KQ; omega) c
  refine t_585 hC2 hI hk hv h7 (by omega) (by omega) h24 (fun g1 g2 => ?_) (t_687 hC2 hI hk (by omega) hov (by omega) h24 (fun g1 g2 => ?_) (t_758 hC2 hk h34 (fin w2 f3)))
  · rw [e0, e0]; exact h35 g1 g2
  · rw [e0]; exact h40 g1 g2
end
