/-! what each change means for the law's looks -/
theorem rvX_B : alB (fun n => alP (fun P => (crA (ixL (rvL P n)) n (ixL P n)).isNone) (piles (n + 1))) 7 = true := by decide +kernel
theorem rvX {n : Nat} (hn : n < 7) {P : List Nat} (h : P ∈ piles (n + 1)) : crA (ixL (rvL P n)) n (ixL P n) = none := by
  have h1 := alP_at (alB_at rvX_B n hn) P h
  cases hx : crA (ixL (rvL P n)) n (ixL P n) with
  | none => rfl
  | some x => rw [hx] at h1; cases h1
section
variable {F G : Nat → Nat} {ans l p : Nat} {a : Int32}
theorem fact_open (hI : Inv F) (h : 1 ≤ F 1 ∧ ans = ixL (plF F) (F 1 - 1) ∧ G = takF F ans) : G 1 = F 1 - 1 ∧ G 1 < G 0 ∧ ans ≤ G 1 ∧ cfN G ans = 1 := by
  obtain ⟨h1, h2, h3⟩ := h
  subst h2
  subst h3
  have h7 := hI.1
  have h71 := hI.2.1
  obtain ⟨m, hm⟩ : ∃ m, F 1 = m + 1 := ⟨F 1 - 1, by omega⟩
  have hm7 : m < 7 := by omega
  have a6 : plF F ∈ piles (m + 1) := hm ▸ hI.2.2.2.2.2.1
  obtain ⟨r1, r2, r3, r4⟩ := piles_rm hm7 a6
  obtain ⟨_, s1, s2⟩ := piles_ok (show m + 1 ≤ 7 by omega) a6
  have hsm := s1 m (by omega)
  rw [hm, Nat.add_sub_cancel]
  have hG1 : takF F (ixL (plF F) m) 1 = m := by unfold takF; rw [if_pos rfl, hm, Nat.add_sub_cancel]
  have hG0 : takF F (ixL (plF F) m) 0 = F 0 := by unfold takF; rw [if_neg (by omega), if_neg (by omega), if_neg (by omega)]
  have hget : ∀ j, j < m → takF F (ixL (plF F) m) (19 + j) = gtL (rvL (plF F) m) j := fun j hj => by
    rw [r4 j hj]
    unfold takF
    rw [if_neg (by omega), hm, Nat.add_sub_cancel, if_neg (by omega)]
    by_cases z : j < ixL (plF F) m
    · rw [if_neg (by omega), if_pos z, plF_get (by omega)]
    · rw [if_pos (by omega), if_neg z, plF_get (by omega)]
      congr 1
  have hpl : plF (takF F (ixL (plF F) m)) = rvL (plF F) m := plF_ext (by rw [hG1]; exact (piles_ok (by omega) r1).1) (fun j hj => by rw [hG1] at hj; exact hget j hj)
  refine ⟨hG1, by omega, by omega, ?_⟩
  unfold cfN
  rw [hG1, hG0, if_neg (by omega), hpl, if_pos (rvX hm7 a6)]
theorem fact_fold (h : ∃ l', zI l = zI l' ∧ l' ≤ F 1 ∧ F 1 < F 0 ∧ ans = F 1 + 1 ∧ G = putF F l' ∧ crA (ixL (plF F)) (F 1) l' = none) (hl : l < 2147483648) (hI : Inv F) : ans = F 1 + 1 ∧ cfN F l = 1 ∧ l < G 1 ∧ gtL (plF G) l = F 1 := by
  obtain ⟨l', e, h1, h2, h3, h4, h5⟩ := h
  have h7 := hI.1
  rw [zI_inj hl (by omega)] at e
  subst e
  subst h4
  have hG1 : putF F l 1 = F 1 + 1 := by unfold putF; rw [if_pos rfl]
  refine ⟨h3, ?_, by omega, ?_⟩
  · unfold cfN; rw [if_neg (by omega), if_pos h5]
  · rw [plF_get (by omega)]
    unfold putF
    rw [if_neg (by omega), if_pos rfl]
theorem mcF_fun {F G : Nat → Nat} {u v n : Nat} (h : ctV F u = ctV G v) : mcF F u n = mcF G v n := by unfold mcF; rw [h]
theorem mc_brk (hI : Inv F) (hp : p < F 2) (x : Nat) (hx : x ≠ 0) : mcF (uF F (29 + 4 * p) x) 99 (F 0) = mcF F p (F 0) := by
  have h10 := hI.2.2.1
  refine mcF_fun (funext fun s => ?_)
  unfold ctV
  rw [uF_ne _ (by omega)]
  refine sm_congr fun q hq => ?_
  unfold ctP
  by_cases z : q = p
  · subst z
    rw [uF_hit, if_neg (fun h => hx h.1), if_neg (fun h => h.2.1 rfl)]
  · rw [uF_ne _ (by omega), uF_ne _ (show 26 + 4 * q ≠ 29 + 4 * p by omega), uF_ne _ (show 27 + 4 * q ≠ 29 + 4 * p by omega), uF_ne _ (show 28 + 4 * q ≠ 29 + 4 * p by omega)]
    have e : (F (29 + 4 * q) = 0 ∧ q ≠ 99 ∧ bt s (F (26 + 4 * q)) = 1 ∧ bt s (F (27 + 4 * q)) = 0) = (F (29 + 4 * q) = 0 ∧ q ≠ p ∧ bt s (F (26 + 4 * q)) = 1 ∧ bt s (F (27 + 4 * q)) = 0) := propext ⟨fun h => ⟨h.1, z, h.2.2⟩, fun h => ⟨h.1, by omega, h.2.2⟩⟩
    simp only [e]
theorem mc_mend (hI : Inv F) (hp : p < F 2) (h1 : F (29 + 4 * p) = 1) : mcF (uF F (29 + 4 * p) 0) p (F 0) = mcF F 99 (F 0) := by
  have h10 := hI.2.2.1
  refine mcF_fun (funext fun s => ?_)
  unfold ctV
  rw [uF_ne _ (by omega)]
  refine sm_congr fun q hq => ?_
  unfold ctP
  by_cases z : q = p
  · subst z
    rw [if_neg (fun h => h.2.1 rfl), if_neg (fun h => by omega)]
  · rw [uF_ne _ (show 29 + 4 * q ≠ 29 + 4 * p by omega), uF_ne _ (show 26 + 4 * q ≠ 29 + 4 * p by omega), uF_ne _ (show 27 + 4 * q ≠ 29 + 4 * p by omega), uF_ne _ (show 28 + 4 * q ≠ 29 + 4 * p by omega)]
    have e : (F (29 + 4 * q) = 0 ∧ q ≠ 99 ∧ bt s (F (26 + 4 * q)) = 1 ∧ bt s (F (27 + 4 * q)) = 0) = (F (29 + 4 * q) = 0 ∧ q ≠ p ∧ bt s (F (26 + 4 * q)) = 1 ∧ bt s (F (27 + 4 * q)) = 0) := propext ⟨fun h => ⟨h.1, z, h.2.2⟩, fun h => ⟨h.1, by omega, h.2.2⟩⟩
    simp only [e]
theorem fact_drain (h : 2 ≤ F 0 ∧ ans = minF (F 5) (mcF F 99 (F 0)) ∧ ∃ L, L ≤ ans ∧ G = drF F ans L) : G 0 = F 0 ∧ G 5 = F 5 - ans ∧ F 4 ≤ G 4 ∧ G 4 ≤ F 4 + ans := by
  obtain ⟨h1, h2, L, h3, h4⟩ := h
  subst h4
  have hov := (ov_tk ((uF (uF F 5 (F 5 - ans)) 4 (F 4 + L)) (5 + (F 0 - 1))) (ans - L)).1
  unfold drF comF
  refine ⟨by rw [uF_ne _ (by omega), uF_ne _ (by omega), uF_ne _ (by omega), uF_ne _ (by omega)], by rw [uF_ne _ (by omega), uF_ne _ (by omega), uF_ne _ (by omega), uF_hit], ?_, ?_⟩
  · rw [uF_ne _ (by omega), uF_hit, uF_hit]; omega
  · rw [uF_ne _ (by omega), uF_hit, uF_hit]; omega
end
/-! seeping: the excess goes down or leaks -/
/-- the excess of the folded sections -/
def exF (F : Nat → Nat) : Nat := sm (fun j => F (5 + F (19 + j)) - 20) (F 1)
