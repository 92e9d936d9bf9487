/-! seeping, layer by layer: what lies above 20 goes down or leaks -/
section
variable {F H : Nat → Nat}
theorem lay_in (hI : Inv F) {l : Nat} (hl : l < F 1) : F (19 + l) < F 1 ∧ ixL (plF F) (F (19 + l)) = l := by
  have h7 := hI.1
  have h71 := hI.2.1
  obtain ⟨_, s1, s2⟩ := piles_ok (by omega) hI.2.2.2.2.2.1
  have := s2 l hl
  rw [plF_get hl] at this
  exact this
theorem step_up (hI : Inv F) (h : Sp F H) {l : Nat} (hl : l < F 1) : ovS (stepF H l) (F 1) + stepF H l 4 ≤ ovS H (F 1) + H 4 := by
  have h7 := hI.1
  have h71 := hI.2.1
  obtain ⟨s1, s2⟩ := lay_in hI hl
  have e19 : ∀ j, j < 7 → H (19 + j) = F (19 + j) := fun j hj => h.2.1 _ (by omega) (by omega) (by omega)
  unfold stepF
  rw [e19 l (by omega)]
  by_cases hw : H (5 + F (19 + l)) ≤ 20
  · rw [if_pos hw]; exact Nat.le_refl _
  · rw [if_neg hw]
    by_cases z : l = 0
    · rw [if_pos z, uF_hit]
      have e := sm_off (G := fun i => H (5 + i) - 20) (G' := fun i => uF (uF H (5 + F (19 + l)) 20) 4 (H 4 + (H (5 + F (19 + l)) - 20)) (5 + i) - 20) (x := F (19 + l)) (n := F 1) (fun k hk hne => by
        show uF (uF H (5 + F (19 + l)) 20) 4 (H 4 + (H (5 + F (19 + l)) - 20)) (5 + k) - 20 = H (5 + k) - 20
        rw [uF_ne _ (by omega), uF_ne _ (by omega)]) s1
      have e2 : uF (uF H (5 + F (19 + l)) 20) 4 (H 4 + (H (5 + F (19 + l)) - 20)) (5 + F (19 + l)) = 20 := by rw [uF_ne _ (by omega), uF_hit]
      simp only [e2] at e
      unfold ovS
      omega
    · rw [if_neg z, e19 (l - 1) (by omega)]
      obtain ⟨t1, t2⟩ := lay_in hI (show l - 1 < F 1 by omega)
      have hne : F (19 + (l - 1)) ≠ F (19 + l) := fun e => by rw [e, s2] at t2; omega
      obtain ⟨s, hs⟩ : ∃ s, s = F (19 + l) := ⟨_, rfl⟩
      obtain ⟨t, ht⟩ : ∃ t, t = F (19 + (l - 1)) := ⟨_, rfl⟩
      rw [← hs] at hw hne s1 ⊢
      rw [← ht] at hne t1 ⊢
      have hot := (ov_tk (H (5 + t)) (H (5 + s) - 20)).1
      have c4 : comF (uF H (5 + s) 20) t (H (5 + s) - 20) 4 = H 4 + ovF (H (5 + t)) (H (5 + s) - 20) := by
        unfold comF
        rw [uF_ne _ (by omega), uF_hit, uF_ne _ (by omega), uF_ne _ (by omega)]
      have ct : comF (uF H (5 + s) 20) t (H (5 + s) - 20) (5 + t) = H (5 + t) + tkF (H (5 + t)) (H (5 + s) - 20) := by
        unfold comF
        rw [uF_hit, uF_ne _ (by omega)]
      have cs : comF (uF H (5 + s) 20) t (H (5 + s) - 20) (5 + s) = 20 := by
        unfold comF
        rw [uF_ne _ (by omega), uF_ne _ (by omega), uF_hit]
      have co : ∀ k, k ≠ s → k ≠ t → comF (uF H (5 + s) 20) t (H (5 + s) - 20) (5 + k) = H (5 + k) := fun k h1 h2 => by
        unfold comF
        rw [uF_ne _ (by omega), uF_ne _ (by omega), uF_ne _ (by omega)]
      have e1 := sm_off (G := fun i => H (5 + i) - 20) (G' := fun i => (if i = s then 20 else H (5 + i)) - 20) (x := s) (n := F 1) (fun k hk hne => by
        show (if k = s then 20 else H (5 + k)) - 20 = H (5 + k) - 20
        rw [if_neg hne]) s1
      have e2 := sm_off (G := fun i => (if i = s then 20 else H (5 + i)) - 20) (G' := fun i => comF (uF H (5 + s) 20) t (H (5 + s) - 20) (5 + i) - 20) (x := t) (n := F 1) (fun k hk hne2 => by
        show comF (uF H (5 + s) 20) t (H (5 + s) - 20) (5 + k) - 20 = (if k = s then 20 else H (5 + k)) - 20
        by_cases q : k = s
        · rw [if_pos q, q, cs]
        · rw [if_neg q, co k q hne2]) t1
      have g1 : (if s = s then 20 else H (5 + s)) = 20 := if_pos rfl
      have g2 : (if t = s then 20 else H (5 + t)) = H (5 + t) := if_neg hne
      simp only [eq_self, if_true] at e1
      simp only [g2, ct] at e2
      unfold ovS
      rw [c4]
      omega
theorem se_up (hI : Inv F) : ∀ (l : Nat) (H : Nat → Nat), Sp F H → l ≤ F 1 → ovS (seF l H) (F 1) + seF l H 4 ≤ ovS H (F 1) + H 4 := by
  intro l
  induction l with
  | zero => intro H _ _; exact Nat.le_refl _
  | succ l ih =>
    intro H h hl
    have h1 := step_up hI h (show l < F 1 by omega)
    have h2 := ih (stepF H l) (sp_step h (by omega)).1 (by omega)
    exact Nat.le_trans h2 h1
theorem step_low (hI : Inv F) (h : Sp F H) {l : Nat} (hl : l < F 1) (hq : ∀ j, l + 1 ≤ j → j < F 1 → H (5 + F (19 + j)) ≤ 20) : ∀ j, l ≤ j → j < F 1 → stepF H l (5 + F (19 + j)) ≤ 20 := by
  have h7 := hI.1
  have h71 := hI.2.1
  obtain ⟨s1, s2⟩ := lay_in hI hl
  have e19 : ∀ j, j < 7 → H (19 + j) = F (19 + j) := fun j hj => h.2.1 _ (by omega) (by omega) (by omega)
  intro j hj hjn
  obtain ⟨j1, j2⟩ := lay_in hI hjn
  have hlow : ∀ i, i < F 1 → i ≠ j → F (19 + i) ≠ F (19 + j) := fun i hi hne e => by
    have := (lay_in hI hi).2
    rw [e, j2] at this
    omega
  unfold stepF
  rw [e19 l (by omega)]
  by_cases hw : H (5 + F (19 + l)) ≤ 20
  · rw [if_pos hw]
    by_cases z : j = l
    · rw [z]; exact hw
    · exact hq j (by omega) hjn
  · rw [if_neg hw]
    have own : ∀ X : Nat → Nat, (∀ i, i ≠ 4 → (1 ≤ l → i ≠ 5 + F (19 + (l - 1))) → X i = uF H (5 + F (19 + l)) 20 i) → X (5 + F (19 + j)) ≤ 20 := fun X hX => by
      rw [hX _ (by omega) (fun h1 => by have := hlow (l - 1) (by omega) (by omega); omega)]
      by_cases z : j = l
      · rw [z, uF_hit]; exact Nat.le_refl _
      · have := hlow l hl (fun e => z e.symm)
        rw [uF_ne _ (by omega)]
        exact hq j (by omega) hjn
    by_cases z : l = 0
    · rw [if_pos z]
      exact own _ fun i h1 _ => uF_ne _ h1
    · rw [if_neg z, e19 (l - 1) (by omega)]
      refine own _ fun i h1 h2 => ?_
      unfold comF
      rw [uF_ne _ (h2 (by omega)), uF_ne _ h1]
theorem se_low (hI : Inv F) : ∀ (l : Nat) (H : Nat → Nat), Sp F H → l ≤ F 1 → (∀ j, l ≤ j → j < F 1 → H (5 + F (19 + j)) ≤ 20) → ∀ j, j < F 1 → seF l H (5 + F (19 + j)) ≤ 20 := by
  intro l
  induction l with
  | zero => intro H _ _ hq j hj; exact hq j (Nat.zero_le _) hj
  | succ l ih =>
    intro H h hl hq
    exact ih (stepF H l) (sp_step h (by omega)).1 (by omega) (step_low hI h (by omega) hq)
theorem fact_seep {G : Nat → Nat} {ans : Nat} (hI : Inv F) (h : 1 ≤ F 1 ∧ G = seF (F 1) F ∧ ans = G 4 - F 4) : zI ans = zI (G 4) - zI (F 4) ∧ ans ≤ ovS F (F 1) ∧ ovS G (G 1) = 0 := by
  obtain ⟨h1, h2, h3⟩ := h
  have h0 : Sp F F := ⟨hI, fun _ _ _ _ => rfl, Nat.le_refl _⟩
  have h7 := hI.1
  have h71 := hI.2.1
  have hs := sp_all (F 1) F h0 (Nat.le_refl _)
  have hu := se_up hI (F 1) F h0 (Nat.le_refl _)
  have hl := se_low hI (F 1) F h0 (Nat.le_refl _) (fun j h1 h2 => by omega)
  rw [← h2] at hs hu hl
  obtain ⟨_, s1, s2⟩ := piles_ok (show F 1 ≤ 7 by omega) hI.2.2.2.2.2.1
  refine ⟨by rw [h3, zI_sub hs.2.2], by omega, ?_⟩
  have e1 : G 1 = F 1 := hs.2.1 1 (by omega) (by omega) (by omega)
  rw [e1]
  refine sm_zero fun k hk => ?_
  have hk2 := s1 k hk
  have hk3 := hl (ixL (plF F) k) hk2.1
  rw [← plF_get hk2.1, hk2.2] at hk3
  show G (5 + k) - 20 = 0
  omega
end
