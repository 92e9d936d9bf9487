/-! a State with one number changed; what the changes keep -/
section
variable {F : Nat → Nat} {w : XW}
theorem plL_congr {F G : Nat → Nat} : ∀ (k l : Nat), (∀ j, j < k → F (19 + (l + j)) = G (19 + (l + j))) → plL F k l = plL G k l := by
  intro k
  induction k with
  | zero => intro l _; rfl
  | succ k ih =>
    intro l h
    rw [plL, plL, ih (l + 1) (fun j hj => by
      have := h (j + 1) (by omega)
      rwa [show l + (j + 1) = l + 1 + j by omega] at this)]
    have h0 := h 0 (by omega)
    rw [Nat.add_zero] at h0
    rw [h0]
theorem plF_congr {F G : Nat → Nat} (h1 : F 1 = G 1) (h : ∀ j, j < F 1 → F (19 + j) = G (19 + j)) : plF F = plF G := by
  unfold plF
  rw [← h1]
  exact plL_congr _ _ (fun j hj => by rw [Nat.zero_add]; exact h j hj)
theorem uF_hit (j v : Nat) : uF F j v j = v := by unfold uF; rw [if_pos rfl]
theorem uF_ne {j a : Nat} (v : Nat) (h : a ≠ j) : uF F j v a = F a := by unfold uF; rw [if_neg h]
theorem plF_uF {j v : Nat} (h : j < 19 ∨ 26 ≤ j) (h1 : j ≠ 1) (h7 : F 1 ≤ 7) : plF (uF F j v) = plF F := by
  refine plF_congr (uF_ne v (by omega)) (fun k hk => ?_)
  rw [uF_ne v (by omega)] at hk
  exact uF_ne v (by omega)
theorem Cls.ext {h : Nat → Nat → Int32} {k : Nat} {F G : Nat → Nat} (c : Cls h k F) (e : ∀ j, j < 66 → F j = G j) (h1 : F 1 ≤ 7) (h2 : F 2 ≤ 10) : Cls h k G := by
  obtain ⟨q1, q2, q3, q4, q5, q6, q7, q8, q9, q10⟩ := c
  have hp : plF F = plF G := plF_congr (e 1 (by omega)) (fun j hj => e _ (by omega))
  refine ⟨by rw [← e 0 (by omega)]; exact q1, by rw [← e 3 (by omega)]; exact q2, by rw [← e 4 (by omega)]; exact q3, fun i hi => by rw [← e _ (by omega)]; exact q4 i hi, fun i hi => by rw [← e _ (by omega)]; exact q5 i hi, by rw [← e 1 (by omega)]; exact q6, fun s hs => by rw [← hp]; rw [← e 1 (by omega)] at hs; exact q7 s hs, by rw [← e 2 (by omega)]; exact q8, fun p hp => ?_, q10⟩
  rw [← e 2 (by omega)] at hp
  rw [← e (26 + 4 * p) (by omega), ← e (27 + 4 * p) (by omega), ← e (28 + 4 * p) (by omega), ← e (29 + 4 * p) (by omega)]
  exact q9 p hp
theorem Cls.water (c : Cls w.1 1 F) (h7 : F 1 ≤ 7) {i : Nat} (hi : i < 7) (v : Nat) : Cls (wset w 3 i (zI v)).1 1 (uF F (5 + i) v) := by
  obtain ⟨q1, q2, q3, q4, q5, q6, q7, q8, q9, q10⟩ := c
  refine ⟨?_, ?_, ?_, fun a ha => ?_, fun a ha => ?_, ?_, fun s hs => ?_, ?_, fun p hp => ?_, fun p hp => ?_⟩
  · rw [uF_ne v (by omega)]; exact q1
  · rw [uF_ne v (by omega)]; exact q2
  · rw [uF_ne v (by omega)]; exact q3
  · rw [wset_at]
    by_cases e : a = i
    · rw [if_pos ⟨rfl, e⟩, e, uF_hit]
    · rw [if_neg (fun z => e z.2), uF_ne v (by omega)]; exact q4 a ha
  · rw [uF_ne v (by omega)]; exact q5 a ha
  · rw [uF_ne v (by omega)]; exact q6
  · rw [plF_uF (by omega) (by omega) h7]; rw [uF_ne v (by omega)] at hs; exact q7 s hs
  · rw [uF_ne v (by omega)]; exact q8
  · rw [uF_ne v (by omega)] at hp
    rw [uF_ne v (by omega), uF_ne v (by omega), uF_ne v (by omega), uF_ne v (by omega)]
    exact q9 p hp
  · exact q10 p hp
theorem Cls.terms (c : Cls w.1 1 F) (h7 : F 1 ≤ 7) {i : Nat} (hi : i < 7) (v : Nat) : Cls (wset w 4 i (zI v)).1 1 (uF F (12 + i) v) := by
  obtain ⟨q1, q2, q3, q4, q5, q6, q7, q8, q9, q10⟩ := c
  refine ⟨?_, ?_, ?_, fun a ha => ?_, fun a ha => ?_, ?_, fun s hs => ?_, ?_, fun p hp => ?_, fun p hp => ?_⟩
  · rw [uF_ne v (by omega)]; exact q1
  · rw [uF_ne v (by omega)]; exact q2
  · rw [uF_ne v (by omega)]; exact q3
  · rw [uF_ne v (by omega)]; exact q4 a ha
  · rw [wset_at]
    by_cases e : a = i
    · rw [if_pos ⟨rfl, e⟩, e, uF_hit]
    · rw [if_neg (fun z => e z.2), uF_ne v (by omega)]; exact q5 a ha
  · rw [uF_ne v (by omega)]; exact q6
  · rw [plF_uF (by omega) (by omega) h7]; rw [uF_ne v (by omega)] at hs; exact q7 s hs
  · rw [uF_ne v (by omega)]; exact q8
  · rw [uF_ne v (by omega)] at hp
    rw [uF_ne v (by omega), uF_ne v (by omega), uF_ne v (by omega), uF_ne v (by omega)]
    exact q9 p hp
  · exact q10 p hp
/-- poured (1), leaked (2) -/
theorem Cls.acc (c : Cls w.1 1 F) (h7 : F 1 ≤ 7) {i : Nat} (hi : i = 1 ∨ i = 2) (v : Nat) : Cls (wset w 2 i (zI v)).1 1 (uF F (2 + i) v) := by
  obtain ⟨q1, q2, q3, q4, q5, q6, q7, q8, q9, q10⟩ := c
  refine ⟨?_, ?_, ?_, fun a ha => ?_, fun a ha => ?_, ?_, fun s hs => ?_, ?_, fun p hp => ?_, fun p hp => ?_⟩
  · rw [uF_ne v (by omega), wset_at, if_neg (by omega)]; exact q1
  · rw [wset_at]
    rcases hi with rfl | rfl
    · rw [if_pos ⟨rfl, rfl⟩, uF_hit]
    · rw [if_neg (by omega), uF_ne v (by omega)]; exact q2
  · rw [wset_at]
    rcases hi with rfl | rfl
    · rw [if_neg (by omega), uF_ne v (by omega)]; exact q3
    · rw [if_pos ⟨rfl, rfl⟩, uF_hit]
  · rw [uF_ne v (by omega)]; exact q4 a ha
  · rw [uF_ne v (by omega)]; exact q5 a ha
  · rw [uF_ne v (by omega)]; exact q6
  · rw [plF_uF (by omega) (by omega) h7]; rw [uF_ne v (by omega)] at hs; exact q7 s hs
  · rw [uF_ne v (by omega)]; exact q8
  · rw [uF_ne v (by omega)] at hp
    rw [uF_ne v (by omega), uF_ne v (by omega), uF_ne v (by omega), uF_ne v (by omega)]
    exact q9 p hp
  · exact q10 p hp
theorem Cls.pp (c : Cls w.1 1 F) (hI : Inv F) : PP w F := ⟨c.2.2.2.2.2.2.2.1, hI.2.2.1, fun p hp => by
  have := c.2.2.2.2.2.2.2.2.1 p hp
  exact ⟨this.1, this.2.1, this.2.2.1, this.2.2.2, (hI.2.2.2.2.2.2.2 p hp).2.2.2.2.2⟩⟩
/-- Inv of a row of numbers that is another one but for water, accounts -/
theorem Inv.wat {G : Nat → Nat} (hI : Inv F) (h : ∀ j, j < 66 → j ≠ 3 → j ≠ 4 → ¬ (5 ≤ j ∧ j < 12) → G j = F j) (h1 : G 3 = G 4 + sm (fun i => G (5 + i)) 7) (h2 : ∀ i, i < 7 → G (5 + i) ≤ 99 ∧ (F 0 ≤ i → G (5 + i) = 0)) : Inv G := by
  obtain ⟨a1, a2, a3, a4, a5, a6, a7, a8⟩ := hI
  have e0 := h 0 (by omega) (by omega) (by omega) (by omega)
  have e1 := h 1 (by omega) (by omega) (by omega) (by omega)
  have e2 := h 2 (by omega) (by omega) (by omega) (by omega)
  refine ⟨by omega, by omega, by omega, h1, fun i hi => ?_, ?_, fun j hj hj2 => ?_, fun p hp => ?_⟩
  · rw [h (12 + i) (by omega) (by omega) (by omega) (by omega), e0]
    exact ⟨(h2 i hi).1, (a5 i hi).2.1, fun z => ⟨(h2 i hi).2 z, ((a5 i hi).2.2 z).2⟩⟩
  · rw [e1, plF_congr e1 (fun j hj => h _ (by omega) (by omega) (by omega) (by omega))]; exact a6
  · rw [h _ (by omega) (by omega) (by omega) (by omega)]; rw [e1] at hj2; exact a7 j hj hj2
  · rw [e2] at hp
    rw [h (26 + 4 * p) (by omega) (by omega) (by omega) (by omega), h (27 + 4 * p) (by omega) (by omega) (by omega) (by omega), h (28 + 4 * p) (by omega) (by omega) (by omega) (by omega), h (29 + 4 * p) (by omega) (by omega) (by omega) (by omega), e0]
    exact a8 p hp
theorem sm_uF {i v : Nat} (hi : i < 7) : sm (fun k => uF F (5 + i) v (5 + k)) 7 + F (5 + i) = sm (fun k => F (5 + k)) 7 + v := by
  have h := sm_off (G := fun k => F (5 + k)) (G' := fun k => uF F (5 + i) v (5 + k)) (x := i) (n := 7) (fun k _ hk => uF_ne v (by omega)) hi
  rw [uF_hit] at h
  exact h
theorem sm_uF0 {j v : Nat} (hj : j < 5 ∨ 12 ≤ j) : sm (fun k => uF F j v (5 + k)) 7 = sm (fun k => F (5 + k)) 7 := sm_congr (fun k hk => uF_ne v (by omega))
theorem bI_id {F : Option (Int32 × XW)} : bI F (fun r w => some (r, w)) = F := by cases F <;> rfl
theorem bV_id {F : Option XW} : bV F (fun w => some w) = F := by cases F <;> rfl
end
