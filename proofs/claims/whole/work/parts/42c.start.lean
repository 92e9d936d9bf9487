/-! the store at the start is related -/
def Wz : XW := (fun k j => if k = 0 ∧ 11 ≤ j ∧ j ≤ 14 then zM else if k = 141 ∧ j = 13 then zM else zI 0, 0, 0)
def Fz : Nat → Nat := fun _ => 0
theorem Wz_z {k j : Nat} (h1 : k ≠ 0) (h2 : ¬ (k = 141 ∧ j = 13)) : Wz.1 k j = zI 0 := by
  show (if k = 0 ∧ 11 ≤ j ∧ j ≤ 14 then zM else if k = 141 ∧ j = 13 then zM else zI 0) = zI 0
  rw [if_neg (by omega), if_neg h2]
theorem inv_0 : Inv Fz := by
  refine ⟨by show 0 ≤ 7; omega, Nat.le_refl _, by show 0 ≤ 10; omega, ?_, fun i hi => ⟨by show 0 ≤ 99; omega, by show 0 < 256; omega, fun _ => ⟨rfl, rfl⟩⟩, ?_, fun j _ _ => rfl, fun p hp => absurd hp (by show ¬ (p < 0); omega)⟩
  · show 0 = 0 + sm (fun _ => 0) 7
    rfl
  · show plF Fz ∈ piles 0
    decide
theorem cls_0 : Cls Wz.1 1 Fz := by
  have e : ∀ k j, k ≠ 0 → k ≠ 141 → Wz.1 k j = zI 0 := fun k j h1 h2 => Wz_z h1 (fun z => h2 z.1)
  refine ⟨e _ _ (by omega) (by omega), e _ _ (by omega) (by omega), e _ _ (by omega) (by omega), fun i hi => e _ _ (by omega) (by omega), fun i hi => e _ _ (by omega) (by omega), e _ _ (by omega) (by omega), fun s hs => absurd hs (by show ¬ (s < 0); omega), e _ _ (by omega) (by omega), fun p hp => absurd hp (by show ¬ (p < 0); omega), fun p hp => ?_⟩
  exact Or.inl (e _ _ (by omega) (by omega))
theorem rel_0 : Rel 0 Wz.1 := by
  have e : ∀ k j, k ≠ 0 → k ≠ 141 → Wz.1 k j = zI 0 := fun k j h1 h2 => Wz_z h1 (fun z => h2 z.1)
  have e1 : ∀ j, j ≠ 13 → Wz.1 141 j = zI 0 := fun j h => Wz_z (by omega) (fun z => h z.2)
  refine ⟨⟨Fz, Nat.le_refl _, inv_0, cls_0, fun j hj => e _ _ (by omega) (by omega)⟩, ⟨Fz, 0, by omega, rfl, e1 6 (by omega), fun z => by omega⟩, ⟨fun _ => Fz, 0, 0, by omega, by omega, e _ _ (by omega) (by omega), e _ _ (by omega) (by omega), e1 5 (by omega), fun i hi => by omega⟩, ⟨0, by omega, e _ _ (by omega) (by omega), e1 11 (by omega), fun i hi => by omega⟩, ⟨0, by omega, e _ _ (by omega) (by omega), e1 12 (by omega), fun i hi => by omega⟩, rfl, Or.inl ⟨rfl, e1 15 (by omega)⟩, Or.inl ⟨rfl, e1 17 (by omega)⟩⟩
/-- the law's loop, from the start -/
theorem law_all {g : GC} (hl : g.2.2.2.2.2.2.2.1 ≤ 2048) : ∃ w', f_L_law_28 g 514 0 Wz = some (1, w') :=
  law_loop hl 514 0 0 Wz (by omega) (by omega) (by omega) rel_0
