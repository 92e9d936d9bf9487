/-! one relation for the whole store: class and reference say the same -/
def RSx (h : Nat → Nat → Int32) (F : Nat → Nat) : Prop := Inv F ∧ Cls h 1 F ∧ Mo h 142 0 F
def RNx (B : Nat) (h : Nat → Nat → Int32) : Prop := ∃ (S : Nat → Nat) (sv : Nat), sv ≤ 1 ∧ h 0 10 = zI sv ∧ h 141 6 = zI sv ∧ (sv = 1 → Inv S ∧ S 3 ≤ B ∧ Cls h 23 S ∧ Mo h 144 0 S)
def slot (nx i : Nat) : Nat := 36 + 11 * ((nx + 7 - i) % 8)
def RHy (B : Nat) (h : Nat → Nat → Int32) (hs : Nat → Nat → Nat) (n nx : Nat) : Prop := n ≤ 8 ∧ nx < 8 ∧ h 34 1 = zI nx ∧ h 34 2 = zI n ∧ h 141 5 = zI n ∧ ∀ i, i < n → Inv (hs i) ∧ hs i 3 ≤ B ∧ Cls h (slot nx i) (hs i) ∧ Mo h 145 (66 * (n - 1 - i)) (hs i)
def RHx (B : Nat) (h : Nat → Nat → Int32) : Prop := ∃ hs n nx, RHy B h hs n nx
def RTx (h : Nat → Nat → Int32) : Prop := ∃ t, t ≤ 60 ∧ h 132 1 = zI t ∧ h 141 11 = zI t ∧ ∀ i, i < t → ∃ c, c < 65536 ∧ h 133 i = zI c ∧ h 146 i = zI c
def RLx (h : Nat → Nat → Int32) : Prop := ∃ t, t ≤ 14 ∧ h 134 1 = zI t ∧ h 141 12 = zI t ∧ ∀ i, i < t → ∃ c, c < 65536 ∧ h 135 i = zI c ∧ h 148 i = zI c
def RFx (h : Nat → Nat → Int32) : Prop := h 0 11 = h 141 13
def RDx (h : Nat → Nat → Int32) : Prop := ((h 0 12 = zM ∧ h 141 15 = zI 0) ∨ ∃ n d, 1 ≤ n ∧ n ≤ 8 ∧ d < 100 ∧ h 0 12 = zI n ∧ h 141 15 = zI n ∧ h 0 13 = zI d ∧ h 141 16 = zI d) ∧ ((h 0 14 = zM ∧ h 141 17 = zI 0) ∨ ∃ c, 1 ≤ c ∧ c ≤ 9 ∧ h 0 14 = zI c ∧ h 141 17 = zI c)
def Rel (B : Nat) (h : Nat → Nat → Int32) : Prop := (∃ F, F 3 ≤ B ∧ RSx h F) ∧ RNx B h ∧ RHx B h ∧ RTx h ∧ RLx h ∧ RFx h ∧ RDx h
theorem Cls.cg {h h' : Nat → Nat → Int32} {k : Nat} {F : Nat → Nat} (q : Cls h k F) (e : ∀ a, k + 1 ≤ a → a ≤ k + 10 → h' a = h a) : Cls h' k F := by
  unfold Cls at q ⊢
  rw [e (k + 1) (by omega) (by omega), e (k + 2) (by omega) (by omega), e (k + 3) (by omega) (by omega), e (k + 4) (by omega) (by omega), e (k + 5) (by omega) (by omega), e (k + 6) (by omega) (by omega), e (k + 7) (by omega) (by omega), e (k + 8) (by omega) (by omega), e (k + 9) (by omega) (by omega), e (k + 10) (by omega) (by omega)]
  exact q
theorem Mo.cg {h h' : Nat → Nat → Int32} {a o : Nat} {F : Nat → Nat} (q : Mo h a o F) (e : h' a = h a) : Mo h' a o F := fun j hj => by rw [e]; exact q j hj
section
variable {h h' : Nat → Nat → Int32} {B B' : Nat} {F : Nat → Nat}
theorem RSx.cg (q : RSx h F) (e : ∀ a, 2 ≤ a → a ≤ 11 → h' a = h a) (e2 : h' 142 = h 142) : RSx h' F := ⟨q.1, q.2.1.cg (fun a h1 h2 => e a (by omega) (by omega)), q.2.2.cg e2⟩
theorem RNx.cg (q : RNx B h) (hB : B ≤ B') (e : ∀ a, 24 ≤ a → a ≤ 33 → h' a = h a) (e2 : h' 144 = h 144) (e3 : h' 0 10 = h 0 10) (e4 : h' 141 6 = h 141 6) : RNx B' h' := by
  obtain ⟨S, sv, q1, q2, q3, q4⟩ := q
  exact ⟨S, sv, q1, by rw [e3]; exact q2, by rw [e4]; exact q3, fun z => ⟨(q4 z).1, by have := (q4 z).2.1; omega, (q4 z).2.2.1.cg (fun a h1 h2 => e a (by omega) (by omega)), (q4 z).2.2.2.cg e2⟩⟩
theorem slot_in (nx i : Nat) : 36 ≤ slot nx i ∧ slot nx i + 10 ≤ 123 := by unfold slot; omega
theorem RHx.cg (q : RHx B h) (hB : B ≤ B') (e : ∀ a, 36 ≤ a → a ≤ 123 → h' a = h a) (e2 : h' 145 = h 145) (e3 : h' 34 = h 34) (e4 : h' 141 5 = h 141 5) : RHx B' h' := by
  obtain ⟨hs, n, nx, q1, q2, q3, q4, q5, q6⟩ := q
  refine ⟨hs, n, nx, q1, q2, by rw [e3]; exact q3, by rw [e3]; exact q4, by rw [e4]; exact q5, fun i hi => ?_⟩
  obtain ⟨z1, z2, z3, z4⟩ := q6 i hi
  have := slot_in nx i
  exact ⟨z1, by omega, z3.cg (fun a h1 h2 => e a (by omega) (by omega)), z4.cg e2⟩
theorem RTx.cg (q : RTx h) (e1 : h' 132 1 = h 132 1) (e2 : h' 133 = h 133) (e3 : h' 146 = h 146) (e4 : h' 141 11 = h 141 11) : RTx h' := by
  obtain ⟨t, q1, q2, q3, q4⟩ := q
  exact ⟨t, q1, by rw [e1]; exact q2, by rw [e4]; exact q3, by rw [e2, e3]; exact q4⟩
theorem RLx.cg (q : RLx h) (e1 : h' 134 1 = h 134 1) (e2 : h' 135 = h 135) (e3 : h' 148 = h 148) (e4 : h' 141 12 = h 141 12) : RLx h' := by
  obtain ⟨t, q1, q2, q3, q4⟩ := q
  exact ⟨t, q1, by rw [e1]; exact q2, by rw [e4]; exact q3, by rw [e2, e3]; exact q4⟩
theorem RFx.cg (q : RFx h) (e1 : h' 0 11 = h 0 11) (e2 : h' 141 13 = h 141 13) : RFx h' := by unfold RFx at q ⊢; rw [e1, e2]; exact q
theorem RDx.cg (q : RDx h) (e1 : ∀ c, 12 ≤ c → c ≤ 14 → h' 0 c = h 0 c) (e2 : ∀ c, 15 ≤ c → c ≤ 17 → h' 141 c = h 141 c) : RDx h' := by
  unfold RDx at q ⊢
  rw [e1 12 (by omega) (by omega), e1 13 (by omega) (by omega), e1 14 (by omega) (by omega), e2 15 (by omega) (by omega), e2 16 (by omega) (by omega), e2 17 (by omega) (by omega)]
  exact q
/-- nothing that is related has changed: cells, and the fields of the two great objects -/
theorem Rel.cg (q : Rel B h) (hB : B ≤ B') (e : ∀ a, a ≠ 0 → a ≠ 141 → ¬ (124 ≤ a ∧ a ≤ 131) → ¬ (136 ≤ a ∧ a ≤ 140) → ¬ (12 ≤ a ∧ a ≤ 22) → a ≠ 143 → a ≠ 147 → a ≠ 149 → h' a = h a) (e0 : ∀ c, 10 ≤ c → h' 0 c = h 0 c) (e1 : ∀ c, c = 5 ∨ c = 6 ∨ c = 11 ∨ c = 12 ∨ c = 13 ∨ c = 15 ∨ c = 16 ∨ c = 17 → h' 141 c = h 141 c) : Rel B' h' := by
  obtain ⟨⟨F, q1, q1'⟩, q2, q3, q4, q5, q6, q7⟩ := q
  have g : ∀ a, a ≠ 0 → a ≠ 141 → ¬ (124 ≤ a ∧ a ≤ 131) → ¬ (136 ≤ a ∧ a ≤ 140) → ¬ (12 ≤ a ∧ a ≤ 22) → a ≠ 143 → a ≠ 147 → a ≠ 149 → h' a = h a := e
  refine ⟨⟨F, by omega, q1'.cg (fun a h1 h2 => g a (by omega) (by omega) (by omega) (by omega) (by omega) (by omega) (by omega) (by omega)) (g _ (by omega) (by omega) (by omega) (by omega) (by omega) (by omega) (by omega) (by omega))⟩, q2.cg hB (fun a h1 h2 => g a (by omega) (by omega) (by omega) (by omega) (by omega) (by omega) (by omega) (by omega)) (g _ (by omega) (by omega) (by omega) (by omega) (by omega) (by omega) (by omega) (by omega)) (e0 _ (by omega)) (e1 _ (by omega)), q3.cg hB (fun a h1 h2 => g a (by omega) (by omega) (by omega) (by omega) (by omega) (by omega) (by omega) (by omega)) (g _ (by omega) (by omega) (by omega) (by omega) (by omega) (by omega) (by omega) (by omega)) (g _ (by omega) (by omega) (by omega) (by omega) (by omega) (by omega) (by omega) (by omega)) (e1 _ (by omega)), q4.cg ?_ ?_ ?_ (e1 _ (by omega)), q5.cg ?_ ?_ ?_ (e1 _ (by omega)), q6.cg (e0 _ (by omega)) (e1 _ (by omega)), q7.cg (fun c h1 h2 => e0 c (by omega)) (fun c h1 h2 => e1 c (by omega))⟩
  · rw [g 132 (by omega) (by omega) (by omega) (by omega) (by omega) (by omega) (by omega) (by omega)]
  · exact g 133 (by omega) (by omega) (by omega) (by omega) (by omega) (by omega) (by omega) (by omega)
  · exact g 146 (by omega) (by omega) (by omega) (by omega) (by omega) (by omega) (by omega) (by omega)
  · rw [g 134 (by omega) (by omega) (by omega) (by omega) (by omega) (by omega) (by omega) (by omega)]
  · exact g 135 (by omega) (by omega) (by omega) (by omega) (by omega) (by omega) (by omega) (by omega)
  · exact g 148 (by omega) (by omega) (by omega) (by omega) (by omega) (by omega) (by omega) (by omega)
end
/-! a State, copied -/
theorem wcpy_at (w : XW) (sk sp dk dp n a c : Nat) : (wcpy w sk sp dk dp n).1 a c = if a = dk ∧ dp ≤ c ∧ c < dp + n then w.1 sk (sp + (c - dp)) else w.1 a c := (rfl)
theorem z_copy {w : XW} {k k1 : Nat} {F : Nat → Nat} (hC : Cls w.1 k1 F) (hk : k + 11 ≤ k1 ∨ k1 + 11 ≤ k) (h1 : F 1 ≤ 7) (h2 : F 2 ≤ 10) : ∃ w', f_X8_copyFrom k k1 w = some w' ∧ Fr (fun a => k + 1 ≤ a ∧ a ≤ k + 10) w w' ∧ Cls w'.1 k F := by
  obtain ⟨q1, q2, q3, q4, q5, q6, q7, q8, q9, q10⟩ := hC
  have e0 : Int32.toNatClampNeg 0 = 0 := rfl
  have e7 : Int32.toNatClampNeg 7 = 7 := rfl
  have e10 : Int32.toNatClampNeg 10 = 10 := rfl
  obtain ⟨w1, p1, f1, g1⟩ : ∃ w1, f_X9_copyFrom (k + 1) (k1 + 1) w = some w1 ∧ Fr (fun a => k + 1 ≤ a ∧ a ≤ k + 3) w w1 ∧ (w1.1 (k + 1) 0 = w.1 (k1 + 1) 0 ∧ w1.1 (k + 1) 1 = w.1 (k1 + 1) 1 ∧ w1.1 (k + 1) 2 = w.1 (k1 + 1) 2 ∧ (∀ i, i < 7 → w1.1 (k + 2) i = w.1 (k1 + 2) i ∧ w1.1 (k + 3) i = w.1 (k1 + 3) i)) := by
    refine ⟨_, rfl, ⟨fun a ha => ?_, rfl⟩, ?_, ?_, ?_, fun i hi => ⟨?_, ?_⟩⟩
    · funext c
      simp only [wcpy_at, wset_at, e0, e7]
      simp (disch := omega) only [if_pos, if_neg, true_and, and_true, if_true, Nat.zero_le, Nat.zero_add, Nat.sub_zero]
    · simp only [wcpy_at, wset_at, e0, e7]
      simp (disch := omega) only [if_pos, if_neg, true_and, and_true, if_true, Nat.zero_le, Nat.zero_add, Nat.sub_zero]
    · simp only [wcpy_at, wset_at, e0, e7]
      simp (disch := omega) only [if_pos, if_neg, true_and, and_true, if_true, Nat.zero_le, Nat.zero_add, Nat.sub_zero]
    · simp only [wcpy_at, wset_at, e0, e7]
      simp (disch := omega) only [if_pos, if_neg, true_and, and_true, if_true, Nat.zero_le, Nat.zero_add, Nat.sub_zero]
    · simp only [wcpy_at, wset_at, e0, e7]
      simp (disch := omega) only [if_pos, if_neg, true_and, and_true, if_true, Nat.zero_le, Nat.zero_add, Nat.sub_zero]
      try rw [show 0 + (i - 0) = i by omega]
    · simp only [wcpy_at, wset_at, e0, e7]
      simp (disch := omega) only [if_pos, if_neg, true_and, and_true, if_true, Nat.zero_le, Nat.zero_add, Nat.sub_zero]
      try rw [show 0 + (i - 0) = i by omega]
  obtain ⟨g1a, g1b, g1c, g1d⟩ := g1
  obtain ⟨w2, p2, f2, g2, g2'⟩ := p_copy (w := w1) (k := k + 4) (k1 := k1 + 4) (n := F 1) (by omega) (by rw [f1.at (by omega)]; exact q6)
  have fz : fitsZ w2 (k1 + 10) 10 := fun i hi => by
    rw [e0, Nat.zero_add, f2.at (by omega), f1.at (by omega)]
    rcases q10 i hi with z | z <;> rw [z] <;> decide
  have f12 : Fr (fun a => k + 1 ≤ a ∧ a ≤ k + 5) w w2 := (f1.wk (fun a z => by omega)).tr (f2.wk (fun a z => by omega))
  obtain ⟨w3, p3, f3, g3, g4⟩ : ∃ w3, f_X5_copyFrom (k + 6) (k1 + 6) w2 = some w3 ∧ Fr (fun a => k + 6 ≤ a ∧ a ≤ k + 10) w2 w3 ∧ w3.1 (k + 6) 0 = w2.1 (k1 + 6) 0 ∧ ∀ i, i < 10 → w3.1 (k + 7) i = w2.1 (k1 + 7) i ∧ w3.1 (k + 8) i = w2.1 (k1 + 8) i ∧ w3.1 (k + 9) i = w2.1 (k1 + 9) i ∧ w3.1 (k + 10) i = w2.1 (k1 + 10) i := by
    unfold f_X5_copyFrom
    refine ⟨_, if_pos (fun i hi => ?_), ⟨fun a ha => ?_, rfl⟩, ?_, fun i hi => ⟨?_, ?_, ?_, ?_⟩⟩
    · rw [e0, Nat.zero_add]
      simp only [wcpy_at, wset_at, e0, e10]
      simp (disch := omega) only [if_pos, if_neg, true_and, and_true, if_true, Nat.zero_le, Nat.zero_add, Nat.sub_zero]
      have := fz i hi
      rwa [e0, Nat.zero_add] at this
    · funext c
      simp only [wcpy_at, wset_at, e0, e10]
      simp (disch := omega) only [if_pos, if_neg, true_and, and_true, if_true, Nat.zero_le, Nat.zero_add, Nat.sub_zero]
    · simp only [wcpy_at, wset_at, e0, e10]
      simp (disch := omega) only [if_pos, if_neg, true_and, and_true, if_true, Nat.zero_le, Nat.zero_add, Nat.sub_zero]
    · simp only [wcpy_at, wset_at, e0, e10]
      simp (disch := omega) only [if_pos, if_neg, true_and, and_true, if_true, Nat.zero_le, Nat.zero_add, Nat.sub_zero]
    · simp only [wcpy_at, wset_at, e0, e10]
      simp (disch := omega) only [if_pos, if_neg, true_and, and_true, if_true, Nat.zero_le, Nat.zero_add, Nat.sub_zero]
    · simp only [wcpy_at, wset_at, e0, e10]
      simp (disch := omega) only [if_pos, if_neg, true_and, and_true, if_true, Nat.zero_le, Nat.zero_add, Nat.sub_zero]
    · simp only [wcpy_at, wset_at, e0, e10]
      simp (disch := omega) only [if_pos, if_neg, true_and, and_true, if_true, Nat.zero_le, Nat.zero_add, Nat.sub_zero]
  refine ⟨w3, ?_, (f12.wk (fun a z => by omega)).tr (f3.wk (fun a z => by omega)), ?_, ?_, ?_, fun i hi => ?_, fun i hi => ?_, ?_, fun s hs => ?_, ?_, fun p hp => ?_, fun p hp => ?_⟩
  · unfold f_X8_copyFrom
    rw [p1, bV_s, p2, bV_s, p3, bV_s]
  · rw [f3.at (by omega), f2.at (by omega), g1a]; exact q1
  · rw [f3.at (by omega), f2.at (by omega), g1b]; exact q2
  · rw [f3.at (by omega), f2.at (by omega), g1c]; exact q3
  · rw [f3.at (by omega), f2.at (by omega), (g1d i hi).1]; exact q4 i hi
  · rw [f3.at (by omega), f2.at (by omega), (g1d i hi).2]; exact q5 i hi
  · rw [f3.at (by omega)]; exact g2
  · rw [f3.at (by omega), show k + 5 = k + 4 + 1 by omega, g2' s (by omega), f1.at (by omega)]; exact q7 s hs
  · rw [g3, f12.at (by omega)]; exact q8
  · obtain ⟨z1, z2, z3, z4⟩ := g4 p (by omega)
    rw [z1, z2, z3, z4, f12.at (by omega), f12.at (by omega), f12.at (by omega), f12.at (by omega)]; exact q9 p hp
  · rw [(g4 p hp).2.2.2, f12.at (by omega)]; exact q10 p hp
