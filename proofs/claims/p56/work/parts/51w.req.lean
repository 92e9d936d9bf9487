/-! calls that ask -/
def ioobe : String := "java/lang/IndexOutOfBoundsException"
def iae : String := "java/lang/IllegalArgumentException"
def nsee : String := "java/util/NoSuchElementException"
def uoe : String := "java/lang/UnsupportedOperationException"
def ise : String := "java/lang/IllegalStateException"
def aex : String := "java/lang/ArithmeticException"
/-! water -/
theorem reqS {w : XW} {F : Nat → Nat} {x : Int32} (hC : Cls w.1 1 F) (hI : Inv F) : (∃ i, i < F 0 ∧ x = zI i ∧ f_X10_requireSection x w = some (.inl w)) ∨ (f_X10_requireSection x w = some (.inr (ioobe, w)) ∧ ∀ w : XW, Mo w.1 142 0 F → f_X11_isSection x w = some (zI 0, w)) := by
  rcases secZ F x hI.1 with ⟨i, hi, rfl⟩ | ⟨h1, h2⟩
  · refine Or.inl ⟨i, hi, rfl, ?_⟩
    unfold f_X10_requireSection
    rw [s_hasT hC.1 hI.1 hi, bI_s, if_neg (by decide)]
  · refine Or.inr ⟨?_, h2⟩
    unfold f_X10_requireSection
    rw [h1 w hC, bI_s, if_pos (by rfl)]
    rfl
theorem reqP {w : XW} {F : Nat → Nat} {x : Int32} (hC : Cls w.1 1 F) (hI : Inv F) : (∃ i, i < F 2 ∧ x = zI i ∧ f_X10_requirePipe x w = some (.inl w)) ∨ (f_X10_requirePipe x w = some (.inr (ioobe, w)) ∧ ∀ w : XW, Mo w.1 142 0 F → f_X11_isPipe x w = some (zI 0, w)) := by
  rcases pipZ F x hI.2.2.1 with ⟨i, hi, rfl⟩ | ⟨h1, h2⟩
  · refine Or.inl ⟨i, hi, rfl, ?_⟩
    unfold f_X10_requirePipe
    rw [i_hasT hC.2.2.2.2.2.2.2.1 hI.2.2.1 hi, bI_s, if_neg (by decide)]
  · refine Or.inr ⟨?_, h2⟩
    unfold f_X10_requirePipe
    rw [h1 w hC, bI_s, if_pos (by rfl)]
    rfl
theorem reqT {w : XW} {x : Int32} (hx : ¬ x < 0) : (∃ t, t < 8 ∧ x = zI (97 + t) ∧ f_X10_requireTerm x w = some (.inl w)) ∨ (f_X10_requireTerm x w = some (.inr (iae, w)) ∧ ∀ w : XW, f_X11_isTerm x w = some (zI 0, w)) := by
  rcases zI_cases x with h | ⟨a, ha, rfl⟩
  · exact absurd h hx
  · rcases trmZ ha with ⟨t, ht, rfl⟩ | ⟨h1, h2⟩
    · refine Or.inl ⟨t, ht, rfl, ?_⟩
      unfold f_X10_requireTerm
      rw [s_isTermT ht, bI_s, if_neg (by decide)]
    · refine Or.inr ⟨?_, h2⟩
      unfold f_X10_requireTerm
      rw [h1 w, bI_s, if_pos (by rfl)]
      rfl
/-! pipes -/
/-! flows -/
theorem fl_hyp {F : Nat → Nat} (hI : Inv F) : (∀ p, p < F 2 → F (26 + 4 * p) < F 0 ∧ F (27 + 4 * p) < F 0) ∧ (∀ p, p < F 2 → F (28 + 4 * p) ≤ 20) ∧ (∀ p, p < F 2 → F (26 + 4 * p) < 8 ∧ F (27 + 4 * p) < 8 ∧ F (28 + 4 * p) ≤ 20 ∧ F (29 + 4 * p) ≤ 1) := by
  have a1 := hI.1
  exact ⟨fun p hp => ⟨(hI.2.2.2.2.2.2.2 p hp).1, (hI.2.2.2.2.2.2.2 p hp).2.1⟩, fun p hp => (hI.2.2.2.2.2.2.2 p hp).2.2.2.2.1, fun p hp => ⟨by have := (hI.2.2.2.2.2.2.2 p hp).1; omega, by have := (hI.2.2.2.2.2.2.2 p hp).2.1; omega, (hI.2.2.2.2.2.2.2 p hp).2.2.2.2.1, (hI.2.2.2.2.2.2.2 p hp).2.2.2.2.2⟩⟩