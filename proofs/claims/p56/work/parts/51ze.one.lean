theorem MK.one {m : Nat} {S : Nat → Bool} (h : MK 1 m S) : m = (S 0).toNat := by
  have h1 := h.1
  have h2 := h.2 0 (by omega)
  have hm : m = 0 ∨ m = 1 := by omega
  rcases hm with rfl | rfl
  · rw [← h2]; rfl
  · rw [← h2]; rfl
theorem tb_B : ∀ m, m < 128 → ∀ k, k < 7 → bt m k = (m.testBit k).toNat := by decide +kernel