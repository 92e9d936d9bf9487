/-! obeying a verdict -/
theorem neg_B : ∀ n, 1 ≤ n → n ≤ 9 → ¬ (-(zI n) = 0) ∧ ¬ (0 ≤ -(zI n)) ∧ ¬ (-(zI n) = zI 0) ∧ ¬ (-(zI n) = 1) := by
  intro n h1 h2
  have e : n = 1 ∨ n = 2 ∨ n = 3 ∨ n = 4 ∨ n = 5 ∨ n = 6 ∨ n = 7 ∨ n = 8 ∨ n = 9 := by omega
  rcases e with rfl | rfl | rfl | rfl | rfl | rfl | rfl | rfl | rfl <;> decide
def exE (e : Nat) : String := if e = 1 then "java/lang/IndexOutOfBoundsException" else "java/lang/IllegalArgumentException"
theorem obey_err {e : Nat} (h : e = 1 ∨ e = 2) (w : XW) : f_X10_obey (-(zI e)) w = some (.inr (exE e, w)) := by
  unfold f_X10_obey
  rcases h with rfl | rfl
  · rw [if_pos (by decide)]; rfl
  · rw [if_neg (by decide), if_pos (by decide)]; rfl
theorem obey_ok (w : XW) : f_X10_obey (zI 0) w = some (.inl w) := by
  unfold f_X10_obey
  rw [if_neg (by decide), if_neg (by decide), if_pos (by rfl)]
theorem m2_ne {a : Nat} (ha : a < 2147483648) : ¬ (zI a = -2) := by
  intro h
  have h2 := congrArg Int32.toInt h
  rw [zI_toInt ha] at h2
  have : (-2 : Int32).toInt = -2 := rfl
  omega
def denW (w : XW) (n d : Nat) (c : Int32) : XW := wset (wset (wset w 0 12 (zI n)) 0 13 (zI d)) 0 14 c
theorem obey_den {n d : Nat} (h : 1 ≤ n) (h2 : n ≤ 9) (hd : d < 100) (w : XW) : f_X10_obey (zI (n * 100 + d)) w = some (.inr ("java/lang/UnsupportedOperationException", denW w n d zM)) := by
  unfold f_X10_obey
  rw [if_neg (by rw [zl_1, zm1, zI_zM (by omega)]; exact id), if_neg (m2_ne (by omega)), if_neg (by rw [zl_0, zI_inj (by omega) (by omega)]; omega), zl_100, zI_div (by omega) (by omega), zI_mul, zI_sub (by omega), show n * 100 + d - (n * 100 + d) / 100 * 100 = d by omega, show (n * 100 + d) / 100 = n by omega]
  rfl
theorem hs_cons {B B' : Nat} {F : Nat → Nat} {hs : Nat → Nat → Nat} {n : Nat} (hI : Inv F) (hF : F 3 ≤ B') (hB : B ≤ B') (h : ∀ i, i < n → Inv (hs i) ∧ hs i 3 ≤ B) : ∀ i, i < n8 n → Inv (hcons F hs i) ∧ hcons F hs i 3 ≤ B' := fun i hi => by
  unfold hcons
  by_cases z : i = 0
  · rw [if_pos z]; exact ⟨hI, hF⟩
  · rw [if_neg z]
    have := h (i - 1) (by unfold n8 at hi; split at hi <;> omega)
    exact ⟨this.1, by omega⟩
