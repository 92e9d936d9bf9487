/-! the law's loop -/
def LI (B : Nat) (w : XW) (F : Nat → Nat) (hs : Nat → Nat → Nat) (n nx made : Nat) : Prop := RC B w F hs n nx ∧ n = (if made < 8 then made else 8) ∧ w.2 made = sumV F ∧ ∀ j, j < n → w.2 (made - 1 - j) = sumV (hs j)
section
variable {sc : Nat × (Nat → Int32)}
theorem LI.next {B B' : Nat} {w w' : XW} {F G : Nat → Nat} {hs : Nat → Nat → Nat} {n nx nx' made : Nat} (h : LI B w F hs n nx made) (hR : RC B' w' G (hcons F hs) (n8 n) nx') (e : w'.2 = w.2) : LI B' (lset w' (made + 1) (sumV G)) G (hcons F hs) (n8 n) nx' (made + 1) := by
  obtain ⟨h1, h2, h3, h4⟩ := h
  refine ⟨hR, ?_, ?_, fun j hj => ?_⟩
  · unfold n8; split <;> split at h2 <;> split <;> omega
  · show (if made + 1 = made + 1 then sumV G else w'.2 (made + 1)) = sumV G
    rw [if_pos rfl]
  · show (if made + 1 - 1 - j = made + 1 then sumV G else w'.2 (made + 1 - 1 - j)) = sumV (hcons F hs j)
    rw [if_neg (by omega), e]
    unfold hcons
    by_cases z : j = 0
    · rw [if_pos z, z, show made + 1 - 1 - 0 = made by omega]; exact h3
    · have hj2 : j - 1 < n := by unfold n8 at hj; split at hj <;> omega
      rw [if_neg z, ← h4 (j - 1) hj2, show made + 1 - 1 - j = made - 1 - (j - 1) by omega]
theorem LI.same {B B' : Nat} {w w' : XW} {F : Nat → Nat} {hs : Nat → Nat → Nat} {n nx made : Nat} (h : LI B w F hs n nx made) (hR : RC B' w' F hs n nx) (e : w'.2 = w.2) : LI B' w' F hs n nx made := ⟨hR, h.2.1, by rw [e]; exact h.2.2.1, fun j hj => by rw [e]; exact h.2.2.2 j hj⟩
set_option maxRecDepth 100000 in
theorem l_loop (hsc : sc.1 < 2147483648) (hKept : ∀ (B : Nat) (w : XW) (F : Nat → Nat) (hs : Nat → Nat → Nat) (n nx made : Nat), made ≤ 54 → B < 16777216 → LI B w F hs n nx made → OK (f_L_isKept (zI made) w)) : ∀ (d fuel t made : Nat) (B : Nat) (w : XW) (F : Nat → Nat) (hs : Nat → Nat → Nat) (n nx : Nat), t + d = 54 → d < fuel → made ≤ t → B + 1600 * d < 16777216 → LI B w F hs n nx made → OK (f_L_law_28 sc fuel (zI made) (zI (5 * t)) (zI t) w) := by
  intro d
  induction d with
  | zero =>
    intro fuel t made B w F hs n nx h1 h2 h3 h4 h5
    cases fuel with
    | zero => omega
    | succ fuel =>
      obtain ⟨w', e⟩ := hKept B w F hs n nx made (by omega) (by omega) h5
      refine ⟨w', ?_⟩
      unfold f_L_law_28
      rw [if_pos (by rw [zl_54, zI_le (by omega) (by omega)]; omega), e, bI_s, if_pos nar1]
  | succ d ih =>
    intro fuel t made B w F hs n nx h1 h2 h3 h4 h5
    cases fuel with
    | zero => omega
    | succ fuel =>
      have hR := h5.1
      have go : ∀ k, k < 46 → OK (f_L_law_89 sc (fun a0 a1 a2 w9 => f_L_law_28 sc fuel a0 a1 a2 w9) (zI made) (zI (5 * t)) (zI t) (sumV F) (zI n) (zI k) w) := fun k hk =>
        t_89 hsc (by omega) hR (by omega) (by omega) (by omega) hk ⟨fun w' G g1 g2 => by
          have h := ih fuel (t + 1) (made + 1) (B + 1600) _ G _ _ _ (by omega) (by omega) (by omega) (by omega) (h5.next g1 g2)
          rw [show 5 * (t + 1) = 5 * t + 5 by omega] at h
          exact h, fun w' g1 g2 => by
          have h := ih fuel (t + 1) made B w' F hs n nx (by omega) (by omega) (by omega) (by omega) (h5.same g1 g2)
          rw [show 5 * (t + 1) = 5 * t + 5 by omega] at h
          exact h⟩
      unfold f_L_law_28
      rw [if_neg (by rw [zl_54, zI_le (by omega) (by omega)]; omega), l_theSum hR.2.2.1 hR.2.1, bL_s, a_undoCount hR.2.2.2.1, bI_s]
      by_cases q4 : 4 ≤ t
      · rw [if_pos (by rw [zl_4, zI_le (by omega) (by omega)]; exact q4)]
        by_cases q7 : 7 ≤ t
        · rw [if_pos (by rw [zl_7, zI_le (by omega) (by omega)]; exact q7)]
          by_cases q10 : 10 ≤ t
          · obtain ⟨k, hk, e⟩ := l_pick hsc (k := 5 * t) (m := 46) (by omega) (by omega) (by omega) w
            rw [if_pos (by rw [zl_10, zI_le (by omega) (by omega)]; exact q10), zl_46, e, bI_s]
            exact go k hk
          · rw [if_neg (by rw [zl_10, zI_le (by omega) (by omega)]; exact q10)]
            exact go 8 (by omega)
        · rw [if_neg (by rw [zl_7, zI_le (by omega) (by omega)]; exact q7)]
          exact go 16 (by omega)
      · rw [if_neg (by rw [zl_4, zI_le (by omega) (by omega)]; exact q4)]
        exact go 0 (by omega)
theorem l_law (hsc : sc.1 < 2147483648) (hKept : ∀ (B : Nat) (w : XW) (F : Nat → Nat) (hs : Nat → Nat → Nat) (n nx made : Nat), made ≤ 54 → B < 16777216 → LI B w F hs n nx made → OK (f_L_isKept (zI made) w)) {w : XW} {F : Nat → Nat} {hs : Nat → Nat → Nat} {nx : Nat} (hR : RC 0 w F hs 0 nx) : OK (f_L_law sc w) := by
  unfold f_L_law
  rw [l_theSum hR.2.2.1 hR.2.1, bL_s]
  exact l_loop hsc hKept 54 56 0 0 0 (lset w 0 (sumV F)) F hs 0 nx (by omega) (by omega) (by omega) (by omega) ⟨hR, by rw [if_pos (by omega)], rfl, fun j hj => absurd hj (Nat.not_lt_zero j)⟩
end
