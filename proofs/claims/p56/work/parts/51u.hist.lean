/-! what is kept: the class's ring, the reference's row -/
def hcons (F : Nat → Nat) (hs : Nat → Nat → Nat) : Nat → Nat → Nat := fun i => if i = 0 then F else hs (i - 1)
def n8 (n : Nat) : Nat := if 8 < n + 1 then 8 else n + 1
def HC (h : Nat → Nat → Int32) (hs : Nat → Nat → Nat) (n nx : Nat) : Prop := n ≤ 8 ∧ nx < 8 ∧ h 34 1 = zI nx ∧ h 34 2 = zI n ∧ ∀ i, i < n → Cls h (slot nx i) (hs i)
def HM (h : Nat → Nat → Int32) (hs : Nat → Nat → Nat) (n : Nat) : Prop := h 141 5 = zI n ∧ ∀ i, i < n → Mo h 145 (66 * (n - 1 - i)) (hs i)
theorem stOK8 {nx : Nat} (h : nx < 8) : stOK (36 + 11 * nx) := by
  have e : nx = 0 ∨ nx = 1 ∨ nx = 2 ∨ nx = 3 ∨ nx = 4 ∨ nx = 5 ∨ nx = 6 ∨ nx = 7 := by omega
  rcases e with rfl | rfl | rfl | rfl | rfl | rfl | rfl | rfl <;> decide
theorem h_stateAt {nx : Nat} (h : nx < 8) (w : XW) : f_X3_stateAt (zI nx) w = some (some (36 + 11 * nx), w) := by
  unfold f_X3_stateAt
  rw [if_neg (by rw [zl_0, zI_lt (by omega) (by omega)]; omega), if_neg (by rw [zl_8, zI_le (by omega) (by omega)]; omega), if_pos (by rw [inB_z (by omega)]; omega), zI_nat (by omega)]
theorem bQ_s {ρ : Type} (t : Nat) (w : XW) (K0 : XW → Option ρ) (K1 : Nat → XW → Option ρ) : bQ (some (some t, w)) K0 K1 = K1 t w := (rfl)
theorem h_keep {w : XW} {hs : Nat → Nat → Nat} {n nx k1 : Nat} {F : Nat → Nat} (H : HC w.1 hs n nx) (hC : Cls w.1 k1 F) (hk : k1 + 11 ≤ 34) (h1 : F 1 ≤ 7) (h2 : F 2 ≤ 10) :
    ∃ w', f_X3_keep k1 w = some w' ∧ Fr (fun a => a = 34 ∨ (37 ≤ a ∧ a ≤ 123)) w w' ∧ HC w'.1 (hcons F hs) (n8 n) ((nx + 1) % 8) := by
  obtain ⟨a1, a2, a3, a4, a5⟩ := H
  obtain ⟨w1, e1, e2, e3⟩ := z_copy (k := 36 + 11 * nx) hC (by omega) h1 h2
  have b3 : w1.1 34 1 = zI nx := by rw [e2.at (by omega)]; exact a3
  have b4 : w1.1 34 2 = zI n := by rw [e2.at (by omega)]; exact a4
  have hfr : Fr (fun a => a = 34) w1 (wset (wset w1 34 1 (zI ((nx + 1) % 8))) 34 2 (zI (n8 n))) := (fr1 _ _).tr (fr1 _ _)
  refine ⟨wset (wset w1 34 1 (zI ((nx + 1) % 8))) 34 2 (zI (n8 n)), ?_, (e2.wk (fun a z => by omega)).tr (hfr.wk (fun a z => by omega)), ?_, by omega, ?_, ?_, fun i hi => ?_⟩
  · unfold f_X3_keep
    rw [a3, h_stateAt a2, bQ_s, if_pos (stOK8 a2), e1, bV_s, b3, zl_1, zl_8, zI_add, zI_div (by omega) (by omega), zI_mul, zI_sub (by omega), show nx + 1 - (nx + 1) / 8 * 8 = (nx + 1) % 8 by omega, show ((wset w1 34 1 (zI ((nx + 1) % 8))).1 34 2) = zI n by rw [wset_at, if_neg (by omega)]; exact b4, zI_add]
    unfold n8
    simp only [zI_lt (show 8 < 2147483648 by omega) (show n + 1 < 2147483648 by omega), zI_ite]
  · unfold n8; split <;> omega
  · rw [wset_at, if_neg (by omega), wset_hit]
  · exact wset_hit _ _ _ _
  · unfold hcons
    by_cases z : i = 0
    · rw [if_pos z]
      have : slot ((nx + 1) % 8) i = 36 + 11 * nx := by unfold slot; omega
      rw [this]
      exact e3.fr hfr (fun a h1 h2 => by omega)
    · rw [if_neg z]
      have hn : i < n + 1 := by unfold n8 at hi; split at hi <;> omega
      have hi7 : i < 8 := by unfold n8 at hi; split at hi <;> omega
      have hsl : slot ((nx + 1) % 8) i = slot nx (i - 1) := by unfold slot; omega
      have hne : slot nx (i - 1) + 11 ≤ 36 + 11 * nx ∨ 36 + 11 * nx + 11 ≤ slot nx (i - 1) := by unfold slot; omega
      rw [hsl]
      have hin := slot_in nx (i - 1)
      exact ((a5 (i - 1) (by omega)).fr e2 (fun a h1 h2 => by omega)).fr hfr (fun a h1 h2 => by omega)
/-- taken back: the newest -/
theorem h_back {w : XW} {hs : Nat → Nat → Nat} {n nx : Nat} (H : HC w.1 hs (n + 1) nx) (h1 : hs 0 1 ≤ 7) (h2 : hs 0 2 ≤ 10) :
    ∃ w', f_X3_takeBack 1 w = some w' ∧ Fr (fun a => a = 34 ∨ (2 ≤ a ∧ a ≤ 11)) w w' ∧ HC w'.1 (fun i => hs (i + 1)) n ((nx + 7) % 8) ∧ Cls w'.1 1 (hs 0) := by
  obtain ⟨a1, a2, a3, a4, a5⟩ := H
  have hfr : Fr (fun a => a = 34) w (wset (wset w 34 1 (zI ((nx + 7) % 8))) 34 2 (zI n)) := (fr1 _ _).tr (fr1 _ _)
  have h0 := a5 0 (by omega)
  have hs0 : slot nx 0 = 36 + 11 * ((nx + 7) % 8) := by unfold slot; rw [Nat.sub_zero]
  rw [hs0] at h0
  obtain ⟨w1, e1, e2, e3⟩ := z_copy (k := 1) (w := wset (wset w 34 1 (zI ((nx + 7) % 8))) 34 2 (zI n)) (h0.fr hfr (fun a h1 h2 => by omega)) (by omega) h1 h2
  refine ⟨w1, ?_, (hfr.wk (fun a z => by omega)).tr (e2.wk (fun a z => by omega)), ⟨by omega, by omega, ?_, ?_, fun i hi => ?_⟩, e3⟩
  · unfold f_X3_takeBack
    rw [a4, if_neg (by rw [zl_0, zI_le (by omega) (by omega)]; omega), a3, zl_1, zl_8, zI_add, zI_sub (by omega), zI_div (by omega) (by omega), zI_mul, zI_sub (by omega), show nx + 8 - 1 - (nx + 8 - 1) / 8 * 8 = (nx + 7) % 8 by omega]
    rw [wset_at w, if_neg (by omega), a4, zI_sub (by omega), Nat.add_sub_cancel, wset_at, if_neg (by omega), wset_hit, h_stateAt (by omega), bQ_s, if_pos (stOK8 (by omega)), e1, bV_s]
  · rw [e2.at (by omega), wset_at, if_neg (by omega), wset_hit]
  · rw [e2.at (by omega), wset_hit]
  · have hsl : slot ((nx + 7) % 8) i = slot nx (i + 1) := by unfold slot; omega
    rw [hsl]
    have hin := slot_in nx (i + 1)
    exact ((a5 (i + 1) (by omega)).fr hfr (fun a h1 h2 => by omega)).fr e2 (fun a h1 h2 => by omega)
/-! the reference -/
theorem m_rem_loop : ∀ (d fuel i : Nat) (w : XW), i + d = 66 → d < fuel → ∃ w', f_X11_remembers_7 fuel (zI i) w = some w' ∧ Fr (fun a => a = 143) w w' ∧ (∀ j, j < i → w'.1 143 j = w.1 143 j) ∧ ∀ j, i ≤ j → j < 66 → w'.1 143 j = w.1 142 j := by
  intro d
  induction d with
  | zero =>
    intro fuel i w hi hf
    obtain ⟨f, rfl⟩ : ∃ f, fuel = f + 1 := ⟨fuel - 1, by omega⟩
    refine ⟨w, ?_, Fr.rf, fun j _ => rfl, fun j h1 h2 => by omega⟩
    rw [f_X11_remembers_7, if_pos (by rw [zl_66, zI_le (by omega) (by omega)]; omega)]
  | succ d ih =>
    intro fuel i w hi hf
    obtain ⟨f, rfl⟩ : ∃ f, fuel = f + 1 := ⟨fuel - 1, by omega⟩
    have hfr : Fr (fun a => a = 143) w (wset w 143 i (w.1 142 i)) := fr1 _ _
    obtain ⟨w', e1, e2, e3, e4⟩ := ih f (i + 1) (wset w 143 i (w.1 142 i)) (by omega) (by omega)
    refine ⟨w', ?_, hfr.tr e2, fun j hj => ?_, fun j h1 h2 => ?_⟩
    · rw [f_X11_remembers_7, if_neg (by rw [zl_66, zI_le (by omega) (by omega)]; omega), if_pos (by rw [inB_z (by omega)]; omega), if_pos (by rw [inB_z (by omega)]; omega), zI_nat (by omega), zl_1, zI_add]
      exact e1
    · rw [e3 j (by omega), wset_at, if_neg (by omega)]
    · by_cases z : j = i
      · subst z; rw [e3 j (by omega), wset_hit]
      · rw [e4 j (by omega) h2, hfr.at (by omega)]
theorem m_rem (w : XW) : ∃ w', f_X11_remembers w = some w' ∧ Fr (fun a => a = 143) (wset w 141 0 (zI 0)) w' ∧ ∀ j, j < 66 → w'.1 143 j = w.1 142 j := by
  obtain ⟨w', e1, e2, e3, e4⟩ := m_rem_loop 66 1000 0 (wset w 141 0 (zI 0)) (by omega) (by omega)
  exact ⟨w', e1, e2, fun j hj => (e4 j (by omega) hj).trans (by rw [wset_at, if_neg (by omega)])⟩
theorem m_sh_loop (y : Int32) : ∀ (d fuel i : Nat) (w : XW), i + d = 462 → d < fuel → ∃ w', f_X11_changed_11 y fuel (zI i) w = f_X11_changed_54 y 1000 0 w' ∧ Fr (fun a => a = 145) w w' ∧ (∀ j, j < i → w'.1 145 j = w.1 145 j) ∧ ∀ j, i ≤ j → j < 462 → w'.1 145 j = w.1 145 (j + 66) := by
  intro d
  induction d with
  | zero =>
    intro fuel i w hi hf
    obtain ⟨f, rfl⟩ : ∃ f, fuel = f + 1 := ⟨fuel - 1, by omega⟩
    refine ⟨w, ?_, Fr.rf, fun j _ => rfl, fun j h1 h2 => by omega⟩
    rw [f_X11_changed_11, if_pos (by rw [zl_462, zI_le (by omega) (by omega)]; omega)]
  | succ d ih =>
    intro fuel i w hi hf
    obtain ⟨f, rfl⟩ : ∃ f, fuel = f + 1 := ⟨fuel - 1, by omega⟩
    have hfr : Fr (fun a => a = 145) w (wset w 145 i (w.1 145 (i + 66))) := fr1 _ _
    obtain ⟨w', e1, e2, e3, e4⟩ := ih f (i + 1) (wset w 145 i (w.1 145 (i + 66))) (by omega) (by omega)
    refine ⟨w', ?_, hfr.tr e2, fun j hj => ?_, fun j h1 h2 => ?_⟩
    · rw [f_X11_changed_11, if_neg (by rw [zl_462, zI_le (by omega) (by omega)]; omega), zl_66, zI_add, if_pos (by rw [inB_z (by omega)]; omega), if_pos (by rw [inB_z (by omega)]; omega), zI_nat (by omega), zI_nat (by omega), zl_1, zI_add]
      exact e1
    · rw [e3 j (by omega), wset_at, if_neg (by omega)]
    · by_cases z : j = i
      · subst z; rw [e3 j (by omega), wset_hit]
      · rw [e4 j (by omega) h2, wset_at, if_neg (by omega)]
theorem m_kp_loop (y : Int32) {n : Nat} (h1 : 1 ≤ n) (h8 : n ≤ 8) : ∀ (d fuel i : Nat) (w : XW), i + d = 66 → d < fuel → w.1 141 5 = zI n → ∃ w', f_X11_changed_54 y fuel (zI i) w = some (y, w') ∧ Fr (fun a => a = 145) w w' ∧ (∀ j, (j < 66 * (n - 1) + i ∨ 66 * n ≤ j) → w'.1 145 j = w.1 145 j) ∧ ∀ j, i ≤ j → j < 66 → w'.1 145 (66 * (n - 1) + j) = w.1 143 j := by
  intro d
  induction d with
  | zero =>
    intro fuel i w hi hf hn
    obtain ⟨f, rfl⟩ : ∃ f, fuel = f + 1 := ⟨fuel - 1, by omega⟩
    refine ⟨w, ?_, Fr.rf, fun j _ => rfl, fun j h1 h2 => by omega⟩
    rw [f_X11_changed_54, if_pos (by rw [zl_66, zI_le (by omega) (by omega)]; omega)]
  | succ d ih =>
    intro fuel i w hi hf hn
    obtain ⟨f, rfl⟩ : ∃ f, fuel = f + 1 := ⟨fuel - 1, by omega⟩
    have hfr : Fr (fun a => a = 145) w (wset w 145 (66 * (n - 1) + i) (w.1 143 i)) := fr1 _ _
    obtain ⟨w', e1, e2, e3, e4⟩ := ih f (i + 1) (wset w 145 (66 * (n - 1) + i) (w.1 143 i)) (by omega) (by omega) (by rw [hfr.at (by omega)]; exact hn)
    refine ⟨w', ?_, hfr.tr e2, fun j hj => ?_, fun j h1 h2 => ?_⟩
    · rw [f_X11_changed_54, if_neg (by rw [zl_66, zI_le (by omega) (by omega)]; omega), hn, zl_66, zl_1, zI_sub h1, zI_mul, zI_add, if_pos (by rw [inB_z (by omega)]; omega), if_pos (by rw [inB_z (by omega)]; omega), zI_nat (by omega), zI_nat (by omega), zI_add]
      exact e1
    · rw [e3 j (by omega), wset_at, if_neg (by omega)]
    · by_cases z : j = i
      · subst z; rw [e3 _ (by omega), wset_hit]
      · rw [e4 j (by omega) h2, hfr.at (by omega)]
/-- a change is kept: its answer, the frame before it in front -/
theorem m_changed {w : XW} {hs : Nat → Nat → Nat} {n : Nat} {F : Nat → Nat} (y : Int32) (hn : n ≤ 8) (H : HM w.1 hs n) (hM : Mo w.1 143 0 F) :
    ∃ w', f_X11_changed y w = some (y, w') ∧ Fr (fun a => a = 141 ∨ a = 145) w w' ∧ (∀ c, c ≠ 5 → w'.1 141 c = w.1 141 c) ∧ HM w'.1 (hcons F hs) (n8 n) := by
  obtain ⟨a1, a2⟩ := H
  by_cases e : n = 8
  · subst e
    obtain ⟨w1, e1, e2, e3, e4⟩ := m_sh_loop y 462 1000 0 w (by omega) (by omega)
    obtain ⟨w2, f1, f2, f3, f4⟩ := m_kp_loop y (n := 8) (by omega) (by omega) 66 1000 0 w1 (by omega) (by omega) (by rw [e2.at (by omega)]; exact a1)
    refine ⟨w2, ?_, (e2.wk (fun a z => Or.inr z)).tr (f2.wk (fun a z => Or.inr z)), fun c _ => by rw [f2.at (by omega), e2.at (by omega)], ?_, fun i hi j hj => ?_⟩
    · unfold f_X11_changed
      rw [a1, if_pos (by rfl)]
      exact e1.trans f1
    · rw [f2.at (by omega), e2.at (by omega)]; exact a1
    · have hn8 : n8 8 = 8 := rfl
      rw [hn8] at hi ⊢
      unfold hcons
      by_cases z : i = 0
      · rw [if_pos z, z]
        have := f4 j (by omega) hj
        rw [show 66 * (8 - 1 - 0) + j = 66 * (8 - 1) + j by omega, this, e2.at (by omega)]
        exact hM.at hj
      · rw [if_neg z, f3 _ (by omega), e4 _ (by omega) (by omega)]
        have := a2 (i - 1) (by omega) j hj
        rwa [show 66 * (8 - 1 - (i - 1)) + j = 66 * (8 - 1 - i) + j + 66 by omega] at this
  · have hfr : Fr (fun a => a = 141) w (wset w 141 5 (zI (n + 1))) := fr1 _ _
    obtain ⟨w2, f1, f2, f3, f4⟩ := m_kp_loop y (n := n + 1) (by omega) (by omega) 66 1000 0 (wset w 141 5 (zI (n + 1))) (by omega) (by omega) (wset_hit _ _ _ _)
    have hn8 : n8 n = n + 1 := by unfold n8; rw [if_neg (by omega)]
    refine ⟨w2, ?_, (hfr.wk (fun a z => Or.inl z)).tr (f2.wk (fun a z => Or.inr z)), fun c hc => by rw [f2.at (by omega), wset_at, if_neg (fun z => hc z.2)], ?_, fun i hi j hj => ?_⟩
    · unfold f_X11_changed
      rw [a1, if_neg (by rw [zl_8, zI_inj (by omega) (by omega)]; exact e), zl_1, zI_add]
      exact f1
    · rw [f2.at (by omega), hn8]; exact wset_hit _ _ _ _
    · rw [hn8] at hi ⊢
      unfold hcons
      by_cases z : i = 0
      · rw [if_pos z, z, show 66 * (n + 1 - 1 - 0) + j = 66 * (n + 1 - 1) + j by omega, f4 j (by omega) hj, hfr.at (by omega)]
        exact hM.at hj
      · rw [if_neg z, f3 _ (by omega), hfr.at (by omega)]
        have := a2 (i - 1) (by omega) j hj
        rwa [show 66 * (n - 1 - (i - 1)) + j = 66 * (n + 1 - 1 - i) + j by omega] at this
