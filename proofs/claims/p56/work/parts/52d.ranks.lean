/-! ranks by water: each rank is one section's -/
theorem inj_surj : ∀ (n : Nat) (f : Nat → Nat), (∀ k, k < n → f k < n) → (∀ j k, j < n → k < n → f j = f k → j = k) → ∀ y, y < n → ∃ k, k < n ∧ f k = y := by
  intro n
  induction n with
  | zero => intro f _ _ y hy; omega
  | succ n ih =>
    intro f hf hinj y hy
    have hg := ih (fun k => if f k = n then f n else f k) (fun k hk => by
      have h1 := hf k (by omega)
      have h2 := hf n (by omega)
      show (if f k = n then f n else f k) < n
      by_cases z : f k = n
      · rw [if_pos z]
        by_cases z2 : f n = n
        · have := hinj k n (by omega) (by omega) (z.trans z2.symm); omega
        · omega
      · rw [if_neg z]; omega) (fun j k hj hk e => by
      have e : (if f j = n then f n else f j) = (if f k = n then f n else f k) := e
      by_cases z1 : f j = n <;> by_cases z2 : f k = n
      · exact hinj j k (by omega) (by omega) (z1.trans z2.symm)
      · rw [if_pos z1, if_neg z2] at e
        have := hinj n k (by omega) (by omega) e; omega
      · rw [if_neg z1, if_pos z2] at e
        have := hinj j n (by omega) (by omega) e; omega
      · rw [if_neg z1, if_neg z2] at e
        exact hinj j k (by omega) (by omega) e)
    by_cases zn : f n = y
    · exact ⟨n, by omega, zn⟩
    · by_cases yn : y = n
      · subst yn
        have h2 := hf y (by omega)
        obtain ⟨k, hk, hk2⟩ := hg (f y) (by omega)
        have hk2 : (if f k = y then f y else f k) = f y := hk2
        by_cases z : f k = y
        · exact ⟨k, by omega, z⟩
        · rw [if_neg z] at hk2
          have := hinj k y (by omega) (by omega) hk2; omega
      · obtain ⟨k, hk, hk2⟩ := hg y (by omega)
        have hk2 : (if f k = n then f n else f k) = y := hk2
        by_cases z : f k = n
        · rw [if_pos z] at hk2; exact absurd hk2 zn
        · rw [if_neg z] at hk2; exact ⟨k, by omega, hk2⟩
theorem sm_lt {G G' : Nat → Nat} : ∀ {n x : Nat}, (∀ k, k < n → G k ≤ G' k) → x < n → G x < G' x → sm G n < sm G' n := by
  intro n x h hx hl
  have h1 := sm_le (G := fun k => if k = x then G k + 1 else G k) (G' := G') (n := n) (fun k hk => by
    show (if k = x then G k + 1 else G k) ≤ G' k
    by_cases z : k = x
    · rw [if_pos z, z]; exact hl
    · rw [if_neg z]; exact h k hk)
  have h2 : sm (fun k => if k = x then G k + 1 else G k) n + G x = sm G n + (if x = x then G x + 1 else G x) := sm_off (G := G) (G' := fun k => if k = x then G k + 1 else G k) (x := x) (n := n) (fun k _ hne => if_neg hne) hx
  rw [if_pos rfl] at h2
  omega
section
variable {F : Nat → Nat}
theorem ah_tr (a b c : Nat) (h1 : ahF F a b = 1) (h2 : ahF F b c = 1) : ahF F a c = 1 := by
  unfold ahF at *
  split at h1 <;> split at h2 <;> (try split at h1) <;> (try split at h2) <;> (try split at h1) <;> (try split at h2) <;> split <;> (try split) <;> (try split) <;> omega
theorem ah_asym (a b : Nat) (h : a ≠ b) : ahF F a b = 1 ∨ ahF F b a = 1 := by
  unfold ahF
  split <;> (try split) <;> (try split) <;> split <;> (try split) <;> (try split) <;> omega
theorem rk_lt {a b : Nat} (ha : a < F 0) (h : ahF F a b = 1) : rkF F a < rkF F b := by
  refine sm_lt (x := a) (fun k _ => ?_) ha (by rw [ah_self, h]; omega)
  rcases ah_01 F k a with e | e
  · omega
  · rw [e, ah_tr k a b e h]; omega
theorem rk_inj {a b : Nat} (ha : a < F 0) (hb : b < F 0) (h : rkF F a = rkF F b) : a = b := by
  by_cases z : a = b
  · exact z
  · rcases ah_asym (F := F) a b z with e | e
    · have := rk_lt ha e; omega
    · have := rk_lt hb e; omega
theorem rk_n {a : Nat} (ha : a < F 0) : rkF F a < F 0 := by
  have h1 := sm_lt (G := fun o => ahF F o a) (G' := fun _ => 1) (n := F 0) (x := a) (fun k _ => by rcases ah_01 F k a with e | e <;> omega) ha (by show ahF F a a < 1; rw [ah_self]; omega)
  rw [sm_const] at h1
  show sm (fun o => ahF F o a) (F 0) < F 0
  omega
theorem fdR_ex {r : Nat} (h31 : r < 2147483648) (h7 : F 0 ≤ 7) : ∀ (k s : Nat), s + k = F 0 → (∃ t, s ≤ t ∧ t < F 0 ∧ rkF F t = r) → ∃ y, fdR F (zI r) k s = some y ∧ y < F 0 ∧ rkF F y = r := by
  intro k
  induction k with
  | zero => intro s hs ⟨t, h1, h2, _⟩; omega
  | succ k ih =>
    intro s hs ⟨t, h1, h2, h3⟩
    have hr := rk_n (F := F) (show s < F 0 by omega)
    unfold fdR
    by_cases z : rkF F s = r
    · rw [if_pos (by rw [z])]
      exact ⟨s, rfl, by omega, z⟩
    · rw [if_neg (by rw [zI_inj (by omega) h31]; exact z)]
      refine ih (s + 1) (by omega) ⟨t, ?_, h2, h3⟩
      by_cases e : t = s
      · exact absurd (e ▸ h3) z
      · omega
theorem rank_ex {r : Nat} (h7 : F 0 ≤ 7) (hr : r < F 0) : ∃ y, fdR F (zI r) (F 0) 0 = some y ∧ y < F 0 ∧ rkF F y = r := by
  obtain ⟨k, hk, hk2⟩ := inj_surj (F 0) (rkF F) (fun k hk => rk_n hk) (fun j k hj hk e => rk_inj hj hk e) r hr
  exact fdR_ex (by omega) h7 (F 0) 0 (by omega) ⟨k, by omega, hk, hk2⟩
/-- the section of a rank -/
def atR (F : Nat → Nat) (r : Nat) : Nat := (fdR F (zI r) (F 0) 0).getD 0
theorem atR_ok (h7 : F 0 ≤ 7) {r : Nat} (hr : r < F 0) : atR F r < F 0 ∧ rkF F (atR F r) = r := by
  obtain ⟨y, h1, h2, h3⟩ := rank_ex h7 hr
  unfold atR
  rw [h1]
  exact ⟨h2, h3⟩
theorem a_byWater {w : XW} (hC : Cls w.1 1 F) (hI : Inv F) {r : Nat} (hr : r < F 0) : f_L_sectionByWater (zI r) w = some (zI (atR F r), w) := by
  obtain ⟨y, h1, h2, h3⟩ := rank_ex hI.1 hr
  have h7 := hI.1
  unfold f_L_sectionByWater f_X10_sectionByWater atR
  rw [c_atRank hC hI, h1, bI_s]
  show bCI (if zI y = -1 then _ else _) _ _ = _
  rw [if_neg (by rw [zl_1, zm1, zI_zM (by omega)]; exact id), bCI_s]
  rfl
/-- water falls with the rank -/
theorem rank_water (h7 : F 0 ≤ 7) {r : Nat} (h : r + 1 < F 0) : F (5 + atR F (r + 1)) ≤ F (5 + atR F r) := by
  obtain ⟨a1, a2⟩ := atR_ok h7 (show r < F 0 by omega)
  obtain ⟨b1, b2⟩ := atR_ok h7 h
  have hne : atR F (r + 1) ≠ atR F r := fun e => by rw [e] at b2; omega
  rcases ah_asym (F := F) _ _ hne with e | e
  · have := rk_lt b1 e; omega
  · unfold ahF at e
    split at e
    · omega
    · split at e
      · omega
      · omega
end
