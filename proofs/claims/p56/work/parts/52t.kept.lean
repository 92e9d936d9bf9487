/-! all changes undone, one by one -/
theorem k_undo {B : Nat} {S : Nat → Nat} {W2 : Nat → Int64} {y2 y3 : Int32} (fin : ∀ (w : XW) (F : Nat → Nat) (hs : Nat → Nat → Nat) (nx fuel : Nat) (z5 : Int32), RC B w F hs 0 nx → Cls w.1 23 S → w.1 0 10 = zI 1 → w.2 = W2 → OK (f_L_isKept_29 y2 y3 (fuel + 1) (zI 0) z5 w)) : ∀ (j fuel m : Nat) (w : XW) (F : Nat → Nat) (hs : Nat → Nat → Nat) (nx : Nat), RC B w F hs j nx → Cls w.1 23 S → w.1 0 10 = zI 1 → w.2 = W2 → j ≤ m → m ≤ 60 → (∀ i, i < j → W2 (m - 1 - i) = sumV (hs i)) → j < fuel → OK (f_L_isKept_29 y2 y3 fuel (zI j) (zd m) w) := by
  intro j
  induction j with
  | zero =>
    intro fuel m w F hs nx hR hC h0 h2 _ _ _ hf
    cases fuel with
    | zero => omega
    | succ fuel => exact fin w F hs nx fuel _ hR hC h0 h2
  | succ j ih =>
    intro fuel m w F hs nx hR hC h0 h2 hm hm2 hw hf
    cases fuel with
    | zero => omega
    | succ fuel =>
      obtain ⟨w1, e, hR1, f1⟩ := l_undo hR
      have hz : zd m = zI (m - 1) := by unfold zd; rw [if_neg (by omega)]
      have hw0 := hw 0 (by omega)
      rw [Nat.sub_zero] at hw0
      obtain ⟨w', e'⟩ := ih fuel (m - 1) w1 (hs 0) (fun i => hs (i + 1)) _ hR1 (hC.fr f1 (fun a h1 h2 => by omega)) (by rw [f1.at (by omega)]; exact h0) (f1.2.trans h2) (by omega) (by omega) (fun i hi => by
        have := hw (i + 1) (by omega)
        rw [← this]
        congr 1
        omega) (by omega)
      refine ⟨w', ?_⟩
      unfold f_L_isKept_29
      rw [if_neg (by rw [zl_0, zI_le (by have := hR.2.2.2.1.1; omega) (by omega)]; omega), e, bI_s, zl_1, zm1, zI_addM (by omega), if_pos (by rw [Nat.add_sub_cancel]), l_theSum hR1.2.2.1 hR1.2.1, bL_s, hz, if_pos (by rw [inB_z (by omega)]; omega), zI_nat (by omega), f1.2, h2, hw0, cmp_self, if_pos rfl, zd_s, Nat.add_sub_cancel]
      exact e'
