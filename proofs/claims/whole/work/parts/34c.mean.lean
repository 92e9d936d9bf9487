/-! the two quotients -/
theorem q_mean (B : Nat) (w : XW) (q : Rel B w.1) :
  (∃ w1, f_X10_meanWater w = some (.inr (aex, w1)) ∧ ∀ v, ∃ r w2, f_X11_meanWater (w1.1, v) = some (r, w2) ∧ w2.2 = v ∧ w2.1 141 0 = zI 1 ∧ Rel B w2.1) ∨
  (∃ r w1, f_X10_meanWater w = some (.inl (r, w1)) ∧ ∀ v, ∃ w2, f_X11_meanWater (w1.1, v) = some (r, w2) ∧ w2.2 = v ∧ w2.1 141 0 = zI 0 ∧ Rel B w2.1) := by
  obtain ⟨F, _, hI, hC, hM, _⟩ := q.get
  have a1 := hI.1
  have c0 : w.1 2 0 = zI (F 0) := hC.1
  by_cases h0 : F 0 = 0
  · refine Or.inl ⟨w, ?_, fun v => ⟨FP.dconst0, wset (w.1, v) 141 0 (zI 1), ?_, rfl, wset_hit _ _ _ _, q.thr v _⟩⟩
    · unfold f_X10_meanWater
      rw [c0, h0, if_neg (by decide)]
      rfl
    · unfold f_X11_meanWater
      rw [show Int32.toNatClampNeg 0 = 0 from rfl, show (w.1, v).1 142 0 = zI (F 0) from hM.at (by omega), h0, if_pos (by rfl), if_neg (by rw [wset_hit]; decide)]
      rfl
  · have hs : sm (fun i => F (5 + i)) (F 0) < 700 := by
      have := sm_bound (G := fun i => F (5 + i)) (c := 99) (F 0) (fun k hk => (hI.2.2.2.2.1 k (by omega)).1)
      omega
    have hok := mean_ok hs (show F 0 < 700 by omega) h0
    refine Or.inr ⟨FP.ddiv (FP.i2d (zI (sm (fun i => F (5 + i)) (F 0)))) (FP.i2d (zI (F 0))), w, ?_, fun v => ⟨wset (w.1, v) 141 0 (zI 0), ?_, rfl, wset_hit _ _ _ _, q.thr v _⟩⟩
    · unfold f_X10_meanWater
      rw [if_pos (by rw [c0, zl_0, zI_lt (by omega) (by omega)]; omega), c_sum hC hI, bI_s, c0, if_pos hok]
    · unfold f_X11_meanWater
      rw [show Int32.toNatClampNeg 0 = 0 from rfl, show (w.1, v).1 142 0 = zI (F 0) from hM.at (by omega), if_neg (by rw [zl_0, zI_inj (by omega) (by omega)]; exact h0), if_pos (by rw [wset_hit]; decide), zl_0, m_all (hM.thr v (zI 0)) hI, bI_s, (hM.thr v (zI 0)).at (by omega), if_pos hok]
theorem q_share (B : Nat) (hB : B < 16777216) (w : XW) (q : Rel B w.1) :
  (∃ w1, f_X10_leakedShare w = some (.inr (aex, w1)) ∧ ∀ v, ∃ r w2, f_X11_leakedShare (w1.1, v) = some (r, w2) ∧ w2.2 = v ∧ w2.1 141 0 = zI 1 ∧ Rel B w2.1) ∨
  (∃ r w1, f_X10_leakedShare w = some (.inl (r, w1)) ∧ okF64 (FP.f2d r) ∧ ∀ v, ∃ w2, f_X11_leakedShare (w1.1, v) = some (r, w2) ∧ w2.2 = v ∧ w2.1 141 0 = zI 0 ∧ Rel B w2.1) := by
  obtain ⟨F, hb, hI, hC, hM, _⟩ := q.get
  have a4 := hI.2.2.2.1
  have c1 : w.1 2 1 = zI (F 3) := hC.2.1
  have c2 : w.1 2 2 = zI (F 4) := hC.2.2.1
  by_cases h0 : F 3 = 0
  · refine Or.inl ⟨w, ?_, fun v => ⟨FP.fconst0, wset (w.1, v) 141 0 (zI 1), ?_, rfl, wset_hit _ _ _ _, q.thr v _⟩⟩
    · unfold f_X10_leakedShare
      rw [c1, h0, if_neg (by decide)]
      rfl
    · unfold f_X11_leakedShare
      rw [show Int32.toNatClampNeg 3 = 3 from rfl, show (w.1, v).1 142 3 = zI (F 3) from hM.at (by omega), h0, if_pos (by rfl), if_neg (by rw [wset_hit]; decide)]
      rfl
  · have hok := share_ok (show F 4 < 16777216 by omega) (show F 3 < 16777216 by omega) h0
    refine Or.inr ⟨FP.fdiv (FP.i2f (zI (F 4))) (FP.i2f (zI (F 3))), w, ?_, f2d_ok hok, fun v => ⟨wset (w.1, v) 141 0 (zI 0), ?_, rfl, wset_hit _ _ _ _, q.thr v _⟩⟩
    · unfold f_X10_leakedShare
      rw [if_pos (by rw [c1, zl_0, zI_lt (by omega) (by omega)]; omega), c1, c2, if_pos hok]
    · unfold f_X11_leakedShare
      rw [show Int32.toNatClampNeg 3 = 3 from rfl, show Int32.toNatClampNeg 4 = 4 from rfl, show (w.1, v).1 142 3 = zI (F 3) from hM.at (by omega), if_neg (by rw [zl_0, zI_inj (by omega) (by omega)]; exact h0), if_pos (by rw [wset_hit]; decide), zl_0, (hM.thr v (zI 0)).at (by omega), (hM.thr v (zI 0)).at (by omega), if_pos hok]
