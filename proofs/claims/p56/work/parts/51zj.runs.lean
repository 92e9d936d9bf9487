/-! a command that is run -/
theorem gtL_mem : ∀ (l : List Nat) (i : Nat), i < l.length → gtL l i ∈ l := by
  intro l
  induction l with
  | nil => intro i h; cases h
  | cons x l ih =>
    intro i h
    cases i with
    | zero => exact List.mem_cons_self
    | succ i => exact List.mem_cons_of_mem _ (ih i (by simpa using h))
theorem mtc_v {ch : Nat → Nat} (h : ∀ i, ch i < 65536) : ∀ (l : List Nat) (p x : Nat), x ∈ (mtc ch l p).2.2 → x < 1000000 := by
  intro l
  induction l with
  | nil => intro p x hx; cases hx
  | cons s l ih =>
    intro p x hx
    have one : ∀ v q, v < 1000000 → x ∈ (mcs v (mtc ch l q)).2.2 → x < 1000000 := fun v q hv hx => by
      rcases List.mem_cons.mp (show x ∈ v :: (mtc ch l q).2.2 from hx) with e | e
      · rw [e]; exact hv
      · exact ih q x e
    have h1 := h p
    have h2 := h (p + 1)
    rw [mtc_c] at hx
    by_cases c1 : s = 68
    · rw [if_pos c1] at hx
      by_cases c2 : dg (ch p) = true
      · rw [if_pos c2] at hx; exact one _ _ (by omega) hx
      · rw [if_neg c2] at hx; cases hx
    · rw [if_neg c1] at hx
      by_cases c3 : s = 78
      · rw [if_pos c3] at hx
        by_cases c2 : dg (ch p) = true
        · rw [if_pos c2] at hx
          by_cases c4 : dg (ch (p + 1)) = true
          · rw [if_pos c4] at hx; exact one _ _ (by omega) hx
          · rw [if_neg c4] at hx; exact one _ _ (by omega) hx
        · rw [if_neg c2] at hx; cases hx
      · rw [if_neg c3] at hx
        by_cases c4 : s = 84
        · rw [if_pos c4] at hx
          by_cases c2 : tm (ch p) = true
          · rw [if_pos c2] at hx; exact one _ _ (by omega) hx
          · rw [if_neg c2] at hx; cases hx
        · rw [if_neg c4] at hx
          by_cases c2 : ch p = s
          · rw [if_pos c2] at hx; exact ih _ x hx
          · rw [if_neg c2] at hx; cases hx
theorem rd_v {ch : Nat → Nat} {t : Nat} (h : ∀ i, ch i < 65536) : ∀ (f p : Nat) (cs : List CM), (∀ q, q ∈ cs → ∀ x, x ∈ q.2 → x < 1000000) → ∀ q, q ∈ (rd ch t f p cs).2.2 → ∀ x, x ∈ q.2 → x < 1000000 := by
  intro f
  induction f with
  | zero => exact fun p cs hc => hc
  | succ f ih =>
    intro p cs hc
    have hq : ∀ q, q ∈ cs ++ [(rcW ch p).2.2] → ∀ x, x ∈ q.2 → x < 1000000 := fun q hq x hx => by
      rcases List.mem_append.mp hq with e | e
      · exact hc q e x hx
      · rw [List.mem_singleton.mp e] at hx
        unfold rcW at hx
        by_cases z : sel (ch p) (ch (p + 1)) < 12
        · rw [if_pos z] at hx; exact mtc_v h _ _ x hx
        · rw [if_neg z] at hx; cases hx
    rw [rd_s]
    by_cases h1 : (rcW ch p).1 = true
    · rw [if_pos h1]
      by_cases h2 : (rcW ch p).2.1 = t
      · rw [if_pos h2]; exact hq
      · rw [if_neg h2]
        by_cases h3 : ch (rcW ch p).2.1 = 59
        · rw [if_pos h3]; exact ih _ _ hq
        · rw [if_neg h3]; exact hc
    · rw [if_neg h1]; exact hc
def mopC (q : CM) : XW → Option (Int32 × XW) :=
  if q.1 = 0 then f_X11_adds else if q.1 = 1 then f_X11_pours (zI (gtL q.2 0)) (zI (gtL q.2 1)) else if q.1 = 2 then f_X11_tags (zI (gtL q.2 0)) (zI (gtL q.2 1)) 1 else if q.1 = 3 then f_X11_tags (zI (gtL q.2 0)) (zI (gtL q.2 1)) 0 else if q.1 = 4 then f_X11_folds (zI (gtL q.2 0)) else if q.1 = 5 then f_X11_opens else if q.1 = 6 then f_X11_pipes (zI (gtL q.2 0)) (zI (gtL q.2 1)) (zI (gtL q.2 2)) else if q.1 = 7 then f_X11_cuts (zI (gtL q.2 0)) else if q.1 = 8 then f_X11_turns (zI (gtL q.2 0)) 1 else if q.1 = 9 then f_X11_turns (zI (gtL q.2 0)) 0 else if q.1 = 10 then f_X11_drains else f_X11_seeps
theorem cS_B : cS (sN 1) = 2 ∧ cS (sN 2) = 2 ∧ cS (sN 3) = 2 ∧ cS (sN 4) = 1 ∧ cS (sN 6) = 3 ∧ cS (sN 7) = 1 ∧ cS (sN 8) = 1 ∧ cS (sN 9) = 1 := by decide +kernel
theorem runQ {w : XW} {cs : List CM} {j : Nat} {q : CM} (C : CCm w.1 cs) (hq : cs[j]? = some q) (hn : cs.length ≤ 16) (hg : gdC q) (hv : ∀ x, x ∈ q.2 → x < 1000000) : ∃ a b c : Int32, OpR (zI q.1) a b c (mopC q) ∧ f_X10_runCommand (zI j) w = (bI (f_X8_judge 1 (zI q.1) a b c w) (fun r5 w5 => (if r5 = 0 then (bI (f_X8_apply 1 (zI q.1) a b c w5) (fun r6 w6 => (some (r5, w6)))) else (some (r5, w5))))) := by
  have hj : j < cs.length := (List.getElem?_eq_some_iff.mp hq).1
  obtain ⟨c1, c2, c3⟩ := C.2 j q hq
  have hop : ∀ i, i < 3 → f_X0_operandOf (zI j) (zI i) w = some (w.1 140 (3 * j + i), w) := fun i hi => by
    unfold f_X0_operandOf
    have e : zI j * 3 + zI i = zI (3 * j + i) := by rw [zl_3, zI_mul, zI_add, Nat.mul_comm]
    simp only [e]
    rw [if_neg (show ¬ (zI (3 * j + i) < 0) by rw [zl_0, zI_lt (by omega) (by omega)]; omega), if_neg (show ¬ (180 ≤ zI (3 * j + i)) by rw [zl_180, zI_le (by omega) (by omega)]; omega), if_pos (by rw [inB_z (by omega)]; omega), zI_nat (by omega)]
  refine ⟨w.1 140 (3 * j + 0), w.1 140 (3 * j + 1), w.1 140 (3 * j + 2), ?_, ?_⟩
  · obtain ⟨k, os⟩ := q
    obtain ⟨g1, g2⟩ := hg
    obtain ⟨b1, b2, b3, b4, b5, b6, b7, b8⟩ := cS_B
    have hk' : k = 0 ∨ k = 1 ∨ k = 2 ∨ k = 3 ∨ k = 4 ∨ k = 5 ∨ k = 6 ∨ k = 7 ∨ k = 8 ∨ k = 9 ∨ k = 10 ∨ k = 11 := by have : k < 12 := g1; omega
    have gl : os.length = cS (sN k) := g2
    clear g2
    have c4 : ∀ i, i < os.length → w.1 140 (3 * j + i) = zI (gtL os i) := c3
    clear c3
    have nn : ∀ i, i < os.length → ¬ (zI (gtL os i) < 0) := fun i hi => by
      have := hv _ (gtL_mem os i hi)
      rw [zl_0, zI_lt (by omega) (by omega)]; omega
    rcases hk' with rfl | rfl | rfl | rfl | rfl | rfl | rfl | rfl | rfl | rfl | rfl | rfl
    · exact op_add _ _ _
    · rw [b1] at gl; rw [c4 0 (by omega), c4 1 (by omega)]; exact op_pour _ _ _
    · rw [b2] at gl; rw [c4 0 (by omega), c4 1 (by omega)]; exact op_tag _ _ _ (nn 1 (by omega))
    · rw [b3] at gl; rw [c4 0 (by omega), c4 1 (by omega)]; exact op_untag _ _ _ (nn 1 (by omega))
    · rw [b4] at gl; rw [c4 0 (by omega)]; exact op_fold _ _ _
    · exact op_open _ _ _
    · rw [b5] at gl; rw [c4 0 (by omega), c4 1 (by omega), c4 2 (by omega)]; exact op_pipe _ _ _
    · rw [b6] at gl; rw [c4 0 (by omega)]; exact op_cut _ _ _
    · rw [b7] at gl; rw [c4 0 (by omega)]; exact op_break _ _ _
    · rw [b8] at gl; rw [c4 0 (by omega)]; exact op_mend _ _ _
    · exact op_drain _ _ _
    · exact op_seep _ _ _
  · unfold f_X10_runCommand
    have hkd : f_X0_kindOf (zI j) w = some (zI q.1, w) := by
      unfold f_X0_kindOf
      rw [if_neg (show ¬ (zI j < 0) by rw [zl_0, zI_lt (by omega) (by omega)]; omega), C.1, if_neg (show ¬ (zI cs.length ≤ zI j) by rw [zI_le (by omega) (by omega)]; omega), if_neg (show ¬ (60 ≤ zI j) by rw [zl_60, zI_le (by omega) (by omega)]; omega), if_pos (by rw [inB_z (by omega)]; omega), zI_nat (by omega), c1]
    have o0 : f_X0_operandOf (zI j) 0 w = some (w.1 140 (3 * j + 0), w) := hop 0 (by omega)
    have o1 : f_X0_operandOf (zI j) 1 w = some (w.1 140 (3 * j + 1), w) := hop 1 (by omega)
    have o2 : f_X0_operandOf (zI j) 2 w = some (w.1 140 (3 * j + 2), w) := hop 2 (by omega)
    rw [hkd, bI_s, o0, bI_s, o1, bI_s, o2, bI_s]
