section
variable {w0 : XW} {t : Nat} {ch : Nat → Nat} {F : Nat → Nat} {n : Nat}
theorem MSp.j {r : PR} {K : (Nat → Bool) → Nat → PR} {op : Nat} {o : Option (Int32 × XW)} {K' : Int32 → XW → Option (Int32 × XW)} (h : MSp w0 n r op o) (hok : ∀ m w', r.1 = false → MK n m r.2.1 → JM w0 r.2.2 op 0 w' → MSp w0 n (K r.2.1 r.2.2) op (K' (zI m) w')) (hwr : ∀ x w' q, r.1 = true → JM w0 r.2.2 q 1 w' → ∃ x', K' x w' = some (x', w')) : MSp w0 n (PGj r K) op (bI o K') := by
  obtain ⟨x, w', e, q, J, g⟩ := h
  rw [e, bI_s]
  unfold PGj
  by_cases z : r.1 = true
  · rw [if_pos z]
    rw [z] at J
    obtain ⟨x', e'⟩ := hwr x w' q z J
    exact ⟨x', w', e', q, J, fun h => by cases h⟩
  · rw [if_neg z]
    have z := Bool.eq_false_iff.mpr z
    obtain ⟨rfl, m, rfl, hm⟩ := g z
    rw [z] at J
    exact hok m w' z hm J
theorem m_parse (T : MT w0 t ch) (hM : Mo w0.1 142 0 F) (hI : Inv F) : ∀ f : Nat,
    (∀ op p k w, op ≤ 4 → p ≤ t → 5 * (t - p) < f → t - p < k → JM w0 p op 0 w → MSp w0 (F 0) (PG ch (stF F) f 0 op nV p) op (f_X11_factor k w)) ∧
    (∀ op p k lf m v w, op ≤ 4 → p ≤ t → 5 * (t - p) + 1 < f → t - p < k → t - p < lf → MK (F 0) m v → JM w0 p op 0 w → MSp w0 (F 0) (PG ch (stF F) f 1 op v p) op (f_X11_product_5 (f_X11_factor k) lf (zI m) w)) ∧
    (∀ op p k w, op ≤ 4 → p ≤ t → 5 * (t - p) + 2 < f → t - p < k → JM w0 p op 0 w → MSp w0 (F 0) (PG ch (stF F) f 2 op nV p) op (f_X11_product (f_X11_factor k) w)) ∧
    (∀ op p k lf m v w, op ≤ 4 → p ≤ t → 5 * (t - p) + 3 < f → t - p < k → t - p < lf → MK (F 0) m v → JM w0 p op 0 w → MSp w0 (F 0) (PG ch (stF F) f 3 op v p) op (f_X11_sums_5 (f_X11_factor k) lf (zI m) w)) ∧
    (∀ op p k w, op ≤ 4 → p ≤ t → 5 * (t - p) + 4 < f → t - p < k → JM w0 p op 0 w → MSp w0 (F 0) (PG ch (stF F) f 4 op nV p) op (f_X11_sums (f_X11_factor k) w)) := by
  have a1 := hI.1
  obtain ⟨t1, t2, t3, t4, t5⟩ := id T
  have hlt : ∀ p, ch p ≠ 0 → p < t := fun p h => by
    by_cases z : p < t
    · exact z
    · exact absurd (t5 p (by omega)) h
  intro f
  induction f with
  | zero => exact ⟨fun _ _ _ _ _ _ h => by omega, fun _ _ _ _ _ _ _ _ _ h => by omega, fun _ _ _ _ _ _ h => by omega, fun _ _ _ _ _ _ _ _ _ h => by omega, fun _ _ _ _ _ _ h => by omega⟩
  | succ f ih =>
    obtain ⟨iA, iB, iC, iD, iE⟩ := ih
    have hpw : ∀ (RC : XW → Option (Int32 × XW)) (lf q s : Nat) (z : Int32) (w : XW), 0 < lf → JM w0 q s 1 w → f_X11_product_5 RC lf z w = some (z, w) := fun RC lf q s z w hl J => by
      cases lf with
      | zero => omega
      | succ lf =>
        unfold f_X11_product_5
        rw [J.2.2.2.2, if_neg (by decide)]
    have hsw : ∀ (RC : XW → Option (Int32 × XW)) (lf q s : Nat) (z : Int32) (w : XW), 0 < lf → JM w0 q s 1 w → f_X11_sums_5 RC lf z w = some (z, w) := fun RC lf q s z w hl J => by
      cases lf with
      | zero => omega
      | succ lf =>
        unfold f_X11_sums_5
        rw [J.2.2.2.2, if_neg (by decide)]
    refine ⟨?_, ?_, ?_, ?_, ?_⟩
    · intro op p k w ho hp hf hk J
      cases k with
      | zero => omega
      | succ k =>
        rw [PG0]
        show MSp w0 (F 0) _ op (f_X11_factorO (f_X11_factor k) w)
        unfold f_X11_factorO
        rw [m_here T J hp, bI_s, m_termH t4 t5, bI_s]
        by_cases h1 : 97 ≤ ch p ∧ ch p ≤ 104
        · have hl := hlt p (by omega)
          rw [if_pos h1, if_pos h1, if_neg (show ¬ zI 1 = 0 by decide)]
          have hv : hvZ t ch p = zI (97 + (ch p - 97)) := by
            unfold hvZ; rw [if_pos hl, show 97 + (ch p - 97) = ch p by omega]
          rw [hv, m_bear J.nx hM hI (by omega)]
          exact ⟨_, _, rfl, op, J.nx, fun _ => ⟨rfl, _, rfl, smk_MK (btT_le F _) _ a1⟩⟩
        · rw [if_neg h1, if_neg h1, if_pos (show zI 0 = 0 from rfl)]
          by_cases h2 : ch p = 45
          · have hl := hlt p (by omega)
            rw [if_pos h2, if_pos (show hvZ t ch p = 45 by rw [zl_45, hvL t4 t5 (by omega) (by omega)]; exact h2), m_every J.nx hM hI, bI_s]
            obtain ⟨x, w', e, q, J', g⟩ := iA op (p + 1) k _ ho (by omega) (by omega) (by omega) J.nx
            rw [e, bI_s]
            refine ⟨_, w', rfl, q, J', fun h => ?_⟩
            obtain ⟨g1, m, rfl, hm⟩ := g h
            obtain ⟨b, b1, b2⟩ := hm.not a1
            exact ⟨g1, b, b1, b2⟩
          · rw [if_neg h2, if_neg (show ¬ (hvZ t ch p = 45) by rw [zl_45, hvL t4 t5 (by omega) (by omega)]; exact h2)]
            by_cases h3 : ch p = 40
            · have hl := hlt p (by omega)
              rw [if_pos h3, if_pos (show hvZ t ch p = 40 by rw [zl_40, hvL t4 t5 (by omega) (by omega)]; exact h3), J.2.2.2.1]
              by_cases h4 : op = 4
              · rw [if_pos h4, if_pos (by rw [h4]; rfl)]
                exact ⟨_, _, rfl, op, J.wrg 1, fun h => by cases h⟩
              · rw [if_neg h4, if_neg (by rw [zl_4, zI_inj (by omega) (by omega)]; exact h4)]
                obtain ⟨x, w', e, q, J', g⟩ := iE (op + 1) (p + 1) k _ (by omega) (by omega) (by omega) (by omega) J.nx.up
                have hb := (PGb (S := stF F) t5 f 4 (op + 1) nV (p + 1) (by omega) (by omega)).2.1
                rw [e, bI_s, J'.2.2.2.2]
                obtain ⟨r, hr⟩ : ∃ r, r = PG ch (stF F) f 4 (op + 1) nV (p + 1) := ⟨_, rfl⟩
                rw [← hr] at J' g hb ⊢
                unfold PGc
                by_cases z : r.1 = true
                · rw [if_pos z, if_neg (by rw [z]; decide)]
                  exact ⟨_, _, rfl, q, J'.wrg 1, fun h => by cases h⟩
                · rw [if_neg z]
                  have z := Bool.eq_false_iff.mpr z
                  rw [z] at J' ⊢
                  obtain ⟨rfl, m, rfl, hm⟩ := g z
                  rw [if_pos (show zI false.toNat = 0 from rfl), m_here T J' hb, bI_s]
                  by_cases y : ch r.2.2 = 41
                  · rw [if_pos y, if_pos (show hvZ t ch r.2.2 = 41 by rw [zl_41, hvL t4 t5 (by omega) (by omega)]; exact y)]
                    exact ⟨_, _, rfl, op, J'.nx.dn, fun _ => ⟨rfl, m, rfl, hm⟩⟩
                  · rw [if_neg y, if_neg (show ¬ (hvZ t ch r.2.2 = 41) by rw [zl_41, hvL t4 t5 (by omega) (by omega)]; exact y)]
                    exact ⟨_, _, rfl, op + 1, J'.wrg 1, fun h => by cases h⟩
            · rw [if_neg h3, if_neg (show ¬ (hvZ t ch p = 40) by rw [zl_40, hvL t4 t5 (by omega) (by omega)]; exact h3)]
              exact ⟨_, _, rfl, op, J.wrg 1, fun h => by cases h⟩
    · intro op p k lf m v w ho hp hf hk hl hm J
      cases lf with
      | zero => omega
      | succ lf =>
        rw [PG1]
        unfold f_X11_product_5
        rw [J.2.2.2.2, if_pos (show zI 0 = 0 from rfl), m_isFactor T J hp, bI_s]
        by_cases h1 : isF (ch p)
        · rw [if_pos h1, if_pos h1, if_neg (show ¬ zI 1 = 0 by decide)]
          have hl2 := hlt p (by unfold isF at h1; omega)
          obtain ⟨b1, b2, b3⟩ := PGb (S := stF F) t5 f 0 op nV p (by omega) hp
          refine (iA op p k w ho hp (by omega) hk J).j (fun m' w' z hm' J' => ?_) (fun x w' q z J' => ⟨_, hpw _ _ _ _ _ _ (by omega) J'⟩)
          have b3 := b3 (Or.inl rfl) z
          rw [zI_and]
          exact iB op _ k lf _ _ w' ho b2 (by omega) (by omega) (by omega) (hm.and hm') J'
        · rw [if_neg h1, if_neg h1, if_pos (show zI 0 = 0 from rfl)]
          exact ⟨_, _, rfl, op, J, fun _ => ⟨rfl, m, rfl, hm⟩⟩
    · intro op p k w ho hp hf hk J
      rw [PG2]
      unfold f_X11_product
      obtain ⟨b1, b2, b3⟩ := PGb (S := stF F) t5 f 0 op nV p (by omega) hp
      refine (iA op p k w ho hp (by omega) hk J).j (fun m' w' z hm' J' => ?_) (fun x w' q z J' => ⟨_, hpw _ _ _ _ _ _ (by omega) J'⟩)
      have b3 := b3 (Or.inl rfl) z
      exact iB op _ k 1000 _ _ w' ho b2 (by omega) (by omega) (by omega) hm' J'
    · intro op p k lf m v w ho hp hf hk hl hm J
      cases lf with
      | zero => omega
      | succ lf =>
        rw [PG3]
        unfold f_X11_sums_5
        rw [J.2.2.2.2, if_pos (show zI 0 = 0 from rfl), m_here T J hp, bI_s]
        by_cases h1 : ch p = 43
        · rw [if_pos h1, if_pos (show hvZ t ch p = 43 by rw [zl_43, hvL t4 t5 (by omega) (by omega)]; exact h1)]
          have hl2 := hlt p (by omega)
          obtain ⟨b1, b2, b3⟩ := PGb (S := stF F) t5 f 2 op nV (p + 1) (by omega) (by omega)
          refine (iC op (p + 1) k _ ho (by omega) (by omega) (by omega) J.nx).j (fun m' w' z hm' J' => ?_) (fun x w' q z J' => ⟨_, hsw _ _ _ _ _ _ (by omega) J'⟩)
          have b3 := b3 (Or.inr (Or.inl rfl)) z
          rw [zI_or]
          exact iD op _ k lf _ _ w' ho b2 (by omega) (by omega) (by omega) (hm.or hm') J'
        · rw [if_neg h1, if_neg (show ¬ (hvZ t ch p = 43) by rw [zl_43, hvL t4 t5 (by omega) (by omega)]; exact h1)]
          exact ⟨_, _, rfl, op, J, fun _ => ⟨rfl, m, rfl, hm⟩⟩
    · intro op p k w ho hp hf hk J
      rw [PG4]
      unfold f_X11_sums
      obtain ⟨b1, b2, b3⟩ := PGb (S := stF F) t5 f 2 op nV p (by omega) hp
      refine (iC op p k w ho hp (by omega) hk J).j (fun m' w' z hm' J' => ?_) (fun x w' q z J' => ⟨_, hsw _ _ _ _ _ _ (by omega) J'⟩)
      have b3 := b3 (Or.inr (Or.inl rfl)) z
      exact iD op _ k 1000 _ _ w' ho b2 (by omega) (by omega) (by omega) hm' J'
/-- the reference's whole reading: the sections found, or the fault's position -/
theorem m_found (w : XW) {t : Nat} {ch : Nat → Nat} {F : Nat → Nat} (t1 : t ≤ 60) (h11 : w.1 141 11 = zI t) (hc : ∀ i, i < t → w.1 146 i = zI (ch i)) (t4 : ∀ i, ch i < 65536) (t5 : ∀ i, t ≤ i → ch i = 0) (hM : Mo w.1 142 0 F) (hI : Inv F) :
    ∃ w', w'.2 = w.2 ∧ (∀ a c, ¬ (a = 141 ∧ (c = 18 ∨ c = 19 ∨ c = 21 ∨ c = 22 ∨ c = 13)) → w'.1 a c = w.1 a c) ∧
      (((PG ch (stF F) 400 4 0 nV 0).1 = false ∧ (PG ch (stF F) 400 4 0 nV 0).2.2 = t ∧ w'.1 141 13 = w.1 141 13 ∧ ∃ m, MK (F 0) m (PG ch (stF F) 400 4 0 nV 0).2.1 ∧ f_X11_found w = some (zI m, w')) ∨
       (((PG ch (stF F) 400 4 0 nV 0).1 = true ∨ (PG ch (stF F) 400 4 0 nV 0).2.2 ≠ t) ∧ w'.1 141 13 = zI (PG ch (stF F) 400 4 0 nV 0).2.2 ∧ f_X11_found w = some (zM, w'))) := by
  obtain ⟨r, hr⟩ : ∃ r, r = PG ch (stF F) 400 4 0 nV 0 := ⟨_, rfl⟩
  obtain ⟨w0, hw0⟩ : ∃ w0 : XW, w0 = wset (wset (wset (wset w 141 18 0) 141 19 ((wset w 141 18 0).1 141 11)) 141 21 0) 141 22 0 := ⟨_, rfl⟩
  have f1 : w0.2 = w.2 := by rw [hw0]; rfl
  have f2 : ∀ a c, ¬ (a = 141 ∧ (c = 18 ∨ c = 19 ∨ c = 21 ∨ c = 22)) → w0.1 a c = w.1 a c := fun a c h => by
    rw [hw0, wset_at, if_neg (by omega), wset_at, if_neg (by omega), wset_at, if_neg (by omega), wset_at, if_neg (by omega)]
  have J : JM w0 0 0 0 w0 := by
    refine ⟨rfl, fun _ _ _ => rfl, ?_, ?_, ?_⟩
    · rw [hw0, wset_at, if_neg (by omega), wset_at, if_neg (by omega), wset_at, if_neg (by omega), wset_hit, zl_0]
    · rw [hw0, wset_at, if_neg (by omega), wset_hit, zl_0]
    · rw [hw0, wset_hit, zl_0]
  have e19 : w0.1 141 19 = zI t := by
    rw [hw0, wset_at, if_neg (by omega), wset_at, if_neg (by omega), wset_hit, wset_at, if_neg (by omega), h11]
  have hM0 : Mo w0.1 142 0 F := fun j hj => by rw [f2 _ _ (by omega)]; exact hM j hj
  have T : MT w0 t ch := ⟨t1, e19, fun i hi => by rw [f2 _ _ (by omega)]; exact hc i hi, t4, t5⟩
  have hb := (PGb (S := stF F) t5 400 4 0 nV 0 (by omega) (by omega)).2.1
  obtain ⟨x, w1, e, q, J1, g⟩ := (m_parse T hM0 hI 400).2.2.2.2 0 0 70 w0 (by omega) (by omega) (by omega) (by omega) J
  rw [← hr] at J1 g hb ⊢
  have f3 : w1.2 = w.2 := J1.1.trans f1
  have f4 : ∀ a c, ¬ (a = 141 ∧ (c = 18 ∨ c = 19 ∨ c = 21 ∨ c = 22)) → w1.1 a c = w.1 a c := fun a c h => (J1.2.1 a c (by omega)).trans (f2 a c h)
  have e19' : w1.1 141 19 = zI t := (J1.2.1 141 19 (by omega)).trans e19
  have hf : f_X11_found w = bI (f_X11_sums (f_X11_factor 70) w0) (fun r1 w1 => (if (w1.1 141 22) = 0 then (if (w1.1 141 18) = (w1.1 141 19) then (some (r1, w1)) else (some ((-1), (wset w1 141 13 (w1.1 141 18))))) else (some ((-1), (wset w1 141 13 (w1.1 141 18)))))) := by
    rw [hw0]; rfl
  rw [e, bI_s, J1.2.2.2.2, J1.2.2.1, e19'] at hf
  by_cases z : r.1 = true
  · rw [z, if_neg (by decide)] at hf
    exact ⟨wset w1 141 13 (zI r.2.2), f3, fun a c h => by rw [wset_at, if_neg (by omega)]; exact f4 a c (by omega), Or.inr ⟨Or.inl z, wset_hit _ _ _ _, hf⟩⟩
  · have z := Bool.eq_false_iff.mpr z
    obtain ⟨rfl, m, rfl, hm⟩ := g z
    rw [z, if_pos (by rfl)] at hf
    by_cases y : r.2.2 = t
    · rw [if_pos (by rw [y])] at hf
      exact ⟨w1, f3, fun a c h => f4 a c (by omega), Or.inl ⟨z, y, f4 _ _ (by omega), m, hm, hf⟩⟩
    · rw [if_neg (by rw [zI_inj (by omega) (by omega)]; exact y)] at hf
      exact ⟨wset w1 141 13 (zI r.2.2), f3, fun a c h => by rw [wset_at, if_neg (by omega)]; exact f4 a c (by omega), Or.inr ⟨Or.inr y, wset_hit _ _ _ _, hf⟩⟩
end
