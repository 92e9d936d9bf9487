/-! the foldings to come are those behind each place for the next section -/
theorem smF_congr {G H : Nat → Nat} : ∀ (d l : Nat), (∀ j, l ≤ j → j < l + d → G j = H j) → smF G d l = smF H d l := by
  intro d
  induction d with
  | zero => intro l _; rfl
  | succ d ih =>
    intro l h
    rw [smF, smF, h l (Nat.le_refl l) (by omega), ih (l + 1) (fun j h1 h2 => h j (by omega) (by omega))]
theorem wyL_fuel {t : Nat} : ∀ (k k' n : Nat) (P : List Nat), n ≤ t → t < n + k → t < n + k' → wyL t k P n = wyL t k' P n := by
  intro k
  induction k with
  | zero => intro k' n P h0 h1 h2; omega
  | succ k ih =>
    intro k' n P h0 h1 h2
    cases k' with
    | zero => omega
    | succ k' =>
      rw [wyL, wyL]
      by_cases z : t ≤ n
      · rw [if_pos z, if_pos z]
      · rw [if_neg z, if_neg z]
        refine smF_congr _ _ (fun j _ _ => ?_)
        by_cases e : (crA (ixL P) n j).isNone = true
        · rw [if_pos e, if_pos e]
          exact ih k' (n + 1) _ (by omega) (by omega) (by omega)
        · rw [if_neg e, if_neg e]
theorem put_pl {F : Nat → Nat} {l : Nat} (hI : Inv F) (hl : l ≤ F 1) (hc : cfN F l = 1) : F 1 < F 0 ∧ putF F l 1 = F 1 + 1 ∧ putF F l 0 = F 0 ∧ plF (putF F l) = insL (plF F) l (F 1) ∧ ixL (insL (plF F) l (F 1)) (F 1) = l := by
  have h7 := hI.1
  have h71 := hI.2.1
  obtain ⟨c1, c2⟩ := cf_1 hc
  have hn7 : F 1 < 7 := by omega
  have a6 := hI.2.2.2.2.2.1
  have hG1 : putF F l 1 = F 1 + 1 := by unfold putF; rw [if_pos rfl]
  exact ⟨by omega, hG1, put_far hl hn7 0 (by omega) (by omega) (by omega), plF_ext (by rw [hG1]; exact (piles_ok (by omega) (piles_ins a6 hl c2)).1) (fun j hj => by rw [hG1] at hj; exact put_pile hn7 a6 rfl (fun j hj => (plF_get hj).symm) hl j hj), (piles_insI hn7 a6 hl).2.1⟩
theorem l_unfoldOk {B : Nat} {w : XW} {F : Nat → Nat} {hs : Nat → Nat → Nat} {n nx : Nat} (hR : RC B w F hs n nx) (h1 : 1 ≤ F 1) : ∃ w1, f_L_unfold w = some (zI (ixL (plF F) (F 1 - 1)), w1) ∧ RC (B + 99) w1 (takF F (ixL (plF F) (F 1 - 1))) (hcons F hs) (n8 n) ((nx + 1) % 8) ∧ Fr KG w w1 := by
  obtain ⟨q1, hI, hC, hH, hhs, h132⟩ := hR
  have h7 := hI.1
  have h71 := hI.2.1
  have q6 : w.1 5 0 = zI (F 1) := hC.2.2.2.2.2.1
  have hjd : f_X8_judge 1 5 0 0 0 w = some (zI 0, w) := by
    rw [jd_5, q6, if_neg (by rw [zl_0, zI_le (by omega) (by omega)]; omega), zl_0]
  rcases op_open 0 0 0 F hI with ⟨e, he, hke, _⟩ | ⟨n', d, hn1, hn2, hd, hkd, hj, _⟩ | ⟨ans, G, hG, hG3, hans, hko, hj, ha, hm⟩
  · exact absurd (by decide) hke.1.1
  · have h := congrArg (fun o => o.map Prod.fst) ((hj w hC).symm.trans hjd)
    have h2 : zI (n' * 100 + d) = zI 0 := Option.some.inj h
    rw [zI_inj (by omega) (by omega)] at h2
    omega
  · have hF1 : F 1 ≤ 7 := by omega
    obtain ⟨w1, k1, k2, k3⟩ := h_keep hH hC (by omega) hF1 hI.2.2.1
    have hC1 : Cls w1.1 1 F := hC.fr k2 (fun a h1 h2 => by omega)
    obtain ⟨w2, l1, l2, l3⟩ := ha w1 hC1
    obtain ⟨g1, g2, g3⟩ := hko.2.2.2.1 rfl
    subst g2
    subst g3
    refine ⟨w2, ?_, ⟨by omega, hG, l2, k3.fr l3 (fun a h1 h2 => by omega), hs_cons hI (by omega) (by omega) hhs, ?_⟩, (k2.wk fun a z => ?_).tr (l3.wk fun a z => ?_)⟩
    · unfold f_L_unfold f_X10_unfold f_X10_change
      rw [hj w hC, bI_s, obey_ok, bVX_s, k1, bV_s, l1, bI_s, bIX_s, bCI_s]
    · rw [l3.at (by omega), k2.at (by omega)]; exact h132
    · unfold KG; omega
    · unfold KG; omega
theorem RC.ext {B : Nat} {w : XW} {F G : Nat → Nat} {hs : Nat → Nat → Nat} {n nx : Nat} (h : RC B w F hs n nx) (e : ∀ j, j < 66 → F j = G j) (hG : Inv G) : RC B w G hs n nx := by
  have h7 := h.2.1.1
  have h71 := h.2.1.2.1
  exact ⟨by rw [← e 3 (by omega)]; exact h.1, hG, h.2.2.1.ext e (by omega) h.2.1.2.2.1, h.2.2.2⟩
/-- a section folded at a place and unfolded again -/
theorem l_there {B : Nat} {w : XW} {F : Nat → Nat} {hs : Nat → Nat → Nat} {n nx l : Nat} (hR : RC B w F hs n nx) (hl : l ≤ F 1) (hc : cfN F l = 1) : ∃ w1 w2 w3 hs' n' nx', f_L_fold (zI l) w = some (zI (F 1 + 1), w1) ∧ f_X10_completions w1 = some (zI (wyL (F 0) 8 (insL (plF F) l (F 1)) (F 1 + 1)), w2) ∧ f_L_unfold w2 = some (zI l, w3) ∧ RC (B + 99 + 99) w3 F hs' n' nx' ∧ w3.2 = w.2 := by
  have hI := hR.2.1
  have h7 := hI.1
  obtain ⟨p0, p1, p2, p3, p4⟩ := put_pl hI hl hc
  obtain ⟨w1, e1, R1, f1⟩ := l_foldOk hR hl hc
  obtain ⟨w2, e2, f2⟩ := a_comp R1.2.2.1 R1.2.1
  have R2 := R1.q f2
  obtain ⟨w3, e3, R3, f3⟩ := l_unfoldOk R2 (by rw [p1]; omega)
  rw [p3, p1, Nat.add_sub_cancel, p4] at e3 R3
  rw [p1, p2, p3, wyL_fuel 9 8 (F 1 + 1) _ (by omega) (by omega) (by omega)] at e2
  exact ⟨w1, w2, w3, _, _, _, e1, e2, e3, R3.ext (take_put hl (by omega) hI.2.2.2.2.2.2.1) hI, f3.2.trans (f2.2.trans f1.2)⟩
theorem l_areF {F : Nat → Nat} {all : Nat} (hall : wyL (F 0) 9 (plF F) (F 1) = all) (hne : F 1 < F 0) : ∀ (d fuel l acc B : Nat) (w : XW) (hs : Nat → Nat → Nat) (n nx : Nat), l + d = F 1 + 1 → d < fuel → RC B w F hs n nx → acc + smF (fun l => if (crA (ixL (plF F)) (F 1) l).isNone then wyL (F 0) 8 (insL (plF F) l (F 1)) (F 1 + 1) else 0) d l = all → ∃ w', f_L_areFoldings_42 (zI all) (zI (F 1)) fuel (zI acc) (zI l) w = some (1, w') ∧ (∃ B' hs' n' nx', RC B' w' F hs' n' nx') ∧ w'.2 = w.2 := by
  intro d
  induction d with
  | zero =>
    intro fuel l acc B w hs n nx hl hf hR hs
    have h7 := hR.2.1.1
    have ha : acc = all := hs
    cases fuel with
    | zero => omega
    | succ fuel =>
      obtain ⟨w1, e1, f1⟩ := a_compO hR.2.2.1 hR.2.1
      have R1 := hR.q f1
      obtain ⟨w2, e2, f2⟩ := a_comp R1.2.2.1 R1.2.1
      rw [hall] at e1 e2
      refine ⟨w2, ?_, ⟨_, _, _, _, R1.q f2⟩, f2.2.trans f1.2⟩
      unfold f_L_areFoldings_42 f_L_areFoldings_132
      rw [if_pos (by rw [zI_lt (by omega) (by omega)]; omega), if_pos (by rw [ha]), e1, bI_s, if_pos rfl, e2, bI_s, if_pos rfl, if_pos nar1]
  | succ d ih =>
    intro fuel l acc B w hs n nx hl hf hR hsm
    have hI := hR.2.1
    have h7 := hI.1
    cases fuel with
    | zero => omega
    | succ fuel =>
      rw [smF] at hsm
      unfold f_L_areFoldings_42
      rw [if_neg (by rw [zI_lt (by omega) (by omega)]; omega), a_canFold hR.2.2.1 hI (by omega), bI_s]
      by_cases hc : cfN F l = 1
      · obtain ⟨w1, w2, w3, hs', n', nx', e1, e2, e3, R3, g⟩ := l_there hR (by omega) hc
        obtain ⟨c1, c2⟩ := cf_1 hc
        rw [if_pos (show (crA (ixL (plF F)) (F 1) l).isNone = true by rw [c2]; rfl), ← Nat.add_assoc] at hsm
        obtain ⟨w', e, h1, h2⟩ := ih fuel (l + 1) _ _ w3 _ _ _ (by omega) (by omega) R3 hsm
        refine ⟨w', ?_, h1, h2.trans g⟩
        rw [hc, if_pos (show zI 1 = 1 from rfl), e1, bI_s, e2, bI_s, e3, bI_s, if_pos (show zI (F 1 + 1) = zI (F 1) + 1 by rw [zl_1, zI_add]), if_pos rfl]
        unfold f_L_areFoldings_100
        rw [zI_add, show zI l + 1 = zI (l + 1) by rw [zl_1, zI_add]]
        exact e
      · have c2 : ¬ (crA (ixL (plF F)) (F 1) l).isNone = true := fun z => hc (by
          unfold cfN
          rw [if_neg (by omega), if_pos (Option.isNone_iff_eq_none.mp z)])
        have hc0 : cfN F l ≤ 1 := by
          unfold cfN
          rw [if_neg (by omega), if_neg (fun z => c2 (Option.isNone_iff_eq_none.mpr z))]
          omega
        rw [if_neg c2, Nat.zero_add] at hsm
        obtain ⟨w', e, h1, h2⟩ := ih fuel (l + 1) _ _ w _ _ _ (by omega) (by omega) hR hsm
        refine ⟨w', ?_, h1, h2⟩
        rw [if_neg (show ¬ zI (cfN F l) = 1 by rw [zl_1, zI_inj (by omega) (by omega)]; exact hc)]
        unfold f_L_areFoldings_100
        rw [show zI l + 1 = zI (l + 1) by rw [zl_1, zI_add]]
        exact e
theorem l_areFoldings {B : Nat} {w : XW} {F : Nat → Nat} {hs : Nat → Nat → Nat} {n nx : Nat} (hR : RC B w F hs n nx) : ∃ w', f_L_areFoldings w = some (1, w') ∧ (∃ B' hs' n' nx', RC B' w' F hs' n' nx') ∧ w'.2 = w.2 := by
  have hI := hR.2.1
  have h7 := hI.1
  have h71 := hI.2.1
  obtain ⟨w1, e1, f1⟩ := a_comp hR.2.2.1 hI
  have R1 := hR.q f1
  unfold f_L_areFoldings
  rw [e1, bI_s, a_folded R1.2.2.1, bI_s, a_count R1.2.2.1, bI_s]
  by_cases z : F 1 = F 0
  · obtain ⟨w2, e2, f2⟩ := a_compO R1.2.2.1 hI
    have hw : wyL (F 0) 9 (plF F) (F 1) = 1 := by rw [wyL, if_pos (by omega)]
    rw [hw] at e2 ⊢
    refine ⟨w2, ?_, ⟨_, _, _, _, R1.q f2⟩, f2.2.trans f1.2⟩
    unfold f_L_areFoldings_36
    rw [if_pos (show zI (F 1) = zI (F 0) by rw [z]), if_pos (show zI 1 = 1 from rfl), e2, bI_s, if_pos (show zI 1 = 1 from rfl), if_pos nar1]
  · obtain ⟨w2, e2, h1, h2⟩ := l_areF (F := F) rfl (by omega) (F 1 + 1) 12 0 0 B w1 hs n nx (by omega) (by omega) R1 (by rw [wyL, if_neg (by omega), Nat.zero_add])
    refine ⟨w2, ?_, h1, h2.trans f1.2⟩
    rw [if_neg (by rw [zI_inj (by omega) (by omega)]; exact z)]
    exact e2
/-! what is kept -/
theorem zd_sub (m : Nat) : zI m - 1 = zd m := by
  unfold zd
  by_cases z : m = 0
  · rw [if_pos z, z]; rfl
  · rw [if_neg z, zl_1, zI_sub (by omega)]
theorem l_kept : ∀ (B : Nat) (w : XW) (F : Nat → Nat) (hs : Nat → Nat → Nat) (n nx made : Nat), made ≤ 54 → B < 16777216 → LI B w F hs n nx made → OK (f_L_isKept (zI made) w) := by
  intro B w F hs n nx made hm hB hL
  obtain ⟨hR, hn, hw, hj⟩ := hL
  have hI := hR.2.1
  have h7 := hI.1
  have h8 := hR.2.2.2.1.1
  obtain ⟨w1, e1, R1, hC, h0, g1⟩ := l_save hR
  have hmin : (if zI made < 8 then zI made else 8) = zI n := by
    by_cases z : made < 8
    · rw [if_pos (by rw [zl_8, zI_lt (by omega) (by omega)]; exact z)]
      rw [if_pos z] at hn
      rw [hn]
    · rw [if_neg (by rw [zl_8, zI_lt (by omega) (by omega)]; exact z)]
      rw [if_neg z] at hn
      rw [hn]
      rfl
  have hnm : n ≤ made := by
    by_cases z : made < 8
    · rw [if_pos z] at hn; omega
    · rw [if_neg z] at hn; omega
  have go := k_undo (B := B) (S := F) (W2 := w.2) (y2 := zI made) (y3 := zI (F 0)) (fun w F' hs nx fuel z5 R q0 q1 q2 => by
    obtain ⟨w4, e4, R4, g4⟩ := l_restore R hI hR.1 q0 q1
    obtain ⟨w5, e5, ⟨B', hs', n', nx', R5⟩, g5⟩ := l_areFoldings R4
    refine ⟨w5, ?_⟩
    unfold f_L_isKept_29 f_L_isKept_117
    rw [if_pos (show zI 0 ≤ 0 by decide), l_undoNo R, bI_s, if_pos rfl, e4, bI_s, if_pos rfl, l_theSum R4.2.2.1 R4.2.1, bL_s, if_pos (by rw [inB_z (by omega)]; omega), if_pos (show lg_cmp (sumV F) (w4.2 (zI made).toNatClampNeg) = 0 by rw [zI_nat (by omega), g4, q2, hw, cmp_self]), e5, bI_s, if_neg (by decide), l_theSum R5.2.2.1 R5.2.1, bL_s, if_pos (by rw [inB_z (by omega)]; omega), if_pos (show lg_cmp (sumV F) (w5.2 (zI made).toNatClampNeg) = 0 by rw [zI_nat (by omega), g5, g4, q2, hw, cmp_self]), if_pos nar1]) n 12 made w1 F hs nx R1 hC h0 g1 hnm (by omega) hj (by omega)
  unfold f_L_isKept
  rw [e1, bI_s, a_undoCount R1.2.2.2.1, bI_s, hmin, if_pos rfl, zd_sub]
  exact go
/-- the law answers 1 from a state at the start on -/
theorem l_answers {sc : Nat × (Nat → Int32)} (hsc : sc.1 < 2147483648) {w : XW} {F : Nat → Nat} {hs : Nat → Nat → Nat} {nx : Nat} (hR : RC 0 w F hs 0 nx) : OK (f_L_law sc w) := l_law hsc l_kept hR
