/-! pipes: laid, removed, broken, mended -/
theorem Cls.pipes {w w' : XW} {F G : Nat → Nat} (c : Cls w.1 1 F) (hf : Fr (fun a => 7 ≤ a ∧ a ≤ 11) w w') (e : ∀ j, j < 26 → j ≠ 2 → G j = F j) (h7 : F 1 ≤ 7) (h1 : w'.1 7 0 = zI (G 2)) (h2 : ∀ p, p < G 2 → w'.1 8 p = zI (G (26 + 4 * p)) ∧ w'.1 9 p = zI (G (27 + 4 * p)) ∧ w'.1 10 p = zI (G (28 + 4 * p)) ∧ w'.1 11 p = zI (G (29 + 4 * p))) (h3 : ∀ p, p < 10 → w'.1 11 p = zI 0 ∨ w'.1 11 p = zI 1) : Cls w'.1 1 G := by
  obtain ⟨q1, q2, q3, q4, q5, q6, q7, q8, q9, q10⟩ := c
  have g : ∀ a, ¬ (7 ≤ a ∧ a ≤ 11) → ∀ c, w'.1 a c = w.1 a c := fun a x c => hf.at x c
  have hp : plF G = plF F := plF_congr (e 1 (by omega) (by omega)) (fun j hj => e _ (by rw [e 1 (by omega) (by omega)] at hj; omega) (by omega))
  refine ⟨?_, ?_, ?_, fun i hi => ?_, fun i hi => ?_, ?_, fun s hs => ?_, h1, h2, h3⟩
  · rw [e 0 (by omega) (by omega), g _ (by omega)]; exact q1
  · rw [e 3 (by omega) (by omega), g _ (by omega)]; exact q2
  · rw [e 4 (by omega) (by omega), g _ (by omega)]; exact q3
  · rw [e _ (by omega) (by omega), g _ (by omega)]; exact q4 i hi
  · rw [e _ (by omega) (by omega), g _ (by omega)]; exact q5 i hi
  · rw [e 1 (by omega) (by omega), g _ (by omega)]; exact q6
  · rw [e 1 (by omega) (by omega)] at hs
    rw [hp, g _ (by omega)]; exact q7 s hs
theorem Inv.pipes {F G : Nat → Nat} (hI : Inv F) (e : ∀ j, j < 26 → j ≠ 2 → G j = F j) (h1 : G 2 ≤ 10) (h2 : ∀ p, p < G 2 → G (26 + 4 * p) < F 0 ∧ G (27 + 4 * p) < F 0 ∧ G (26 + 4 * p) ≠ G (27 + 4 * p) ∧ 1 ≤ G (28 + 4 * p) ∧ G (28 + 4 * p) ≤ 20 ∧ G (29 + 4 * p) ≤ 1) : Inv G := by
  obtain ⟨a1, a2, a3, a4, a5, a6, a7, a8⟩ := hI
  have e0 := e 0 (by omega) (by omega)
  have e1 := e 1 (by omega) (by omega)
  have hp : plF G = plF F := plF_congr e1 (fun j hj => e _ (by omega) (by omega))
  refine ⟨by omega, by omega, h1, ?_, fun i hi => ?_, by rw [hp, e1]; exact a6, fun j hj hj2 => ?_, fun p hp => by rw [e0]; exact h2 p hp⟩
  · rw [e 3 (by omega) (by omega), e 4 (by omega) (by omega), a4, sm_congr (fun k hk => e (5 + k) (by omega) (by omega))]
  · rw [e (5 + i) (by omega) (by omega), e (12 + i) (by omega) (by omega), e0]; exact a5 i hi
  · rw [e (19 + j) (by omega) (by omega)]; rw [e1] at hj2; exact a7 j hj hj2
def layF2 (F : Nat → Nat) (x y z : Nat) : Nat → Nat := uF (uF (uF (uF (uF F (26 + 4 * F 2) x) (27 + 4 * F 2) y) (28 + 4 * F 2) z) (29 + 4 * F 2) 0) 2 (F 2 + 1)
theorem op_pipe (a b c : Int32) : OpR 6 a b c (f_X11_pipes a b c) := by
  intro F hI
  have hI0 := hI
  obtain ⟨a1, a2, a3, a4, a5, a6, a7, a8⟩ := hI
  rcases secZ F a a1 with ⟨x, hx, rfl⟩ | h
  · rcases secZ F b a1 with ⟨y, hy, rfl⟩ | h
    · have bad : (x = y ∨ c < 1 ∨ ¬ c ≤ 20) → (x ≠ y → ∀ w : XW, f_X11_in c 1 20 w = some (zI 0, w)) → ∃ e, OpE 6 (zI x) (zI y) c (f_X11_pipes (zI x) (zI y) c) F e := fun h1 h2 => by
        refine ⟨2, Or.inr rfl, KE.pl (by decide), fun w hC => ?_, fun w hM => ?_⟩
        · rw [jd_6]
          unfold f_X8_judgePipe
          rw [show (1 : Nat) + 1 = 2 from rfl, s_hasT hC.1 a1 hx, bI_s, if_neg (by decide), s_hasT hC.1 a1 hy, bI_s, if_neg (by decide)]
          by_cases z : x = y
          · rw [if_pos (by rw [z]), zl_2]
          · rw [if_neg (by rw [zI_inj (by omega) (by omega)]; exact z)]
            by_cases z2 : c < 1
            · rw [if_pos z2, zl_2]
            · rw [if_neg z2, if_neg (by rcases h1 with h1 | h1 | h1; exact absurd h1 z; exact absurd h1 z2; exact h1), zl_2]
        · unfold f_X11_pipes
          rw [m_isSecT hM a1 hx, bI_s, if_neg (by decide), m_isSecT hM a1 hy, bI_s, if_neg (by decide)]
          by_cases z : x = y
          · rw [if_pos (by rw [z]), zl_2]
          · rw [if_neg (by rw [zI_inj (by omega) (by omega)]; exact z), h2 z w, bI_s, if_pos (by rfl), zl_2]
      by_cases hxy : x = y
      · exact Or.inl (bad (Or.inl hxy) (fun z => absurd hxy z))
      · rcases zI_cases c with hc | ⟨d, hd, rfl⟩
        · exact Or.inl (bad (Or.inr (Or.inl (by rw [zl_1]; exact (zI_neg hc (by omega)).2.2.2.1))) (fun _ w => by rw [zl_1]; exact m_inN hc (by omega)))
        · by_cases hd2 : 1 ≤ d ∧ d ≤ 20
          · have judge : ∀ w : XW, Cls w.1 1 F → f_X8_judge 1 6 (zI x) (zI y) (zI d) w = (if 10 ≤ zI (F 2) then bI (f_X8_denied 1 10 w) (fun r3 w3 => some (r3, w3)) else some (0, w)) := fun w hC => by
              have q8 : w.1 (1 + 6) 0 = zI (F 2) := hC.2.2.2.2.2.2.2.1
              rw [jd_6]
              unfold f_X8_judgePipe
              rw [show (1 : Nat) + 1 = 2 from rfl, s_hasT hC.1 a1 hx, bI_s, if_neg (by decide), s_hasT hC.1 a1 hy, bI_s, if_neg (by decide), if_neg (by rw [zI_inj (by omega) (by omega)]; exact hxy), if_neg (by rw [zl_1, zI_lt (by omega) (by omega)]; omega), if_pos (by rw [zl_20, zI_le (by omega) (by omega)]; omega), q8]
            by_cases h10 : F 2 = 10
            · refine Or.inr (Or.inl ⟨1, 10, by omega, by omega, by omega, KD.pl (by decide), fun w hC => ?_, fun w hM => ⟨w, ?_, Fr.rf⟩⟩)
              · rw [judge w hC, if_pos (by rw [zl_10, zI_le (by omega) (by omega)]; omega), zl_1, zl_10, den_c, bI_s]
              · unfold f_X11_pipes
                rw [m_isSecT hM a1 hx, bI_s, if_neg (by decide), m_isSecT hM a1 hy, bI_s, if_neg (by decide), if_neg (by rw [zI_inj (by omega) (by omega)]; exact hxy), zl_1, zl_20, m_inT (by omega) (by omega) (by omega), bI_s, if_neg (by decide), show Int32.toNatClampNeg 2 = 2 from rfl, hM.at (by omega), if_pos (by rw [h10]; rfl), zl_10, den_m, bI_s]
            · have hG : Inv (layF2 F x y d) := by
                unfold layF2
                refine hI0.pipes (fun j h1 h2 => ?_) ?_ (fun p hp => ?_)
                · simp (disch := omega) only [uF_ne]
                · rw [uF_hit]; omega
                · rw [uF_hit] at hp
                  by_cases z : p = F 2
                  · subst z
                    simp (disch := omega) only [uF_ne, uF_hit]
                    exact ⟨hx, hy, hxy, hd2.1, hd2.2, by omega⟩
                  · simp (disch := omega) only [uF_ne]
                    exact a8 p (by omega)
              refine Or.inr (Or.inr ⟨F 2, layF2 F x y d, hG, ?_, by omega, KO.pl (by decide) (by unfold layF2; rw [uF_ne _ (by omega), uF_ne _ (by omega), uF_ne _ (by omega), uF_ne _ (by omega), uF_ne _ (by omega)]), fun w hC => ?_, fun w hC => ?_, fun w hM => ?_⟩)
              · unfold layF2
                simp (disch := omega) only [uF_ne]
                omega
              · rw [judge w hC, if_neg (by rw [zl_10, zI_le (by omega) (by omega)]; omega), zl_0]
              · obtain ⟨w', e1, e2, e3, e4⟩ := i_append (a := x) (b := y) (d := d) hC.2.2.2.2.2.2.2.1 (show F 2 < 10 by omega)
                have q9 := hC.2.2.2.2.2.2.2.2.1
                have q10 := hC.2.2.2.2.2.2.2.2.2
                refine ⟨w', by rw [ap_6]; exact e1, hC.pipes e2 (fun j h1 h2 => ?_) (by omega) ?_ (fun p hp => ?_) (fun p hp => ?_), e2.wk (fun a z => Or.inl (by omega))⟩
                · unfold layF2
                  simp (disch := omega) only [uF_ne]
                · unfold layF2; rw [uF_hit]; exact e3
                · unfold layF2 at hp ⊢
                  rw [uF_hit] at hp
                  obtain ⟨f1, f2, f3, f4⟩ := e4 p
                  rw [f1, f2, f3, f4]
                  by_cases z : p = F 2
                  · subst z
                    simp (disch := omega) only [uF_ne, uF_hit, if_true]
                    exact ⟨trivial, trivial, trivial, trivial⟩
                  · simp (disch := omega) only [uF_ne, z, if_false]
                    exact q9 p (by omega)
                · rw [(e4 p).2.2.2]
                  split
                  · exact Or.inl rfl
                  · exact q10 p hp
              · refine ⟨_, ?_, ((((hM.set (26 + 4 * F 2) x).set (27 + 4 * F 2) y).set (28 + 4 * F 2) d).set (29 + 4 * F 2) 0).set 2 (F 2 + 1), ((((fr1 _ _).tr (fr1 _ _)).tr ((fr1 _ _).tr (fr1 _ _))).tr (fr1 _ _)).wk (fun a z => Or.inl z)⟩
                have h2 := hM.at (j := 2) (by omega)
                unfold f_X11_pipes
                rw [m_isSecT hM a1 hx, bI_s, if_neg (by decide), m_isSecT hM a1 hy, bI_s, if_neg (by decide), if_neg (by rw [zI_inj (by omega) (by omega)]; exact hxy), zl_1, zl_20, m_inT (by omega) (by omega) (by omega), bI_s, if_neg (by decide)]
                simp (disch := omega) only [h2, h10, Nat.add_zero, show 26 + 4 * F 2 < 66 by omega, show 26 + 4 * F 2 + 1 < 66 by omega, show 26 + 4 * F 2 + 2 < 66 by omega, show 26 + 4 * F 2 + 3 < 66 by omega, show ¬ 2 = 26 + 4 * F 2 by omega, show ¬ 2 = 26 + 4 * F 2 + 1 by omega, show ¬ 2 = 26 + 4 * F 2 + 2 by omega, show ¬ 2 = 26 + 4 * F 2 + 3 by omega, don_m, zl_0, zl_1, zl_2, zl_3, zl_4, zl_5, zl_6, zl_7, zl_8, zl_9, zl_10, zl_11, zl_12, zl_13, zl_14, zl_15, zl_16, zl_17, zl_18, zl_19, zl_20, zl_21, zl_22, zl_23, zl_24, zl_25, zl_26, zl_27, zl_28, zl_29, zl_30, zl_31, zl_32, zl_33, zl_34, zl_35, zl_36, zl_37, zl_38, zl_39, zl_40, zl_41, zl_42, zl_43, zl_44, zl_45, zl_46, zl_47, zl_48, zl_49, zl_50, zl_51, zl_52, zl_53, zl_54, zl_55, zl_56, zl_57, zl_58, zl_59, zl_60, zl_61, zl_62, zl_63, zl_64, zl_65, zl_66, zl_67, zl_68, zl_69, zl_70, zl_71, zl_72, zl_73, zl_74, zl_75, zl_76, zl_77, zl_78, zl_79, zl_80, zl_81, zl_82, zl_83, zl_84, zl_85, zl_86, zl_87, zl_88, zl_89, zl_90, zl_91, zl_92, zl_93, zl_94, zl_95, zl_96, zl_97, zl_98, zl_99, zl_100, zl_101, zl_102, zl_103, zl_104, zl_105, zl_106, zl_107, zl_108, zl_109, zl_110, zl_111, zl_112, zl_113, zl_114, zl_115, zl_116, zl_117, zl_118, zl_119, zl_120, zl_121, zl_122, zl_123, zl_124, zl_125, zl_126, zl_127, zl_128, zl_180, zl_200, zl_240, zl_462, zl_528, zm1, zI_add, zI_mul, zI_sub, zI_addneg, zI_lt, zI_le, zI_inj, zI_nat, zI_zM, zM_zI, zM_lt, lt_zM, zM_le, le_zM, zM_leM, zM_ltM, inB_z, bI_s, bV_s, bIX_s, bVX_s, bIX_x, bVX_x, if_true, if_false, ↓reduceIte, nar0z, nar1z, Nat.not_lt_zero, Nat.zero_le, Nat.le_zero_eq, not_true_eq_false, not_false_eq_true, false_and, and_false, true_and, and_true, and_self, wset_at, Nat.le_refl, Nat.reduceAdd, Nat.reduceSub, Nat.reduceMul, Nat.reduceDiv, Nat.reduceMod, Nat.reduceEqDiff, Nat.reduceLT, Nat.add_sub_cancel, Nat.reducePow, Nat.reduceLeDiff]
                rw [show 26 + 4 * F 2 + 1 = 27 + 4 * F 2 by omega, show 26 + 4 * F 2 + 2 = 28 + 4 * F 2 by omega, show 26 + 4 * F 2 + 3 = 29 + 4 * F 2 by omega]
          · refine Or.inl (bad (Or.inr ?_) (fun _ w => by rw [zl_1, zl_20]; exact m_inF (by omega) (by omega) (by omega) (by omega)))
            by_cases z : d < 1
            · exact Or.inl (by rw [zl_1, zI_lt (by omega) (by omega)]; exact z)
            · exact Or.inr (by rw [zl_20, zI_le (by omega) (by omega)]; omega)
    · refine Or.inl ⟨1, Or.inl rfl, KE.pl (by decide), fun w hC => ?_, fun w hM => ?_⟩
      · rw [jd_6]
        unfold f_X8_judgePipe
        rw [show (1 : Nat) + 1 = 2 from rfl, s_hasT hC.1 a1 hx, bI_s, if_neg (by decide), h.1 w hC, bI_s, if_pos (by rfl), zl_1]
      · unfold f_X11_pipes
        rw [m_isSecT hM a1 hx, bI_s, if_neg (by decide), h.2 w hM, bI_s, if_pos (by rfl), zl_1]
  · refine Or.inl ⟨1, Or.inl rfl, KE.pl (by decide), fun w hC => ?_, fun w hM => ?_⟩
    · rw [jd_6]
      unfold f_X8_judgePipe
      rw [show (1 : Nat) + 1 = 2 from rfl, h.1 w hC, bI_s, if_pos (by rfl), zl_1]
    · unfold f_X11_pipes
      rw [h.2 w hM, bI_s, if_pos (by rfl), zl_1]
/-! remove -/
def cutF (F : Nat → Nat) (x : Nat) : Nat → Nat := fun a => if a = 2 then F 2 - 1 else if 26 + 4 * (F 2 - 1) ≤ a ∧ a < 30 + 4 * (F 2 - 1) then 0 else if 26 + 4 * x ≤ a ∧ a < 26 + 4 * (F 2 - 1) then F (a + 4) else F a
theorem cutF_lo {F : Nat → Nat} {x p j : Nat} (h : p < F 2 - 1) (hj : j < 4) : cutF F x (26 + 4 * p + j) = F (26 + 4 * (if x ≤ p then p + 1 else p) + j) := by
  unfold cutF
  rw [if_neg (by omega), if_neg (by omega)]
  by_cases z : x ≤ p
  · rw [if_pos (by omega), if_pos z]; congr 1; omega
  · rw [if_neg (by omega), if_neg z]
theorem m_zero_loop {F : Nat → Nat} {x : Nat} (h10 : F 2 ≤ 10) (h1 : 1 ≤ F 2) : ∀ (d fuel k : Nat) (w : XW), k + d = 4 → d < fuel → Mo w.1 142 0 (fun a => if 26 + 4 * (F 2 - 1) ≤ a ∧ a < 26 + 4 * (F 2 - 1) + k then 0 else if 26 + 4 * x ≤ a ∧ a < 26 + 4 * (F 2 - 1) then F (a + 4) else F a) →
    ∃ w', f_X11_cuts_58 (zI (F 2 - 1)) fuel (zI k) w = some (zI 0, wset w' 141 14 (zI (F 2 - 1))) ∧ Fr (fun a => a = 142) w w' ∧ Mo w'.1 142 0 (cutF F x) := by
  intro d
  induction d with
  | zero =>
    intro fuel k w hk hf hM
    obtain ⟨f, rfl⟩ : ∃ f, fuel = f + 1 := ⟨fuel - 1, by omega⟩
    have e : k = 4 := by omega
    subst e
    refine ⟨wset w 142 2 (zI (F 2 - 1)), ?_, fr1 _ _, (hM.set 2 (F 2 - 1)).ext (fun j hj => ?_)⟩
    · rw [f_X11_cuts_58, if_pos (by rw [zl_4, zI_le (by omega) (by omega)]; omega)]
      rfl
    · unfold uF cutF
      dsimp only
      by_cases e1 : j = 2
      · rw [if_pos e1, if_pos e1]
      · rw [if_neg e1, if_neg e1]
        by_cases e2 : 26 + 4 * (F 2 - 1) ≤ j ∧ j < 30 + 4 * (F 2 - 1)
        · rw [if_pos (by omega), if_pos e2]
        · rw [if_neg (by omega), if_neg e2]
  | succ d ih =>
    intro fuel k w hk hf hM
    obtain ⟨f, rfl⟩ : ∃ f, fuel = f + 1 := ⟨fuel - 1, by omega⟩
    have hfr : Fr (fun a => a = 142) w (wset w 142 (26 + 4 * (F 2 - 1) + k) (zI 0)) := fr1 _ _
    obtain ⟨w', e1, e2, e3⟩ := ih f (k + 1) (wset w 142 (26 + 4 * (F 2 - 1) + k) (zI 0)) (by omega) (by omega) ((hM.set (26 + 4 * (F 2 - 1) + k) 0).ext (fun j hj => by
      unfold uF
      dsimp only
      by_cases z : j = 26 + 4 * (F 2 - 1) + k
      · rw [if_pos z, if_pos (by omega)]
      · rw [if_neg z]
        by_cases z2 : 26 + 4 * (F 2 - 1) ≤ j ∧ j < 26 + 4 * (F 2 - 1) + k
        · rw [if_pos z2, if_pos (by omega)]
        · rw [if_neg z2, if_neg (show ¬ (26 + 4 * (F 2 - 1) ≤ j ∧ j < 26 + 4 * (F 2 - 1) + (k + 1)) by omega)]))
    refine ⟨w', ?_, hfr.tr e2, e3⟩
    rw [f_X11_cuts_58, if_neg (by rw [zl_4, zI_le (by omega) (by omega)]; omega), zl_26, zl_4, zI_mul, zI_add, zI_add, if_pos (by rw [inB_z (by omega)]; omega), zI_nat (by omega), zl_1, zI_add]
    exact e1
theorem m_cutsh_loop {F : Nat → Nat} {x : Nat} (h10 : F 2 ≤ 10) (hx : x < F 2) : ∀ (d fuel k : Nat) (w : XW), k + d = 4 * (F 2 - 1) → 4 * x ≤ k → d < fuel → Mo w.1 142 0 (fun a => if 26 + 4 * x ≤ a ∧ a < 26 + k then F (a + 4) else F a) →
    ∃ w', f_X11_cuts_23 (zI (F 2 - 1)) fuel (zI k) w = some (zI 0, wset w' 141 14 (zI (F 2 - 1))) ∧ Fr (fun a => a = 142) w w' ∧ Mo w'.1 142 0 (cutF F x) := by
  intro d
  induction d with
  | zero =>
    intro fuel k w hk hxk hf hM
    obtain ⟨f, rfl⟩ : ∃ f, fuel = f + 1 := ⟨fuel - 1, by omega⟩
    obtain ⟨w', e1, e2, e3⟩ := m_zero_loop (x := x) h10 (by omega) 4 1000 0 w (by omega) (by omega) (hM.ext (fun j hj => by
      rw [if_neg (show ¬ (26 + 4 * (F 2 - 1) ≤ j ∧ j < 26 + 4 * (F 2 - 1) + 0) by omega)]
      by_cases z : 26 + 4 * x ≤ j ∧ j < 26 + k
      · rw [if_pos z, if_pos (by omega)]
      · rw [if_neg z, if_neg (by omega)]))
    refine ⟨w', ?_, e2, e3⟩
    rw [f_X11_cuts_23, if_pos (by rw [zl_4, zI_mul, zI_le (by omega) (by omega)]; omega)]
    exact e1
  | succ d ih =>
    intro fuel k w hk hxk hf hM
    obtain ⟨f, rfl⟩ : ∃ f, fuel = f + 1 := ⟨fuel - 1, by omega⟩
    have hv := hM.at (j := 26 + k + 4) (by omega)
    rw [if_neg (by omega)] at hv
    have hfr : Fr (fun a => a = 142) w (wset w 142 (26 + k) (zI (F (26 + k + 4)))) := fr1 _ _
    obtain ⟨w', e1, e2, e3⟩ := ih f (k + 1) (wset w 142 (26 + k) (zI (F (26 + k + 4)))) (by omega) (by omega) (by omega) ((hM.set (26 + k) (F (26 + k + 4))).ext (fun j hj => by
      unfold uF
      dsimp only
      by_cases z : j = 26 + k
      · rw [if_pos z, if_pos (by omega), z]
      · rw [if_neg z]
        by_cases z2 : 26 + 4 * x ≤ j ∧ j < 26 + k
        · rw [if_pos z2, if_pos (by omega)]
        · rw [if_neg z2, if_neg (by omega)]))
    refine ⟨w', ?_, hfr.tr e2, e3⟩
    rw [f_X11_cuts_23, if_neg (by rw [zl_4, zI_mul, zI_le (by omega) (by omega)]; omega), zl_26, zl_4, zI_add, zI_add, if_pos (by rw [inB_z (by omega)]; omega), if_pos (by rw [inB_z (by omega)]; omega), zI_nat (by omega), zI_nat (by omega), hv, zl_1, zI_add]
    exact e1
theorem op_cut (a b c : Int32) : OpR 7 a b c (f_X11_cuts a) := by
  intro F hI
  have hI0 := hI
  obtain ⟨a1, a2, a3, a4, a5, a6, a7, a8⟩ := hI
  rcases pipZ F a a3 with ⟨x, hx, rfl⟩ | h
  · have hlow : ∀ j, j < 26 → j ≠ 2 → cutF F x j = F j := fun j h1 h2 => by
      unfold cutF
      rw [if_neg h2, if_neg (by omega), if_neg (by omega)]
    have h2' : cutF F x 2 = F 2 - 1 := by unfold cutF; rw [if_pos rfl]
    have hget : ∀ p, p < F 2 - 1 → cutF F x (26 + 4 * p) = F (26 + 4 * (if x ≤ p then p + 1 else p)) ∧ cutF F x (27 + 4 * p) = F (27 + 4 * (if x ≤ p then p + 1 else p)) ∧ cutF F x (28 + 4 * p) = F (28 + 4 * (if x ≤ p then p + 1 else p)) ∧ cutF F x (29 + 4 * p) = F (29 + 4 * (if x ≤ p then p + 1 else p)) := fun p hp => by
      have g0 := cutF_lo (F := F) (x := x) hp (show 0 < 4 by omega)
      have g1 := cutF_lo (F := F) (x := x) hp (show 1 < 4 by omega)
      have g2 := cutF_lo (F := F) (x := x) hp (show 2 < 4 by omega)
      have g3 := cutF_lo (F := F) (x := x) hp (show 3 < 4 by omega)
      refine ⟨g0, ?_, ?_, ?_⟩
      · rw [show 27 + 4 * p = 26 + 4 * p + 1 by omega, g1]; congr 1; omega
      · rw [show 28 + 4 * p = 26 + 4 * p + 2 by omega, g2]; congr 1; omega
      · rw [show 29 + 4 * p = 26 + 4 * p + 3 by omega, g3]; congr 1; omega
    have hG : Inv (cutF F x) := hI0.pipes hlow (by omega) (fun p hp => by
      rw [h2'] at hp
      obtain ⟨g0, g1, g2, g3⟩ := hget p hp
      rw [g0, g1, g2, g3]
      exact a8 _ (by split <;> omega))
    refine Or.inr (Or.inr ⟨F 2 - 1, cutF F x, hG, by rw [hlow 3 (by omega) (by omega)]; omega, by omega, KO.pl (by decide) (by exact hlow 4 (by omega) (by omega)), fun w hC => ?_, fun w hC => ?_, fun w hM => ?_⟩)
    · rw [jd_7, i_hasT hC.2.2.2.2.2.2.2.1 a3 hx, bI_s, if_neg (by decide), zl_0]
    · obtain ⟨w', e1, e2, e3, e4⟩ := i_remove hC.2.2.2.2.2.2.2.1 a3 hx hC.2.2.2.2.2.2.2.2.2
      have q9 := hC.2.2.2.2.2.2.2.2.1
      have q10 := hC.2.2.2.2.2.2.2.2.2
      refine ⟨w', by rw [ap_7]; exact e1, hC.pipes e2 hlow (by omega) (by rw [h2']; exact e3) (fun p hp => ?_) (fun p hp => ?_), e2.wk (fun a z => Or.inl (by omega))⟩
      · rw [h2'] at hp
        obtain ⟨g0, g1, g2, g3⟩ := hget p hp
        obtain ⟨f1, f2, f3, f4⟩ := e4 p (by omega)
        rw [g0, g1, g2, g3, f1, f2, f3, f4]
        by_cases z : x ≤ p
        · rw [if_pos (show x ≤ p ∧ p + 1 < F 2 by omega), if_pos (show x ≤ p ∧ p + 1 < F 2 by omega), if_pos (show x ≤ p ∧ p + 1 < F 2 by omega), if_pos (show x ≤ p ∧ p + 1 < F 2 by omega), if_pos z]
          exact q9 (p + 1) (by omega)
        · rw [if_neg (show ¬ (x ≤ p ∧ p + 1 < F 2) by omega), if_neg (show ¬ (x ≤ p ∧ p + 1 < F 2) by omega), if_neg (show ¬ (x ≤ p ∧ p + 1 < F 2) by omega), if_neg (show ¬ (x ≤ p ∧ p + 1 < F 2) by omega), if_neg z]
          exact q9 p (by omega)
      · rw [(e4 p hp).2.2.2]
        split
        · exact q10 (p + 1) (by omega)
        · exact q10 p hp
    · obtain ⟨w', e1, e2, e3⟩ := m_cutsh_loop a3 hx (4 * (F 2 - 1) - 4 * x) 1000 (4 * x) w (by omega) (by omega) (by omega) (hM.ext (fun j hj => by rw [if_neg (by omega)]))
      refine ⟨w', ?_, e3, e2.wk (fun a z => Or.inl z)⟩
      unfold f_X11_cuts
      rw [m_isPipeT hM a3 hx, bI_s, if_neg (by decide), show Int32.toNatClampNeg 2 = 2 from rfl, hM.at (by omega), zl_1, zI_sub (by omega), zl_4, zI_mul]
      exact e1
  · refine Or.inl ⟨1, Or.inl rfl, KE.pl (by decide), fun w hC => ?_, fun w hM => ?_⟩
    · rw [jd_7, h.1 w hC, bI_s, if_pos (by rfl), zl_1]
    · unfold f_X11_cuts
      rw [h.2 w hM, bI_s, if_pos (by rfl), zl_1]
/-! break, mend -/
theorem op_turn (kd a b c : Int32) (v : Nat) (hv : v ≤ 1) (hkd : (kd = 8 ∧ v = 1) ∨ kd = 9 ∧ v = 0) (hj : ∀ w : XW, f_X8_judge 1 kd a b c w = f_X8_judgeBroken 1 a (zI (1 - v)) w) (ha : ∀ w : XW, f_X8_apply 1 kd a b c w = f_X5_setBroken 7 a (zI v) w) : OpR kd a b c (f_X11_turns a (zI v)) := by
  intro F hI
  have hI0 := hI
  obtain ⟨a1, a2, a3, a4, a5, a6, a7, a8⟩ := hI
  rcases pipZ F a a3 with ⟨x, hx, rfl⟩ | h
  · have h8 := a8 x hx
    have hbrk : ∀ w : XW, Cls w.1 1 F → f_X5_brokenAt 7 (zI x) w = some (zI (F (29 + 4 * x)), w) := fun w hC => i_broken hC.2.2.2.2.2.2.2.1 a3 hx (hC.2.2.2.2.2.2.2.2.1 x hx).2.2.2 h8.2.2.2.2.2
    have hpipe : ∀ w : XW, Mo w.1 142 0 F → f_X11_pipe (zI x) 3 w = some (zI (F (29 + 4 * x)), w) := fun w hM => by
      have := m_pipe (p := x) (j := 3) hM (by omega)
      rwa [show 26 + 4 * x + 3 = 29 + 4 * x by omega] at this
    by_cases e : F (29 + 4 * x) = v
    · refine Or.inr (Or.inl ⟨6, F (28 + 4 * x), by omega, by omega, by omega, KD.pl (by rcases hkd with ⟨rfl, _⟩ | ⟨rfl, _⟩ <;> decide), fun w hC => ?_, fun w hM => ⟨w, ?_, Fr.rf⟩⟩)
      · rw [hj]
        unfold f_X8_judgeBroken
        rw [show (1 : Nat) + 6 = 7 from rfl, i_hasT hC.2.2.2.2.2.2.2.1 a3 hx, bI_s, if_neg (by decide), hbrk w hC, bI_s, if_neg (by rw [zI_inj (by omega) (by omega)]; omega), i_width hC.2.2.2.2.2.2.2.1 a3 hx (hC.2.2.2.2.2.2.2.2.1 x hx).2.2.1, bI_s, zl_6, den_c, bI_s]
      · have hw := m_pipe (p := x) (j := 2) hM (by omega)
        rw [show 26 + 4 * x + 2 = 28 + 4 * x by omega] at hw
        unfold f_X11_turns
        rw [m_isPipeT hM a3 hx, bI_s, if_neg (by decide), hpipe w hM, bI_s, if_pos (by rw [e]), zl_2, hw, bI_s, zl_6, den_m, bI_s]
    · have hG : Inv (uF F (29 + 4 * x) v) := hI0.pipes (fun j h1 h2 => uF_ne _ (by omega)) (by rw [uF_ne _ (by omega)]; exact a3) (fun p hp => by
        rw [uF_ne _ (by omega)] at hp
        rw [uF_ne _ (show 26 + 4 * p ≠ 29 + 4 * x by omega), uF_ne _ (show 27 + 4 * p ≠ 29 + 4 * x by omega), uF_ne _ (show 28 + 4 * p ≠ 29 + 4 * x by omega)]
        have := a8 p hp
        refine ⟨this.1, this.2.1, this.2.2.1, this.2.2.2.1, this.2.2.2.2.1, ?_⟩
        by_cases z : p = x
        · rw [z, uF_hit]; exact hv
        · rw [uF_ne _ (by omega)]; exact this.2.2.2.2.2)
      have hsum : sm (fun p => if p = x then v else F (29 + 4 * p)) (F 2) = sm (fun p => uF F (29 + 4 * x) v (29 + 4 * p)) (F 2) := sm_congr (fun p hp => by
        by_cases z : p = x
        · rw [if_pos z, z, uF_hit]
        · rw [if_neg z, uF_ne _ (by omega)])
      have hsb : sm (fun p => uF F (29 + 4 * x) v (29 + 4 * p)) (F 2) ≤ 1 * F 2 := sm_bound _ (fun p hp => by
        have := a8 p hp
        by_cases z : p = x
        · rw [z, uF_hit]; exact hv
        · rw [uF_ne _ (by omega)]; exact this.2.2.2.2.2)
      refine Or.inr (Or.inr ⟨sm (fun p => uF F (29 + 4 * x) v (29 + 4 * p)) (F 2), uF F (29 + 4 * x) v, hG, by rw [uF_ne _ (by omega)]; omega, by omega, ?_, fun w hC => ?_, fun w hC => ?_, fun w hM => ?_⟩)
      · have h8b := h8.2.2.2.2.2
        have e4 : uF F (29 + 4 * x) v 4 = F 4 := uF_ne _ (by omega)
        rcases hkd with ⟨rfl, rfl⟩ | ⟨rfl, rfl⟩
        · exact ⟨fun _ _ => e4, fun e => absurd e (by decide), fun e => absurd e (by decide), fun e => absurd e (by decide), fun _ => ⟨x, rfl, hx, by omega, rfl⟩, fun e => absurd e (by decide), fun e => absurd e (by decide), fun e => absurd e (by decide)⟩
        · exact ⟨fun _ _ => e4, fun e => absurd e (by decide), fun e => absurd e (by decide), fun e => absurd e (by decide), fun e => absurd e (by decide), fun _ => ⟨x, rfl, hx, by omega, rfl⟩, fun e => absurd e (by decide), fun e => absurd e (by decide)⟩
      · rw [hj]
        unfold f_X8_judgeBroken
        rw [show (1 : Nat) + 6 = 7 from rfl, i_hasT hC.2.2.2.2.2.2.2.1 a3 hx, bI_s, if_neg (by decide), hbrk w hC, bI_s, if_pos (by rw [zI_inj (by omega) (by omega)]; omega), zl_0]
      · have q9 := hC.2.2.2.2.2.2.2.2.1
        have q10 := hC.2.2.2.2.2.2.2.2.2
        have hs := i_set (v := v) hC.2.2.2.2.2.2.2.1 a3 hx hv (B := fun p => F (29 + 4 * p)) (fun p hp => ⟨(q9 p hp).2.2.2, (a8 p hp).2.2.2.2.2⟩)
        refine ⟨wset w 11 x (zI v), by rw [ha, hs, hsum], hC.pipes (Fr.rf.set ⟨by omega, by omega⟩ _ _) (fun j h1 h2 => uF_ne _ (by omega)) (by omega) ?_ (fun p hp => ?_) (fun p hp => ?_), Fr.rf.set (Or.inl ⟨by omega, by omega⟩) _ _⟩
        · rw [uF_ne _ (by omega)]; exact hC.2.2.2.2.2.2.2.1
        · rw [uF_ne _ (by omega)] at hp
          rw [uF_ne _ (show 26 + 4 * p ≠ 29 + 4 * x by omega), uF_ne _ (show 27 + 4 * p ≠ 29 + 4 * x by omega), uF_ne _ (show 28 + 4 * p ≠ 29 + 4 * x by omega)]
          refine ⟨(q9 p hp).1, (q9 p hp).2.1, (q9 p hp).2.2.1, ?_⟩
          rw [wset_at]
          by_cases z : p = x
          · rw [if_pos ⟨rfl, z⟩, z, uF_hit]
          · rw [if_neg (fun q => z q.2), uF_ne _ (by omega)]; exact (q9 p hp).2.2.2
        · rw [wset_at]
          by_cases z : p = x
          · rw [if_pos ⟨rfl, z⟩]
            have e0 : v = 0 ∨ v = 1 := by omega
            rcases e0 with rfl | rfl
            · exact Or.inl rfl
            · exact Or.inr rfl
          · rw [if_neg (fun q => z q.2)]; exact q10 p hp
      · have hb := m_brk (hM.set (29 + 4 * x) v) (by rw [uF_ne _ (by omega)]; exact a3)
        rw [uF_ne _ (show 2 ≠ 29 + 4 * x by omega)] at hb
        refine ⟨wset w 142 (29 + 4 * x) (zI v), ?_, hM.set _ _, (fr1 _ _).wk (fun a z => Or.inl z)⟩
        unfold f_X11_turns
        rw [m_isPipeT hM a3 hx, bI_s, if_neg (by decide), hpipe w hM, bI_s, if_neg (by rw [zI_inj (by omega) (by omega)]; exact e), zl_26, zl_4, zl_3, zI_mul, zI_add, zI_add, if_pos (by rw [inB_z (by omega)]; omega), zI_nat (by omega), show 26 + 4 * x + 3 = 29 + 4 * x by omega, hb, bI_s, don_m, bI_s]
  · refine Or.inl ⟨1, Or.inl rfl, KE.pl (by rcases hkd with ⟨rfl, _⟩ | ⟨rfl, _⟩ <;> decide), fun w hC => ?_, fun w hM => ?_⟩
    · rw [hj]
      unfold f_X8_judgeBroken
      rw [show (1 : Nat) + 6 = 7 from rfl, h.1 w hC, bI_s, if_pos (by rfl), zl_1]
    · unfold f_X11_turns
      rw [h.2 w hM, bI_s, if_pos (by rfl), zl_1]
theorem op_break (a b c : Int32) : OpR 8 a b c (f_X11_turns a 1) := op_turn 8 a b c 1 (by omega) (Or.inl ⟨rfl, rfl⟩) (fun w => jd_8 a b c w) (fun w => ap_8 a b c w)
theorem op_mend (a b c : Int32) : OpR 9 a b c (f_X11_turns a 0) := op_turn 9 a b c 0 (by omega) (Or.inr ⟨rfl, rfl⟩) (fun w => jd_9 a b c w) (fun w => ap_9 a b c w)
