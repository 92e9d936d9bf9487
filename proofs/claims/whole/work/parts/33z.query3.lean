/-! layers asked for; sums; what was kept -/
section
variable {w : XW} {F : Nat → Nat}
theorem m_find {P : List Nat} {n s : Nat} (hn : n ≤ 7) (hP : P ∈ piles n) (hF : ∀ j, j < n → F (19 + j) = gtL P j) (hs : s < n) (hM : Mo w.1 142 0 F) : f_X11_layerOf_42 (zI s) 1000 (zI 0) w = some (zI (ixL P s), w) := by
  obtain ⟨_, t1, t2⟩ := piles_ok hn hP
  have ht := t1 s hs
  have loop : ∀ (d fuel i : Nat), i + d = ixL P s → d < fuel → f_X11_layerOf_42 (zI s) fuel (zI i) w = some (zI (ixL P s), w) := by
    intro d
    induction d with
    | zero =>
      intro fuel i hi hf
      obtain ⟨f, rfl⟩ : ∃ f, fuel = f + 1 := ⟨fuel - 1, by omega⟩
      have e0 : i = ixL P s := by omega
      subst e0
      rw [f_X11_layerOf_42, zl_19, zI_add, if_pos (by rw [inB_z (by omega)]; omega), zI_nat (by omega), hM.at (by omega), hF _ ht.1, ht.2, if_pos rfl]
    | succ d ih =>
      intro fuel i hi hf
      obtain ⟨f, rfl⟩ : ∃ f, fuel = f + 1 := ⟨fuel - 1, by omega⟩
      have h3 := t2 i (by omega)
      rw [f_X11_layerOf_42, zl_19, zI_add, if_pos (by rw [inB_z (by omega)]; omega), zI_nat (by omega), hM.at (by omega), hF _ (by omega), if_neg (by
        rw [zI_inj (by omega) (by omega)]
        intro z
        rw [z] at h3
        omega), zl_1, zI_add]
      exact ih f (i + 1) (by omega) (by omega)
  exact loop (ixL P s) 1000 0 (by omega) (by omega)
end
theorem q_layerOf (B : Nat) (x : Int32) : QX B B (f_X10_layerOf x) (f_X11_layerOf x) [(ioobe, 1), (nsee, 2)] := fun w q => by
  obtain ⟨F, _, hI, hC, hM, _⟩ := q.get
  have a1 := hI.1
  have a2 := hI.2.1
  rcases reqS (x := x) hC hI with ⟨i, hi, rfl, h⟩ | ⟨h1, h2⟩
  · by_cases hf : i < F 1
    · have h8 := inv_ix hI i hf
      refine Or.inr ⟨zI (ixL (plF F) i), w, ?_, fun v => ⟨wset (w.1, v) 141 0 (zI 0), ?_, rfl, wset_hit _ _ _ _, q.thr v _⟩⟩
      · unfold f_X10_layerOf
        rw [h, bVX_s, p_layT (k := 5) hC.2.2.2.2.2.1 (by omega) hf (hC.2.2.2.2.2.2.1 i hf), bI_s, zl_1, zm1, if_neg (by rw [zI_zM (by omega)]; exact id)]
      · unfold f_X11_layerOf
        rw [m_isSecT (w := (w.1, v)) hM a1 hi, bI_s, if_neg (by decide), show Int32.toNatClampNeg 1 = 1 from rfl, show (w.1, v).1 142 1 = zI (F 1) from hM.at (by omega), if_neg (by rw [zI_le (by omega) (by omega)]; omega), if_pos (by rw [wset_hit]; decide), zl_0]
        exact m_find (show F 1 ≤ 7 by omega) hI.2.2.2.2.2.1 (fun j hj => (plF_get hj).symm) hf (hM.thr v (zI 0))
    · refine Or.inl ⟨(nsee, 2), List.mem_cons_of_mem _ List.mem_cons_self, w, ?_, fun v => ⟨zI 0, wset (w.1, v) 141 0 (zI 2), ?_, rfl, wset_hit _ _ _ _, q.thr v _⟩⟩
      · unfold f_X10_layerOf
        rw [h, bVX_s, p_layF (k := 5) hC.2.2.2.2.2.1 (by omega) (by omega) (by omega), bI_s, zl_1, zm1, if_pos rfl]
        rfl
      · unfold f_X11_layerOf
        rw [m_isSecT (w := (w.1, v)) hM a1 hi, bI_s, if_neg (by decide), show Int32.toNatClampNeg 1 = 1 from rfl, show (w.1, v).1 142 1 = zI (F 1) from hM.at (by omega), if_pos (by rw [zI_le (by omega) (by omega)]; omega), zl_2, if_neg (thr_pos (by omega) (by omega)).1]
        rfl
  · refine Or.inl ⟨(ioobe, 1), List.mem_cons_self, w, ?_, fun v => ⟨zI 0, wset (w.1, v) 141 0 (zI 1), ?_, rfl, wset_hit _ _ _ _, q.thr v _⟩⟩
    · unfold f_X10_layerOf
      rw [h1, bVX_x]
    · unfold f_X11_layerOf
      rw [h2 (w.1, v) hM, bI_s, if_pos (by rfl), zl_1, if_neg (thr_pos (by omega) (by omega)).1]
      rfl
theorem m_inN2 {w : XW} {x : Int32} {n : Nat} (h : x < 0 ∨ ∃ a, a < 2147483648 ∧ n ≤ a ∧ x = zI a) (hn : n ≤ 10) : f_X11_in x (zI 0) (zI n - zI 1) w = some (zI 0, w) := by
  rcases h with h | ⟨a, h1, h2, rfl⟩
  · exact m_inN h (by omega)
  · by_cases e : n = 0
    · rw [e, z0_sub1]
      unfold f_X11_in
      simp (disch := omega) only [zl_0, zl_1, zl_2, zl_3, zl_4, zl_5, zl_6, zl_7, zl_8, zl_9, zl_10, zl_11, zl_12, zl_13, zl_14, zl_15, zl_16, zl_17, zl_18, zl_19, zl_20, zl_21, zl_22, zl_23, zl_24, zl_25, zl_26, zl_27, zl_28, zl_29, zl_30, zl_31, zl_32, zl_33, zl_34, zl_35, zl_36, zl_37, zl_38, zl_39, zl_40, zl_41, zl_42, zl_43, zl_44, zl_45, zl_46, zl_47, zl_48, zl_49, zl_50, zl_51, zl_52, zl_53, zl_54, zl_55, zl_56, zl_57, zl_58, zl_59, zl_60, zl_61, zl_62, zl_63, zl_64, zl_65, zl_66, zl_67, zl_68, zl_69, zl_70, zl_71, zl_72, zl_73, zl_74, zl_75, zl_76, zl_77, zl_78, zl_79, zl_80, zl_81, zl_82, zl_83, zl_84, zl_85, zl_86, zl_87, zl_88, zl_89, zl_90, zl_91, zl_92, zl_93, zl_94, zl_95, zl_96, zl_97, zl_98, zl_99, zl_100, zl_101, zl_102, zl_103, zl_104, zl_105, zl_106, zl_107, zl_108, zl_109, zl_110, zl_111, zl_112, zl_113, zl_114, zl_115, zl_116, zl_117, zl_118, zl_119, zl_120, zl_121, zl_122, zl_123, zl_124, zl_125, zl_126, zl_127, zl_128, zl_180, zl_200, zl_240, zl_462, zl_528, zm1, zI_add, zI_mul, zI_sub, zI_addneg, zI_lt, zI_le, zI_inj, zI_nat, zI_zM, zM_zI, zM_lt, lt_zM, zM_le, le_zM, zM_leM, zM_ltM, inB_z, bI_s, bV_s, bIX_s, bVX_s, bIX_x, bVX_x, if_true, if_false, ↓reduceIte, nar0z, nar1z, Nat.not_lt_zero, Nat.zero_le, Nat.le_zero_eq, not_true_eq_false, not_false_eq_true, false_and, and_false, true_and, and_true, and_self, wset_at, Nat.le_refl, Nat.reduceAdd, Nat.reduceSub, Nat.reduceMul, Nat.reduceDiv, Nat.reduceMod, Nat.reduceEqDiff, Nat.reduceLT, Nat.add_sub_cancel, Nat.reducePow, Nat.reduceLeDiff]
    · rw [zI_sub (by omega)]
      exact m_inF (by omega) h1 (by omega) (by omega)
theorem m_in0T {w : XW} {x n : Nat} (h : x < n) (hn : n ≤ 10) : f_X11_in (zI x) 0 (zI n - 1) w = some (zI 1, w) := by
  rw [zl_0, zl_1, zI_sub (by omega)]
  exact m_inT (by omega) (by omega) (by omega)
theorem m_in0N {w : XW} {x : Int32} {n : Nat} (h : x < 0 ∨ ∃ a, a < 2147483648 ∧ n ≤ a ∧ x = zI a) (hn : n ≤ 10) : f_X11_in x 0 (zI n - 1) w = some (zI 0, w) := by
  rw [zl_0, zl_1]
  exact m_inN2 h hn
theorem q_sectionIn (B : Nat) (x : Int32) : QX B B (f_X10_sectionIn x) (f_X11_sectionIn x) [(ioobe, 1)] := fun w q => by
  obtain ⟨F, _, hI, hC, hM, _⟩ := q.get
  have a1 := hI.1
  have a2 := hI.2.1
  have h8 := inv_ix hI
  obtain ⟨_, t1, t2⟩ := piles_ok (show F 1 ≤ 7 by omega) hI.2.2.2.2.2.1
  have hz : (∃ l, l < F 1 ∧ x = zI l) ∨ (x < 0 ∨ ∃ a, a < 2147483648 ∧ F 1 ≤ a ∧ x = zI a) := by
    rcases zI_cases x with h | ⟨a, ha, rfl⟩
    · exact Or.inr (Or.inl h)
    · by_cases h : a < F 1
      · exact Or.inl ⟨a, h, rfl⟩
      · exact Or.inr (Or.inr ⟨a, ha, by omega, rfl⟩)
  rcases hz with ⟨l, hl, rfl⟩ | hz
  · have hs := t2 l hl
    rw [plF_get hl] at hs
    refine Or.inr ⟨zI (F (19 + l)), w, ?_, fun v => ⟨wset (w.1, v) 141 0 (zI 0), ?_, rfl, wset_hit _ _ _ _, q.thr v _⟩⟩
    · have hat := p_sectionAt (k := 5) (n := F 1) (L := ixL (plF F)) hC.2.2.2.2.2.1 (by omega) hC.2.2.2.2.2.2.1 h8 hs.1 hs.2 (fun s hs2 hq => by
        have := (t1 s hs2).2
        rw [hq, plF_get hl] at this
        exact this.symm)
      unfold f_X10_sectionIn
      rw [hat, bI_s, zl_1, zm1, if_neg (by rw [zI_zM (by omega)]; exact id)]
    · unfold f_X11_sectionIn
      rw [show Int32.toNatClampNeg 1 = 1 from rfl, show (w.1, v).1 142 1 = zI (F 1) from hM.at (by omega), m_in0T hl (by omega), bI_s, if_neg (by decide), if_pos (by rw [wset_hit]; decide), zl_19, zI_add, if_pos (by rw [inB_z (by omega)]; omega), zI_nat (by omega), zl_0, (hM.thr v (zI 0)).at (by omega)]
  · have hno := p_sectionAt_no (k := 5) (n := F 1) (L := ixL (plF F)) (x := x) hC.2.2.2.2.2.1 (by omega) hC.2.2.2.2.2.2.1 (fun s hs e => by
      have h1 := (t1 s hs).1
      rcases hz with hz | ⟨a, b1, b2, rfl⟩
      · exact (zI_neg hz (show ixL (plF F) s < 2147483648 by omega)).2.1 e
      · rw [zI_inj (by omega) b1] at e; omega)
    refine Or.inl ⟨(ioobe, 1), List.mem_cons_self, w, ?_, fun v => ⟨zI 0, wset (w.1, v) 141 0 (zI 1), ?_, rfl, wset_hit _ _ _ _, q.thr v _⟩⟩
    · unfold f_X10_sectionIn
      rw [hno, bI_s, zl_1, zm1, if_pos rfl]
      rfl
    · unfold f_X11_sectionIn
      rw [show Int32.toNatClampNeg 1 = 1 from rfl, show (w.1, v).1 142 1 = zI (F 1) from hM.at (by omega), m_in0N hz (by omega), bI_s, if_pos (by rfl), zl_1, if_neg (thr_pos (by omega) (by omega)).1]
      rfl
theorem q_canFold (B : Nat) (x : Int32) : QX B B (f_X10_canFold x) (f_X11_canFold x) [(ioobe, 1)] := fun w q => by
  obtain ⟨F, _, hI, hC, hM, hq⟩ := q.get
  have a1 := hI.1
  have a2 := hI.2.1
  have h8 := inv_ix hI
  have q1 : w.1 (1 + 1) 0 = zI (F 0) := hC.1
  have q6 : w.1 (1 + 4) 0 = zI (F 1) := hC.2.2.2.2.2.1
  have bad : f_X8_judgeFold 1 x w = some (zM, w) → (∀ w : XW, f_X11_in x (zI 0) (zI (F 1)) w = some (zI 0, w)) → (∃ e ∈ [(ioobe, 1)], ∃ w1, f_X10_canFold x w = some (.inr (e.1, w1)) ∧ ∀ v, ∃ r w2, f_X11_canFold x (w1.1, v) = some (r, w2) ∧ w2.2 = v ∧ w2.1 141 0 = zI e.2 ∧ Rel B w2.1) := fun h1 h2 => by
    refine ⟨(ioobe, 1), List.mem_cons_self, w, ?_, fun v => ⟨zI 0, wset (w.1, v) 141 0 (zI 1), ?_, rfl, wset_hit _ _ _ _, q.thr v _⟩⟩
    · unfold f_X10_canFold
      rw [h1, bI_s, zl_1, zm1, if_pos rfl]
      rfl
    · unfold f_X11_canFold
      rw [show Int32.toNatClampNeg 1 = 1 from rfl, show (w.1, v).1 142 1 = zI (F 1) from hM.at (by omega), zl_0, h2, bI_s, if_pos rfl, zl_1, if_neg (by rw [← zl_0]; exact (thr_pos (by omega) (by omega)).2)]
  rcases zI_cases x with hx | ⟨l, hl, rfl⟩
  · refine Or.inl (bad ?_ (fun w => m_inN hx (by omega)))
    unfold f_X8_judgeFold
    rw [if_pos hx, zl_1, zm1]
  · by_cases hlf : l ≤ F 1
    · by_cases hall : F 1 = F 0
      · refine Or.inr ⟨zI 0, w, ?_, fun v => ⟨wset (w.1, v) 141 0 (zI 0), ?_, rfl, wset_hit _ _ _ _, q.thr v _⟩⟩
        · unfold f_X10_canFold f_X8_judgeFold
          rw [if_neg (by rw [zl_0, zI_lt (by omega) (by omega)]; omega), q6, if_pos (by rw [zI_le (by omega) (by omega)]; omega), q1, if_neg (by rw [zI_lt (by omega) (by omega)]; omega), zl_2, den_c, bI_s, bI_s, zl_1, zm1, if_neg (by rw [zI_zM (by omega)]; exact id), if_neg (by rw [zl_0, zI_inj (by omega) (by omega)]; omega)]
          rfl
        · unfold f_X11_canFold
          rw [show Int32.toNatClampNeg 1 = 1 from rfl, show Int32.toNatClampNeg 0 = 0 from rfl, show (w.1, v).1 142 1 = zI (F 1) from hM.at (by omega), zl_0, m_inT (by omega) (by omega) (by omega), bI_s, if_neg (by decide), if_pos (by rw [wset_hit]), (hM.thr v (zI 0)).at (by omega), (hM.thr v (zI 0)).at (by omega), if_pos (by rw [zI_le (by omega) (by omega)]; omega)]
      · have hcz := crZ_none (o := crA (ixL (plF F)) (F 1) l) (fun x hx => by have := crA_lt hx; omega)
        have hcc := p_crease (k := 1 + 4) (l := l) q6 (by omega) hC.2.2.2.2.2.2.1 h8 (by omega)
        have cls : f_X10_canFold (zI l) w = some (.inl (zI (if (crA (ixL (plF F)) (F 1) l).isNone then 1 else 0), w)) := by
          unfold f_X10_canFold f_X8_judgeFold
          rw [if_neg (by rw [zl_0, zI_lt (by omega) (by omega)]; omega), q6, if_pos (by rw [zI_le (by omega) (by omega)]; omega), q1, if_pos (by rw [zI_lt (by omega) (by omega)]; omega), hcc, bI_s, zl_1, zm1]
          cases hx : crA (ixL (plF F)) (F 1) l with
          | none =>
            show bI (if zM = zM then _ else _) _ = _
            rw [if_pos rfl, bI_s, if_neg (by decide), if_pos (by rfl)]
            rfl
          | some y =>
            have hy := crA_lt hx
            show bI (if zI y = zM then _ else _) _ = _
            rw [if_neg (by rw [zI_zM (by omega)]; exact id), zl_4]
            show bI (bI (f_X8_denied (zI 4) (zI y) w) _) _ = _
            rw [den_c, bI_s, bI_s, if_neg (by rw [zI_zM (by omega)]; exact id), if_neg (by rw [zl_0, zI_inj (by omega) (by omega)]; omega)]
            rfl
        refine Or.inr ⟨_, w, cls, fun v => ?_⟩
        obtain ⟨w1, e1, e2⟩ := m_crossed (l := l) (show F 1 < 7 by omega) hI.2.2.2.2.2.1 rfl (fun j hj => (plF_get hj).symm) hlf (hM.thr v (zI 0))
        refine ⟨w1, ?_, e2.2, ?_, ?_⟩
        · unfold f_X11_canFold
          rw [show Int32.toNatClampNeg 1 = 1 from rfl, show Int32.toNatClampNeg 0 = 0 from rfl, show (w.1, v).1 142 1 = zI (F 1) from hM.at (by omega), zl_0, m_inT (by omega) (by omega) (by omega), bI_s, if_neg (by decide), if_pos (by rw [wset_hit]), (hM.thr v (zI 0)).at (by omega), (hM.thr v (zI 0)).at (by omega), if_neg (by rw [zI_le (by omega) (by omega)]; omega), e1, bI_s, zl_1, zm1]
          cases hx : crA (ixL (plF F)) (F 1) l with
          | none =>
            show (if zM = zM then _ else _) = _
            rw [if_pos rfl]
            rfl
          | some y =>
            have hy := crA_lt hx
            show (if zI y = zM then _ else _) = _
            rw [if_neg (by rw [zI_zM (by omega)]; exact id)]
            rfl
        · rw [e2.at (by omega), wset_hit]
        · refine hq _ (fun a z1 z2 z3 z4 z5 z6 z7 z8 z9 => ?_) (fun c hc => ?_) (fun c hc => ?_) ((hM.thr v (zI 0)).fr e2 (by omega))
          · funext y; rw [e2.at (by omega), wset_at, if_neg (by omega)]
          · rw [e2.at (by omega), wset_at, if_neg (by omega)]
          · rw [e2.at (by omega), wset_at, if_neg (by omega)]
    · refine Or.inl (bad ?_ (fun w => m_inF (by omega) (by omega) (by omega) (by omega)))
      unfold f_X8_judgeFold
      rw [if_neg (by rw [zl_0, zI_lt (by omega) (by omega)]; omega), q6, if_neg (by rw [zI_le (by omega) (by omega)]; omega), zl_1, zm1]
/-! the foldings to come -/
theorem q_compG (B : Nat) (cl : XW → Option (Int32 × XW)) (hcl : ∀ (w : XW) (F : Nat → Nat), Inv F → Cls w.1 1 F → ∃ w', cl w = some (zI (wyL (F 0) 9 (plF F) (F 1)), w') ∧ Fr (fun a => 129 ≤ a ∧ a ≤ 131) w w') : QD B B cl f_X11_completions := fun w q => by
  obtain ⟨F, _, hI, hC, hM, hq⟩ := q.get
  have a1 := hI.1
  have a2 := hI.2.1
  obtain ⟨w1, e1, e2⟩ := hcl w F hI hC
  have hM1 : Mo w1.1 142 0 F := hM.fr e2 (by omega)
  refine ⟨_, w1, e1, fun v => ?_⟩
  obtain ⟨w2, f1, f2, f3⟩ := m_ways a1 9 (F 1) F (plF F) (wset (w1.1, v) 141 0 (zI 0)) a2 (by omega) hI.2.2.2.2.2.1 rfl rfl (fun j hj => (plF_get hj).symm) hI.2.2.2.2.2.2.1 (hM1.thr v (zI 0))
  refine ⟨w2, ?_, f2.2, hq _ (fun a z1 z2 z3 z4 z5 z6 z7 z8 z9 => ?_) (fun c hc => ?_) (fun c hc => ?_) f3⟩
  · unfold f_X11_completions
    rw [zl_0, f1, bI_s]
  · funext y; rw [f2.at (by omega), wset_at, if_neg (by omega)]; exact e2.at (by omega) y
  · rw [f2.at (by omega), wset_at, if_neg (by omega)]; exact e2.at (by omega) c
  · rw [f2.at (by omega), wset_at, if_neg (by omega)]; exact e2.at (by omega) c
theorem q_comp (B : Nat) : QD B B f_X10_completions f_X11_completions := q_compG B _ (fun w F hI hC => by
  obtain ⟨w', e1, e2⟩ := f_byFolding hI.1 hI.2.1 hI.2.2.2.2.2.1 hC.2.2.2.2.2.1 hC.2.2.2.2.2.2.1
  refine ⟨w', ?_, e2.wk (fun a z => by omega)⟩
  unfold f_X10_completions
  rw [show w.1 2 0 = zI (F 0) from hC.1, e1, bI_s])
theorem q_compO (B : Nat) : QD B B f_X10_completionsByOrders f_X11_completionsByOrders := by
  have e : f_X11_completionsByOrders = f_X11_completions := by funext w; unfold f_X11_completionsByOrders; rw [bI_id]
  rw [e]
  exact q_compG B _ (fun w F hI hC => by
    obtain ⟨w', e1, e2⟩ := f_byOrders hI.1 hI.2.1 hI.2.2.2.2.2.1 hC.2.2.2.2.2.1 hC.2.2.2.2.2.2.1
    refine ⟨w', ?_, e2⟩
    unfold f_X10_completionsByOrders
    rw [show w.1 2 0 = zI (F 0) from hC.1, e1, bI_s])
/-! sums of water -/
theorem c_sum {w : XW} {F : Nat → Nat} (hC : Cls w.1 1 F) (hI : Inv F) : f_X9_waterSum 2 w = some (zI (sm (fun i => F (5 + i)) (F 0)), w) := by
  have a1 := hI.1
  have loop : ∀ (d fuel i : Nat), i + d = F 0 → d < fuel → f_X9_waterSum_4 2 fuel (zI (sm (fun i => F (5 + i)) i)) (zI i) w = some (zI (sm (fun i => F (5 + i)) (F 0)), w) := by
    intro d
    induction d with
    | zero =>
      intro fuel i hi hf
      obtain ⟨f, rfl⟩ : ∃ f, fuel = f + 1 := ⟨fuel - 1, by omega⟩
      have e : i = F 0 := by omega
      subst e
      rw [f_X9_waterSum_4, show w.1 2 0 = zI (F 0) from hC.1, if_pos (by rw [zI_le (by omega) (by omega)]; omega)]
    | succ d ih =>
      intro fuel i hi hf
      obtain ⟨f, rfl⟩ : ∃ f, fuel = f + 1 := ⟨fuel - 1, by omega⟩
      have h2 := ih f (i + 1) (by omega) (by omega)
      rw [sm] at h2
      rw [f_X9_waterSum_4, show w.1 2 0 = zI (F 0) from hC.1, if_neg (by rw [zI_le (by omega) (by omega)]; omega), if_pos (by rw [inB_z (by omega)]; omega), zI_nat (by omega), show w.1 (2 + 1) i = zI (F (5 + i)) from hC.2.2.2.1 i (by omega), zI_add, zl_1, zI_add]
      exact h2
  exact loop (F 0) 1000 0 (by omega) (by omega)
theorem m_all {w : XW} {F : Nat → Nat} (hM : Mo w.1 142 0 F) (hI : Inv F) : f_X11_all w = some (zI (sm (fun i => F (5 + i)) (F 0)), w) := by
  have a1 := hI.1
  have loop : ∀ (d fuel i : Nat), i + d = F 0 → d < fuel → f_X11_all_4 fuel (zI (sm (fun i => F (5 + i)) i)) (zI i) w = some (zI (sm (fun i => F (5 + i)) (F 0)), w) := by
    intro d
    induction d with
    | zero =>
      intro fuel i hi hf
      obtain ⟨f, rfl⟩ : ∃ f, fuel = f + 1 := ⟨fuel - 1, by omega⟩
      have e : i = F 0 := by omega
      subst e
      rw [f_X11_all_4, show Int32.toNatClampNeg 0 = 0 from rfl, hM.at (by omega), if_pos (by rw [zI_le (by omega) (by omega)]; omega)]
    | succ d ih =>
      intro fuel i hi hf
      obtain ⟨f, rfl⟩ : ∃ f, fuel = f + 1 := ⟨fuel - 1, by omega⟩
      have h2 := ih f (i + 1) (by omega) (by omega)
      rw [sm] at h2
      rw [f_X11_all_4, show Int32.toNatClampNeg 0 = 0 from rfl, hM.at (by omega), if_neg (by rw [zI_le (by omega) (by omega)]; omega), zl_5, zI_add, if_pos (by rw [inB_z (by omega)]; omega), zI_nat (by omega), hM.at (by omega), zI_add, zl_1, zI_add]
      exact h2
  exact loop (F 0) 1000 0 (by omega) (by omega)
theorem sm_cut {G : Nat → Nat} {n : Nat} : ∀ m, n ≤ m → (∀ k, n ≤ k → k < m → G k = 0) → sm G m = sm G n := by
  intro m
  induction m with
  | zero => intro h _; rw [show n = 0 by omega]
  | succ m ih =>
    intro h h2
    by_cases e : n = m + 1
    · rw [e]
    · rw [sm, ih (by omega) (fun k h3 h4 => h2 k h3 (by omega)), h2 m (by omega) (by omega)]; rfl
theorem q_total (B : Nat) : QD B B f_X10_totalWater f_X11_totalWater := fun w q => by
  obtain ⟨F, _, hI, hC, hM, _⟩ := q.get
  refine ⟨zI (sm (fun i => F (5 + i)) (F 0)), w, ?_, fun v => ⟨wset (w.1, v) 141 0 (zI 0), ?_, rfl, q.thr v _⟩⟩
  · unfold f_X10_totalWater; rw [c_sum hC hI, bI_s]
  · unfold f_X11_totalWater; rw [zl_0, m_all (hM.thr v (zI 0)) hI, bI_s]
theorem q_totalA (B : Nat) : QD B B f_X10_totalWaterByAccounts f_X11_totalWaterByAccounts := fun w q => by
  obtain ⟨F, _, hI, hC, hM, _⟩ := q.get
  have a4 := hI.2.2.2.1
  have hs : sm (fun i => F (5 + i)) 7 = sm (fun i => F (5 + i)) (F 0) := sm_cut 7 hI.1 (fun k h1 h2 => ((hI.2.2.2.2.1 k h2).2.2 h1).1)
  refine ⟨zI (sm (fun i => F (5 + i)) (F 0)), w, ?_, fun v => ⟨wset (w.1, v) 141 0 (zI 0), ?_, rfl, q.thr v _⟩⟩
  · unfold f_X10_totalWaterByAccounts
    rw [show w.1 2 1 = zI (F 3) from hC.2.1, show w.1 2 2 = zI (F 4) from hC.2.2.1, zI_sub (by omega), show F 3 - F 4 = sm (fun i => F (5 + i)) (F 0) by omega]
  · unfold f_X11_totalWaterByAccounts f_X11_totalWater
    rw [zl_0, m_all (hM.thr v (zI 0)) hI, bI_s, bI_s]
