/-! cuts: the class's smallest, the reference's; pipes that are broken, by the reference -/
section
variable {w : XW} {F : Nat → Nat}
theorem g_contains {s v : Nat} (hs : s < 256) (hv : v < 8) : f_X1_contains (zI s) (zI v) w = some (zI (bt s v), w) := by
  unfold f_X1_contains
  simp (disch := omega) only [br_shrB s hs v hv, zl_0, zl_1, zl_2, zl_3, zl_4, zl_5, zl_6, zl_7, zl_8, zl_9, zl_10, zl_11, zl_12, zl_13, zl_14, zl_15, zl_16, zl_17, zl_18, zl_19, zl_20, zl_21, zl_22, zl_23, zl_24, zl_25, zl_26, zl_27, zl_28, zl_29, zl_30, zl_31, zl_32, zl_33, zl_34, zl_35, zl_36, zl_37, zl_38, zl_39, zl_40, zl_41, zl_42, zl_43, zl_44, zl_45, zl_46, zl_47, zl_48, zl_49, zl_50, zl_51, zl_52, zl_53, zl_54, zl_55, zl_56, zl_57, zl_58, zl_59, zl_60, zl_61, zl_62, zl_63, zl_64, zl_65, zl_66, zl_67, zl_68, zl_69, zl_70, zl_71, zl_72, zl_73, zl_74, zl_75, zl_76, zl_77, zl_78, zl_79, zl_80, zl_81, zl_82, zl_83, zl_84, zl_85, zl_86, zl_87, zl_88, zl_89, zl_90, zl_91, zl_92, zl_93, zl_94, zl_95, zl_96, zl_97, zl_98, zl_99, zl_100, zl_101, zl_102, zl_103, zl_104, zl_105, zl_106, zl_107, zl_108, zl_109, zl_110, zl_111, zl_112, zl_113, zl_114, zl_115, zl_116, zl_117, zl_118, zl_119, zl_120, zl_121, zl_122, zl_123, zl_124, zl_125, zl_126, zl_127, zl_128, zl_180, zl_200, zl_240, zl_462, zl_528, zm1, zI_add, zI_mul, zI_sub, zI_addneg, zI_lt, zI_le, zI_inj, zI_nat, zI_zM, zM_zI, zM_lt, lt_zM, zM_le, le_zM, zM_leM, zM_ltM, inB_z, bI_s, bV_s, bIX_s, bVX_s, bIX_x, bVX_x, if_true, if_false, ↓reduceIte, nar0z, nar1z, Nat.not_lt_zero, Nat.zero_le, Nat.le_zero_eq, not_true_eq_false, not_false_eq_true, false_and, and_false, true_and, and_true, and_self, wset_at, Nat.le_refl, Nat.reduceAdd, Nat.reduceSub, Nat.reduceMul, Nat.reduceDiv, Nat.reduceMod, Nat.reduceEqDiff, Nat.reduceLT, Nat.add_sub_cancel, Nat.reducePow, Nat.reduceLeDiff]
  rcases bt_01 s v with e | e <;> rw [e]
  · simp (disch := omega) only [zl_0, zl_1, zl_2, zl_3, zl_4, zl_5, zl_6, zl_7, zl_8, zl_9, zl_10, zl_11, zl_12, zl_13, zl_14, zl_15, zl_16, zl_17, zl_18, zl_19, zl_20, zl_21, zl_22, zl_23, zl_24, zl_25, zl_26, zl_27, zl_28, zl_29, zl_30, zl_31, zl_32, zl_33, zl_34, zl_35, zl_36, zl_37, zl_38, zl_39, zl_40, zl_41, zl_42, zl_43, zl_44, zl_45, zl_46, zl_47, zl_48, zl_49, zl_50, zl_51, zl_52, zl_53, zl_54, zl_55, zl_56, zl_57, zl_58, zl_59, zl_60, zl_61, zl_62, zl_63, zl_64, zl_65, zl_66, zl_67, zl_68, zl_69, zl_70, zl_71, zl_72, zl_73, zl_74, zl_75, zl_76, zl_77, zl_78, zl_79, zl_80, zl_81, zl_82, zl_83, zl_84, zl_85, zl_86, zl_87, zl_88, zl_89, zl_90, zl_91, zl_92, zl_93, zl_94, zl_95, zl_96, zl_97, zl_98, zl_99, zl_100, zl_101, zl_102, zl_103, zl_104, zl_105, zl_106, zl_107, zl_108, zl_109, zl_110, zl_111, zl_112, zl_113, zl_114, zl_115, zl_116, zl_117, zl_118, zl_119, zl_120, zl_121, zl_122, zl_123, zl_124, zl_125, zl_126, zl_127, zl_128, zl_180, zl_200, zl_240, zl_462, zl_528, zm1, zI_add, zI_mul, zI_sub, zI_addneg, zI_lt, zI_le, zI_inj, zI_nat, zI_zM, zM_zI, zM_lt, lt_zM, zM_le, le_zM, zM_leM, zM_ltM, inB_z, bI_s, bV_s, bIX_s, bVX_s, bIX_x, bVX_x, if_true, if_false, ↓reduceIte, nar0z, nar1z, Nat.not_lt_zero, Nat.zero_le, Nat.le_zero_eq, not_true_eq_false, not_false_eq_true, false_and, and_false, true_and, and_true, and_self, wset_at, Nat.le_refl, Nat.reduceAdd, Nat.reduceSub, Nat.reduceMul, Nat.reduceDiv, Nat.reduceMod, Nat.reduceEqDiff, Nat.reduceLT, Nat.add_sub_cancel, Nat.reducePow, Nat.reduceLeDiff]
  · simp (disch := omega) only [zl_0, zl_1, zl_2, zl_3, zl_4, zl_5, zl_6, zl_7, zl_8, zl_9, zl_10, zl_11, zl_12, zl_13, zl_14, zl_15, zl_16, zl_17, zl_18, zl_19, zl_20, zl_21, zl_22, zl_23, zl_24, zl_25, zl_26, zl_27, zl_28, zl_29, zl_30, zl_31, zl_32, zl_33, zl_34, zl_35, zl_36, zl_37, zl_38, zl_39, zl_40, zl_41, zl_42, zl_43, zl_44, zl_45, zl_46, zl_47, zl_48, zl_49, zl_50, zl_51, zl_52, zl_53, zl_54, zl_55, zl_56, zl_57, zl_58, zl_59, zl_60, zl_61, zl_62, zl_63, zl_64, zl_65, zl_66, zl_67, zl_68, zl_69, zl_70, zl_71, zl_72, zl_73, zl_74, zl_75, zl_76, zl_77, zl_78, zl_79, zl_80, zl_81, zl_82, zl_83, zl_84, zl_85, zl_86, zl_87, zl_88, zl_89, zl_90, zl_91, zl_92, zl_93, zl_94, zl_95, zl_96, zl_97, zl_98, zl_99, zl_100, zl_101, zl_102, zl_103, zl_104, zl_105, zl_106, zl_107, zl_108, zl_109, zl_110, zl_111, zl_112, zl_113, zl_114, zl_115, zl_116, zl_117, zl_118, zl_119, zl_120, zl_121, zl_122, zl_123, zl_124, zl_125, zl_126, zl_127, zl_128, zl_180, zl_200, zl_240, zl_462, zl_528, zm1, zI_add, zI_mul, zI_sub, zI_addneg, zI_lt, zI_le, zI_inj, zI_nat, zI_zM, zM_zI, zM_lt, lt_zM, zM_le, le_zM, zM_leM, zM_ltM, inB_z, bI_s, bV_s, bIX_s, bVX_s, bIX_x, bVX_x, if_true, if_false, ↓reduceIte, nar0z, nar1z, Nat.not_lt_zero, Nat.zero_le, Nat.le_zero_eq, not_true_eq_false, not_false_eq_true, false_and, and_false, true_and, and_true, and_self, wset_at, Nat.le_refl, Nat.reduceAdd, Nat.reduceSub, Nat.reduceMul, Nat.reduceDiv, Nat.reduceMod, Nat.reduceEqDiff, Nat.reduceLT, Nat.add_sub_cancel, Nat.reducePow, Nat.reduceLeDiff]
theorem ctP_le {wo s p : Nat} (h : F (28 + 4 * p) ≤ 20) : ctP F wo s p ≤ 20 := by unfold ctP; split <;> omega
theorem sm_step {G : Nat → Nat} {i c : Nat} (h : i < c) (n : Nat) (hb : ∀ k, k < c → G k ≤ n) : sm G i ≤ n * c := by
  have h1 := sm_bound (G := G) (c := n) i (fun k hk => hb k (by omega))
  have h2 : n * i ≤ n * c := Nat.mul_le_mul_left n (by omega)
  omega
theorem g_size_loop {s : Nat} (hs : s < 256) (hP : PP w F) (hF : ∀ p, p < F 2 → F (26 + 4 * p) < 8 ∧ F (27 + 4 * p) < 8 ∧ F (28 + 4 * p) ≤ 20) :
    ∀ (d fuel i : Nat), i + d = F 2 → d < fuel → f_X1_cutSize_4 7 (zI s) fuel (zI (sm (ctP F 99 s) i)) (zI i) w = some (zI (ctV F 99 s), w) := by
  obtain ⟨hc, h10, hp⟩ := hP
  intro d
  induction d with
  | zero =>
    intro fuel i hi hf
    obtain ⟨f, rfl⟩ : ∃ f, fuel = f + 1 := ⟨fuel - 1, by omega⟩
    have e : i = F 2 := by omega
    rw [f_X1_cutSize_4, hc, if_pos (by rw [zI_le (by omega) (by omega)]; omega), e]
    rfl
  | succ d ih =>
    intro fuel i hi hf
    obtain ⟨f, rfl⟩ : ∃ f, fuel = f + 1 := ⟨fuel - 1, by omega⟩
    obtain ⟨q1, q2, q3, q4, q5⟩ := hp i (by omega)
    obtain ⟨n1, n2, n3⟩ := hF i (by omega)
    have h2 := ih f (i + 1) (by omega) (by omega)
    rw [sm] at h2
    rw [f_X1_cutSize_4, hc, if_neg (by rw [zI_le (by omega) (by omega)]; omega), i_start hc h10 (by omega) q1, bI_s, g_contains hs n1, bI_s, zl_0, zl_1, zI_add]
    unfold ctP at h2
    rcases bt_01 s (F (26 + 4 * i)) with e1 | e1
    · rw [e1, if_pos rfl]
      rw [if_neg (fun z => by omega), Nat.add_zero] at h2
      exact h2
    · rw [e1, if_neg (by decide), i_end hc h10 (by omega) q2, bI_s, g_contains hs n2, bI_s]
      rcases bt_01 s (F (27 + 4 * i)) with e2 | e2
      · rw [e2, if_pos rfl, i_broken hc h10 (by omega) q4 q5, bI_s]
        by_cases e3 : F (29 + 4 * i) = 0
        · rw [e3, if_pos rfl, i_width hc h10 (by omega) q3, bI_s, zI_add]
          rw [if_pos ⟨e3, by omega, e1, e2⟩] at h2
          exact h2
        · rw [if_neg (by rw [zI_inj (by omega) (by omega)]; exact e3)]
          rw [if_neg (fun z => e3 z.1), Nat.add_zero] at h2
          exact h2
      · rw [e2, if_neg (by decide)]
        rw [if_neg (fun z => by omega), Nat.add_zero] at h2
        exact h2
theorem g_size {s : Nat} (hs : s < 256) (hP : PP w F) (hF : ∀ p, p < F 2 → F (26 + 4 * p) < 8 ∧ F (27 + 4 * p) < 8 ∧ F (28 + 4 * p) ≤ 20) : f_X1_cutSize 7 (zI s) w = some (zI (ctV F 99 s), w) := by
  have h10 := hP.2.1
  exact g_size_loop hs hP hF (F 2) 1000 0 (by omega) (by omega)
theorem pow_le64 {n : Nat} (h : n ≤ 7) (h2 : 2 ≤ n) : 2 ^ (n - 1) ≤ 64 ∧ 2 ^ (n - 1) = 2 * 2 ^ (n - 2) ∧ 0 < 2 ^ (n - 2) := by
  have e : n = 2 ∨ n = 3 ∨ n = 4 ∨ n = 5 ∨ n = 6 ∨ n = 7 := by omega
  rcases e with rfl | rfl | rfl | rfl | rfl | rfl <;> decide
theorem g_small_loop {n : Nat} (hn : n ≤ 7) (hn2 : 2 ≤ n) (hP : PP w F) (hF : ∀ p, p < F 2 → F (26 + 4 * p) < 8 ∧ F (27 + 4 * p) < 8 ∧ F (28 + 4 * p) ≤ 20) :
    ∀ (d fuel s b : Nat), s + 2 * d = 2 ^ (n - 1) + 1 → d < fuel → b ≤ 200 → f_X1_smallest_20 7 (zI n) fuel (zI b) (zI s) w = some (zI (mnF (ctV F 99) d s b), w) := by
  obtain ⟨p1, p2, p3⟩ := pow_le64 hn hn2
  have hsh : ((1 : Int32) <<< ((zI n - 1) &&& 31)) = zI (2 ^ (n - 1)) := by
    rw [zl_1, zl_31, zI_sub (by omega)]
    exact (br_shlB (n - 1) (by omega)).1
  intro d
  induction d with
  | zero =>
    intro fuel s b hs hf hb
    obtain ⟨f, rfl⟩ : ∃ f, fuel = f + 1 := ⟨fuel - 1, by omega⟩
    rw [f_X1_smallest_20, hsh, if_pos (by rw [zI_le (by omega) (by omega)]; omega), mnF]
  | succ d ih =>
    intro fuel s b hs hf hb
    obtain ⟨f, rfl⟩ : ∃ f, fuel = f + 1 := ⟨fuel - 1, by omega⟩
    have hc := ctV_le (F := F) (wo := 99) (s := s) hP.2.1 (fun p hp => (hF p hp).2.2)
    rw [f_X1_smallest_20, hsh, if_neg (by rw [zI_le (by omega) (by omega)]; omega), g_size (by omega) hP hF, bI_s, zI_min (by omega) (by omega), zl_2, zI_add, mnF]
    exact ih f (s + 2) _ (by omega) (by omega) (by split <;> omega)
theorem mnF_200 {n : Nat} (hn : n ≤ 7) (hn2 : 2 ≤ n) (h : ctV F 99 1 ≤ 200) : mnF (ctV F 99) (2 ^ (n - 2)) 1 200 = mcF F 99 n := by
  obtain ⟨p1, p2, p3⟩ := pow_le64 hn hn2
  obtain ⟨k, hk⟩ : ∃ k, 2 ^ (n - 2) = k + 1 := ⟨2 ^ (n - 2) - 1, by omega⟩
  unfold mcF
  rw [hk, mnF, Nat.add_sub_cancel]
  congr 1
  split <;> omega
theorem g_smallest {n : Nat} (hn : n ≤ 7) (hn2 : 2 ≤ n) (hP : PP w F) (hF : ∀ p, p < F 2 → F (26 + 4 * p) < 8 ∧ F (27 + 4 * p) < 8 ∧ F (28 + 4 * p) ≤ 20) : f_X1_smallest 7 (zI n) w = some (zI (mcF F 99 n), w) := by
  obtain ⟨p1, p2, p3⟩ := pow_le64 hn hn2
  have hc := ctV_le (F := F) (wo := 99) (s := 1) hP.2.1 (fun p hp => (hF p hp).2.2)
  have h := g_small_loop hn hn2 hP hF (2 ^ (n - 2)) 1000 1 200 (by omega) (by omega) (by omega)
  rw [mnF_200 hn hn2 hc] at h
  unfold f_X1_smallest
  rw [if_neg (by rw [zl_2, zI_lt (by omega) (by omega)]; omega), if_pos (by rw [zl_7, zI_le (by omega) (by omega)]; omega)]
  exact h
/-! the reference -/
theorem m_pipe {p j : Nat} (hM : Mo w.1 142 0 F) (hp : 26 + 4 * p + j < 66) : f_X11_pipe (zI p) (zI j) w = some (zI (F (26 + 4 * p + j)), w) := by
  unfold f_X11_pipe
  simp (disch := omega) only [zl_0, zl_1, zl_2, zl_3, zl_4, zl_5, zl_6, zl_7, zl_8, zl_9, zl_10, zl_11, zl_12, zl_13, zl_14, zl_15, zl_16, zl_17, zl_18, zl_19, zl_20, zl_21, zl_22, zl_23, zl_24, zl_25, zl_26, zl_27, zl_28, zl_29, zl_30, zl_31, zl_32, zl_33, zl_34, zl_35, zl_36, zl_37, zl_38, zl_39, zl_40, zl_41, zl_42, zl_43, zl_44, zl_45, zl_46, zl_47, zl_48, zl_49, zl_50, zl_51, zl_52, zl_53, zl_54, zl_55, zl_56, zl_57, zl_58, zl_59, zl_60, zl_61, zl_62, zl_63, zl_64, zl_65, zl_66, zl_67, zl_68, zl_69, zl_70, zl_71, zl_72, zl_73, zl_74, zl_75, zl_76, zl_77, zl_78, zl_79, zl_80, zl_81, zl_82, zl_83, zl_84, zl_85, zl_86, zl_87, zl_88, zl_89, zl_90, zl_91, zl_92, zl_93, zl_94, zl_95, zl_96, zl_97, zl_98, zl_99, zl_100, zl_101, zl_102, zl_103, zl_104, zl_105, zl_106, zl_107, zl_108, zl_109, zl_110, zl_111, zl_112, zl_113, zl_114, zl_115, zl_116, zl_117, zl_118, zl_119, zl_120, zl_121, zl_122, zl_123, zl_124, zl_125, zl_126, zl_127, zl_128, zl_180, zl_200, zl_240, zl_462, zl_528, zm1, zI_add, zI_mul, zI_sub, zI_addneg, zI_lt, zI_le, zI_inj, zI_nat, zI_zM, zM_zI, zM_lt, lt_zM, zM_le, le_zM, zM_leM, zM_ltM, inB_z, bI_s, bV_s, bIX_s, bVX_s, bIX_x, bVX_x, if_true, if_false, ↓reduceIte, nar0z, nar1z, Nat.not_lt_zero, Nat.zero_le, Nat.le_zero_eq, not_true_eq_false, not_false_eq_true, false_and, and_false, true_and, and_true, and_self, wset_at, Nat.le_refl, Nat.reduceAdd, Nat.reduceSub, Nat.reduceMul, Nat.reduceDiv, Nat.reduceMod, Nat.reduceEqDiff, Nat.reduceLT, Nat.add_sub_cancel, Nat.reducePow, Nat.reduceLeDiff, hM.at hp, hp]
theorem m_brk_loop (hM : Mo w.1 142 0 F) (h10 : F 2 ≤ 10) : ∀ (d fuel i : Nat), i + d = F 2 → d < fuel → f_X11_broken_4 fuel (zI (sm (fun p => F (29 + 4 * p)) i)) (zI i) w = some (zI (sm (fun p => F (29 + 4 * p)) (F 2)), w) := by
  intro d
  induction d with
  | zero =>
    intro fuel i hi hf
    obtain ⟨f, rfl⟩ : ∃ f, fuel = f + 1 := ⟨fuel - 1, by omega⟩
    have e : i = F 2 := by omega
    rw [f_X11_broken_4, show Int32.toNatClampNeg 2 = 2 from rfl, hM.at (by omega), if_pos (by rw [zI_le (by omega) (by omega)]; omega), e]
  | succ d ih =>
    intro fuel i hi hf
    obtain ⟨f, rfl⟩ : ∃ f, fuel = f + 1 := ⟨fuel - 1, by omega⟩
    rw [f_X11_broken_4, show Int32.toNatClampNeg 2 = 2 from rfl, hM.at (by omega), if_neg (by rw [zI_le (by omega) (by omega)]; omega), zl_3, m_pipe hM (by omega), bI_s, zI_add, zl_1, zI_add]
    have h := ih f (i + 1) (by omega) (by omega)
    rw [sm] at h
    rw [show 26 + 4 * i + 3 = 29 + 4 * i by omega]
    exact h
theorem m_brk (hM : Mo w.1 142 0 F) (h10 : F 2 ≤ 10) : f_X11_broken w = some (zI (sm (fun p => F (29 + 4 * p)) (F 2)), w) :=
  m_brk_loop hM h10 (F 2) 1000 0 (by omega) (by omega)
theorem m_cut_row {wo n s : Nat} {y y3 : Int32} (hs : s < 256) (hM : Mo w.1 142 0 F) (h10 : F 2 ≤ 10) (hy : ∀ p, p < 10 → (zI p = y) = (p = wo)) (hF : ∀ p, p < F 2 → F (26 + 4 * p) < 8 ∧ F (27 + 4 * p) < 8 ∧ F (28 + 4 * p) ≤ 20 ∧ F (29 + 4 * p) ≤ 1) (K : Int32 → Int32 → XW → Option (Int32 × XW)) :
    ∀ (d fuel i : Nat), i + d = F 2 → d < fuel → f_X11_cut_28 K y (zI n) y3 (zI s) fuel (zI (sm (ctP F wo s) i)) (zI i) w = (if y3 = zM then K (zI (ctV F wo s)) (zI (s + 2)) w else if y3 ≤ zI (ctV F wo s) then K y3 (zI (s + 2)) w else K (zI (ctV F wo s)) (zI (s + 2)) w) := by
  intro d
  induction d with
  | zero =>
    intro fuel i hi hf
    obtain ⟨f, rfl⟩ : ∃ f, fuel = f + 1 := ⟨fuel - 1, by omega⟩
    have e : i = F 2 := by omega
    rw [f_X11_cut_28, show Int32.toNatClampNeg 2 = 2 from rfl, hM.at (by omega), if_pos (by rw [zI_le (by omega) (by omega)]; omega), e, zl_2, zI_add]
    rfl
  | succ d ih =>
    intro fuel i hi hf
    obtain ⟨f, rfl⟩ : ∃ f, fuel = f + 1 := ⟨fuel - 1, by omega⟩
    obtain ⟨n1, n2, n3, n4⟩ := hF i (by omega)
    have h2 := ih f (i + 1) (by omega) (by omega)
    rw [sm] at h2
    rw [f_X11_cut_28, show Int32.toNatClampNeg 2 = 2 from rfl, hM.at (by omega), if_neg (by rw [zI_le (by omega) (by omega)]; omega), zl_3, m_pipe hM (by omega), bI_s, zl_0, zl_1, zl_2, zl_31, show 26 + 4 * i + 3 = 29 + 4 * i by omega]
    unfold ctP at h2
    have k0 := m_pipe (p := i) (j := 0) hM (by omega)
    have k1 := m_pipe (p := i) (j := 1) hM (by omega)
    have k2 := m_pipe (p := i) (j := 2) hM (by omega)
    rw [Nat.add_zero] at k0
    rw [show 26 + 4 * i + 1 = 27 + 4 * i by omega] at k1
    rw [show 26 + 4 * i + 2 = 28 + 4 * i by omega] at k2
    simp only [k0, k1, k2, bI_s, br_shrB s hs _ n1, br_shrB s hs _ n2, zI_add, Nat.add_zero]
    by_cases e3 : F (29 + 4 * i) = 0
    · rw [e3, if_pos rfl]
      by_cases e4 : i = wo
      · rw [if_pos (by rw [hy i (by omega)]; exact e4)]
        rw [if_neg (fun z => z.2.1 e4), Nat.add_zero] at h2
        exact h2
      · rw [if_neg (by rw [hy i (by omega)]; exact e4)]
        rcases bt_01 s (F (26 + 4 * i)) with e1 | e1
        · rw [e1, if_neg (by decide)]
          rw [if_neg (fun z => by omega), Nat.add_zero] at h2
          exact h2
        · rw [e1, if_pos rfl]
          rcases bt_01 s (F (27 + 4 * i)) with e2 | e2
          · rw [e2, if_pos rfl]
            rw [if_pos ⟨e3, e4, e1, e2⟩] at h2
            exact h2
          · rw [e2, if_neg (by decide)]
            rw [if_neg (fun z => by omega), Nat.add_zero] at h2
            exact h2
    · rw [if_neg (by rw [zI_inj (by omega) (by omega)]; exact e3)]
      rw [if_neg (fun z => e3 z.1), Nat.add_zero] at h2
      exact h2
theorem m_cut_loop {wo n : Nat} {y : Int32} (hn : n ≤ 7) (hn2 : 2 ≤ n) (hM : Mo w.1 142 0 F) (h10 : F 2 ≤ 10) (hy : ∀ p, p < 10 → (zI p = y) = (p = wo)) (hF : ∀ p, p < F 2 → F (26 + 4 * p) < 8 ∧ F (27 + 4 * p) < 8 ∧ F (28 + 4 * p) ≤ 20 ∧ F (29 + 4 * p) ≤ 1) :
    ∀ (d fuel s b : Nat), s + 2 * d = 2 ^ (n - 1) + 1 → d < fuel → b ≤ 200 → f_X11_cut_14 y (zI (n - 1)) fuel (zI b) (zI s) w = some (zI (mnF (ctV F wo) d s b), w) := by
  obtain ⟨p1, p2, p3⟩ := pow_le64 hn hn2
  have hsh : ((1 : Int32) <<< (zI (n - 1) &&& 31)) = zI (2 ^ (n - 1)) := by
    rw [zl_1, zl_31]
    exact (br_shlB (n - 1) (by omega)).1
  intro d
  induction d with
  | zero =>
    intro fuel s b hs hf hb
    obtain ⟨f, rfl⟩ : ∃ f, fuel = f + 1 := ⟨fuel - 1, by omega⟩
    rw [f_X11_cut_14, hsh, if_pos (by rw [zI_le (by omega) (by omega)]; omega), mnF]
  | succ d ih =>
    intro fuel s b hs hf hb
    obtain ⟨f, rfl⟩ : ∃ f, fuel = f + 1 := ⟨fuel - 1, by omega⟩
    have hc := ctV_le (F := F) (wo := wo) (s := s) h10 (fun p hp => (hF p hp).2.2.1)
    have h1 := m_cut_row (n := n - 1) (y3 := zI b) (by omega) hM h10 hy hF (fun a0 a1 w9 => f_X11_cut_14 y (zI (n - 1)) f a0 a1 w9) (F 2) 1000 0 (by omega) (by omega) (s := s)
    rw [f_X11_cut_14, hsh, if_neg (by rw [zI_le (by omega) (by omega)]; omega), mnF]
    refine h1.trans ?_
    rw [if_neg (by rw [zI_zM (by omega)]; exact id)]
    by_cases e : ctV F wo s < b
    · rw [if_neg (by rw [zI_le (by omega) (by omega)]; omega), if_pos e]
      exact ih f (s + 2) _ (by omega) (by omega) (by omega)
    · rw [if_pos (by rw [zI_le (by omega) (by omega)]; omega), if_neg e]
      exact ih f (s + 2) _ (by omega) (by omega) (by omega)
theorem m_cut {wo : Nat} {y : Int32} (hn : F 0 ≤ 7) (hn2 : 2 ≤ F 0) (hM : Mo w.1 142 0 F) (h10 : F 2 ≤ 10) (hy : ∀ p, p < 10 → (zI p = y) = (p = wo)) (hF : ∀ p, p < F 2 → F (26 + 4 * p) < 8 ∧ F (27 + 4 * p) < 8 ∧ F (28 + 4 * p) ≤ 20 ∧ F (29 + 4 * p) ≤ 1) :
    f_X11_cut y w = some (zI (mcF F wo (F 0)), w) := by
  obtain ⟨p1, p2, p3⟩ := pow_le64 hn hn2
  obtain ⟨k, hk⟩ : ∃ k, 2 ^ (F 0 - 2) = k + 1 := ⟨2 ^ (F 0 - 2) - 1, by omega⟩
  have hc := ctV_le (F := F) (wo := wo) (s := 1) h10 (fun p hp => (hF p hp).2.2.1)
  have hsh : ((1 : Int32) <<< (zI (F 0 - 1) &&& 31)) = zI (2 ^ (F 0 - 1)) := by
    rw [zl_1, zl_31]
    exact (br_shlB (F 0 - 1) (by omega)).1
  have h1 := m_cut_row (n := F 0 - 1) (y3 := zM) (s := 1) (by omega) hM h10 hy hF (fun a0 a1 w9 => f_X11_cut_14 y (zI (F 0 - 1)) 999 a0 a1 w9) (F 2) 1000 0 (by omega) (by omega)
  rw [if_pos rfl] at h1
  have h2 := m_cut_loop hn hn2 hM h10 hy hF k 999 3 (ctV F wo 1) (by omega) (by omega) hc
  unfold f_X11_cut
  rw [show Int32.toNatClampNeg 0 = 0 from rfl, hM.at (by omega), zl_1, zI_sub (by omega), f_X11_cut_14]
  rw [zl_1] at hsh
  rw [zl_1, hsh, if_neg (by rw [zI_le (by omega) (by omega)]; omega)]
  refine h1.trans (h2.trans ?_)
  unfold mcF
  rw [hk, Nat.add_sub_cancel]
end
