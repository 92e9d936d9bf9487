/-! the twelve changes: what the class judges and applies, what the reference does, one and the same change of the row of numbers -/
abbrev KC : Nat → Prop := fun a => (2 ≤ a ∧ a ≤ 11) ∨ (125 ≤ a ∧ a ≤ 127)
abbrev KM : Nat → Prop := fun a => a = 142 ∨ a = 149
def ovF (v u : Nat) : Nat := if 99 - v < u then u - (99 - v) else 0
def tkF (v u : Nat) : Nat := if 99 - v < u then 99 - v else u
def comF (F : Nat → Nat) (s u : Nat) : Nat → Nat := uF (uF F 4 (F 4 + ovF (F (5 + s)) u)) (5 + s) (F (5 + s) + tkF (F (5 + s)) u)
def stepF (F : Nat → Nat) (l : Nat) : Nat → Nat := if F (5 + F (19 + l)) ≤ 20 then F else if l = 0 then uF (uF F (5 + F (19 + l)) 20) 4 (F 4 + (F (5 + F (19 + l)) - 20)) else comF (uF F (5 + F (19 + l)) 20) (F (19 + (l - 1))) (F (5 + F (19 + l)) - 20)
def seF : Nat → (Nat → Nat) → (Nat → Nat)
  | 0, F => F
  | l + 1, F => seF l (stepF F l)
def minF (a b : Nat) : Nat := if b < a then b else a
def drF (F : Nat → Nat) (U L : Nat) : Nat → Nat := comF (uF (uF F 5 (F 5 - U)) 4 (F 4 + L)) (F 0 - 1) (U - L)
/-- what an operation did: its answer and the state behind it -/
def KO (kd a : Int32) (F : Nat → Nat) (ans : Nat) (G : Nat → Nat) : Prop :=
  (kd ≠ 10 → kd ≠ 11 → G 4 = F 4) ∧ (kd = 1 → ∃ i, a = zI i ∧ i < F 0 ∧ ans = G (5 + i) ∧ F (5 + i) < G (5 + i)) ∧ (kd = 4 → ∃ l, a = zI l ∧ l ≤ F 1 ∧ F 1 < F 0 ∧ ans = F 1 + 1 ∧ G = putF F l ∧ crA (ixL (plF F)) (F 1) l = none) ∧
  (kd = 5 → 1 ≤ F 1 ∧ ans = ixL (plF F) (F 1 - 1) ∧ G = takF F ans) ∧ (kd = 8 → ∃ p, a = zI p ∧ p < F 2 ∧ F (29 + 4 * p) = 0 ∧ G = uF F (29 + 4 * p) 1) ∧ (kd = 9 → ∃ p, a = zI p ∧ p < F 2 ∧ F (29 + 4 * p) = 1 ∧ G = uF F (29 + 4 * p) 0) ∧
  (kd = 10 → 2 ≤ F 0 ∧ ans = minF (F 5) (mcF F 99 (F 0)) ∧ ∃ L, L ≤ ans ∧ G = drF F ans L) ∧ (kd = 11 → 1 ≤ F 1 ∧ G = seF (F 1) F ∧ ans = G 4 - F 4)
/-- why an operation was denied -/
def KD (kd a : Int32) (F : Nat → Nat) (n d : Nat) : Prop := kd ≠ 7 ∧ (kd = 4 → n = (if F 1 = F 0 then 2 else 4) ∧ ∀ l, l ≤ F 1 → a = zI l → F 1 = F 0 ∨ crA (ixL (plF F)) (F 1) l ≠ none) ∧ (kd = 10 → F 0 < 2 ∧ n = 7 ∧ d = F 0) ∧ (kd = 11 → F 1 = 0 ∧ n = 3)
theorem KO.pl {kd a : Int32} {F G : Nat → Nat} {ans : Nat} (h : kd ≠ 1 ∧ kd ≠ 4 ∧ kd ≠ 5 ∧ kd ≠ 8 ∧ kd ≠ 9 ∧ kd ≠ 10 ∧ kd ≠ 11) (h4 : G 4 = F 4) : KO kd a F ans G :=
  ⟨fun _ _ => h4, fun e => absurd e h.1, fun e => absurd e h.2.1, fun e => absurd e h.2.2.1, fun e => absurd e h.2.2.2.1, fun e => absurd e h.2.2.2.2.1, fun e => absurd e h.2.2.2.2.2.1, fun e => absurd e h.2.2.2.2.2.2⟩
theorem KD.pl {kd a : Int32} {F : Nat → Nat} {n d : Nat} (h : kd ≠ 4 ∧ kd ≠ 10 ∧ kd ≠ 11 ∧ kd ≠ 7) : KD kd a F n d := ⟨h.2.2.2, fun e => absurd e h.1, fun e => absurd e h.2.1, fun e => absurd e h.2.2.1⟩
/-- which exceptions a change may throw -/
def KE (kd a : Int32) (F : Nat → Nat) (e : Nat) : Prop := (¬ (kd = 0 ∨ kd = 5 ∨ kd = 10 ∨ kd = 11) ∧ ((kd = 4 ∨ kd = 7 ∨ kd = 8 ∨ kd = 9) → e = 1)) ∧ (kd = 4 → ∀ l, l ≤ F 1 → a = zI l → False)
theorem KE.pl {kd a : Int32} {F : Nat → Nat} {e : Nat} (h : (¬ (kd = 0 ∨ kd = 5 ∨ kd = 10 ∨ kd = 11) ∧ ((kd = 4 ∨ kd = 7 ∨ kd = 8 ∨ kd = 9) → e = 1)) ∧ kd ≠ 4) : KE kd a F e := ⟨h.1, fun e => absurd e h.2⟩
def OpE (kd a b c : Int32) (mop : XW → Option (Int32 × XW)) (F : Nat → Nat) (e : Nat) : Prop := (e = 1 ∨ e = 2) ∧ KE kd a F e ∧ (∀ w : XW, Cls w.1 1 F → f_X8_judge 1 kd a b c w = some (-(zI e), w)) ∧ ∀ w : XW, Mo w.1 142 0 F → mop w = some (zI e, w)
def OpD (kd a b c : Int32) (mop : XW → Option (Int32 × XW)) (F : Nat → Nat) (n d : Nat) : Prop := 1 ≤ n ∧ n ≤ 7 ∧ d < 100 ∧ KD kd a F n d ∧ (∀ w : XW, Cls w.1 1 F → f_X8_judge 1 kd a b c w = some (zI (n * 100 + d), w)) ∧ ∀ w : XW, Mo w.1 142 0 F → ∃ w', mop w = some (-(zI n), wset (wset (wset w' 141 15 (zI n)) 141 16 (zI d)) 141 17 (zI 0)) ∧ Fr (fun a => a = 149) w w'
def OpO (kd a b c : Int32) (mop : XW → Option (Int32 × XW)) (F : Nat → Nat) (ans : Nat) (G : Nat → Nat) : Prop := Inv G ∧ G 3 ≤ F 3 + 99 ∧ ans < 1000 ∧ KO kd a F ans G ∧ (∀ w : XW, Cls w.1 1 F → f_X8_judge 1 kd a b c w = some (zI 0, w)) ∧ (∀ w : XW, Cls w.1 1 F → ∃ w', f_X8_apply 1 kd a b c w = some (zI ans, w') ∧ Cls w'.1 1 G ∧ Fr KC w w') ∧ ∀ w : XW, Mo w.1 142 0 F → ∃ w', mop w = some (zI 0, wset w' 141 14 (zI ans)) ∧ Mo w'.1 142 0 G ∧ Fr KM w w'
def OpR (kd a b c : Int32) (mop : XW → Option (Int32 × XW)) : Prop := ∀ F, Inv F → (∃ e, OpE kd a b c mop F e) ∨ (∃ n d, OpD kd a b c mop F n d) ∨ ∃ ans G, OpO kd a b c mop F ans G
theorem jd_0 (a b c : Int32) (w : XW) : f_X8_judge 1 0 a b c w = (if 7 ≤ (w.1 2 0) then (bI (f_X8_denied 1 7 w) (fun r2 w2 => (some (r2, w2)))) else (some (0, w))) := by
  unfold f_X8_judge
  rw [if_pos rfl]
theorem ap_0 (a b c : Int32) (w : XW) : f_X8_apply 1 0 a b c w = f_X9_append 2 w := by
  unfold f_X8_apply
  rw [if_pos rfl, bI_id]
theorem jd_1 (a b c : Int32) (w : XW) : f_X8_judge 1 1 a b c w = f_X8_judgePour 1 a b w := by
  unfold f_X8_judge
  rw [if_neg (by decide), if_pos rfl, bI_id]
theorem ap_1 (a b c : Int32) (w : XW) : f_X8_apply 1 1 a b c w = f_X9_receivePoured 2 a b w := by
  unfold f_X8_apply
  rw [if_neg (by decide), if_pos rfl, bI_id]
theorem jd_2 (a b c : Int32) (w : XW) : f_X8_judge 1 2 a b c w = f_X8_judgeTerm 1 a b 0 w := by
  unfold f_X8_judge
  rw [if_neg (by decide), if_neg (by decide), if_pos rfl, bI_id]
theorem ap_2 (a b c : Int32) (w : XW) : f_X8_apply 1 2 a b c w = f_X9_giveTerm 2 a b w := by
  unfold f_X8_apply
  rw [if_neg (by decide), if_neg (by decide), if_pos rfl, bI_id]
theorem jd_3 (a b c : Int32) (w : XW) : f_X8_judge 1 3 a b c w = f_X8_judgeTerm 1 a b 1 w := by
  unfold f_X8_judge
  rw [if_neg (by decide), if_neg (by decide), if_neg (by decide), if_pos rfl, bI_id]
theorem ap_3 (a b c : Int32) (w : XW) : f_X8_apply 1 3 a b c w = f_X9_takeTerm 2 a b w := by
  unfold f_X8_apply
  rw [if_neg (by decide), if_neg (by decide), if_neg (by decide), if_pos rfl, bI_id]
theorem jd_4 (a b c : Int32) (w : XW) : f_X8_judge 1 4 a b c w = f_X8_judgeFold 1 a w := by
  unfold f_X8_judge
  rw [if_neg (by decide), if_neg (by decide), if_neg (by decide), if_neg (by decide), if_pos rfl, bI_id]
theorem ap_4 (a b c : Int32) (w : XW) : f_X8_apply 1 4 a b c w = f_X4_insert 5 a w := by
  unfold f_X8_apply
  rw [if_neg (by decide), if_neg (by decide), if_neg (by decide), if_neg (by decide), if_pos rfl, bI_id]
theorem jd_5 (a b c : Int32) (w : XW) : f_X8_judge 1 5 a b c w = (if (w.1 5 0) ≤ 0 then (bI (f_X8_denied 3 (w.1 2 0) w) (fun r12 w12 => (some (r12, w12)))) else (some (0, w))) := by
  unfold f_X8_judge
  rw [if_neg (by decide), if_neg (by decide), if_neg (by decide), if_neg (by decide), if_neg (by decide), if_pos rfl]
theorem ap_5 (a b c : Int32) (w : XW) : f_X8_apply 1 5 a b c w = f_X4_removeLast 5 w := by
  unfold f_X8_apply
  rw [if_neg (by decide), if_neg (by decide), if_neg (by decide), if_neg (by decide), if_neg (by decide), if_pos rfl, bI_id]
theorem jd_6 (a b c : Int32) (w : XW) : f_X8_judge 1 6 a b c w = f_X8_judgePipe 1 a b c w := by
  unfold f_X8_judge
  rw [if_neg (by decide), if_neg (by decide), if_neg (by decide), if_neg (by decide), if_neg (by decide), if_neg (by decide), if_pos rfl, bI_id]
theorem ap_6 (a b c : Int32) (w : XW) : f_X8_apply 1 6 a b c w = f_X5_append 7 a b c w := by
  unfold f_X8_apply
  rw [if_neg (by decide), if_neg (by decide), if_neg (by decide), if_neg (by decide), if_neg (by decide), if_neg (by decide), if_pos rfl, bI_id]
theorem jd_7 (a b c : Int32) (w : XW) : f_X8_judge 1 7 a b c w = (bI (f_X5_has 7 a w) (fun r16 w16 => (if r16 = 0 then (some ((-1), w16)) else (some (0, w16))))) := by
  unfold f_X8_judge
  rw [if_neg (by decide), if_neg (by decide), if_neg (by decide), if_neg (by decide), if_neg (by decide), if_neg (by decide), if_neg (by decide), if_pos rfl]
theorem ap_7 (a b c : Int32) (w : XW) : f_X8_apply 1 7 a b c w = f_X5_remove 7 a w := by
  unfold f_X8_apply
  rw [if_neg (by decide), if_neg (by decide), if_neg (by decide), if_neg (by decide), if_neg (by decide), if_neg (by decide), if_neg (by decide), if_pos rfl, bI_id]
theorem jd_8 (a b c : Int32) (w : XW) : f_X8_judge 1 8 a b c w = f_X8_judgeBroken 1 a 0 w := by
  unfold f_X8_judge
  rw [if_neg (by decide), if_neg (by decide), if_neg (by decide), if_neg (by decide), if_neg (by decide), if_neg (by decide), if_neg (by decide), if_neg (by decide), if_pos rfl, bI_id]
theorem ap_8 (a b c : Int32) (w : XW) : f_X8_apply 1 8 a b c w = f_X5_setBroken 7 a 1 w := by
  unfold f_X8_apply
  rw [if_neg (by decide), if_neg (by decide), if_neg (by decide), if_neg (by decide), if_neg (by decide), if_neg (by decide), if_neg (by decide), if_neg (by decide), if_pos rfl, bI_id]
theorem jd_9 (a b c : Int32) (w : XW) : f_X8_judge 1 9 a b c w = f_X8_judgeBroken 1 a 1 w := by
  unfold f_X8_judge
  rw [if_neg (by decide), if_neg (by decide), if_neg (by decide), if_neg (by decide), if_neg (by decide), if_neg (by decide), if_neg (by decide), if_neg (by decide), if_neg (by decide), if_pos rfl, bI_id]
theorem ap_9 (a b c : Int32) (w : XW) : f_X8_apply 1 9 a b c w = f_X5_setBroken 7 a 0 w := by
  unfold f_X8_apply
  rw [if_neg (by decide), if_neg (by decide), if_neg (by decide), if_neg (by decide), if_neg (by decide), if_neg (by decide), if_neg (by decide), if_neg (by decide), if_neg (by decide), if_pos rfl, bI_id]
theorem jd_10 (a b c : Int32) (w : XW) : f_X8_judge 1 10 a b c w = f_X8_judgeEnds 1 w := by
  unfold f_X8_judge
  rw [if_neg (by decide), if_neg (by decide), if_neg (by decide), if_neg (by decide), if_neg (by decide), if_neg (by decide), if_neg (by decide), if_neg (by decide), if_neg (by decide), if_neg (by decide), if_pos rfl, bI_id]
theorem ap_10 (a b c : Int32) (w : XW) : f_X8_apply 1 10 a b c w = (bI (f_X1_greatest 7 (w.1 2 0) (-1) w) (fun r22 w22 => (bI (f_X8_moveAlongPipes 1 r22 w22) (fun r23 w23 => (some (r23, w23)))))) := by
  unfold f_X8_apply
  rw [if_neg (by decide), if_neg (by decide), if_neg (by decide), if_neg (by decide), if_neg (by decide), if_neg (by decide), if_neg (by decide), if_neg (by decide), if_neg (by decide), if_neg (by decide), if_pos rfl]
theorem jd_11 (a b c : Int32) (w : XW) : f_X8_judge 1 11 a b c w = (if (w.1 5 0) ≤ 0 then (bI (f_X8_denied 3 (w.1 2 0) w) (fun r12 w12 => (some (r12, w12)))) else (some (0, w))) := by
  unfold f_X8_judge
  rw [if_neg (by decide), if_neg (by decide), if_neg (by decide), if_neg (by decide), if_neg (by decide), if_neg (by decide), if_neg (by decide), if_neg (by decide), if_neg (by decide), if_neg (by decide), if_neg (by decide), if_pos rfl]
theorem ap_11 (a b c : Int32) (w : XW) : f_X8_apply 1 11 a b c w = f_X8_moveDownPile 1 w := by
  unfold f_X8_apply
  rw [if_neg (by decide), if_neg (by decide), if_neg (by decide), if_neg (by decide), if_neg (by decide), if_neg (by decide), if_neg (by decide), if_neg (by decide), if_neg (by decide), if_neg (by decide), if_neg (by decide), if_pos rfl, bI_id]
theorem den_c (a b : Nat) (w : XW) : f_X8_denied (zI a) (zI b) w = some (zI (a * 100 + b), w) := by
  unfold f_X8_denied
  rw [zl_100, zI_mul, zI_add]
theorem den_m (a b : Nat) (w : XW) : f_X11_denied (zI a) (zI b) w = some (-(zI a), wset (wset (wset w 141 15 (zI a)) 141 16 (zI b)) 141 17 (zI 0)) := rfl
theorem don_m (a : Nat) (w : XW) : f_X11_done (zI a) w = some (zI 0, wset w 141 14 (zI a)) := rfl
/-! add -/
theorem op_add (a b c : Int32) : OpR 0 a b c f_X11_adds := by
  intro F hI
  obtain ⟨a1, a2, a3, a4, a5, a6, a7, a8⟩ := hI
  by_cases e : F 0 = 7
  · refine Or.inr (Or.inl ⟨1, 7, by omega, by omega, by omega, KD.pl (by decide), fun w hC => ?_, fun w hM => ⟨w, ?_, Fr.rf⟩⟩)
    · rw [jd_0, show w.1 2 0 = zI (F 0) from hC.1, if_pos (by rw [zl_7, zI_le (by omega) (by omega)]; omega), zl_1, zl_7, den_c, bI_s]
    · unfold f_X11_adds
      rw [show Int32.toNatClampNeg 0 = 0 from rfl, hM.at (by omega), if_pos (by rw [zl_7, e]), zl_1, zl_7, den_m, bI_s]
  · have hG : Inv (uF F 0 (F 0 + 1)) := by
      refine ⟨?_, ?_, ?_, ?_, fun i hi => ?_, ?_, fun j hj hj2 => ?_, fun p hp => ?_⟩
      · rw [uF_hit]; omega
      · rw [uF_hit, uF_ne _ (by omega)]; omega
      · rw [uF_ne _ (by omega)]; omega
      · rw [uF_ne _ (by omega), uF_ne _ (by omega), sm_uF0 (by omega)]; exact a4
      · rw [uF_ne _ (by omega), uF_ne _ (by omega), uF_hit]
        exact ⟨(a5 i hi).1, (a5 i hi).2.1, fun z => (a5 i hi).2.2 (by omega)⟩
      · rw [uF_ne _ (by omega), plF_uF (by omega) (by omega) (by omega)]; exact a6
      · rw [uF_ne _ (by omega)] at hj2 ⊢; exact a7 j hj hj2
      · rw [uF_ne _ (by omega)] at hp
        simp (disch := omega) only [uF_ne, uF_hit]
        have := a8 p hp
        exact ⟨by omega, by omega, this.2.2⟩
    refine Or.inr (Or.inr ⟨F 0, uF F 0 (F 0 + 1), hG, by rw [uF_ne _ (by omega)]; omega, by omega, KO.pl (by decide) (by rw [uF_ne _ (by omega)]), fun w hC => ?_, fun w hC => ?_, fun w hM => ?_⟩)
    · rw [jd_0, show w.1 2 0 = zI (F 0) from hC.1, if_neg (by rw [zl_7, zI_le (by omega) (by omega)]; omega), zl_0]
    · have hc : w.1 2 0 = zI (F 0) := hC.1
      refine ⟨wset (wset (wset w 3 (F 0) (zI 0)) 4 (F 0) (zI 0)) 2 0 (zI (F 0 + 1)), ?_, ?_, ((Fr.rf.set (Or.inl ⟨by omega, by omega⟩) _ _).set (Or.inl ⟨by omega, by omega⟩) _ _).set (Or.inl ⟨by omega, by omega⟩) _ _⟩
      · rw [ap_0]
        unfold f_X9_append
        simp (disch := omega) only [hc, show F 0 < 7 by omega, zl_0, zl_1, zl_2, zl_3, zl_4, zl_5, zl_6, zl_7, zl_8, zl_9, zl_10, zl_11, zl_12, zl_13, zl_14, zl_15, zl_16, zl_17, zl_18, zl_19, zl_20, zl_21, zl_22, zl_23, zl_24, zl_25, zl_26, zl_27, zl_28, zl_29, zl_30, zl_31, zl_32, zl_33, zl_34, zl_35, zl_36, zl_37, zl_38, zl_39, zl_40, zl_41, zl_42, zl_43, zl_44, zl_45, zl_46, zl_47, zl_48, zl_49, zl_50, zl_51, zl_52, zl_53, zl_54, zl_55, zl_56, zl_57, zl_58, zl_59, zl_60, zl_61, zl_62, zl_63, zl_64, zl_65, zl_66, zl_67, zl_68, zl_69, zl_70, zl_71, zl_72, zl_73, zl_74, zl_75, zl_76, zl_77, zl_78, zl_79, zl_80, zl_81, zl_82, zl_83, zl_84, zl_85, zl_86, zl_87, zl_88, zl_89, zl_90, zl_91, zl_92, zl_93, zl_94, zl_95, zl_96, zl_97, zl_98, zl_99, zl_100, zl_101, zl_102, zl_103, zl_104, zl_105, zl_106, zl_107, zl_108, zl_109, zl_110, zl_111, zl_112, zl_113, zl_114, zl_115, zl_116, zl_117, zl_118, zl_119, zl_120, zl_121, zl_122, zl_123, zl_124, zl_125, zl_126, zl_127, zl_128, zl_180, zl_200, zl_240, zl_462, zl_528, zm1, zI_add, zI_mul, zI_sub, zI_addneg, zI_lt, zI_le, zI_inj, zI_nat, zI_zM, zM_zI, zM_lt, lt_zM, zM_le, le_zM, zM_leM, zM_ltM, inB_z, bI_s, bV_s, bIX_s, bVX_s, bIX_x, bVX_x, if_true, if_false, ↓reduceIte, nar0z, nar1z, Nat.not_lt_zero, Nat.zero_le, Nat.le_zero_eq, not_true_eq_false, not_false_eq_true, false_and, and_false, true_and, and_true, and_self, wset_at, Nat.le_refl, Nat.reduceAdd, Nat.reduceSub, Nat.reduceMul, Nat.reduceDiv, Nat.reduceMod, Nat.reduceEqDiff, Nat.reduceLT, Nat.add_sub_cancel, Nat.reducePow, Nat.reduceLeDiff]
      · have hz := (a5 (F 0) (by omega)).2.2 (Nat.le_refl _)
        obtain ⟨q1, q2, q3, q4, q5, q6, q7, q8, q9, q10⟩ := hC
        refine ⟨?_, ?_, ?_, fun i hi => ?_, fun i hi => ?_, ?_, fun s hs => ?_, ?_, fun p hp => ?_, fun p hp => ?_⟩
        · rw [uF_hit]; exact wset_hit _ _ _ _
        · rw [uF_ne _ (by omega)]; exact q2
        · rw [uF_ne _ (by omega)]; exact q3
        · rw [uF_ne _ (by omega)]
          simp only [wset_at, Nat.reduceAdd, Nat.reduceEqDiff, false_and, true_and, if_false]
          by_cases z : i = F 0
          · rw [if_pos z, z, hz.1]
          · rw [if_neg z]; exact q4 i hi
        · rw [uF_ne _ (by omega)]
          simp only [wset_at, Nat.reduceAdd, Nat.reduceEqDiff, false_and, true_and, if_false]
          by_cases z : i = F 0
          · rw [if_pos z, z, hz.2]
          · rw [if_neg z]; exact q5 i hi
        · rw [uF_ne _ (by omega)]; exact q6
        · rw [plF_uF (by omega) (by omega) (by omega)]; rw [uF_ne _ (by omega)] at hs; exact q7 s hs
        · rw [uF_ne _ (by omega)]; exact q8
        · rw [uF_ne _ (by omega)] at hp
          rw [uF_ne _ (by omega), uF_ne _ (by omega), uF_ne _ (by omega), uF_ne _ (by omega)]
          exact q9 p hp
        · exact q10 p hp
    · refine ⟨wset w 142 0 (zI (F 0 + 1)), ?_, hM.set 0 _, (fr1 _ _).wk (fun a z => Or.inl z)⟩
      unfold f_X11_adds
      rw [show Int32.toNatClampNeg 0 = 0 from rfl, hM.at (by omega), if_neg (by rw [zl_7, zI_inj (by omega) (by omega)]; exact e), zl_1, zI_add, don_m, bI_s]
/-! pour -/
theorem op_pour (a b c : Int32) : OpR 1 a b c (f_X11_pours a b) := by
  intro F hI
  have hI0 := hI
  obtain ⟨a1, a2, a3, a4, a5, a6, a7, a8⟩ := hI
  have noSec : (∀ w : XW, Cls w.1 1 F → f_X9_has 2 a w = some (zI 0, w)) → (∀ w : XW, Mo w.1 142 0 F → f_X11_isSection a w = some (zI 0, w)) → ∃ e, OpE 1 a b c (f_X11_pours a b) F e := fun h1 h2 => by
    refine ⟨1, Or.inl rfl, KE.pl (by decide), fun w hC => ?_, fun w hM => ?_⟩
    · rw [jd_1]
      unfold f_X8_judgePour
      rw [show (1 : Nat) + 1 = 2 from rfl, h1 w hC, bI_s, if_pos (by rfl), zl_1]
    · unfold f_X11_pours
      rw [h2 w hM, bI_s, if_pos (by rfl), zl_1]
  rcases zI_cases a with ha | ⟨i, hi, rfl⟩
  · exact Or.inl (noSec (fun w _ => s_hasN ha) (fun w _ => m_isSecN ha))
  · by_cases hs : F 0 ≤ i
    · exact Or.inl (noSec (fun w hC => s_hasF hC.1 a1 hi hs) (fun w hM => m_isSecF hM a1 hi hs))
    · have badU : (b < 1 ∨ ¬ b ≤ 99) → (∀ w : XW, f_X11_in b 1 99 w = some (zI 0, w)) → ∃ e, OpE 1 (zI i) b c (f_X11_pours (zI i) b) F e := fun h1 h2 => by
        refine ⟨2, Or.inr rfl, KE.pl (by decide), fun w hC => ?_, fun w hM => ?_⟩
        · rw [jd_1]
          unfold f_X8_judgePour
          rw [show (1 : Nat) + 1 = 2 from rfl, s_hasT hC.1 a1 (by omega), bI_s, if_neg (by decide)]
          by_cases z : b < 1
          · rw [if_pos z, zl_2]
          · rw [if_neg z, if_neg (by rcases h1 with h1 | h1; exact absurd h1 z; exact h1), zl_2]
        · unfold f_X11_pours
          rw [m_isSecT hM a1 (by omega), bI_s, if_neg (by decide), h2 w, bI_s, if_pos (by rfl), zl_2]
      rcases zI_cases b with hb | ⟨u, hu, rfl⟩
      · exact Or.inl (badU (Or.inl (by rw [zl_1]; exact (zI_neg hb (by omega)).2.2.2.1)) (fun w => by rw [zl_1]; exact m_inN hb (by omega)))
      · by_cases hu2 : 1 ≤ u ∧ u ≤ 99
        · have hw := (a5 i (by omega)).1
          by_cases hf : F (5 + i) + u ≤ 99
          · have hG : Inv (uF (uF F (5 + i) (F (5 + i) + u)) 3 (F 3 + u)) := by
              refine hI0.wat (fun j _ h3 h4 h5 => ?_) ?_ (fun k hk => ?_)
              · rw [uF_ne _ h3, uF_ne _ (by omega)]
              · rw [uF_hit, uF_ne _ (by omega), uF_ne _ (by omega), sm_uF0 (by omega)]
                have := sm_uF (F := F) (v := F (5 + i) + u) (show i < 7 by omega)
                omega
              · rw [uF_ne _ (by omega)]
                by_cases z : k = i
                · rw [z, uF_hit]; exact ⟨hf, fun q => by omega⟩
                · rw [uF_ne _ (by omega)]; exact ⟨(a5 k hk).1, fun q => ((a5 k hk).2.2 q).1⟩
            refine Or.inr (Or.inr ⟨F (5 + i) + u, _, hG, by rw [uF_hit]; omega, by omega, ⟨fun _ _ => by rw [uF_ne _ (by omega), uF_ne _ (by omega)], fun _ => ⟨i, rfl, by omega, by rw [uF_ne _ (by omega), uF_hit], by rw [uF_ne _ (by omega), uF_hit]; omega⟩, fun e => absurd e (by decide), fun e => absurd e (by decide), fun e => absurd e (by decide), fun e => absurd e (by decide), fun e => absurd e (by decide), fun e => absurd e (by decide)⟩, fun w hC => ?_, fun w hC => ?_, fun w hM => ?_⟩)
            · rw [jd_1]
              unfold f_X8_judgePour
              rw [show (1 : Nat) + 1 = 2 from rfl, s_hasT hC.1 a1 (by omega), bI_s, if_neg (by decide), if_neg (by rw [zl_1, zI_lt (by omega) (by omega)]; omega), if_pos (by rw [zl_99, zI_le (by omega) (by omega)]; omega), s_waterOf hC.1 a1 (by omega) (hC.2.2.2.1 i (by omega)), bI_s, zI_add, if_neg (by rw [zl_99, zI_lt (by omega) (by omega)]; omega), zl_0]
            · have hc : w.1 2 0 = zI (F 0) := hC.1
              have hp : w.1 2 1 = zI (F 3) := hC.2.1
              have hwi : w.1 3 i = zI (F (5 + i)) := hC.2.2.2.1 i (by omega)
              refine ⟨wset (wset w 3 i (zI (F (5 + i) + u))) 2 1 (zI (F 3 + u)), ?_, (hC.water (by omega) (by omega) _).acc (by rw [uF_ne _ (by omega)]; omega) (Or.inl rfl) _, (Fr.rf.set (Or.inl ⟨by omega, by omega⟩) _ _).set (Or.inl ⟨by omega, by omega⟩) _ _⟩
              rw [ap_1]
              unfold f_X9_receivePoured f_X9_add
              simp (disch := omega) only [s_hasT hc a1 (show i < F 0 by omega), hwi, hp, show i < 7 by omega, zl_0, zl_1, zl_2, zl_3, zl_4, zl_5, zl_6, zl_7, zl_8, zl_9, zl_10, zl_11, zl_12, zl_13, zl_14, zl_15, zl_16, zl_17, zl_18, zl_19, zl_20, zl_21, zl_22, zl_23, zl_24, zl_25, zl_26, zl_27, zl_28, zl_29, zl_30, zl_31, zl_32, zl_33, zl_34, zl_35, zl_36, zl_37, zl_38, zl_39, zl_40, zl_41, zl_42, zl_43, zl_44, zl_45, zl_46, zl_47, zl_48, zl_49, zl_50, zl_51, zl_52, zl_53, zl_54, zl_55, zl_56, zl_57, zl_58, zl_59, zl_60, zl_61, zl_62, zl_63, zl_64, zl_65, zl_66, zl_67, zl_68, zl_69, zl_70, zl_71, zl_72, zl_73, zl_74, zl_75, zl_76, zl_77, zl_78, zl_79, zl_80, zl_81, zl_82, zl_83, zl_84, zl_85, zl_86, zl_87, zl_88, zl_89, zl_90, zl_91, zl_92, zl_93, zl_94, zl_95, zl_96, zl_97, zl_98, zl_99, zl_100, zl_101, zl_102, zl_103, zl_104, zl_105, zl_106, zl_107, zl_108, zl_109, zl_110, zl_111, zl_112, zl_113, zl_114, zl_115, zl_116, zl_117, zl_118, zl_119, zl_120, zl_121, zl_122, zl_123, zl_124, zl_125, zl_126, zl_127, zl_128, zl_180, zl_200, zl_240, zl_462, zl_528, zm1, zI_add, zI_mul, zI_sub, zI_addneg, zI_lt, zI_le, zI_inj, zI_nat, zI_zM, zM_zI, zM_lt, lt_zM, zM_le, le_zM, zM_leM, zM_ltM, inB_z, bI_s, bV_s, bIX_s, bVX_s, bIX_x, bVX_x, if_true, if_false, ↓reduceIte, nar0z, nar1z, Nat.not_lt_zero, Nat.zero_le, Nat.le_zero_eq, not_true_eq_false, not_false_eq_true, false_and, and_false, true_and, and_true, and_self, wset_at, Nat.le_refl, Nat.reduceAdd, Nat.reduceSub, Nat.reduceMul, Nat.reduceDiv, Nat.reduceMod, Nat.reduceEqDiff, Nat.reduceLT, Nat.add_sub_cancel, Nat.reducePow, Nat.reduceLeDiff]
              rw [s_waterOf (c := F 0) (y := F (5 + i) + u) (by simp only [wset_at, Nat.reduceEqDiff, false_and, and_false, if_false]; exact hc) a1 (by omega) (by simp only [wset_at, Nat.reduceEqDiff, false_and, and_self, if_false, if_true]), bI_s]
            · refine ⟨wset (wset w 142 (5 + i) (zI (F (5 + i) + u))) 142 3 (zI (F 3 + u)), ?_, (hM.set _ _).set _ _, ((fr1 _ _).tr (fr1 _ _)).wk (fun a z => Or.inl z)⟩
              have h5 := hM.at (j := 5 + i) (by omega)
              have h3 := hM.at (j := 3) (by omega)
              unfold f_X11_pours
              rw [m_isSecT hM a1 (by omega), bI_s, if_neg (by decide), zl_1, zl_99, m_inT (by omega) (by omega) (by omega), bI_s, if_neg (by decide)]
              simp (disch := omega) only [h5, h3, show 5 + i < 66 by omega, show ¬ 3 = 5 + i by omega, show ¬ 5 + i = 3 by omega, hf, don_m, zl_0, zl_1, zl_2, zl_3, zl_4, zl_5, zl_6, zl_7, zl_8, zl_9, zl_10, zl_11, zl_12, zl_13, zl_14, zl_15, zl_16, zl_17, zl_18, zl_19, zl_20, zl_21, zl_22, zl_23, zl_24, zl_25, zl_26, zl_27, zl_28, zl_29, zl_30, zl_31, zl_32, zl_33, zl_34, zl_35, zl_36, zl_37, zl_38, zl_39, zl_40, zl_41, zl_42, zl_43, zl_44, zl_45, zl_46, zl_47, zl_48, zl_49, zl_50, zl_51, zl_52, zl_53, zl_54, zl_55, zl_56, zl_57, zl_58, zl_59, zl_60, zl_61, zl_62, zl_63, zl_64, zl_65, zl_66, zl_67, zl_68, zl_69, zl_70, zl_71, zl_72, zl_73, zl_74, zl_75, zl_76, zl_77, zl_78, zl_79, zl_80, zl_81, zl_82, zl_83, zl_84, zl_85, zl_86, zl_87, zl_88, zl_89, zl_90, zl_91, zl_92, zl_93, zl_94, zl_95, zl_96, zl_97, zl_98, zl_99, zl_100, zl_101, zl_102, zl_103, zl_104, zl_105, zl_106, zl_107, zl_108, zl_109, zl_110, zl_111, zl_112, zl_113, zl_114, zl_115, zl_116, zl_117, zl_118, zl_119, zl_120, zl_121, zl_122, zl_123, zl_124, zl_125, zl_126, zl_127, zl_128, zl_180, zl_200, zl_240, zl_462, zl_528, zm1, zI_add, zI_mul, zI_sub, zI_addneg, zI_lt, zI_le, zI_inj, zI_nat, zI_zM, zM_zI, zM_lt, lt_zM, zM_le, le_zM, zM_leM, zM_ltM, inB_z, bI_s, bV_s, bIX_s, bVX_s, bIX_x, bVX_x, if_true, if_false, ↓reduceIte, nar0z, nar1z, Nat.not_lt_zero, Nat.zero_le, Nat.le_zero_eq, not_true_eq_false, not_false_eq_true, false_and, and_false, true_and, and_true, and_self, wset_at, Nat.le_refl, Nat.reduceAdd, Nat.reduceSub, Nat.reduceMul, Nat.reduceDiv, Nat.reduceMod, Nat.reduceEqDiff, Nat.reduceLT, Nat.add_sub_cancel, Nat.reducePow, Nat.reduceLeDiff]
          · refine Or.inr (Or.inl ⟨1, 99, by omega, by omega, by omega, KD.pl (by decide), fun w hC => ?_, fun w hM => ⟨w, ?_, Fr.rf⟩⟩)
            · rw [jd_1]
              unfold f_X8_judgePour
              rw [show (1 : Nat) + 1 = 2 from rfl, s_hasT hC.1 a1 (by omega), bI_s, if_neg (by decide), if_neg (by rw [zl_1, zI_lt (by omega) (by omega)]; omega), if_pos (by rw [zl_99, zI_le (by omega) (by omega)]; omega), s_waterOf hC.1 a1 (by omega) (hC.2.2.2.1 i (by omega)), bI_s, zI_add, if_pos (by rw [zl_99, zI_lt (by omega) (by omega)]; omega), zl_1, zl_99, den_c, bI_s]
            · have h5 := hM.at (j := 5 + i) (by omega)
              unfold f_X11_pours
              rw [m_isSecT hM a1 (by omega), bI_s, if_neg (by decide), zl_1, zl_99, m_inT (by omega) (by omega) (by omega), bI_s, if_neg (by decide)]
              simp (disch := omega) only [h5, show 5 + i < 66 by omega, hf, den_m, zl_0, zl_1, zl_2, zl_3, zl_4, zl_5, zl_6, zl_7, zl_8, zl_9, zl_10, zl_11, zl_12, zl_13, zl_14, zl_15, zl_16, zl_17, zl_18, zl_19, zl_20, zl_21, zl_22, zl_23, zl_24, zl_25, zl_26, zl_27, zl_28, zl_29, zl_30, zl_31, zl_32, zl_33, zl_34, zl_35, zl_36, zl_37, zl_38, zl_39, zl_40, zl_41, zl_42, zl_43, zl_44, zl_45, zl_46, zl_47, zl_48, zl_49, zl_50, zl_51, zl_52, zl_53, zl_54, zl_55, zl_56, zl_57, zl_58, zl_59, zl_60, zl_61, zl_62, zl_63, zl_64, zl_65, zl_66, zl_67, zl_68, zl_69, zl_70, zl_71, zl_72, zl_73, zl_74, zl_75, zl_76, zl_77, zl_78, zl_79, zl_80, zl_81, zl_82, zl_83, zl_84, zl_85, zl_86, zl_87, zl_88, zl_89, zl_90, zl_91, zl_92, zl_93, zl_94, zl_95, zl_96, zl_97, zl_98, zl_99, zl_100, zl_101, zl_102, zl_103, zl_104, zl_105, zl_106, zl_107, zl_108, zl_109, zl_110, zl_111, zl_112, zl_113, zl_114, zl_115, zl_116, zl_117, zl_118, zl_119, zl_120, zl_121, zl_122, zl_123, zl_124, zl_125, zl_126, zl_127, zl_128, zl_180, zl_200, zl_240, zl_462, zl_528, zm1, zI_add, zI_mul, zI_sub, zI_addneg, zI_lt, zI_le, zI_inj, zI_nat, zI_zM, zM_zI, zM_lt, lt_zM, zM_le, le_zM, zM_leM, zM_ltM, inB_z, bI_s, bV_s, bIX_s, bVX_s, bIX_x, bVX_x, if_true, if_false, ↓reduceIte, nar0z, nar1z, Nat.not_lt_zero, Nat.zero_le, Nat.le_zero_eq, not_true_eq_false, not_false_eq_true, false_and, and_false, true_and, and_true, and_self, wset_at, Nat.le_refl, Nat.reduceAdd, Nat.reduceSub, Nat.reduceMul, Nat.reduceDiv, Nat.reduceMod, Nat.reduceEqDiff, Nat.reduceLT, Nat.add_sub_cancel, Nat.reducePow, Nat.reduceLeDiff]
        · refine Or.inl (badU ?_ (fun w => by rw [zl_1, zl_99]; exact m_inF (by omega) (by omega) (by omega) (by omega)))
          by_cases z : u < 1
          · exact Or.inl (by rw [zl_1, zI_lt (by omega) (by omega)]; exact z)
          · exact Or.inr (by rw [zl_99, zI_le (by omega) (by omega)]; omega)
