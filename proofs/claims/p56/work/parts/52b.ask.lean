/-! what the law asks -/
theorem bVX_s2 {β : Type} (w : XW) (K : XW → Option (β ⊕ (String × XW))) : bVX (some (.inl w)) K = K w := rfl
section
variable {w : XW} {F : Nat → Nat}
theorem rS {i : Nat} (hC : Cls w.1 1 F) (hI : Inv F) (hi : i < F 0) : f_X10_requireSection (zI i) w = some (.inl w) := by
  unfold f_X10_requireSection
  rw [s_hasT hC.1 hI.1 hi, bI_s, if_neg (by decide)]
theorem rSno {i : Nat} (hC : Cls w.1 1 F) (hI : Inv F) (h31 : i < 2147483648) (hi : F 0 ≤ i) : f_X10_requireSection (zI i) w = some (.inr ("java/lang/IndexOutOfBoundsException", w)) := by
  unfold f_X10_requireSection
  rw [s_hasF hC.1 hI.1 h31 hi, bI_s, if_pos (by rfl)]
theorem rT {t : Nat} (ht : t < 8) (w : XW) : f_X10_requireTerm (zI (97 + t)) w = some (.inl w) := by
  unfold f_X10_requireTerm
  rw [s_isTermT ht, bI_s, if_neg (by decide)]
theorem rP {p : Nat} (hC : Cls w.1 1 F) (hI : Inv F) (hp : p < F 2) : f_X10_requirePipe (zI p) w = some (.inl w) := by
  unfold f_X10_requirePipe
  rw [i_hasT hC.2.2.2.2.2.2.2.1 hI.2.2.1 hp, bI_s, if_neg (by decide)]
theorem rPno {p : Nat} (hC : Cls w.1 1 F) (hI : Inv F) (h31 : p < 2147483648) (hp : F 2 ≤ p) : f_X10_requirePipe (zI p) w = some (.inr ("java/lang/IndexOutOfBoundsException", w)) := by
  unfold f_X10_requirePipe
  rw [i_hasF hC.2.2.2.2.2.2.2.1 hI.2.2.1 h31 hp, bI_s, if_pos (by rfl)]
theorem a_count (hC : Cls w.1 1 F) : f_X10_sectionCount w = some (zI (F 0), w) := by
  unfold f_X10_sectionCount
  rw [show w.1 2 0 = zI (F 0) from hC.1]
theorem a_folded (hC : Cls w.1 1 F) : f_X10_foldedCount w = some (zI (F 1), w) := by
  unfold f_X10_foldedCount
  rw [show w.1 5 0 = zI (F 1) from hC.2.2.2.2.2.1]
theorem a_pipes (hC : Cls w.1 1 F) : f_X10_pipeCount w = some (zI (F 2), w) := by
  unfold f_X10_pipeCount
  rw [show w.1 7 0 = zI (F 2) from hC.2.2.2.2.2.2.2.1]
theorem a_poured (hC : Cls w.1 1 F) : f_X10_poured w = some (zI (F 3), w) := by
  unfold f_X10_poured
  rw [show w.1 2 1 = zI (F 3) from hC.2.1]
theorem a_leaked (hC : Cls w.1 1 F) : f_X10_leaked w = some (zI (F 4), w) := by
  unfold f_X10_leaked
  rw [show w.1 2 2 = zI (F 4) from hC.2.2.1]
theorem a_water {i : Nat} (hC : Cls w.1 1 F) (hI : Inv F) (hi : i < F 0) : f_L_water (zI i) w = some (zI (F (5 + i)), w) := by
  unfold f_L_water f_X10_water
  rw [rS hC hI hi, bVX_s, s_waterOf hC.1 hI.1 hi (hC.2.2.2.1 i (by have := hI.1; omega)), bI_s, bCI_s]
theorem a_waterNo {i : Nat} (hC : Cls w.1 1 F) (hI : Inv F) (h31 : i < 2147483648) (hi : F 0 ≤ i) : f_L_water (zI i) w = some (-77, w) := by
  unfold f_L_water f_X10_water
  rw [rSno hC hI h31 hi, bVX_x, bCI_x]
  rfl
theorem a_hasTerm {i t : Nat} (hC : Cls w.1 1 F) (hI : Inv F) (hi : i < F 0) (ht : t < 8) : f_L_hasTerm (zI i) (zI (97 + t)) w = some (zI (bt (F (12 + i)) t), w) := by
  have h7 := hI.1
  have hb := (hI.2.2.2.2.1 i (by omega)).2.1
  unfold f_L_hasTerm f_X10_hasTerm
  rw [rS hC hI hi, bVX_s, rT ht, bVX_s, s_bears hC.1 hI.1 hi hb (hC.2.2.2.2.1 i (by omega)) ht, bI_s]
  rcases bt_01 (F (12 + i)) t with e | e
  · rw [e, if_pos nar0z, bCI_s, if_pos (by rfl)]; rfl
  · rw [e, if_pos nar1z, bCI_s, if_neg (by decide)]; rfl
theorem a_with {t : Nat} (hC : Cls w.1 1 F) (hI : Inv F) (ht : t < 8) : f_L_sectionsWith (zI (97 + t)) w = some (zI (sm (btT F t) (F 0)), w) := by
  have h7 := hI.1
  unfold f_L_sectionsWith f_X10_sectionsWith
  rw [rT ht, bVX_s, s_bearers hC hI ht, bI_s, z_bitCount (by have := smk_lt (btT_le F t) (F 0); have := pow7 (n := F 0) (by omega); omega), bI_s, bCI_s, smk_pc (btT_le F t) (F 0) h7]
theorem a_layerOf {i : Nat} (hC : Cls w.1 1 F) (hI : Inv F) (hi : i < F 1) : f_L_layerOf (zI i) w = some (zI (ixL (plF F) i), w) := by
  have h7 := hI.1
  have h1 := hI.2.1
  have h8 := inv_ix hI i hi
  unfold f_L_layerOf f_X10_layerOf
  rw [rS hC hI (by omega), bVX_s, p_layT hC.2.2.2.2.2.1 (by omega) hi (hC.2.2.2.2.2.2.1 i hi), bI_s, if_neg (by rw [zl_1, zm1, zI_zM (by omega)]; exact id), bCI_s]
theorem a_layerNo {i : Nat} (hC : Cls w.1 1 F) (hI : Inv F) (hi : F 1 ≤ i) (hi2 : i < F 0) : f_L_layerOf (zI i) w = some (-75, w) := by
  have h7 := hI.1
  have h1 := hI.2.1
  unfold f_L_layerOf f_X10_layerOf
  rw [rS hC hI hi2, bVX_s, p_layF hC.2.2.2.2.2.1 (by omega) (by omega) hi, bI_s, if_pos (by rfl), bCI_x]
  rfl
theorem a_sectionIn {l : Nat} (hC : Cls w.1 1 F) (hI : Inv F) (hl : l < F 1) : f_L_sectionIn (zI l) w = some (zI (gtL (plF F) l), w) := by
  have h7 := hI.1
  have h1 := hI.2.1
  obtain ⟨b1, b2, b3⟩ := piles_ok (by omega) hI.2.2.2.2.2.1
  unfold f_L_sectionIn f_X10_sectionIn
  rw [p_sectionAt (k := 5) (n := F 1) (L := ixL (plF F)) (t := gtL (plF F) l) (l := l) hC.2.2.2.2.2.1 (by omega) hC.2.2.2.2.2.2.1 (inv_ix hI) (b3 l hl).1 (b3 l hl).2 (fun s hs e => by have := (b2 s hs).2; rw [e] at this; exact this.symm), bI_s, if_neg (by rw [zl_1, zm1, zI_zM (by have := (b3 l hl).1; omega)]; exact id), bCI_s]
/-- canFold's answer -/
def cfN (F : Nat → Nat) (l : Nat) : Nat := if F 1 = F 0 then 0 else if crA (ixL (plF F)) (F 1) l = none then 1 else 0
theorem a_canFold {l : Nat} (hC : Cls w.1 1 F) (hI : Inv F) (hl : l ≤ F 1) : f_L_canFold (zI l) w = some (zI (cfN F l), w) := by
  have h7 := hI.1
  have h1 := hI.2.1
  have q1 : w.1 (1 + 1) 0 = zI (F 0) := hC.1
  have q6 : w.1 (1 + 4) 0 = zI (F 1) := hC.2.2.2.2.2.1
  unfold f_L_canFold f_X10_canFold f_X8_judgeFold cfN
  rw [if_neg (by rw [zl_0, zI_lt (by omega) (by omega)]; omega), q6, if_pos (by rw [zI_le (by omega) (by omega)]; omega), q1]
  by_cases hall : F 1 = F 0
  · rw [if_neg (by rw [zI_lt (by omega) (by omega)]; omega), zl_2, den_c, bI_s, bI_s, if_neg (by rw [zl_1, zm1, zI_zM (by omega)]; exact id), if_neg (by rw [zl_0, zI_inj (by omega) (by omega)]; omega), bCI_s, if_pos (by rfl), if_pos hall]
    rfl
  · rw [if_pos (by rw [zI_lt (by omega) (by omega)]; omega), show (1 : Nat) + 4 = 5 from rfl, p_crease (k := 5) hC.2.2.2.2.2.1 (by omega) hC.2.2.2.2.2.2.1 (inv_ix hI) (by omega), bI_s, if_neg hall]
    cases hx : crA (ixL (plF F)) (F 1) l with
    | none =>
      show bCI (bI (if zM = -1 then some (0, w) else _) _) _ _ = _
      rw [if_pos (by rfl), bI_s, if_neg (by decide), if_pos (by rfl), bCI_s, if_neg (by decide), if_pos rfl]
      rfl
    | some x =>
      have hxl := crA_lt hx
      show bCI (bI (if zI x = -1 then some (0, w) else _) _) _ _ = _
      rw [if_neg (by rw [zl_1, zm1, zI_zM (by omega)]; exact id), zl_4, show crZ (some x) = zI x from rfl, den_c, bI_s, bI_s, if_neg (by rw [zl_1, zm1, zI_zM (by omega)]; exact id), if_neg (by rw [zl_0, zI_inj (by omega) (by omega)]; omega), bCI_s, if_pos (by rfl), if_neg (by intro h; cases h)]
      rfl
end
section
variable {w : XW} {F : Nat → Nat}
theorem a_cap {p : Nat} (hC : Cls w.1 1 F) (hI : Inv F) (hp : p < F 2) : f_L_capacity (zI p) w = some (zI (F (28 + 4 * p)), w) := by
  unfold f_L_capacity f_X10_capacity
  rw [rP hC hI hp, bVX_s, i_width hC.2.2.2.2.2.2.2.1 hI.2.2.1 hp (hC.2.2.2.2.2.2.2.2.1 p hp).2.2.1, bI_s, bCI_s]
theorem a_from {p : Nat} (hC : Cls w.1 1 F) (hI : Inv F) (hp : p < F 2) : f_L_pipeFrom (zI p) w = some (zI (F (26 + 4 * p)), w) := by
  unfold f_L_pipeFrom f_X10_pipeFrom
  rw [rP hC hI hp, bVX_s, i_start hC.2.2.2.2.2.2.2.1 hI.2.2.1 hp (hC.2.2.2.2.2.2.2.2.1 p hp).1, bI_s, bCI_s]
theorem a_to {p : Nat} (hC : Cls w.1 1 F) (hI : Inv F) (hp : p < F 2) : f_L_pipeTo (zI p) w = some (zI (F (27 + 4 * p)), w) := by
  unfold f_L_pipeTo f_X10_pipeTo
  rw [rP hC hI hp, bVX_s, i_end hC.2.2.2.2.2.2.2.1 hI.2.2.1 hp (hC.2.2.2.2.2.2.2.2.1 p hp).2.1, bI_s, bCI_s]
theorem a_brk {p : Nat} (hC : Cls w.1 1 F) (hI : Inv F) (hp : p < F 2) : f_L_isBroken (zI p) w = some (zI (F (29 + 4 * p)), w) := by
  have h1 : F (29 + 4 * p) ≤ 1 := (hI.2.2.2.2.2.2.2 p hp).2.2.2.2.2
  unfold f_L_isBroken f_X10_isBroken
  rw [rP hC hI hp, bVX_s, i_broken hC.2.2.2.2.2.2.2.1 hI.2.2.1 hp (hC.2.2.2.2.2.2.2.2.1 p hp).2.2.2 h1, bI_s]
  have e : F (29 + 4 * p) = 0 ∨ F (29 + 4 * p) = 1 := by omega
  rcases e with e | e
  · rw [e, if_pos nar0z, bCI_s, if_pos (by rfl)]; rfl
  · rw [e, if_pos nar1z, bCI_s, if_neg (by decide)]; rfl
theorem a_brkNo {p : Nat} (hC : Cls w.1 1 F) (hI : Inv F) (h31 : p < 2147483648) (hp : F 2 ≤ p) : f_L_isBroken (zI p) w = some (-77, w) := by
  unfold f_L_isBroken f_X10_isBroken
  rw [rPno hC hI h31 hp, bVX_x, bCI_x]
  rfl
theorem a_lossNo {p : Nat} (hC : Cls w.1 1 F) (hI : Inv F) (h31 : p < 2147483648) (hp : F 2 ≤ p) : f_L_lossOf (zI p) w = some (-77, w) := by
  unfold f_L_lossOf f_X10_lossOf
  rw [rPno hC hI h31 hp, bVX_x, bCI_x]
  rfl
theorem a_flow (hC : Cls w.1 1 F) (hI : Inv F) (h2 : 2 ≤ F 0) : ∃ w', f_L_greatestFlow w = some (zI (mcF F 99 (F 0)), w') ∧ Fr KQ w w' := by
  have q1 : w.1 (1 + 1) 0 = zI (F 0) := hC.1
  have h7 := hI.1
  obtain ⟨k1, k2, k3⟩ := fl_hyp hI
  obtain ⟨w', e1, e2, e3⟩ := g_greatest (y := zM) (wo := 99) hI.1 h2 (hC.pp hI) nowo k1 k2
  refine ⟨w', ?_, e2.wk fun a z => ⟨by omega, by omega⟩⟩
  unfold f_L_greatestFlow f_X10_greatestFlow f_X8_judgeEnds
  rw [q1, if_neg (by rw [zl_2, zI_lt (by omega) (by omega)]; omega), zl_0, bI_s, obey_ok, bVX_s, show w.1 2 0 = zI (F 0) from hC.1, zl_1, zm1, e1, bI_s, bCI_s]
theorem a_cut (hC : Cls w.1 1 F) (hI : Inv F) (h2 : 2 ≤ F 0) : f_L_smallestCut w = some (zI (mcF F 99 (F 0)), w) := by
  have q1 : w.1 (1 + 1) 0 = zI (F 0) := hC.1
  have h7 := hI.1
  obtain ⟨k1, k2, k3⟩ := fl_hyp hI
  unfold f_L_smallestCut f_X10_smallestCut f_X8_judgeEnds
  rw [q1, if_neg (by rw [zl_2, zI_lt (by omega) (by omega)]; omega), zl_0, bI_s, obey_ok, bVX_s, show w.1 2 0 = zI (F 0) from hC.1, g_smallest hI.1 h2 (hC.pp hI) (fun p hp => ⟨(k3 p hp).1, (k3 p hp).2.1, (k3 p hp).2.2.1⟩), bI_s, bCI_s]
theorem mcF_le {F : Nat → Nat} {wo n : Nat} (hI : Inv F) (h2 : 2 ≤ n) : mcF F wo n ≤ 200 := by
  obtain ⟨k1, k2, k3⟩ := fl_hyp hI
  obtain ⟨⟨s, _, _, e⟩, _⟩ := mcF_spec F wo h2
  rw [e]; exact ctV_le hI.2.2.1 k2
theorem ctP_wo {F : Nat → Nat} {wo s p : Nat} : ctP F wo s p ≤ ctP F 99 s p ∨ 10 ≤ p := by
  unfold ctP
  by_cases h : 10 ≤ p
  · exact Or.inr h
  · refine Or.inl ?_
    split
    · rename_i h1; rw [if_pos ⟨h1.1, by omega, h1.2.2⟩]; exact Nat.le_refl _
    · exact Nat.zero_le _
/-- a pipe's loss: not below 0, not above its capacity, nor the flow; 0 for a broken one -/
theorem loss_B {F : Nat → Nat} {x : Nat} (hI : Inv F) (hx : x < F 2) : mcF F x (F 0) ≤ mcF F 99 (F 0) ∧ mcF F 99 (F 0) ≤ mcF F x (F 0) + (if F (29 + 4 * x) = 1 then 0 else F (28 + 4 * x)) := by
  have h8 := hI.2.2.2.2.2.2.2 x hx
  have h10 := hI.2.2.1
  have h2 : 2 ≤ F 0 := by omega
  have hle : ∀ s, ctV F x s ≤ ctV F 99 s := fun s => sm_le fun p hp => ctP_wo.resolve_right (by omega)
  have hup : ∀ s, ctV F 99 s ≤ ctV F x s + (if F (29 + 4 * x) = 1 then 0 else F (28 + 4 * x)) := fun s => by
    have := sm_off (G := ctP F x s) (G' := ctP F 99 s) (x := x) (n := F 2) (fun k hk hne => by
      unfold ctP
      have e : (F (29 + 4 * k) = 0 ∧ k ≠ 99 ∧ bt s (F (26 + 4 * k)) = 1 ∧ bt s (F (27 + 4 * k)) = 0) = (F (29 + 4 * k) = 0 ∧ k ≠ x ∧ bt s (F (26 + 4 * k)) = 1 ∧ bt s (F (27 + 4 * k)) = 0) := propext ⟨fun h => ⟨h.1, hne, h.2.2⟩, fun h => ⟨h.1, by omega, h.2.2⟩⟩
      simp only [e]) hx
    have e0 : ctP F x s x = 0 := by unfold ctP; rw [if_neg (fun h => h.2.1 rfl)]
    have e1 : ctP F 99 s x ≤ (if F (29 + 4 * x) = 1 then 0 else F (28 + 4 * x)) := by
      unfold ctP
      by_cases z : F (29 + 4 * x) = 1
      · rw [if_neg (fun h => by omega), if_pos z]; exact Nat.le_refl _
      · rw [if_neg z]; split <;> omega
    unfold ctV
    omega
  obtain ⟨⟨s1, a1, a2, a3⟩, a4⟩ := mcF_spec F x h2
  obtain ⟨⟨s2, b1, b2, b3⟩, b4⟩ := mcF_spec F 99 h2
  have c1 := a4 s2 b1 b2
  have c2 := b4 s1 a1 a2
  have c3 := hle s2
  have c4 := hup s1
  omega
theorem a_loss {x : Nat} (hC : Cls w.1 1 F) (hI : Inv F) (hx : x < F 2) : ∃ w', f_L_lossOf (zI x) w = some (zI (mcF F 99 (F 0) - mcF F x (F 0)), w') ∧ Fr KQ w w' := by
  have h8 := hI.2.2.2.2.2.2.2 x hx
  have h10 := hI.2.2.1
  have h7 := hI.1
  obtain ⟨k1, k2, k3⟩ := fl_hyp hI
  have hy : ∀ p, p < 10 → (zI p = zI x) = (p = x) := fun p hp => zI_inj (by omega) (by omega)
  obtain ⟨w1, e1, e2, e3⟩ := g_greatest (y := zM) (wo := 99) h7 (by omega) (hC.pp hI) nowo k1 k2
  have hC1 : Cls w1.1 1 F := hC.fr e2 (fun a h1 h2 => by omega)
  obtain ⟨w2, f1, f2, f3⟩ := g_greatest (y := zI x) (wo := x) h7 (by omega) (hC1.pp hI) hy k1 k2
  refine ⟨w2, ?_, (e2.tr f2).wk fun a z => ⟨by omega, by omega⟩⟩
  unfold f_L_lossOf f_X10_lossOf
  rw [rP hC hI hx, bVX_s, show w.1 2 0 = zI (F 0) from hC.1, zl_1, zm1, e1, bI_s, f1, bI_s, bCI_s, zI_sub (loss_B hI hx).1]
theorem sm_70 {F : Nat → Nat} (hI : Inv F) : sm (fun i => F (5 + i)) 7 = sm (fun i => F (5 + i)) (F 0) := sm_cut 7 hI.1 (fun k h1 h2 => ((hI.2.2.2.2.1 k h2).2.2 h1).1)
theorem a_total (hC : Cls w.1 1 F) (hI : Inv F) : f_X10_totalWater w = some (zI (sm (fun i => F (5 + i)) (F 0)), w) := by
  unfold f_X10_totalWater
  rw [c_sum hC hI, bI_s]
theorem a_totalA (hC : Cls w.1 1 F) (hI : Inv F) : f_X10_totalWaterByAccounts w = some (zI (sm (fun i => F (5 + i)) (F 0)), w) := by
  have h4 := hI.2.2.2.1
  have h5 := sm_70 hI
  unfold f_X10_totalWaterByAccounts
  rw [show w.1 2 1 = zI (F 3) from hC.2.1, show w.1 2 2 = zI (F 4) from hC.2.2.1, zI_sub (by omega), show F 3 - F 4 = sm (fun i => F (5 + i)) (F 0) by omega]
end
/-! floats that are no NaN -/
theorem ord_self : ∀ d : FP.Core.Datum, d ≠ .nan → FP.Core.order d d = some .eq := by
  intro d hd
  cases d with
  | nan => exact absurd rfl hd
  | inf s => unfold FP.Core.order; simp [compare, compareOfLessAndEq]
  | fin s c q => unfold FP.Core.order; simp [compare, compareOfLessAndEq]
theorem eq64 {x : UInt64} (h : okF64 x) : FP.dcmp x x = some .eq := by
  refine ord_self _ ?_
  have h2 : x.toNat % 9223372036854775808 ≤ 9218868437227405312 := by
    have h1 : (x &&& 9223372036854775807) ≤ 9218868437227405312 := h
    rw [UInt64.le_iff_toNat_le, UInt64.toNat_and, show (9223372036854775807 : UInt64).toNat = 2 ^ 63 - 1 from rfl, Nat.and_two_pow_sub_one_eq_mod] at h1
    exact h1
  obtain ⟨b1, b2, _⟩ := fp_b64
  unfold FP.Core.decode FP.Core.fieldE FP.Core.fieldT
  rw [b1, b2]
  split
  · rename_i hE
    rw [if_pos (by omega)]
    intro z; cases z
  · split <;> intro z <;> cases z
theorem eq32 {x : UInt32} (h : okF32 x) : FP.fcmp x x = some .eq := by
  refine ord_self _ ?_
  have h2 : x.toNat % 2147483648 ≤ 2139095040 := by
    have h1 : (x &&& 2147483647) ≤ 2139095040 := h
    rw [UInt32.le_iff_toNat_le, UInt32.toNat_and, show (2147483647 : UInt32).toNat = 2 ^ 31 - 1 from rfl, Nat.and_two_pow_sub_one_eq_mod] at h1
    exact h1
  obtain ⟨b1, b2, _⟩ := fp_b32
  unfold FP.Core.decode FP.Core.fieldE FP.Core.fieldT
  rw [b1, b2]
  split
  · rename_i hE
    rw [if_pos (by omega)]
    intro z; cases z
  · split <;> intro z <;> cases z
theorem bCD_s {ρ : Type} (a : UInt64) (w : XW) (K : UInt64 → XW → Option ρ) (KX : String → XW → Option ρ) : bCD (some (.inl (a, w))) K KX = K a w := rfl
theorem bCD_x {ρ : Type} (e : String) (w : XW) (K : UInt64 → XW → Option ρ) (KX : String → XW → Option ρ) : bCD (some (.inr (e, w))) K KX = KX e w := rfl
theorem bCF_s {ρ : Type} (a : UInt32) (w : XW) (K : UInt32 → XW → Option ρ) (KX : String → XW → Option ρ) : bCF (some (.inl (a, w))) K KX = K a w := rfl
theorem bCF_x {ρ : Type} (e : String) (w : XW) (K : UInt32 → XW → Option ρ) (KX : String → XW → Option ρ) : bCF (some (.inr (e, w))) K KX = KX e w := rfl
section
variable {w : XW} {F : Nat → Nat}
theorem a_mean0 (hC : Cls w.1 1 F) (h0 : F 0 = 0) : f_L_meanWater w = some (13858279740860792832, w) := by
  unfold f_L_meanWater f_X10_meanWater
  rw [show w.1 2 0 = zI (F 0) from hC.1, h0, if_neg (by decide), bCD_x]
  rfl
theorem a_mean (hC : Cls w.1 1 F) (hI : Inv F) (h0 : F 0 ≠ 0) : f_L_meanWater w = some (FP.ddiv (FP.i2d (zI (sm (fun i => F (5 + i)) (F 0)))) (FP.i2d (zI (F 0))), w) ∧ okF64 (FP.ddiv (FP.i2d (zI (sm (fun i => F (5 + i)) (F 0)))) (FP.i2d (zI (F 0)))) := by
  have a1 := hI.1
  have c0 : w.1 2 0 = zI (F 0) := hC.1
  have hs : sm (fun i => F (5 + i)) (F 0) < 700 := by
    have := sm_bound (G := fun i => F (5 + i)) (c := 99) (F 0) (fun k hk => (hI.2.2.2.2.1 k (by omega)).1)
    omega
  have hok := mean_ok hs (show F 0 < 700 by omega) h0
  refine ⟨?_, hok⟩
  unfold f_L_meanWater f_X10_meanWater
  rw [if_pos (by rw [c0, zl_0, zI_lt (by omega) (by omega)]; omega), c_sum hC hI, bI_s, c0, if_pos hok, bCD_s]
theorem a_share0 (hC : Cls w.1 1 F) (h0 : F 3 = 0) : f_L_leakedShare w = some (3264479232, w) := by
  unfold f_L_leakedShare f_X10_leakedShare
  rw [show w.1 2 1 = zI (F 3) from hC.2.1, h0, if_neg (by decide), bCF_x]
  rfl
theorem a_share (hC : Cls w.1 1 F) (hI : Inv F) (hB : F 3 < 16777216) (h0 : F 3 ≠ 0) : f_L_leakedShare w = some (FP.fdiv (FP.i2f (zI (F 4))) (FP.i2f (zI (F 3))), w) ∧ okF32 (FP.fdiv (FP.i2f (zI (F 4))) (FP.i2f (zI (F 3)))) := by
  have a4 := hI.2.2.2.1
  have hok := share_ok (show F 4 < 16777216 by omega) hB h0
  refine ⟨?_, hok⟩
  unfold f_L_leakedShare f_X10_leakedShare
  rw [show w.1 2 1 = zI (F 3) from hC.2.1, show w.1 2 2 = zI (F 4) from hC.2.2.1, if_pos (by rw [zl_0, zI_lt (by omega) (by omega)]; omega), if_pos hok, bCF_s]
theorem a_undoCount {hs : Nat → Nat → Nat} {n nx : Nat} (h : HC w.1 hs n nx) : f_X10_undoCount w = some (zI n, w) := by
  unfold f_X10_undoCount
  rw [show w.1 34 2 = zI n from h.2.2.2.1]
theorem a_denial {n : Nat} (hn : n < 2147483648) (h : w.1 0 12 = zI n) : f_L_denial w = some (zI n, w) := by
  unfold f_L_denial f_X10_denial
  rw [h, if_neg (by rw [zl_1, zm1, zI_zM hn]; exact id), bCI_s]
theorem a_detail {n d : Nat} (hn : n < 2147483648) (h : w.1 0 12 = zI n) (h2 : w.1 0 13 = zI d) : f_L_denialDetail w = some (zI d, w) := by
  unfold f_L_denialDetail f_X10_denialDetail
  rw [h, if_neg (by rw [zl_1, zm1, zI_zM hn]; exact id), h2, bCI_s]
theorem a_comp (hC : Cls w.1 1 F) (hI : Inv F) : ∃ w', f_X10_completions w = some (zI (wyL (F 0) 9 (plF F) (F 1)), w') ∧ Fr KQ w w' := by
  obtain ⟨w', e1, e2⟩ := f_byFolding (t := F 0) (P := plF F) hI.1 hI.2.1 hI.2.2.2.2.2.1 hC.2.2.2.2.2.1 hC.2.2.2.2.2.2.1
  refine ⟨w', ?_, e2.wk fun a z => ⟨by omega, by omega⟩⟩
  unfold f_X10_completions
  rw [show w.1 2 0 = zI (F 0) from hC.1, e1, bI_s]
theorem a_compO (hC : Cls w.1 1 F) (hI : Inv F) : ∃ w', f_X10_completionsByOrders w = some (zI (wyL (F 0) 9 (plF F) (F 1)), w') ∧ Fr KQ w w' := by
  obtain ⟨w', e1, e2⟩ := f_byOrders (t := F 0) (P := plF F) hI.1 hI.2.1 hI.2.2.2.2.2.1 hC.2.2.2.2.2.1 hC.2.2.2.2.2.2.1
  refine ⟨w', ?_, e2.wk fun a z => ⟨by omega, by omega⟩⟩
  unfold f_X10_completionsByOrders
  rw [show w.1 2 0 = zI (F 0) from hC.1, e1, bI_s]
end
