/-! what the law asks -/
theorem bVX_s2 {β : Type} (w : XW) (K : XW → Option (β ⊕ (String × XW))) : bVX (some (.inl w)) K = K w := rfl
section
variable {w : XW} {F : Nat → Nat}
theorem rS {i : Nat} (hC : Cls w.1 1 F) (hI : Inv F) (hi : i < F 0) : f_X10_requireSection (zI i) w = some (.inl w) := by
  unfold f_X10_requireSection
  rw [s_hasT hC.1 hI.1 hi, bI_s, if_neg (by decide)]
theorem rSno {i : Nat} (hC : Cls w.1 1 F) (hI : Inv F) (h31 : i < 2147483648) (hi : F 0 ≤ i) : f_X10_requireSection (zI i) w = some (.inr ("java/lang/IndexOutOfBoundsException", w)) := by
  unfold f_X10_requireSection
  rw [s_hasF hC.1 hI.1 h31 hi, bI_s, if_pos (by rfl)]
theorem rT {t : Nat} (ht : t < 8) (w : XW) : f_X10_requireTerm (zI (97 + t)) w = some (.inl w) := by
  unfold f_X10_requireTerm
  rw [s_isTermT ht, bI_s, if_neg (by decide)]
theorem rP {p : Nat} (hC : Cls w.1 1 F) (hI : Inv F) (hp : p < F 2) : f_X10_requirePipe (zI p) w = some (.inl w) := by
  unfold f_X10_requirePipe
  rw [i_hasT hC.2.2.2.2.2.2.2.1 hI.2.2.1 hp, bI_s, if_neg (by decide)]
theorem rPno {p : Nat} (hC : Cls w.1 1 F) (hI : Inv F) (h31 : p < 2147483648) (hp : F 2 ≤ p) : f_X10_requirePipe (zI p) w = some (.inr ("java/lang/IndexOutOfBoundsException", w)) := by
  unfold f_X10_requirePipe
  rw [i_hasF hC.2.2.2.2.2.2.2.1 hI.2.2.1 h31 hp, bI_s, if_pos (by rfl)]
theorem a_count (hC : Cls w.1 1 F) : f_X10_sectionCount w = some (zI (F 0), w) := by
  unfold f_X10_sectionCount
  rw [show w.1 2 0 = zI (F 0) from hC.1]
theorem a_folded (hC : Cls w.1 1 F) : f_X10_foldedCount w = some (zI (F 1), w) := by
  unfold f_X10_foldedCount
  rw [show w.1 5 0 = zI (F 1) from hC.2.2.2.2.2.1]
theorem a_pipes (hC : Cls w.1 1 F) : f_X10_pipeCount w = some (zI (F 2), w) := by
  unfold f_X10_pipeCount
  rw [show w.1 7 0 = zI (F 2) from hC.2.2.2.2.2.2.2.1]
theorem a_poured (hC : Cls w.1 1 F) : f_X10_poured w = some (zI (F 3), w) := by
  unfold f_X10_poured
  rw [show w.1 2 1 = zI (F 3) from hC.2.1]
theorem a_leaked (hC : Cls w.1 1 F) : f_X10_leaked w = some (zI (F 4), w) := by
  unfold f_X10_leaked
  rw [show w.1 2 2 = zI (F 4) from hC.2.2.1]
theorem a_water {i : Nat} (hC : Cls w.1 1 F) (hI : Inv F) (hi : i < F 0) : f_L_water (zI i) w = some (zI (F (5 + i)), w) := by
  unfold f_L_water f_X10_water
  rw [rS hC hI hi, bVX_s, s_waterOf hC.1 hI.1 hi (hC.2.2.2.1 i (by have := hI.1; omega)), bI_s, bCI_s]
theorem a_waterNo {i : Nat} (hC : Cls w.1 1 F) (hI : Inv F) (h31 : i < 2147483648) (hi : F 0 ≤ i) : f_L_water (zI i) w = some (-77, w) := by
  unfold f_L_water f_X10_water
  rw [rSno hC hI h31 hi, bVX_x, bCI_x]
  rfl
theorem a_hasTerm {i t : Nat} (hC : Cls w.1 1 F) (hI : Inv F) (hi : i < F 0) (ht : t < 8) : f_L_hasTerm (zI i) (zI (97 + t)) w = some (zI (bt (F (12 + i)) t), w) := by
  have h7 := hI.1
  have hb := (hI.2.2.2.2.1 i (by omega)).2.1
  unfold f_L_hasTerm f_X10_hasTerm
  rw [rS hC hI hi, bVX_s, rT ht, bVX_s, s_bears hC.1 hI.1 hi hb (hC.2.2.2.2.1 i (by omega)) ht, bI_s]
  rcases bt_01 (F (12 + i)) t with e | e
  · rw [e, if_pos nar0z, bCI_s, if_pos (by rfl)]; rfl
  · rw [e, if_pos nar1z, bCI_s, if_neg (by decide)]; rfl
theorem a_with {t : Nat} (hC : Cls w.1 1 F) (hI : Inv F) (ht : t < 8) : f_L_sectionsWith (zI (97 + t)) w = some (zI (sm (btT F t) (F 0)), w) := by
  have h7 := hI.1
  unfold f_L_sectionsWith f_X10_sectionsWith
  rw [rT ht, bVX_s, s_bearers hC hI ht, bI_s, z_bitCount (by have := smk_lt (btT_le F t) (F 0); have := pow7 (n := F 0) (by omega); omega), bI_s, bCI_s, smk_pc (btT_le F t) (F 0) h7]
theorem a_layerOf {i : Nat} (hC : Cls w.1 1 F) (hI : Inv F) (hi : i < F 1) : f_L_layerOf (zI i) w = some (zI (ixL (plF F) i), w) := by
  have h7 := hI.1
  have h1 := hI.2.1
  have h8 := inv_ix hI i hi
  unfold f_L_layerOf f_X10_layerOf
  rw [rS hC hI (by omega), bVX_s, p_layT hC.2.2.2.2.2.1 (by omega) hi (hC.2.2.2.2.2.2.1 i hi), bI_s, if_neg (by rw [zl_1, zm1, zI_zM (by omega)]; exact id), bCI_s]
theorem a_layerNo {i : Nat} (hC : Cls w.1 1 F) (hI : Inv F) (hi : F 1 ≤ i) (hi2 : i < F 0) : f_L_layerOf (zI i) w = some (-75, w) := by
  have h7 := hI.1
  have h1 := hI.2.1
  unfold f_L_layerOf f_X10_layerOf
  rw [rS hC hI hi2, bVX_s, p_layF hC.2.2.2.2.2.1 (by omega) (by omega) hi, bI_s, if_pos (by rfl), bCI_x]
  rfl
theorem a_sectionIn {l : Nat} (hC : Cls w.1 1 F) (hI : Inv F) (hl : l < F 1) : f_L_sectionIn (zI l) w = some (zI (gtL (plF F) l), w) := by
  have h7 := hI.1
  have h1 := hI.2.1
  obtain ⟨b1, b2, b3⟩ := piles_ok (by omega) hI.2.2.2.2.2.1
  unfold f_L_sectionIn f_X10_sectionIn
  rw [p_sectionAt (k := 5) (n := F 1) (L := ixL (plF F)) (t := gtL (plF F) l) (l := l) hC.2.2.2.2.2.1 (by omega) hC.2.2.2.2.2.2.1 (inv_ix hI) (b3 l hl).1 (b3 l hl).2 (fun s hs e => by have := (b2 s hs).2; rw [e] at this; exact this.symm), bI_s, if_neg (by rw [zl_1, zm1, zI_zM (by have := (b3 l hl).1; omega)]; exact id), bCI_s]
/-- canFold's answer -/
def cfN (F : Nat → Nat) (l : Nat) : Nat := if F 1 = F 0 then 0 else if crA (ixL (plF F)) (F 1) l = none then 1 else 0
theorem a_canFold {l : Nat} (hC : Cls w.1 1 F) (hI : Inv F) (hl : l ≤ F 1) : f_L_canFold (zI l) w = some (zI (cfN F l), w) := by
  have h7 := hI.1
  have h1 := hI.2.1
  have q1 : w.1 (1 + 1) 0 = zI (F 0) := hC.1
  have q6 : w.1 (1 + 4) 0 = zI (F 1) := hC.2.2.2.2.2.1
  unfold f_L_canFold f_X10_canFold f_X8_judgeFold cfN
  rw [if_neg (by rw [zl_0, zI_lt (by omega) (by omega)]; omega), q6, if_pos (by rw [zI_le (by omega) (by omega)]; omega), q1]
  by_cases hall : F 1 = F 0
  · rw [if_neg (by rw [zI_lt (by omega) (by omega)]; omega), zl_2, den_c, bI_s, bI_s, if_neg (by rw [zl_1, zm1, zI_zM (by omega)]; exact id), if_neg (by rw [zl_0, zI_inj (by omega) (by omega)]; omega), bCI_s, if_pos (by rfl), if_pos hall]
    rfl
  · rw [if_pos (by rw [zI_lt (by omega) (by omega)]; omega), show (1 : Nat) + 4 = 5 from rfl, p_crease (k := 5) hC.2.2.2.2.2.1 (by omega) hC.2.2.2.2.2.2.1 (inv_ix hI) (by omega), bI_s, if_neg hall]
    cases hx : crA (ixL (plF F)) (F 1) l with
    | none =>
      show bCI (bI (if zM = -1 then some (0, w) else _) _) _ _ = _
      rw [if_pos (by rfl), bI_s, if_neg (by decide), if_pos (by rfl), bCI_s, if_neg (by decide), if_pos rfl]
      rfl
    | some x =>
      have hxl := crA_lt hx
      show bCI (bI (if zI x = -1 then some (0, w) else _) _) _ _ = _
      rw [if_neg (by rw [zl_1, zm1, zI_zM (by omega)]; exact id), zl_4, den_c, bI_s, bI_s, if_neg (by rw [zl_1, zm1, zI_zM (by omega)]; exact id), if_neg (by rw [zl_0, zI_inj (by omega) (by omega)]; omega), bCI_s, if_pos (by rfl), if_neg (by intro h; cases h)]
      rfl
end
