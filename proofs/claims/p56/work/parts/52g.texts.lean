/-! drawn numbers, texts that are fed and searched for -/
theorem ushr1 (x : Int32) : ((Int32.toUInt32 x >>> (Int32.toUInt32 1 &&& Int32.toUInt32 31)).toInt32) = zI (x.toUInt32.toNat / 2) := by
  have e : Int32.toUInt32 x >>> (Int32.toUInt32 1 &&& Int32.toUInt32 31) = UInt32.ofNat (x.toUInt32.toNat / 2) := by
    apply UInt32.toNat_inj.mp
    have h := x.toUInt32.toNat_lt
    rw [UInt32.toNat_shiftRight, UInt32.toNat_ofNat_of_lt' (by show x.toUInt32.toNat / 2 < 4294967296; omega)]
    show x.toUInt32.toNat >>> 1 = _
    exact Nat.shiftRight_eq_div_pow _ 1
  rw [e]
  rfl
theorem l_cell {sc : Nat × (Nat → Int32)} (hsc : sc.1 < 2147483648) {k : Nat} (hk : k < 2147483648) (w : XW) : ∃ r, f_L_cell sc (zI k) w = some (r, w) := by
  unfold f_L_cell f_L_cell_16
  by_cases h : sc.1 ≤ k
  · exact ⟨_, if_pos (by show zI sc.1 ≤ zI k; rw [zI_le hsc hk]; exact h)⟩
  · refine ⟨_, (if_neg (by show ¬ (zI sc.1 ≤ zI k); rw [zI_le hsc hk]; exact h)).trans (if_pos (by rw [inB_z hk]; omega))⟩
theorem l_pick {sc : Nat × (Nat → Int32)} (hsc : sc.1 < 2147483648) {k m : Nat} (hk : k < 2147483648) (hm : 1 ≤ m) (hm2 : m < 2147483648) (w : XW) : ∃ v, v < m ∧ f_L_pick sc (zI k) (zI m) w = some (zI v, w) := by
  obtain ⟨r, e⟩ := l_cell hsc hk w
  have ha : r.toUInt32.toNat / 2 < 2147483648 := by have := r.toUInt32.toNat_lt; omega
  refine ⟨r.toUInt32.toNat / 2 % m, Nat.mod_lt _ (by omega), ?_⟩
  unfold f_L_pick
  rw [e, bI_s, if_pos (by rw [zl_0, zI_inj (by omega) (by omega)]; omega), ushr1, zI_div ha hm2, zI_mul, zI_sub (Nat.div_mul_le_self _ _)]
  have h1 := Nat.div_add_mod (r.toUInt32.toNat / 2) m
  rw [Nat.mul_comm] at h1
  rw [show r.toUInt32.toNat / 2 - r.toUInt32.toNat / 2 / m * m = r.toUInt32.toNat / 2 % m by omega]
def chT (tx : List Int32) (i : Nat) : Nat := (tx.getD i 0).toNatClampNeg
theorem chT_z {tx : List Int32} (hok : TXok tx) (i : Nat) : tx.getD i 0 = zI (chT tx i) ∧ chT tx i < 128 := by
  obtain ⟨k, hk, e⟩ := ch_cases (getD_ok hok i)
  have e2 : chT tx i = k := by unfold chT; rw [e]; exact zI_nat (by omega)
  rw [e2]
  exact ⟨e, hk⟩
theorem chT_far {tx : List Int32} {i : Nat} (h : tx.length ≤ i) : chT tx i = 0 := by
  unfold chT
  rw [List.getD_eq_getElem?_getD, List.getElem?_eq_none h]
  rfl
theorem l_feed1 {w : XW} {t c : Nat} (ht : t < 60) (hc : c < 65536) (h : w.1 132 1 = zI t) : f_L_feed (zI c) w = some (zI (t + 1), wset (wset w 133 t (zI c)) 132 1 (zI (t + 1))) := by
  have hput : f_X6_put 132 (zI c) w = some (wset (wset w 133 t (zI c)) 132 1 (zI (t + 1))) := by
    unfold f_X6_put
    rw [h, row132]
    show (if zI 60 ≤ zI t then _ else _) = _
    rw [if_neg (by rw [zI_le (by omega) (by omega)]; omega), if_pos (by rw [inB_z (by omega)]; omega), ch_nar hc, zI_nat (by omega), wset_at, if_neg (by omega), h, zl_1, zI_add]
  unfold f_L_feed f_X10_feed f_X6_isFull
  rw [h, row132]
  show bCI (bI (if zI t < zI 60 then _ else _) _) _ _ = _
  rw [if_pos (by rw [zI_lt (by omega) (by omega)]; omega), bI_s, if_pos (by rfl), hput, bV_s, wset_hit, bCI_s]
/-- all but the text buffer stays -/
def FT (w w' : XW) : Prop := Fr (fun a => a = 132 ∨ a = 133) w w' ∧ ∀ c, c ≠ 1 → w'.1 132 c = w.1 132 c
theorem tch_B : ∀ c, c < 128 → (((zI c) &&& 255).toUInt32 % 65536).toInt32 = zI c := by decide +kernel
theorem l_feeds_loop {tx : List Int32} (hok : TXok tx) (hlen : tx.length ≤ 30) : ∀ (d fuel k : Nat) (w : XW), k + d = tx.length → d < fuel → w.1 132 1 = zI k → (∀ i, i < k → w.1 133 i = zI (chT tx i)) → ∃ w', f_L_feeds_2 tx fuel (zI k) w = some w' ∧ FT w w' ∧ w'.1 132 1 = zI tx.length ∧ ∀ i, i < tx.length → w'.1 133 i = zI (chT tx i) := by
  have tl : ∀ w : XW, f_tlen tx w = some (zI tx.length, w) := fun w => by
    unfold f_tlen
    rw [if_pos (by omega), shr0]
    rfl
  intro d
  induction d with
  | zero =>
    intro fuel k w hk hf h1 h2
    cases fuel with
    | zero => omega
    | succ fuel =>
      refine ⟨w, ?_, ⟨Fr.rf, fun _ _ => rfl⟩, by rw [h1, show k = tx.length by omega], fun i hi => h2 i (by omega)⟩
      unfold f_L_feeds_2
      rw [tl, bI_s, if_pos (by rw [zI_le (by omega) (by omega)]; omega)]
  | succ d ih =>
    intro fuel k w hk hf h1 h2
    cases fuel with
    | zero => omega
    | succ fuel =>
      obtain ⟨c1, c2⟩ := chT_z hok k
      have tc : f_tchar tx (zI k) w = some (zI (chT tx k), w) := by
        unfold f_tchar
        rw [if_pos ⟨by omega, by rw [zl_0, zI_lt (by omega) (by omega)]; omega, by show zI k < zI tx.length; rw [zI_lt (by omega) (by omega)]; omega⟩, zI_nat (by omega), c1, tch_B _ c2]
      obtain ⟨w2, e2, f2, g1, g2⟩ := ih fuel (k + 1) (wset (wset w 133 k (zI (chT tx k))) 132 1 (zI (k + 1))) (by omega) (by omega) (wset_hit _ _ _ _) (fun i hi => by
        rw [wset_at, if_neg (by omega), wset_at]
        by_cases z : i = k
        · rw [if_pos ⟨rfl, z⟩, z]
        · rw [if_neg (by omega)]; exact h2 i (by omega))
      refine ⟨w2, ?_, ⟨((fr1 _ _).wk fun a z => Or.inr z).tr (((fr1 _ _).wk fun a z => Or.inl z).tr f2.1), fun c hc => ?_⟩, g1, g2⟩
      · unfold f_L_feeds_2
        rw [tl, bI_s, if_neg (by rw [zI_le (by omega) (by omega)]; omega), tc, bI_s, l_feed1 (by omega) (by omega) h1, bI_s, zl_1, zI_add]
        exact e2
      · rw [f2.2 c hc, wset_at, if_neg (by omega), wset_at, if_neg (by omega)]
theorem l_feeds {tx : List Int32} (hok : TXok tx) (hlen : tx.length ≤ 30) {w : XW} (h0 : w.1 132 1 = zI 0) : ∃ w', f_L_feeds tx w = some w' ∧ FT w w' ∧ CT w' tx.length (chT tx) := by
  obtain ⟨w', e, f, g1, g2⟩ := l_feeds_loop hok hlen tx.length 40 0 w (by omega) (by omega) h0 (fun i hi => absurd hi (Nat.not_lt_zero i))
  exact ⟨w', e, f, by omega, g1, g2, fun i => by have := (chT_z hok i).2; omega, fun i hi => chT_far hi⟩
/-! a search that reads to the end -/
def cnt (F : Nat → Nat) (V : Nat → Bool) : Nat := sm (fun k => (V k).toNat) (F 0)
theorem MK.cnt {n m : Nat} {S : Nat → Bool} (h : MK n m S) (hn : n ≤ 7) : pcB m = sm (fun k => (S k).toNat) n := by
  have hlt := h.lt hn
  unfold pcB
  rw [sm_cut (n := n) 8 (by omega) (fun k h1 h2 => bt_big (Nat.lt_of_lt_of_le h.1 (Nat.pow_le_pow_right (by decide) h1)))]
  exact sm_congr fun k hk => by rw [tb_B m hlt k (by omega), h.2 k hk]
section
variable {w : XW} {F : Nat → Nat}
theorem l_search {t : Nat} {ch : Nat → Nat} {V : Nat → Bool} (hC : Cls w.1 1 F) (hI : Inv F) (T0 : CT w t ch) (hPG : PG ch (stF F) 400 4 0 nV 0 = (false, V, t)) : ∃ w', f_L_search w = some (zI (cnt F V), w') ∧ Fr (fun a => a = 136 ∨ a = 137) w w' := by
  have a1 := hI.1
  obtain ⟨wa, e1, e2, e3⟩ := c_askAll hC hI
  have T : CT wa t ch := ⟨T0.1, by rw [e2.at (by omega)]; exact T0.2.1, fun i hi => by rw [e2.at (by omega)]; exact T0.2.2.1 i hi, T0.2.2.2⟩
  obtain ⟨x, wb, f1, f2, f3, f4, f5⟩ := c_read T e3
  rw [hPG] at f5
  rcases f5 with ⟨y1, y2, y3, m, rfl, hm⟩ | ⟨y1, y2⟩
  · refine ⟨wb, ?_, e2.tr ⟨fun a h => by funext c; exact f3 a c (by omega), f2⟩⟩
    have hlt := hm.lt a1
    unfold f_L_search f_X10_search
    rw [e1, bV_s, f1, bI_s, y3]
    show bCI (bVX (some (.inl wb)) _) _ _ = _
    rw [bVX_s, z_bitCount (by omega), bI_s, bCI_s, hm.cnt a1]
    rfl
  · rcases y1 with y1 | y1
    · cases y1
    · exact absurd rfl y1
theorem l_matches {t s : Nat} {ch : Nat → Nat} {V : Nat → Bool} (hC : Cls w.1 1 F) (hI : Inv F) (hs : s < F 0) (T0 : CT w t ch) (hPG : PG ch (stF F) 400 4 0 nV 0 = (false, V, t)) : ∃ w', f_L_matches (zI s) w = some (zI (V s).toNat, w') ∧ Fr (fun a => a = 136 ∨ a = 137) w w' := by
  obtain ⟨wa, e1, e2, e3⟩ := c_askOne hC hI hs
  have T : CT wa t ch := ⟨T0.1, by rw [e2.at (by omega)]; exact T0.2.1, fun i hi => by rw [e2.at (by omega)]; exact T0.2.2.1 i hi, T0.2.2.2⟩
  obtain ⟨x, wb, f1, f2, f3, f4, f5⟩ := c_read T e3
  rw [hPG] at f5
  rcases f5 with ⟨y1, y2, y3, m, rfl, hm⟩ | ⟨y1, y2⟩
  · refine ⟨wb, ?_, e2.tr ⟨fun a h => by funext c; exact f3 a c (by omega), f2⟩⟩
    have hm1 : m = (V s).toNat := hm.one
    unfold f_L_matches f_X10_matches
    rw [rS hC hI hs, bVX_s, e1, bV_s, f1, bI_s, y3]
    show bCI (bVX (some (.inl wb)) _) _ _ = _
    rw [bVX_s, hm1]
    cases V s
    · rfl
    · rfl
  · rcases y1 with y1 | y1
    · cases y1
    · exact absurd rfl y1
theorem l_clear {t : Nat} (h : w.1 132 1 = zI t) : f_X10_clearText w = some (zI t, wset w 132 1 (zI 0)) := by
  unfold f_X10_clearText f_X6_empty
  rw [bV_s, h]
  rfl
/-- the buffer is as it was -/
theorem FT.back {w w1 w2 : XW} (h : FT w w1) (h0 : w.1 132 1 = zI 0) (f : Fr (fun a => a = 136 ∨ a = 137) w1 w2) : Fr KF w (wset w2 132 1 (zI 0)) := by
  refine ⟨fun a ha => ?_, f.2.trans h.1.2⟩
  funext c
  have ha : ¬ KF a := ha
  unfold KF at ha
  rw [wset_at]
  by_cases z : a = 132 ∧ c = 1
  · rw [if_pos z, z.1, z.2, h0]
  · rw [if_neg z, f.at (by omega)]
    by_cases z2 : a = 132
    · subst z2; exact h.2 c (fun e => z ⟨rfl, e⟩)
    · exact h.1.at (by omega) c
theorem l_finds {tx : List Int32} {V : Nat → Bool} (hC : Cls w.1 1 F) (hI : Inv F) (h0 : w.1 132 1 = zI 0) (hok : TXok tx) (hlen : tx.length ≤ 30) (hPG : PG (chT tx) (stF F) 400 4 0 nV 0 = (false, V, tx.length)) : ∃ w', f_L_finds tx w = some (zI (cnt F V), w') ∧ Fr KF w w' := by
  obtain ⟨w1, e1, f1, T⟩ := l_feeds hok hlen h0
  have hC1 : Cls w1.1 1 F := hC.fr f1.1 (fun a h1 h2 => by omega)
  obtain ⟨w2, e2, f2⟩ := l_search hC1 hI T hPG
  refine ⟨wset w2 132 1 (zI 0), ?_, f1.back h0 f2⟩
  unfold f_L_finds
  rw [e1, bV_s, e2, bI_s, l_clear (t := tx.length) (by rw [f2.at (by omega)]; exact T.2.1), bI_s]
  unfold f_tlen f_L_finds_28
  rw [if_pos (by omega), bI_s, shr0, if_pos (by rfl)]
end
/-! readings -/
section
variable {ch : Nat → Nat} {S : Nat → Nat → Bool} {f op p q : Nat} {v U : Nat → Bool} {r : PR}
theorem pF {i : Nat} (hi : i < 8) (h : ch p = 97 + i) : PG ch S (f + 1) 0 op v p = (false, S i, p + 1) := (PG0.trans (if_pos (by omega))).trans (by rw [h, Nat.add_sub_cancel_left])
theorem pN (h : ch p = 45) (hr : PG ch S f 0 op nV (p + 1) = (false, U, q)) : PG ch S (f + 1) 0 op v p = (false, fun k => !U k, q) := by
  rw [PG0, if_neg (by omega), if_pos h, hr]
theorem pP (h : ch p = 40) (ho : op ≠ 4) (hr : PG ch S f 4 (op + 1) nV (p + 1) = (false, U, q)) (hc : ch q = 41) : PG ch S (f + 1) 0 op v p = (false, U, q + 1) := by
  rw [PG0, if_neg (by omega), if_neg (by omega), if_pos h, if_neg ho, hr]
  unfold PGc
  exact (if_neg Bool.false_ne_true).trans (if_pos hc)
theorem p2 (h0 : PG ch S f 0 op nV p = (false, U, q)) (h1 : PG ch S f 1 op U q = r) : PG ch S (f + 1) 2 op v p = r := by
  rw [PG2, h0]
  unfold PGj
  exact (if_neg Bool.false_ne_true).trans h1
theorem p1n {c : Nat} (h : ch p = c) (hc : ¬ isF c) : PG ch S (f + 1) 1 op v p = (false, v, p) := PG1.trans (if_neg (by rw [h]; exact hc))
theorem p1y {c : Nat} (h : ch p = c) (hc : isF c) (h0 : PG ch S f 0 op nV p = (false, U, q)) (h1 : PG ch S f 1 op (fun k => v k && U k) q = r) : PG ch S (f + 1) 1 op v p = r := by
  rw [PG1, if_pos (by rw [h]; exact hc), h0]
  unfold PGj
  exact (if_neg Bool.false_ne_true).trans h1
theorem p4 (h0 : PG ch S f 2 op nV p = (false, U, q)) (h1 : PG ch S f 3 op U q = r) : PG ch S (f + 1) 4 op v p = r := by
  rw [PG4, h0]
  unfold PGj
  exact (if_neg Bool.false_ne_true).trans h1
theorem p3n {c : Nat} (h : ch p = c) (hc : c ≠ 43) : PG ch S (f + 1) 3 op v p = (false, v, p) := PG3.trans (if_neg (by rw [h]; exact hc))
theorem p3y (h : ch p = 43) (h0 : PG ch S f 2 op nV (p + 1) = (false, U, q)) (h1 : PG ch S f 3 op (fun k => v k || U k) q = r) : PG ch S (f + 1) 3 op v p = r := by
  rw [PG3, if_pos h, h0]
  unfold PGj
  exact (if_neg Bool.false_ne_true).trans h1
end
section
variable {ch : Nat → Nat} {S : Nat → Nat → Bool} {i j : Nat}
theorem isL (hi : i < 8) : isF (97 + i) := Or.inr (Or.inr (by omega))
theorem rd_a (hi : i < 8) (h0 : ch 0 = 97 + i) (h1 : ch 1 = 0) : PG ch S 400 4 0 nV 0 = (false, S i, 1) :=
  p4 (f := 399) (p2 (f := 398) (pF (f := 397) hi h0) (p1n (f := 397) h1 (by decide))) (p3n (f := 398) h1 (by decide))
theorem rd_ab (hi : i < 8) (hj : j < 8) (h0 : ch 0 = 97 + i) (h1 : ch 1 = 97 + j) (h2 : ch 2 = 0) : PG ch S 400 4 0 nV 0 = (false, fun k => S i k && S j k, 2) :=
  p4 (f := 399) (p2 (f := 398) (pF (f := 397) hi h0) (p1y (f := 397) h1 (isL hj) (pF (f := 396) hj h1) (p1n (f := 396) h2 (by decide)))) (p3n (f := 398) h2 (by decide))
theorem rd_aob (hi : i < 8) (hj : j < 8) (h0 : ch 0 = 97 + i) (h1 : ch 1 = 43) (h2 : ch 2 = 97 + j) (h3 : ch 3 = 0) : PG ch S 400 4 0 nV 0 = (false, fun k => S i k || S j k, 3) :=
  p4 (f := 399) (p2 (f := 398) (pF (f := 397) hi h0) (p1n (f := 397) h1 (by decide))) (p3y (f := 398) h1 (p2 (f := 397) (pF (f := 396) hj h2) (p1n (f := 396) h3 (by decide))) (p3n (f := 397) h3 (by decide)))
theorem rd_na (hi : i < 8) (h0 : ch 0 = 45) (h1 : ch 1 = 97 + i) (h2 : ch 2 = 0) : PG ch S 400 4 0 nV 0 = (false, fun k => !S i k, 2) :=
  p4 (f := 399) (p2 (f := 398) (pN (f := 397) h0 (pF (f := 396) hi h1)) (p1n (f := 397) h2 (by decide))) (p3n (f := 398) h2 (by decide))
theorem rd_anb (hi : i < 8) (hj : j < 8) (h0 : ch 0 = 97 + i) (h1 : ch 1 = 45) (h2 : ch 2 = 97 + j) (h3 : ch 3 = 0) : PG ch S 400 4 0 nV 0 = (false, fun k => S i k && !S j k, 3) :=
  p4 (f := 399) (p2 (f := 398) (pF (f := 397) hi h0) (p1y (f := 397) h1 (by decide) (pN (f := 396) h1 (pF (f := 395) hj h2)) (p1n (f := 396) h3 (by decide)))) (p3n (f := 398) h3 (by decide))
theorem rd_nab (hi : i < 8) (hj : j < 8) (h0 : ch 0 = 45) (h1 : ch 1 = 40) (h2 : ch 2 = 97 + i) (h3 : ch 3 = 43) (h4 : ch 4 = 97 + j) (h5 : ch 5 = 41) (h6 : ch 6 = 0) : PG ch S 400 4 0 nV 0 = (false, fun k => !(S i k || S j k), 6) :=
  p4 (f := 399) (p2 (f := 398) (pN (f := 397) h0 (pP (f := 396) h1 (by decide) (p4 (f := 395) (p2 (f := 394) (pF (f := 393) hi h2) (p1n (f := 393) h3 (by decide))) (p3y (f := 394) h3 (p2 (f := 393) (pF (f := 392) hj h4) (p1n (f := 392) h5 (by decide))) (p3n (f := 393) h5 (by decide)))) h5)) (p1n (f := 397) h6 (by decide))) (p3n (f := 398) h6 (by decide))
theorem rd_aonb (hi : i < 8) (hj : j < 8) (h0 : ch 0 = 40) (h1 : ch 1 = 97 + i) (h2 : ch 2 = 43) (h3 : ch 3 = 45) (h4 : ch 4 = 97 + j) (h5 : ch 5 = 41) (h6 : ch 6 = 0) : PG ch S 400 4 0 nV 0 = (false, fun k => S i k || !S j k, 6) :=
  p4 (f := 399) (p2 (f := 398) (pP (f := 397) h0 (by decide) (p4 (f := 396) (p2 (f := 395) (pF (f := 394) hi h1) (p1n (f := 394) h2 (by decide))) (p3y (f := 395) h2 (p2 (f := 394) (pN (f := 393) h3 (pF (f := 392) hj h4)) (p1n (f := 393) h5 (by decide))) (p3n (f := 394) h5 (by decide)))) h5) (p1n (f := 397) h6 (by decide))) (p3n (f := 398) h6 (by decide))
end
