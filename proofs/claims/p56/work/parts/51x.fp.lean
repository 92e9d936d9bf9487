/-! no NaN: quotients of counted numbers -/
theorem fp_b32 : FP.Core.b32.tails = 8388608 ∧ FP.Core.b32.exps = 256 ∧ FP.Core.b32.qmin = -149 ∧ FP.Core.b32.qmax = 104 ∧ FP.Core.b32.p = 24 := by decide
theorem fp_b64 : FP.Core.b64.tails = 4503599627370496 ∧ FP.Core.b64.exps = 2048 ∧ FP.Core.b64.qmin = -1074 ∧ FP.Core.b64.qmax = 971 ∧ FP.Core.b64.p = 53 := by decide
theorem ok32_nat (n : Nat) (h : n % 2147483648 ≤ 2139095040) (h2 : n < 4294967296) : okF32 (UInt32.ofNat n) := by
  show (UInt32.ofNat n &&& 2147483647) ≤ 2139095040
  rw [UInt32.le_iff_toNat_le, UInt32.toNat_and, UInt32.toNat_ofNat_of_lt' (by simpa using h2)]
  have e : (2147483647 : UInt32).toNat = 2 ^ 31 - 1 := rfl
  rw [e, Nat.and_two_pow_sub_one_eq_mod]
  exact h
theorem ok64_nat (n : Nat) (h : n % 9223372036854775808 ≤ 9218868437227405312) (h2 : n < 18446744073709551616) : okF64 (UInt64.ofNat n) := by
  show (UInt64.ofNat n &&& 9223372036854775807) ≤ 9218868437227405312
  rw [UInt64.le_iff_toNat_le, UInt64.toNat_and, UInt64.toNat_ofNat_of_lt' (by simpa using h2)]
  have e : (9223372036854775807 : UInt64).toNat = 2 ^ 63 - 1 := rfl
  rw [e, Nat.and_two_pow_sub_one_eq_mod]
  exact h
theorem asm32 (s : Bool) (e t : Nat) (he : e ≤ 255) (ht : t < 8388608) (h : e = 255 → t = 0) : okF32 (UInt32.ofNat (FP.Core.assemble FP.Core.b32 s e t)) := by
  obtain ⟨b1, b2, _⟩ := fp_b32
  unfold FP.Core.assemble
  rw [b1, b2]
  cases s
  · refine ok32_nat _ ?_ ?_ <;> simp only [Bool.toNat_false] <;> omega
  · refine ok32_nat _ ?_ ?_ <;> simp only [Bool.toNat_true] <;> omega
theorem asm64 (s : Bool) (e t : Nat) (he : e ≤ 2047) (ht : t < 4503599627370496) (h : e = 2047 → t = 0) : okF64 (UInt64.ofNat (FP.Core.assemble FP.Core.b64 s e t)) := by
  obtain ⟨b1, b2, _⟩ := fp_b64
  unfold FP.Core.assemble
  rw [b1, b2]
  cases s
  · refine ok64_nat _ ?_ ?_ <;> simp only [Bool.toNat_false] <;> omega
  · refine ok64_nat _ ?_ ?_ <;> simp only [Bool.toNat_true] <;> omega
theorem bnd32 (s : Bool) (c : Nat) (q : Int) (hc : c < 16777216) : okF32 (UInt32.ofNat (FP.Core.encode FP.Core.b32 (FP.Core.bound FP.Core.b32 s c q))) := by
  obtain ⟨b1, b2, b3, b4, b5⟩ := fp_b32
  unfold FP.Core.bound
  by_cases h : q ≤ FP.Core.b32.qmax
  · rw [if_pos h]
    rw [b4] at h
    unfold FP.Core.encode
    by_cases h2 : c < FP.Core.b32.tails
    · simp only [h2, if_true]
      rw [b1] at h2
      exact asm32 _ _ _ (by omega) h2 (fun z => by omega)
    · simp only [h2, if_false]
      rw [b1] at h2
      rw [b1, b3]
      exact asm32 _ _ _ (by omega) (by omega) (fun z => by omega)
  · rw [if_neg h]
    unfold FP.Core.encode
    rw [b2]
    exact asm32 _ _ _ (by omega) (by omega) (fun _ => rfl)
theorem bnd64 (s : Bool) (c : Nat) (q : Int) (hc : c < 9007199254740992) : okF64 (UInt64.ofNat (FP.Core.encode FP.Core.b64 (FP.Core.bound FP.Core.b64 s c q))) := by
  obtain ⟨b1, b2, b3, b4, b5⟩ := fp_b64
  unfold FP.Core.bound
  by_cases h : q ≤ FP.Core.b64.qmax
  · rw [if_pos h]
    rw [b4] at h
    unfold FP.Core.encode
    by_cases h2 : c < FP.Core.b64.tails
    · simp only [h2, if_true]
      rw [b1] at h2
      exact asm64 _ _ _ (by omega) h2 (fun z => by omega)
    · simp only [h2, if_false]
      rw [b1] at h2
      rw [b1, b3]
      exact asm64 _ _ _ (by omega) (by omega) (fun z => by omega)
  · rw [if_neg h]
    unfold FP.Core.encode
    rw [b2]
    exact asm64 _ _ _ (by omega) (by omega) (fun _ => rfl)
theorem rr32 (s : Bool) (a b : Nat) (e : Int) : okF32 (UInt32.ofNat (FP.Core.encode FP.Core.b32 (FP.Core.roundRatio FP.Core.b32 s a b e))) := by
  obtain ⟨b1, b2, b3, b4, b5⟩ := fp_b32
  unfold FP.Core.roundRatio
  by_cases h : a = 0
  · rw [if_pos h]
    unfold FP.Core.encode
    dsimp only
    rw [if_pos (show 0 < FP.Core.b32.tails by rw [b1]; omega)]
    exact asm32 _ _ _ (by omega) (by omega) (fun z => by omega)
  · rw [if_neg h]
    unfold FP.Core.roundAt FP.Core.settle
    split
    · rename_i h2
      rw [b5] at h2
      exact bnd32 _ _ _ (by omega)
    · exact bnd32 _ _ _ (by rw [b1]; omega)
theorem rr64 (s : Bool) (a b : Nat) (e : Int) : okF64 (UInt64.ofNat (FP.Core.encode FP.Core.b64 (FP.Core.roundRatio FP.Core.b64 s a b e))) := by
  obtain ⟨b1, b2, b3, b4, b5⟩ := fp_b64
  unfold FP.Core.roundRatio
  by_cases h : a = 0
  · rw [if_pos h]
    unfold FP.Core.encode
    dsimp only
    rw [if_pos (show 0 < FP.Core.b64.tails by rw [b1]; omega)]
    exact asm64 _ _ _ (by omega) (by omega) (fun z => by omega)
  · rw [if_neg h]
    unfold FP.Core.roundAt FP.Core.settle
    split
    · rename_i h2
      rw [b5] at h2
      exact bnd64 _ _ _ (by omega)
    · exact bnd64 _ _ _ (by rw [b1]; omega)
def finD : FP.Core.Datum → Bool
  | .fin _ _ _ => true
  | _ => false
def finP : FP.Core.Datum → Bool
  | .fin _ c _ => c != 0
  | _ => false
theorem quo32 {d e : FP.Core.Datum} (hd : finD d = true) (he : finP e = true) : okF32 (UInt32.ofNat (FP.Core.encode FP.Core.b32 (FP.Core.quotient FP.Core.b32 d e))) := by
  cases d with
  | nan => cases hd
  | inf s => cases hd
  | fin s c q =>
    cases e with
    | nan => cases he
    | inf s => cases he
    | fin t c' r =>
      have h : ¬ (c' = 0) := by simpa [finP] using he
      unfold FP.Core.quotient
      simp only [h, if_false]
      exact rr32 _ _ _ _
theorem quo64 {d e : FP.Core.Datum} (hd : finD d = true) (he : finP e = true) : okF64 (UInt64.ofNat (FP.Core.encode FP.Core.b64 (FP.Core.quotient FP.Core.b64 d e))) := by
  cases d with
  | nan => cases hd
  | inf s => cases hd
  | fin s c q =>
    cases e with
    | nan => cases he
    | inf s => cases he
    | fin t c' r =>
      have h : ¬ (c' = 0) := by simpa [finP] using he
      unfold FP.Core.quotient
      simp only [h, if_false]
      exact rr64 _ _ _ _
theorem i2d_B : ∀ n, n < 700 → finD (FP.Core.decode FP.Core.b64 (FP.i2d (zI n)).toNat) = true ∧ (n = 0 ∨ finP (FP.Core.decode FP.Core.b64 (FP.i2d (zI n)).toNat) = true) := by decide +kernel
theorem mean_ok {a b : Nat} (ha : a < 700) (hb : b < 700) (h0 : b ≠ 0) : okF64 (FP.ddiv (FP.i2d (zI a)) (FP.i2d (zI b))) :=
  quo64 (i2d_B a ha).1 (by rcases (i2d_B b hb).2 with h | h; exact absurd h h0; exact h)
/-- a float that is no NaN, as a double -/
theorem f2d_ok {x : UInt32} (h : okF32 x) : okF64 (FP.f2d x) := by
  obtain ⟨b1, b2, b3, b4, b5⟩ := fp_b32
  obtain ⟨c1, c2, c3, c4, c5⟩ := fp_b64
  have h : (x &&& 2147483647) ≤ 2139095040 := h
  rw [UInt32.le_iff_toNat_le, UInt32.toNat_and] at h
  have e : (2147483647 : UInt32).toNat = 2 ^ 31 - 1 := rfl
  rw [e, Nat.and_two_pow_sub_one_eq_mod] at h
  have h : x.toNat % 2147483648 ≤ 2139095040 := h
  have hE : FP.Core.fieldE FP.Core.b32 x.toNat = FP.Core.b32.exps - 1 → FP.Core.fieldT FP.Core.b32 x.toNat = 0 := by
    unfold FP.Core.fieldE FP.Core.fieldT
    rw [b1, b2]
    intro z
    omega
  have hd : FP.Core.decode FP.Core.b32 x.toNat ≠ .nan := by
    unfold FP.Core.decode
    split
    · rename_i z
      rw [if_pos (hE z)]
      intro q; cases q
    · split
      · intro q; cases q
      · intro q; cases q
  have hn : FP.Core.fIsNaN x = false := by
    unfold FP.Core.fIsNaN FP.Core.isNaN
    exact decide_eq_false hd
  unfold FP.f2d
  rw [hn]
  show okF64 (FP.Core.f2d x)
  unfold FP.Core.f2d FP.Core.convert
  cases hx : FP.Core.decode FP.Core.b32 x.toNat with
  | nan => exact absurd hx hd
  | inf s =>
    unfold FP.Core.round FP.Core.encode
    rw [c2]
    exact asm64 _ _ _ (by omega) (by omega) (fun _ => rfl)
  | fin s c q =>
    unfold FP.Core.round
    exact rr64 _ _ _ _
/-! ints below 2 to the 24th as floats -/
theorem i2f_dec {n : Nat} (h : n < 16777216) : finD (FP.Core.decode FP.Core.b32 (FP.i2f (zI n)).toNat) = true ∧ (n = 0 ∨ finP (FP.Core.decode FP.Core.b32 (FP.i2f (zI n)).toNat) = true) := by
  obtain ⟨b1, b2, b3, b4, b5⟩ := fp_b32
  by_cases h0 : n = 0
  · subst h0
    exact ⟨by decide +kernel, Or.inl rfl⟩
  · have hlog1 : 2 ^ n.log2 ≤ n := Nat.log2_self_le h0
    have hlog2 : n < 2 ^ (n.log2 + 1) := Nat.lt_log2_self
    have hl23 : n.log2 ≤ 23 := by
      have : n.log2 < 24 := (Nat.log2_lt h0).mpr h
      omega
    obtain ⟨L, hL⟩ : ∃ L, L = n.log2 := ⟨_, rfl⟩
    rw [← hL] at hlog1 hlog2 hl23
    have hlead : FP.Core.leading n 1 = (L : Int) := by
      unfold FP.Core.leading
      have e1 : (1 : Nat).log2 = 0 := by decide
      rw [e1, ← hL]
      simp only [Int.ofNat_zero, Int.sub_zero]
      rw [if_pos]
      have e2 : (-(L : Int)).toNat = 0 := by omega
      rw [e2, Int.toNat_natCast]
      omega
    have hq : FP.Core.quantum FP.Core.b32 n 1 0 = (L : Int) - 23 := by
      unfold FP.Core.quantum
      rw [hlead, b3, b5]
      omega
    have hM : FP.Core.nearest (FP.Core.unitsNum n 0 ((L : Int) - 23)) (FP.Core.unitsDen 1 0 ((L : Int) - 23)) = n * 2 ^ (23 - L) := by
      unfold FP.Core.unitsNum FP.Core.unitsDen FP.Core.nearest
      have e1 : ((0 : Int) - ((L : Int) - 23)).toNat = 23 - L := by omega
      have e2 : ((L : Int) - 23 - 0).toNat = 0 := by omega
      rw [e1, e2]
      simp only [Nat.pow_zero, Nat.mul_one, Nat.mod_one, Nat.mul_zero, Nat.div_one]
      rw [if_pos (by omega)]
    have hpow : 2 ^ L * 2 ^ (23 - L) = 8388608 := by
      rw [← Nat.pow_add, show L + (23 - L) = 23 by omega]
    have hpow2 : 2 ^ (L + 1) * 2 ^ (23 - L) = 16777216 := by
      rw [← Nat.pow_add, show L + 1 + (23 - L) = 24 by omega]
    have hlo : 8388608 ≤ n * 2 ^ (23 - L) := by
      rw [← hpow]; exact Nat.mul_le_mul_right _ hlog1
    have hhi : n * 2 ^ (23 - L) < 16777216 := by
      rw [← hpow2]; exact Nat.mul_lt_mul_of_pos_right hlog2 (Nat.pow_pos (by omega))
    obtain ⟨M, hMd⟩ : ∃ M, M = n * 2 ^ (23 - L) := ⟨_, rfl⟩
    rw [← hMd] at hM hlo hhi
    have hb : (FP.i2f (zI n)).toNat = (L + 127) * 8388608 + (M - 8388608) := by
      show (UInt32.ofNat (FP.Core.fromInt FP.Core.b32 (zI n).toInt)).toNat = _
      rw [zI_toInt (by omega)]
      have hfi : FP.Core.fromInt FP.Core.b32 (n : Int) = (L + 127) * 8388608 + (M - 8388608) := by
        unfold FP.Core.fromInt FP.Core.ofInt FP.Core.round
        simp only [Int.natAbs_natCast]
        unfold FP.Core.roundRatio
        rw [if_neg h0, hq]
        unfold FP.Core.roundAt FP.Core.settle
        rw [hM, if_pos (by rw [b5]; omega)]
        unfold FP.Core.bound
        rw [if_pos (by rw [b4]; omega)]
        unfold FP.Core.encode
        simp only [b1, b3]
        rw [if_neg (by omega)]
        unfold FP.Core.assemble
        rw [b1, b2]
        have e3 : decide ((n : Int) < 0) = false := decide_eq_false (by omega)
        rw [e3]
        have e4 : ((L : Int) - 23 - -149).toNat = L + 126 := by omega
        rw [e4]
        simp only [Bool.toNat_false, Nat.zero_mul, Nat.zero_add]
      rw [hfi, UInt32.toNat_ofNat_of_lt' (by show _ < 4294967296; omega)]
    have hdec : finP (FP.Core.decode FP.Core.b32 (FP.i2f (zI n)).toNat) = true := by
      rw [hb]
      have f1 : FP.Core.fieldE FP.Core.b32 ((L + 127) * 8388608 + (M - 8388608)) = L + 127 := by
        unfold FP.Core.fieldE
        rw [b1, b2]
        omega
      unfold FP.Core.decode
      rw [f1, if_neg (by rw [b2]; omega), if_neg (by omega)]
      unfold finP
      rw [b1]
      simp only [bne_iff_ne, ne_eq]
      omega
    refine ⟨?_, Or.inr hdec⟩
    revert hdec
    cases FP.Core.decode FP.Core.b32 (FP.i2f (zI n)).toNat with
    | nan => intro z; cases z
    | inf s => intro z; cases z
    | fin s c q => intro _; rfl
theorem share_ok {a b : Nat} (ha : a < 16777216) (hb : b < 16777216) (h0 : b ≠ 0) : okF32 (FP.fdiv (FP.i2f (zI a)) (FP.i2f (zI b))) :=
  quo32 (i2f_dec ha).1 (by rcases (i2f_dec hb).2 with h | h; exact absurd h h0; exact h)
