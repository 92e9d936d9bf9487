/-! the law's sum over a state: a number that the state alone decides -/
theorem bL_s {ρ : Type} (a : Int64) (w : XW) (K : Int64 → XW → Option ρ) : bL (some (a, w)) K = K a w := rfl
def lyV (F : Nat → Nat) (i : Nat) : Int32 := if i < F 1 then zI (ixL (plF F) i) else -75
def sTm (F : Nat → Nat) (i : Nat) : Nat → Int64 → Nat → Int64
  | 0, v, _ => v
  | d + 1, v, t => sTm F i d ((2 * v) + (Int32.toInt64 (zI (bt (F (12 + i)) t)))) (t + 1)
def sSc (F : Nat → Nat) : Nat → Int64 → Nat → Int64
  | 0, v, _ => v
  | d + 1, v, i => sSc F d (sTm F i 8 (((31 * v) + (1009 * (Int32.toInt64 (zI (F (5 + i)))))) + (Int32.toInt64 (lyV F i))) 0) (i + 1)
def sPp (F : Nat → Nat) : Nat → Int64 → Nat → Int64
  | 0, v, _ => v
  | d + 1, v, p => sPp F d (((((31 * v) + (1009 * (Int32.toInt64 (zI (F (28 + 4 * p)))))) + (101 * (Int32.toInt64 (zI (F (26 + 4 * p)))))) + (7 * (Int32.toInt64 (zI (F (27 + 4 * p)))))) + (Int32.toInt64 (zI (F (29 + 4 * p))))) (p + 1)
def sumV (F : Nat → Nat) : Int64 := sPp F (F 2) (sSc F (F 0) (((1009 * (Int32.toInt64 (zI (F 3)))) + (31 * (Int32.toInt64 (zI (F 4))))) + (Int32.toInt64 (zI (F 1)))) 0) 0 + (31 * (Int32.toInt64 (zI (F 0))))
section
variable {w : XW} {F : Nat → Nat}
theorem l_sumP (hC : Cls w.1 1 F) (hI : Inv F) : ∀ (d fuel p : Nat) (v : Int64), p + d = F 2 → d < fuel → f_L_sum_104 fuel v (zI p) w = some (sPp F d v p + (31 * (Int32.toInt64 (zI (F 0)))), w) := by
  have h10 := hI.2.2.1
  intro d
  induction d with
  | zero =>
    intro fuel p v hp hf
    cases fuel with
    | zero => omega
    | succ fuel =>
      unfold f_L_sum_104
      rw [a_pipes hC, bI_s, if_pos (by rw [zI_le (by omega) (by omega)]; omega), a_count hC, bI_s]
      rfl
  | succ d ih =>
    intro fuel p v hp hf
    cases fuel with
    | zero => omega
    | succ fuel =>
      unfold f_L_sum_104
      rw [a_pipes hC, bI_s, if_neg (by rw [zI_le (by omega) (by omega)]; omega), a_cap hC hI (by omega), bI_s, a_from hC hI (by omega), bI_s, a_to hC hI (by omega), bI_s, a_brk hC hI (by omega), bI_s, zl_1, zI_add, ih fuel (p + 1) _ (by omega) (by omega)]
      rfl
theorem l_sumT (hC : Cls w.1 1 F) (hI : Inv F) {i : Nat} (hi : i < F 0) (K : Int64 → Int32 → XW → Option (Int64 × XW)) : ∀ (d fuel t : Nat) (v : Int64), t + d = 8 → d < fuel → f_L_sum_64 K (zI i) fuel v (zI (97 + t)) w = K (sTm F i d v t) (zI (i + 1)) w := by
  intro d
  induction d with
  | zero =>
    intro fuel t v ht hf
    cases fuel with
    | zero => omega
    | succ fuel =>
      unfold f_L_sum_64
      rw [if_pos (by rw [zl_104, zI_lt (by omega) (by omega)]; omega), zl_1, zI_add]
      rfl
  | succ d ih =>
    intro fuel t v ht hf
    cases fuel with
    | zero => omega
    | succ fuel =>
      unfold f_L_sum_64
      rw [if_neg (by rw [zl_104, zI_lt (by omega) (by omega)]; omega), a_hasTerm hC hI hi (by omega), bI_s, zl_1, zI_add, ch_i2c, chN_zI (by omega), show 97 + t + 1 = 97 + (t + 1) by omega, ih fuel (t + 1) _ (by omega) (by omega)]
      rfl
theorem l_sumS (hC : Cls w.1 1 F) (hI : Inv F) : ∀ (d fuel i : Nat) (v : Int64), i + d = F 0 → d < fuel → f_L_sum_28 fuel v (zI i) w = some (sPp F (F 2) (sSc F d v i) 0 + (31 * (Int32.toInt64 (zI (F 0)))), w) := by
  have h7 := hI.1
  have h10 := hI.2.2.1
  intro d
  induction d with
  | zero =>
    intro fuel i v hi hf
    cases fuel with
    | zero => omega
    | succ fuel =>
      unfold f_L_sum_28
      rw [a_count hC, bI_s, if_pos (by rw [zI_le (by omega) (by omega)]; omega), zl_0, l_sumP hC hI (F 2) 12 0 v (by omega) (by omega)]
      rfl
  | succ d ih =>
    intro fuel i v hi hf
    cases fuel with
    | zero => omega
    | succ fuel =>
      have hly : f_L_layerOf (zI i) w = some (lyV F i, w) := by
        unfold lyV
        by_cases h : i < F 1
        · rw [if_pos h]; exact a_layerOf hC hI h
        · rw [if_neg h]; exact a_layerNo hC hI (by omega) (by omega)
      unfold f_L_sum_28
      rw [a_count hC, bI_s, if_neg (by rw [zI_le (by omega) (by omega)]; omega), a_water hC hI (by omega), bI_s, hly, bI_s, zl_97, show (97 : Nat) = 97 + 0 from rfl, l_sumT hC hI (by omega) _ 8 12 0 _ (by omega) (by omega), ih fuel (i + 1) _ (by omega) (by omega)]
      rfl
theorem l_theSum (hC : Cls w.1 1 F) (hI : Inv F) : f_L_sum w = some (sumV F, w) := by
  have h7 := hI.1
  unfold f_L_sum
  rw [a_poured hC, bI_s, a_leaked hC, bI_s, a_folded hC, bI_s, zl_0, l_sumS hC hI (F 0) 12 0 _ (by omega) (by omega)]
  rfl
/-! what the folded sections have above 20 units -/
def ovS (F : Nat → Nat) (k : Nat) : Nat := sm (fun i => F (5 + i) - 20) k
theorem l_over_loop (hC : Cls w.1 1 F) (hI : Inv F) : ∀ (d fuel i : Nat), i + d = F 1 → d < fuel → f_L_over_4 fuel (zI (ovS F i)) (zI i) w = some (zI (ovS F (F 1)), w) := by
  have h7 := hI.1
  have h1 := hI.2.1
  intro d
  induction d with
  | zero =>
    intro fuel i hi hf
    cases fuel with
    | zero => omega
    | succ fuel =>
      unfold f_L_over_4
      rw [a_folded hC, bI_s, if_pos (by rw [zI_le (by omega) (by omega)]; omega), show i = F 1 by omega]
  | succ d ih =>
    intro fuel i hi hf
    cases fuel with
    | zero => omega
    | succ fuel =>
      have h99 := (hI.2.2.2.2.1 i (by omega)).1
      have e : (if (0 : Int32) < zI (F (5 + i)) - 20 then zI (F (5 + i)) - 20 else 0) = zI (F (5 + i) - 20) := by
        rw [zl_0, zl_20]
        by_cases z : 20 < F (5 + i)
        · rw [if_pos (by rw [zs20_lt (by omega)]; exact z), zI_sub (by omega)]
        · rw [if_neg (by rw [zs20_lt (by omega)]; exact z), show F (5 + i) - 20 = 0 by omega]
      unfold f_L_over_4
      rw [a_folded hC, bI_s, if_neg (by rw [zI_le (by omega) (by omega)]; omega), a_water hC hI (by omega), bI_s, e, zl_1, zI_add, zI_add]
      exact ih fuel (i + 1) (by omega) (by omega)
theorem l_over (hC : Cls w.1 1 F) (hI : Inv F) : f_L_over w = some (zI (ovS F (F 1)), w) := by
  have h7 := hI.1
  have h1 := hI.2.1
  unfold f_L_over
  rw [zl_0]
  exact l_over_loop hC hI (F 1) 12 0 (by omega) (by omega)
end
