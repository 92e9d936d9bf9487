/-! the law's look at the pile -/
def mnN (x y : Nat) : Nat := if y < x then y else x
def mxN (x y : Nat) : Nat := if x < y then y else x
def xB (n : Nat) (P : List Nat) : Bool := alB (fun c => alB (fun d => !(decide (c + 1 < n ∧ d + 1 < n ∧ c < d ∧ (d - c) % 2 = 0)) || !(decide ((mnN (ixL P c) (ixL P (c + 1)) < mnN (ixL P d) (ixL P (d + 1)) ∧ mnN (ixL P d) (ixL P (d + 1)) < mxN (ixL P c) (ixL P (c + 1)) ∧ mxN (ixL P c) (ixL P (c + 1)) < mxN (ixL P d) (ixL P (d + 1))) ∨ (mnN (ixL P d) (ixL P (d + 1)) < mnN (ixL P c) (ixL P (c + 1)) ∧ mnN (ixL P c) (ixL P (c + 1)) < mxN (ixL P d) (ixL P (d + 1)) ∧ mxN (ixL P d) (ixL P (d + 1)) < mxN (ixL P c) (ixL P (c + 1)))))) 7) 7
theorem piles_xB : alB (fun n => alP (xB n) (piles n)) 8 = true := by decide +kernel
theorem piles_x {n : Nat} (hn : n ≤ 7) {P : List Nat} (h : P ∈ piles n) {c d : Nat} (hc : c + 1 < n) (hd : d + 1 < n) (hcd : c < d) (hp : (d - c) % 2 = 0) :
    ¬ (mnN (ixL P c) (ixL P (c + 1)) < mnN (ixL P d) (ixL P (d + 1)) ∧ mnN (ixL P d) (ixL P (d + 1)) < mxN (ixL P c) (ixL P (c + 1)) ∧ mxN (ixL P c) (ixL P (c + 1)) < mxN (ixL P d) (ixL P (d + 1))) ∧ ¬ (mnN (ixL P d) (ixL P (d + 1)) < mnN (ixL P c) (ixL P (c + 1)) ∧ mnN (ixL P c) (ixL P (c + 1)) < mxN (ixL P d) (ixL P (d + 1)) ∧ mxN (ixL P d) (ixL P (d + 1)) < mxN (ixL P c) (ixL P (c + 1))) := by
  have h1 := alB_at (alP_at (alB_at piles_xB n (by omega)) P h) c (by omega)
  have h2 := alB_at h1 d (by omega)
  rw [Bool.or_eq_true, Bool.not_eq_true', Bool.not_eq_true', decide_eq_false_iff_not, decide_eq_false_iff_not] at h2
  rcases h2 with h2 | h2
  · exact absurd ⟨hc, hd, hcd, hp⟩ h2
  · exact ⟨fun z => h2 (Or.inl z), fun z => h2 (Or.inr z)⟩
theorem mn_lt {x y m : Nat} (h1 : x < m) (h2 : y < m) : mnN x y < m := by unfold mnN; split <;> omega
theorem mx_lt {x y m : Nat} (h1 : x < m) (h2 : y < m) : mxN x y < m := by unfold mxN; split <;> omega
theorem zI_mn {x y : Nat} (h1 : x < 2147483648) (h2 : y < 2147483648) : (if zI y < zI x then zI y else zI x) = zI (mnN x y) := zI_min h2 h1
theorem zI_mx {x y : Nat} (h1 : x < 2147483648) (h2 : y < 2147483648) : (if zI x < zI y then zI y else zI x) = zI (mxN x y) := zI_max h1 h2
theorem ip_161 {K48 K60 : Int32 → XW → Option (Int32 × XW)} {y1 y2 y3 : Int32} {z a b e f : Nat} {w : XW} (ha : a < 100) (hb : b < 100) (he : e < 100) (hf : f < 100) (h : ¬ (e < a ∧ a < f ∧ f < b)) : f_L_isPile_161 K48 K60 y1 y2 y3 (zI z) (zI a) (zI b) (zI e) (zI f) w = K60 (zI (z + 2)) w := by
  unfold f_L_isPile_161 f_L_isPile_184
  by_cases h1 : a ≤ e
  · rw [if_pos (by rw [zI_le (by omega) (by omega)]; exact h1), zl_2, zI_add]
  · rw [if_neg (by rw [zI_le (by omega) (by omega)]; exact h1)]
    by_cases h2 : f ≤ a
    · rw [if_pos (by rw [zI_le (by omega) (by omega)]; exact h2), zl_2, zI_add]
    · rw [if_neg (by rw [zI_le (by omega) (by omega)]; exact h2), if_pos (by rw [zI_le (by omega) (by omega)]; omega), zl_2, zI_add]
section
variable {w : XW} {F : Nat → Nat}
theorem ip_60 (hC : Cls w.1 1 F) (hI : Inv F) (K : Int32 → XW → Option (Int32 × XW)) (y2 : Int32) {c : Nat} (hc : c + 1 < F 1) : ∀ (d fuel z : Nat), F 1 ≤ z + 1 + 2 * d → d < fuel → c < z → (z - c) % 2 = 0 → z < 100 → f_L_isPile_60 K (zI (F 1)) y2 (zI c) fuel (zI z) w = K (zI (c + 1)) w := by
  have h7 := hI.1
  have h1 := hI.2.1
  have hL : ∀ s, s < F 1 → ixL (plF F) s < 100 := fun s hs => by have := inv_ix hI s hs; omega
  intro d
  induction d with
  | zero =>
    intro fuel z hz hf hcz hp hz2
    cases fuel with
    | zero => omega
    | succ fuel =>
      unfold f_L_isPile_60
      rw [if_pos (by rw [zl_1, zI_add, zI_le (by omega) (by omega)]; omega), zl_1, zI_add]
  | succ d ih =>
    intro fuel z hz hf hcz hp hz2
    cases fuel with
    | zero => omega
    | succ fuel =>
      unfold f_L_isPile_60
      by_cases he : F 1 ≤ z + 1
      · rw [if_pos (by rw [zl_1, zI_add, zI_le (by omega) (by omega)]; omega), zl_1, zI_add]
      · have go : ∀ (A B E G : Nat), A < 100 → B < 100 → E < 100 → G < 100 → ¬ (E < A ∧ A < G ∧ G < B) → f_L_isPile_161 K (fun a0 w9 => f_L_isPile_60 K (zI (F 1)) y2 (zI c) fuel a0 w9) (zI (F 1)) y2 (zI c) (zI z) (zI A) (zI B) (zI E) (zI G) w = K (zI (c + 1)) w := fun A B E G q1 q2 q3 q4 q5 => by
          rw [ip_161 q1 q2 q3 q4 q5]
          exact ih fuel (z + 2) (by omega) (by omega) (by omega) (by omega) (by omega)
        obtain ⟨x1, x2⟩ := piles_x (by omega) hI.2.2.2.2.2.1 hc (show z + 1 < F 1 by omega) hcz hp
        have l1 := hL c (by omega)
        have l2 := hL (c + 1) hc
        have l3 := hL z (by omega)
        have l4 := hL (z + 1) (by omega)
        rw [if_neg (by rw [zl_1, zI_add, zI_le (by omega) (by omega)]; omega), a_layerOf hC hI (by omega), bI_s, zl_1, zI_add, a_layerOf hC hI hc, bI_s, a_layerOf hC hI (by omega), bI_s, a_layerOf hC hI hc, bI_s, a_layerOf hC hI (by omega), bI_s, zI_add, a_layerOf hC hI (by omega), bI_s, a_layerOf hC hI (by omega), bI_s, a_layerOf hC hI (by omega), bI_s]
        rw [zI_mn (by omega) (by omega), zI_mn (by omega) (by omega), zI_mx (by omega) (by omega), zI_mx (by omega) (by omega)]
        have m1 := mn_lt l1 l2
        have m2 := mx_lt l1 l2
        have m3 := mn_lt l3 l4
        have m4 := mx_lt l3 l4
        rw [go _ _ _ _ m1 m2 m3 m4 x2]
        split
        · rfl
        · rename_i g1
          split
          · rfl
          · rename_i g2
            split
            · rename_i g3
              rw [zI_le (by omega) (by omega)] at g1 g2
              rw [zI_lt (by omega) (by omega)] at g3
              exact absurd ⟨by omega, by omega, g3⟩ x1
            · rfl
theorem ip_48 (hC : Cls w.1 1 F) (hI : Inv F) : ∀ (d fuel c : Nat), F 1 ≤ c + 1 + d → d < fuel → c < 100 → f_L_isPile_48 (zI (F 1)) (zI (2 ^ F 1 - 1)) fuel (zI c) w = some (1, w) := by
  have h7 := hI.1
  have h1 := hI.2.1
  have fin : ∀ (fuel c : Nat), F 1 ≤ c + 1 → c < 100 → f_L_isPile_48 (zI (F 1)) (zI (2 ^ F 1 - 1)) (fuel + 1) (zI c) w = some (1, w) := fun fuel c hc h100 => by
    have hp := Nat.two_pow_pos (F 1)
    unfold f_L_isPile_48
    rw [if_pos (by rw [zl_1, zI_add, zI_le (by omega) (by omega)]; omega), if_pos (by rw [zl_1, zl_31, (br_shlB (F 1) (by omega)).1, zI_sub (by omega)]), a_count hC, bI_s, if_neg (by rw [zI_lt (by omega) (by omega)]; omega)]
    unfold f_L_isPile_218
    rw [if_pos nar1]
  intro d
  induction d with
  | zero =>
    intro fuel c hc hf h100
    cases fuel with
    | zero => omega
    | succ fuel => exact fin fuel c (by omega) h100
  | succ d ih =>
    intro fuel c hc hf h100
    cases fuel with
    | zero => omega
    | succ fuel =>
      by_cases he : F 1 ≤ c + 1
      · exact fin fuel c he h100
      · unfold f_L_isPile_48
        rw [if_neg (by rw [zl_1, zI_add, zI_le (by omega) (by omega)]; omega), zl_2, zI_add, ip_60 hC hI _ _ (by omega) 10 12 (c + 2) (by omega) (by omega) (by omega) (by omega) (by omega)]
        exact ih fuel (c + 1) (by omega) (by omega) (by omega)
theorem MK.cg {n m : Nat} {S T : Nat → Bool} (h : MK n m S) (e : ∀ k, k < n → S k = T k) : MK n m T := ⟨h.1, fun k hk => (h.2 k hk).trans (e k hk)⟩
theorem MK.bit {n s : Nat} (hs : s < n) : MK n (2 ^ s) (fun k => decide (s = k)) := ⟨Nat.pow_lt_pow_right (by omega) hs, fun k _ => Nat.testBit_two_pow⟩
theorem MK.all {n : Nat} : MK n (2 ^ n - 1) (fun _ => true) := ⟨by have := Nat.two_pow_pos n; omega, fun k hk => by rw [Nat.testBit_two_pow_sub_one]; exact decide_eq_true hk⟩
theorem ip_9 (hC : Cls w.1 1 F) (hI : Inv F) : ∀ (d fuel l m : Nat), l + d = F 1 → d < fuel → MK (F 1) m (fun k => decide (ixL (plF F) k < l)) → f_L_isPile_9 (zI (F 1)) fuel (zI m) (zI l) w = some (1, w) := by
  have h7 := hI.1
  have h1 := hI.2.1
  obtain ⟨b1, b2, b3⟩ := piles_ok (by omega) hI.2.2.2.2.2.1
  intro d
  induction d with
  | zero =>
    intro fuel l m hl hf hm
    cases fuel with
    | zero => omega
    | succ fuel =>
      have e : m = 2 ^ F 1 - 1 := (hm.cg (T := fun _ => true) fun k hk => decide_eq_true (by have := (b2 k hk).1; omega)).uniq MK.all
      unfold f_L_isPile_9
      rw [if_pos (by rw [zI_le (by omega) (by omega)]; omega), e, zl_0]
      exact ip_48 hC hI 7 12 0 (by omega) (by omega) (by omega)
  | succ d ih =>
    intro fuel l m hl hf hm
    cases fuel with
    | zero => omega
    | succ fuel =>
      have hs := b3 l (by omega)
      unfold f_L_isPile_9
      rw [if_neg (by rw [zI_le (by omega) (by omega)]; omega), a_sectionIn hC hI (by omega), bI_s, a_layerOf hC hI hs.1, bI_s, hs.2, if_pos rfl, zl_1, zl_31, (br_shlB (gtL (plF F) l) (by omega)).1, zI_or, zI_add]
      refine ih fuel (l + 1) _ (by omega) (by omega) ((hm.or (MK.bit hs.1)).cg fun k hk => ?_)
      have e : (gtL (plF F) l = k) ↔ ixL (plF F) k = l := ⟨fun e => e ▸ hs.2, fun e => e ▸ (b2 k hk).2⟩
      by_cases z1 : ixL (plF F) k < l
      · rw [decide_eq_true z1, decide_eq_true (by omega : ixL (plF F) k < l + 1)]; rfl
      · rw [decide_eq_false z1, Bool.false_or]
        by_cases z2 : ixL (plF F) k = l
        · rw [decide_eq_true (e.mpr z2), decide_eq_true (by omega : ixL (plF F) k < l + 1)]
        · rw [decide_eq_false (fun z => z2 (e.mp z)), decide_eq_false (by omega : ¬ ixL (plF F) k < l + 1)]
theorem l_isPile (hC : Cls w.1 1 F) (hI : Inv F) : f_L_isPile w = some (1, w) := by
  have h7 := hI.1
  have h1 := hI.2.1
  unfold f_L_isPile
  rw [a_folded hC, bI_s, zl_0]
  exact ip_9 hC hI (F 1) 12 0 0 (by omega) (by omega) ⟨Nat.two_pow_pos _, fun k hk => by rw [Nat.zero_testBit]; exact (decide_eq_false (by omega)).symm⟩
end
