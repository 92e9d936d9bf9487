/-! a turn's beginning: what is drawn, what stood before -/
/-- the turn's two ways on -/
def KH (K : Int32 → Int32 → Int32 → XW → Option (Int32 × XW)) (B : Nat) (w2 : Nat → Int64) (F : Nat → Nat) (hs : Nat → Nat → Nat) (n nx made c t : Nat) : Prop :=
  (∀ w' G, RC (B + 1600) w' G (hcons F hs) (n8 n) ((nx + 1) % 8) → w'.2 = w2 → OK (K (zI (made + 1)) (zI (c + 5)) (zI (t + 1)) (lset w' (made + 1) (sumV G)))) ∧
  ∀ w', RC B w' F hs n nx → w'.2 = w2 → OK (K (zI made) (zI (c + 5)) (zI (t + 1)) w')
section
variable {sc : Nat × (Nat → Int32)} {K : Int32 → Int32 → Int32 → XW → Option (Int32 × XW)} {B : Nat} {w : XW} {F : Nat → Nat} {hs : Nat → Nat → Nat} {n nx made c t k a l p : Nat} {z17 z18 : Int32}
theorem t_220 (hsc : sc.1 < 2147483648) (hc : c + 10 < 2147483648) (hR : RC B w F hs n nx) (hB : B + 1600 < 16777216) (hm : made + 1 < 70) (ht : t < 1000) (hk : k < 46) (ha : a < 10) (hl : l ≤ F 1) (hp : p < 2147483648) (h17 : a < F 0 → z17 = zI (F (5 + a))) (h18 : 2 ≤ F 0 → z18 = zI (mcF F 99 (F 0))) (hK : KH K B w.2 F hs n nx made c t) : OK (f_L_law_220 sc K (zI made) (zI c) (zI t) (sumV F) (zI n) (zI k) (zI (F 0)) (zI a) (zI (F 1)) (zI l) (zI p) (zI (cfN F l)) z17 z18 w) := by
  have hI := hR.2.1
  have h7 := hI.1
  have lo : ∃ r w1, f_L_lossOf (zI p) w = some (r, w1) ∧ Fr KQ w w1 ∧ (p < F 2 → r = zI (mcF F 99 (F 0) - mcF F p (F 0))) := by
    by_cases z : p < F 2
    · obtain ⟨w1, e, f⟩ := a_loss hR.2.2.1 hI z
      exact ⟨_, w1, e, f, fun _ => rfl⟩
    · exact ⟨_, w, a_lossNo hR.2.2.1 hI hp (by omega), Fr.rf, fun h => absurd h z⟩
  obtain ⟨r, w1, e1, f1, h19⟩ := lo
  have R1 := hR.q f1
  have br : ∃ q, f_L_isBroken (zI p) w1 = some (q, w1) ∧ (p < F 2 → q = zI (F (29 + 4 * p))) := by
    by_cases z : p < F 2
    · exact ⟨_, a_brk R1.2.2.1 hI z, fun _ => rfl⟩
    · exact ⟨_, a_brkNo R1.2.2.1 hI hp (by omega), fun h => absurd h z⟩
  obtain ⟨q, e2, h20⟩ := br
  unfold f_L_law_220
  rw [e1, bI_s, e2, bI_s, a_leaked R1.2.2.1, bI_s]
  by_cases z : F 0 = 0
  · rw [if_pos (by rw [z]; rfl)]
    exact t_258 hsc hc R1 hB hm ht hk ha hl hp h17 h18 h19 h20 (fun h => absurd z h) (fun w' G h1 h2 => hK.1 w' G h1 (h2.trans f1.2)) (fun w' h1 h2 => hK.2 w' h1 (h2.trans f1.2))
  · have e3 : f_L_water 0 w1 = some (zI (F 5), w1) := by
      have e := a_water R1.2.2.1 hI (i := 0) (by omega)
      rw [← zl_0, Nat.add_zero] at e
      exact e
    rw [if_neg (by rw [zl_0, zI_inj (by omega) (by omega)]; exact z), e3, bI_s]
    exact t_258 hsc hc R1 hB hm ht hk ha hl hp h17 h18 h19 h20 (fun _ => rfl) (fun w' G h1 h2 => hK.1 w' G h1 (h2.trans f1.2)) (fun w' h1 h2 => hK.2 w' h1 (h2.trans f1.2))
theorem t_183 (hsc : sc.1 < 2147483648) (hc : c + 10 < 2147483648) (hR : RC B w F hs n nx) (hB : B + 1600 < 16777216) (hm : made + 1 < 70) (ht : t < 1000) (hk : k < 46) (ha : a < 10) (hl : l ≤ F 1) {e : Nat} (he : 1 ≤ F 2 + e) (he2 : e ≤ 1) (hK : KH K B w.2 F hs n nx made c t) : OK (f_L_law_183 sc K (zI made) (zI c) (zI t) (sumV F) (zI n) (zI k) (zI (F 0)) (zI a) (zI (F 1)) (zI l) (zI e) (zI (F 2)) (zI (c + 1)) w) := by
  have hI := hR.2.1
  have h7 := hI.1
  have h10 := hI.2.2.1
  obtain ⟨p, hp, e1⟩ := l_pick hsc (k := c + 1) (m := F 2 + e) (by omega) he (by omega) w
  have wa : ∃ r, f_L_water (zI a) w = some (r, w) ∧ (a < F 0 → r = zI (F (5 + a))) := by
    by_cases z : a < F 0
    · exact ⟨_, a_water hR.2.2.1 hI z, fun _ => rfl⟩
    · exact ⟨_, a_waterNo hR.2.2.1 hI (by omega) (by omega), fun h => absurd h z⟩
  obtain ⟨r, e2, h17⟩ := wa
  unfold f_L_law_183
  rw [zI_add, e1, bI_s, a_canFold hR.2.2.1 hI hl, bI_s, e2, bI_s]
  by_cases z : 2 ≤ F 0
  · obtain ⟨w1, e3, f1⟩ := a_flow hR.2.2.1 hI z
    rw [if_pos (by rw [zl_2, zI_le (by omega) (by omega)]; exact z), e3, bI_s]
    exact t_220 hsc hc (hR.q f1) hB hm ht hk ha hl (by omega) h17 (fun _ => rfl) ⟨fun w' G h1 h2 => hK.1 w' G h1 (h2.trans f1.2), fun w' h1 h2 => hK.2 w' h1 (h2.trans f1.2)⟩
  · rw [if_neg (by rw [zl_2, zI_le (by omega) (by omega)]; exact z)]
    exact t_220 hsc hc hR hB hm ht hk ha hl (by omega) h17 (fun h => absurd h z) hK
theorem t_124 (hsc : sc.1 < 2147483648) (hc : c + 10 < 2147483648) (hR : RC B w F hs n nx) (hB : B + 1600 < 16777216) (hm : made + 1 < 70) (ht : t < 1000) (hk : k < 46) {e : Nat} (he : 1 ≤ F 0 + e) (he2 : e ≤ 1) (hK : KH K B w.2 F hs n nx made c t) : OK (f_L_law_124 sc K (zI made) (zI c) (zI t) (sumV F) (zI n) (zI k) (zI (F 0)) (zI e) (zI (F 0)) (zI (c + 1)) w) := by
  have hI := hR.2.1
  have h7 := hI.1
  have h71 := hI.2.1
  have h10 := hI.2.2.1
  obtain ⟨a, ha, e1⟩ := l_pick hsc (k := c + 1) (m := F 0 + e) (by omega) he (by omega) w
  obtain ⟨l, hl, e2⟩ := l_pick hsc (k := c + 2) (m := F 1 + 1) (by omega) (by omega) (by omega) w
  unfold f_L_law_124
  rw [zI_add, e1, bI_s, a_folded hR.2.2.1, bI_s, show zI c + 2 = zI (c + 2) by rw [zl_2, zI_add], show zI (F 1) + 1 = zI (F 1 + 1) by rw [zl_1, zI_add], e2, bI_s, a_pipes hR.2.2.1, bI_s, show zI c + 1 = zI (c + 1) by rw [zl_1, zI_add]]
  have g1 : OK (f_L_law_178 sc K (zI made) (zI c) (zI t) (sumV F) (zI n) (zI k) (zI (F 0)) (zI a) (zI (F 1)) (zI l) (zI (F 2)) (zI (c + 1)) w) := by
    unfold f_L_law_178
    rw [zl_1]
    exact t_183 hsc hc hR hB hm ht hk (by omega) (by omega) (by omega) (by omega) hK
  split
  · exact g1
  · by_cases z : F 2 = 0
    · rw [if_pos (by rw [z]; rfl)]; exact g1
    · rw [if_neg (by rw [zl_0, zI_inj (by omega) (by omega)]; exact z), zl_0]
      exact t_183 hsc hc hR hB hm ht hk (by omega) (by omega) (by omega) (by omega) hK
theorem t_89 (hsc : sc.1 < 2147483648) (hc : c + 10 < 2147483648) (hR : RC B w F hs n nx) (hB : B + 1600 < 16777216) (hm : made + 1 < 70) (ht : t < 1000) (hk : k < 46) (hK : KH K B w.2 F hs n nx made c t) : OK (f_L_law_89 sc K (zI made) (zI c) (zI t) (sumV F) (zI n) (zI k) w) := by
  have hI := hR.2.1
  have h7 := hI.1
  unfold f_L_law_89
  rw [a_count hR.2.2.1, bI_s, show zI c + 1 = zI (c + 1) by rw [zl_1, zI_add]]
  have g1 : OK (f_L_law_119 sc K (zI made) (zI c) (zI t) (sumV F) (zI n) (zI k) (zI (F 0)) (zI (F 0)) (zI (c + 1)) w) := by
    unfold f_L_law_119
    rw [zl_1]
    exact t_124 hsc hc hR hB hm ht hk (by omega) (by omega) hK
  split
  · exact g1
  · by_cases z : F 0 = 0
    · rw [if_pos (by rw [z]; rfl)]; exact g1
    · rw [if_neg (by rw [zl_0, zI_inj (by omega) (by omega)]; exact z), zl_0]
      exact t_124 hsc hc hR hB hm ht hk (by omega) (by omega) hK
end
