/-! a text of commands, executed -/
theorem exec_loopC {cs : List CM} (hn : cs.length ≤ 16) (hg : ∀ q, q ∈ cs → gdC q) (hv : ∀ q, q ∈ cs → ∀ x, x ∈ q.2 → x < 1000000) : ∀ (d fuel j : Nat) (F : Nat → Nat) (w : XW), j + d = cs.length → d < fuel → Inv F → Cls w.1 1 F → CCm w.1 cs →
    (∃ G w', Inv G ∧ G 3 ≤ F 3 + 99 * d ∧ f_X10_execute_42 fuel (zI j) w = bV (f_X3_keep 12 w') (fun w5 => (some (.inl ((w5.1 138 2), w5)))) ∧ Cls w'.1 1 G ∧ CCm w'.1 cs ∧ Fr KC w w') ∨
    (∃ i cz w' r6, f_X10_execute_42 fuel (zI j) w = bV (f_X8_copyFrom 1 12 w') (fun w7 => (bI (f_X10_causeOf r6 w7) (fun r8 w8 => (bV (f_X10_recordDenial 8 (zI i) r8 w8) (fun w9 => (some (.inr ("java/lang/UnsupportedOperationException", w9)))))))) ∧ (∀ u, f_X10_causeOf r6 u = some (zI cz, u)) ∧ Fr KC w w') := by
  intro d
  induction d with
  | zero =>
    intro fuel j F w hj hf hI hC C
    cases fuel with
    | zero => omega
    | succ fuel =>
      refine Or.inl ⟨F, w, hI, by omega, ?_, hC, C, Fr.rf⟩
      unfold f_X10_execute_42
      rw [C.1, if_pos (show zI cs.length ≤ zI j by rw [zI_le (by omega) (by omega)]; omega)]
  | succ d ih =>
    intro fuel j F w hj hf hI hC C
    cases fuel with
    | zero => omega
    | succ fuel =>
      have hjl : j < cs.length := by omega
      obtain ⟨q, hq⟩ : ∃ q, cs[j]? = some q := ⟨_, List.getElem?_eq_getElem hjl⟩
      have hmem : q ∈ cs := List.mem_of_getElem? hq
      obtain ⟨a, b, c, hop, hrun⟩ := runQ C hq hn (hg q hmem) (hv q hmem)
      have hcl : f_X10_execute_42 (fuel + 1) (zI j) w = (bI (f_X10_runCommand (zI j) w) (fun r6 w6 => (if r6 = 0 then (f_X10_execute_42 fuel (zI (j + 1)) w6) else (bV (f_X8_copyFrom 1 12 w6) (fun w7 => (bI (f_X10_causeOf r6 w7) (fun r8 w8 => (bV (f_X10_recordDenial 8 (zI j) r8 w8) (fun w9 => (some (.inr ("java/lang/UnsupportedOperationException", w9)))))))))))) := by
        rw [← zI_add j 1]
        show f_X10_execute_42 (fuel + 1) (zI j) w = _
        conv => lhs; unfold f_X10_execute_42
        rw [C.1, if_neg (show ¬ (zI cs.length ≤ zI j) by rw [zI_le (by omega) (by omega)]; omega)]
        rfl
      rcases hop F hI with ⟨e, he, hke, hjd, hm⟩ | ⟨n', dd, hn1, hn2, hd, hkd, hjd, hm⟩ | ⟨ans, G, hG, hG3, hans, hko, hjd, ha, hm⟩
      · have hne : ¬ (-(zI e) = 0) := (neg_B e (by omega) (by omega)).1
        refine Or.inr ⟨j, 9, w, -(zI e), ?_, fun u => ?_, Fr.rf⟩
        · rw [hcl, hrun, hjd w hC, bI_s, if_neg hne, bI_s, if_neg hne]
        · unfold f_X10_causeOf
          rw [if_pos (by rcases he with rfl | rfl <;> decide)]
          rfl
      · have hne : ¬ (zI (n' * 100 + dd) = 0) := by rw [zl_0, zI_inj (by omega) (by omega)]; omega
        refine Or.inr ⟨j, n', w, zI (n' * 100 + dd), ?_, fun u => ?_, Fr.rf⟩
        · rw [hcl, hrun, hjd w hC, bI_s, if_neg hne, bI_s, if_neg hne]
        · unfold f_X10_causeOf
          rw [if_neg (show ¬ (zI (n' * 100 + dd) ≤ 0) by rw [zl_0, zI_le (by omega) (by omega)]; omega), zl_100, zI_div (by omega) (by omega), show (n' * 100 + dd) / 100 = n' by omega]
      · obtain ⟨w1, g1, g2, g3⟩ := ha w hC
        have C1 : CCm w1.1 cs := C.cg (g3.at (by omega) _) (fun x _ => g3.at (by omega) _) (fun x _ => g3.at (by omega) _)
        have hcl2 : f_X10_execute_42 (fuel + 1) (zI j) w = f_X10_execute_42 fuel (zI (j + 1)) w1 := by
          rw [hcl, hrun, hjd w hC, bI_s, if_pos (show zI 0 = 0 from rfl), g1, bI_s, bI_s, if_pos (show zI 0 = 0 from rfl)]
        rcases ih fuel (j + 1) G w1 (by omega) (by omega) hG g2 C1 with ⟨G', w', i1, i2, i3, i4, i5, i6⟩ | ⟨i, cz, w', r6, i4, i5, i6⟩
        · exact Or.inl ⟨G', w', i1, by omega, hcl2.trans i3, i4, i5, g3.tr i6⟩
        · exact Or.inr ⟨i, cz, w', r6, hcl2.trans i4, i5, g3.tr i6⟩
/-- what a text that is executed does: nothing that lasts, or one change -/
def LT (B : Nat) (w : XW) (F : Nat → Nat) (hs : Nat → Nat → Nat) (n nx : Nat) (o : Option (Int32 × XW)) : Prop := ∃ r w', o = some (r, w') ∧ w'.2 = w.2 ∧ (((r = -78 ∨ r = -76) ∧ RC B w' F hs n nx) ∨ ∃ c G, c ≤ 16 ∧ r = zI c ∧ RC (B + 1600) w' G (hcons F hs) (n8 n) ((nx + 1) % 8))
theorem l_execute {B : Nat} {w : XW} {F : Nat → Nat} {hs : Nat → Nat → Nat} {n nx t : Nat} {ch : Nat → Nat} (q1 : F 3 ≤ B) (hI : Inv F) (hC : Cls w.1 1 F) (hH : HC w.1 hs n nx) (hhs : ∀ i, i < n → Inv (hs i) ∧ hs i 3 ≤ B) (T : CT w t ch) : LT B w F hs n nx (f_L_execute w) := by
  have hF1 : F 1 ≤ 7 := by have := hI.1; have := hI.2.1; omega
  obtain ⟨t1, t2, t4, t6, t7⟩ := id T
  obtain ⟨wa, x1, x2, x3⟩ := x_read T
  have rb := rd_b t7 t1 100 0 [] (by omega) (by show 4 * 0 ≤ 0; omega) (fun q h => by cases h)
  have rv := rd_v (t := t) t6 100 0 [] (fun q h => by cases h)
  have hcl : f_X10_execute w = bVX (f_X10_refuseFault ((wset wa 132 1 0).1 138 3) (wset wa 132 1 0)) (fun w3 => (bV (f_X8_copyFrom 12 1 w3) (fun w4 => (f_X10_execute_42 1000 0 w4)))) := by
    unfold f_X10_execute; rw [x1, bV_s]; rfl
  have fb : Fr (fun a => a = 132 ∨ a = 138 ∨ a = 139 ∨ a = 140) w (wset wa 132 1 0) := (show Fr _ w wa from ⟨fun a h => by funext c; exact x2.2 a c (by omega) (by omega) (by omega), x2.1⟩).set (k := 132) (Or.inl rfl) _ _
  have h3 : (wset wa 132 1 0).1 138 3 = wa.1 138 3 := by rw [wset_at, if_neg (by omega)]
  have hCb : Cls (wset wa 132 1 0).1 1 F := hC.fr fb (fun a h1 h2 => by omega)
  have hHb : HC (wset wa 132 1 0).1 hs n nx := hH.fr fb (fun a h1 h2 => by omega)
  have h132 : (wset wa 132 1 0).1 132 1 = zI 0 := wset_hit _ _ _ _
  have Rb : RC B (wset wa 132 1 0) F hs n nx := ⟨q1, hI, hCb, hHb, hhs, h132⟩
  rcases x3 with ⟨y1, y2, y3⟩ | ⟨y1, y2⟩
  · obtain ⟨cs, hcs⟩ : ∃ cs, cs = (rd ch t 100 0 []).2.2 := ⟨_, rfl⟩
    rw [← hcs] at y3 rb rv
    obtain ⟨wc, k1, k2, k3⟩ := z_copy (k := 12) (k1 := 1) hCb (by omega) hF1 hI.2.2.1
    have C1 : CCm wc.1 cs := (y3.cg (h' := (wset wa 132 1 0).1) (by rw [wset_at, if_neg (by omega)]) (fun _ _ => by rw [wset_at, if_neg (by omega)]) (fun _ _ => by rw [wset_at, if_neg (by omega)])).cg (k2.at (by omega) _) (fun _ _ => k2.at (by omega) _) (fun _ _ => k2.at (by omega) _)
    have hCc : Cls wc.1 1 F := hCb.fr k2 (fun a h1 h2 => by omega)
    have fc : Fr KF (wset wa 132 1 0) wc := k2.wk fun a z => Or.inr (Or.inl (by omega))
    have hcl2 : f_X10_execute w = f_X10_execute_42 1000 0 wc := by
      rw [hcl, h3, y2]
      show bVX (some (.inl (wset wa 132 1 0))) _ = _
      rw [bVX_s, k1, bV_s]
    rcases exec_loopC rb.2.1 rb.2.2 rv cs.length 1000 0 F wc (by omega) (by omega) hI hCc C1 with ⟨G, w', i1, i2, i3, i4, i5, i6⟩ | ⟨i, cz, w', r6, i4, i5, i6⟩
    · have hC12 : Cls w'.1 12 F := k3.fr i6 (fun a h1 h2 => by omega)
      have hH' : HC w'.1 hs n nx := (hHb.fr k2 (fun a h1 h2 => by omega)).fr i6 (fun a h1 h2 => by omega)
      obtain ⟨w2, l1, l2, l3⟩ := h_keep (k1 := 12) hH' hC12 (by omega) hF1 hI.2.2.1
      refine ⟨zI cs.length, w2, ?_, l2.2.trans (i6.2.trans (k2.2.trans fb.2)), Or.inr ⟨cs.length, G, rb.2.1, rfl, by have := rb.2.1; omega, i1, i4.fr l2 (fun a h1 h2 => by omega), l3, hs_cons hI (by omega) (by omega) hhs, by rw [l2.at (by omega), i6.at (by omega), k2.at (by omega)]; exact h132⟩⟩
      have e : w2.1 138 2 = zI cs.length := by rw [l2.at (by omega)]; exact i5.1
      unfold f_L_execute
      rw [hcl2, zl_0, i3, l1, bV_s, bCI_s, e]
    · have hC12 : Cls w'.1 12 F := k3.fr i6 (fun a h1 h2 => by omega)
      have hH' : HC w'.1 hs n nx := (hHb.fr k2 (fun a h1 h2 => by omega)).fr i6 (fun a h1 h2 => by omega)
      obtain ⟨w2, l1, l2, l3⟩ := z_copy (k := 1) (k1 := 12) hC12 (by omega) hF1 hI.2.2.1
      have R2 : RC B w2 F hs n nx := ⟨q1, hI, l3, hH'.fr l2 (fun a h1 h2 => by omega), hhs, by rw [l2.at (by omega), i6.at (by omega), k2.at (by omega)]; exact h132⟩
      refine ⟨-76, denW w2 8 i (zI cz), ?_, (den_fr _ _ _ _).2.trans (l2.2.trans (i6.2.trans (k2.2.trans fb.2))), Or.inl ⟨Or.inr rfl, R2.den _ _ _⟩⟩
      unfold f_L_execute
      rw [hcl2, zl_0, i4, l1, bV_s, i5, bI_s]
      rfl
  · refine ⟨-78, wset (wset wa 132 1 0) 0 11 (zI (rd ch t 100 0 []).2.1), ?_, fb.2, Or.inl ⟨Or.inl rfl, Rb.fr ((fr1 _ _).wk fun a z => Or.inl z)⟩⟩
    have hle := rb.1
    unfold f_L_execute
    rw [hcl, h3, y2]
    unfold f_X10_refuseFault
    rw [if_neg (by rw [zl_1, zm1, zI_zM (by omega)]; exact id), bVX_x, bCI_x]
    rfl
theorem l_runs {B : Nat} {w : XW} {F : Nat → Nat} {hs : Nat → Nat → Nat} {n nx : Nat} {tx : List Int32} (h : RC B w F hs n nx) (hok : TXok tx) (hlen : tx.length ≤ 30) : LT B w F hs n nx (f_L_runs tx w) := by
  obtain ⟨q1, hI, hC, hH, hhs, h132⟩ := h
  obtain ⟨w1, e1, f1, T⟩ := l_feeds hok hlen h132
  obtain ⟨r, w', e, e2, h2⟩ := l_execute q1 hI (hC.fr f1.1 (fun a h1 h2 => by omega)) (hH.fr f1.1 (fun a h1 h2 => by omega)) hhs T
  refine ⟨r, w', ?_, e2.trans f1.1.2, h2⟩
  unfold f_L_runs
  rw [e1, bV_s, e, bI_s]
/-! the law's step -/
/-- which change a kind stands for -/
def kdN (k : Nat) : Nat := if k < 3 then 0 else if k < 8 then 1 else if k < 11 then 2 else if k < 14 then 3 else if k < 21 then 4 else if k < 23 then 5 else if k < 30 then 6 else if k = 30 then 7 else if k < 33 then 8 else if k < 35 then 9 else if k < 40 then 10 else if k < 44 then 11 else 12
def agN (k a l p : Nat) : Nat := if k < 3 then 0 else if k < 14 then a else if k < 21 then l else if k < 23 then 0 else if k < 30 then a else if k < 35 then p else 0
def DO (B : Nat) (w : XW) (F : Nat → Nat) (hs : Nat → Nat → Nat) (n nx k a l p : Nat) (o : Option (Int32 × XW)) : Prop := ∃ r w', o = some (r, w') ∧ w'.2 = w.2 ∧
  ((r ≤ -70 ∧ RC B w' F hs n nx ∧ (14 ≤ k → k ≤ 20 → l ≤ F 1 → w'.1 0 12 = zI (if F 1 = F 0 then 2 else 4) ∧ cfN F l = 0) ∧ (35 ≤ k → k ≤ 39 → F 0 < 2 ∧ w'.1 0 12 = zI 7 ∧ w'.1 0 13 = zI (F 0)) ∧ (40 ≤ k → k ≤ 43 → F 1 = 0 ∧ w'.1 0 12 = zI 3)) ∨
   ∃ v G, v < 1000 ∧ r = zI v ∧ RC (B + 1600) w' G (hcons F hs) (n8 n) ((nx + 1) % 8) ∧ (k ≤ 43 → KO (zI (kdN k)) (zI (agN k a l p)) F v G))
theorem DO_lo {kd ag : Int32} {f : XW → Option (Int32 × XW)} {k a l p : Nat} (h : LO kd ag f) (hk : kd = zI (kdN k)) (ha : ag = zI (agN k a l p)) (h44 : k ≤ 43) {B : Nat} {w : XW} {F : Nat → Nat} {hs : Nat → Nat → Nat} {n nx : Nat} (hR : RC B w F hs n nx) : DO B w F hs n nx k a l p (f w) := by
  subst hk ha
  rcases h B w F hs n nx hR with ⟨r, hr, h4, h1011, e⟩ | ⟨n', d, hkd, e⟩ | ⟨ans, G, w1, hans, hko, e, hR1, hfr⟩
  · refine ⟨r, w, e, rfl, Or.inl ⟨by rcases hr with rfl | rfl <;> decide, hR, fun g1 g2 g3 => ?_, fun g1 g2 => ?_, fun g1 g2 => ?_⟩⟩
    · have e4 : kdN k = 4 := by unfold kdN; rw [if_neg (by omega), if_neg (by omega), if_neg (by omega), if_neg (by omega), if_pos (by omega)]
      exact absurd (h4 (by rw [e4]; rfl) l g3 (by unfold agN; rw [if_neg (by omega), if_neg (by omega), if_pos (by omega)])) id
    · have e4 : kdN k = 10 := by unfold kdN; rw [if_neg (by omega), if_neg (by omega), if_neg (by omega), if_neg (by omega), if_neg (by omega), if_neg (by omega), if_neg (by omega), if_neg (by omega), if_neg (by omega), if_neg (by omega), if_pos (by omega)]
      exact absurd (Or.inl (by rw [e4]; rfl)) h1011
    · have e4 : kdN k = 11 := by unfold kdN; rw [if_neg (by omega), if_neg (by omega), if_neg (by omega), if_neg (by omega), if_neg (by omega), if_neg (by omega), if_neg (by omega), if_neg (by omega), if_neg (by omega), if_neg (by omega), if_neg (by omega), if_pos (by omega)]
      exact absurd (Or.inr (by rw [e4]; rfl)) h1011
  · refine ⟨-76, denW w n' d zM, e, (den_fr _ _ _ _).2, Or.inl ⟨by decide, hR.den _ _ _, fun g1 g2 g3 => ?_, fun g1 g2 => ?_, fun g1 g2 => ?_⟩⟩
    · have e4 : kdN k = 4 := by unfold kdN; rw [if_neg (by omega), if_neg (by omega), if_neg (by omega), if_neg (by omega), if_pos (by omega)]
      have eg : agN k a l p = l := by unfold agN; rw [if_neg (by omega), if_neg (by omega), if_pos (by omega)]
      obtain ⟨z1, z2⟩ := hkd.2.1 (by rw [e4]; rfl)
      rw [(denW_0 _ _ _ _).1, z1]
      refine ⟨rfl, ?_⟩
      unfold cfN
      rcases z2 l g3 (by rw [eg]) with z | z
      · rw [if_pos z]
      · rw [if_neg z]; split <;> rfl
    · have e4 : kdN k = 10 := by unfold kdN; rw [if_neg (by omega), if_neg (by omega), if_neg (by omega), if_neg (by omega), if_neg (by omega), if_neg (by omega), if_neg (by omega), if_neg (by omega), if_neg (by omega), if_neg (by omega), if_pos (by omega)]
      obtain ⟨z1, z2, z3⟩ := hkd.2.2.1 (by rw [e4]; rfl)
      rw [(denW_0 _ _ _ _).1, (denW_0 _ _ _ _).2, z2, z3]
      exact ⟨z1, rfl, rfl⟩
    · have e4 : kdN k = 11 := by unfold kdN; rw [if_neg (by omega), if_neg (by omega), if_neg (by omega), if_neg (by omega), if_neg (by omega), if_neg (by omega), if_neg (by omega), if_neg (by omega), if_neg (by omega), if_neg (by omega), if_neg (by omega), if_pos (by omega)]
      obtain ⟨z1, z2⟩ := hkd.2.2.2 (by rw [e4]; rfl)
      rw [(denW_0 _ _ _ _).1, z2]
      exact ⟨z1, rfl⟩
  · exact ⟨zI ans, w1, e, hfr.2, Or.inr ⟨ans, G, hans, rfl, hR1.wk (by omega), fun _ => hko⟩⟩
theorem DO_lt {k a l p : Nat} (h44 : 44 ≤ k) {B : Nat} {w : XW} {F : Nat → Nat} {hs : Nat → Nat → Nat} {n nx : Nat} {o : Option (Int32 × XW)} (h : LT B w F hs n nx o) : DO B w F hs n nx k a l p o := by
  obtain ⟨r, w', e, e2, ⟨h1, h2⟩ | ⟨c, G, hc, hr, hR⟩⟩ := h
  · exact ⟨r, w', e, e2, Or.inl ⟨by rcases h1 with rfl | rfl <;> decide, h2, fun _ g => absurd g (by omega), fun _ g => absurd g (by omega), fun _ g => absurd g (by omega)⟩⟩
  · exact ⟨r, w', e, e2, Or.inr ⟨c, G, by omega, hr, hR, fun g => absurd g (by omega)⟩⟩
