def sel (c c2 : Nat) : Nat := if c = 97 then 0 else if c = 112 then (if c2 = 105 then 6 else 1) else if c = 116 then 2 else if c = 117 then 3 else if c = 102 then 4 else if c = 111 then 5 else if c = 99 then 7 else if c = 98 then 8 else if c = 109 then 9 else if c = 100 then 10 else if c = 115 then 11 else 12
def cS : List Nat → Nat
  | [] => 0
  | s :: l => (if s = 68 ∨ s = 78 ∨ s = 84 then 1 else 0) + cS l
theorem mtc_ops (ch : Nat → Nat) : ∀ (l : List Nat) (p : Nat), (mtc ch l p).2.2.length ≤ cS l ∧ ((mtc ch l p).1 = true → (mtc ch l p).2.2.length = cS l) := by
  intro l
  induction l with
  | nil => exact fun p => ⟨Nat.le_refl _, fun _ => rfl⟩
  | cons s l ih =>
    intro p
    have no : ((false, p, []) : MR).2.2.length ≤ cS (s :: l) ∧ (((false, p, []) : MR).1 = true → ((false, p, []) : MR).2.2.length = cS (s :: l)) := ⟨Nat.zero_le _, fun h => by cases h⟩
    have one : ∀ v q, (s = 68 ∨ s = 78 ∨ s = 84) → (mcs v (mtc ch l q)).2.2.length ≤ cS (s :: l) ∧ ((mcs v (mtc ch l q)).1 = true → (mcs v (mtc ch l q)).2.2.length = cS (s :: l)) := fun v q h => by
      obtain ⟨a, b⟩ := ih q
      have e : cS (s :: l) = 1 + cS l := by show (if s = 68 ∨ s = 78 ∨ s = 84 then 1 else 0) + cS l = _; rw [if_pos h]
      rw [e]
      exact ⟨by show (mtc ch l q).2.2.length + 1 ≤ _; omega, fun z => by have := b z; show (mtc ch l q).2.2.length + 1 = _; omega⟩
    rw [mtc_c]
    by_cases h1 : s = 68
    · rw [if_pos h1]
      by_cases h2 : dg (ch p) = true
      · rw [if_pos h2]; exact one _ _ (by omega)
      · rw [if_neg h2]; exact no
    · rw [if_neg h1]
      by_cases h3 : s = 78
      · rw [if_pos h3]
        by_cases h2 : dg (ch p) = true
        · rw [if_pos h2]
          by_cases h4 : dg (ch (p + 1)) = true
          · rw [if_pos h4]; exact one _ _ (by omega)
          · rw [if_neg h4]; exact one _ _ (by omega)
        · rw [if_neg h2]; exact no
      · rw [if_neg h3]
        by_cases h4 : s = 84
        · rw [if_pos h4]
          by_cases h2 : tm (ch p) = true
          · rw [if_pos h2]; exact one _ _ (by omega)
          · rw [if_neg h2]; exact no
        · rw [if_neg h4]
          by_cases h2 : ch p = s
          · rw [if_pos h2]
            have e : cS (s :: l) = cS l := by show (if s = 68 ∨ s = 78 ∨ s = 84 then 1 else 0) + cS l = _; rw [if_neg (by omega), Nat.zero_add]
            rw [e]; exact ih _
          · rw [if_neg h2]; exact no
theorem hd_B : ∀ k, k < 12 → sN k = gtL (sN k) 0 :: (sN k).tail ∧ gtL (sN k) 0 ≠ 68 ∧ gtL (sN k) 0 ≠ 78 ∧ gtL (sN k) 0 ≠ 84 ∧ cS (sN k) ≤ 3 ∧ 3 ≤ (sN k).length ∧ (sN k).length ≤ 10 ∧ (∀ s, s ∈ sN k → s ≠ 0) := by decide +kernel
theorem hdv_B : ∀ k, k < 12 → gtL (sN k) 0 = gtL [97, 112, 116, 117, 102, 111, 112, 99, 98, 109, 100, 115] k := by decide +kernel
theorem sN_1 : sN 1 = [112, 111, 117, 114, 32, 68, 32, 78] := by decide +kernel
theorem sN_6 : sN 6 = [112, 105, 112, 101, 32, 68, 62, 68, 32, 78] := by decide +kernel
section
variable {ch : Nat → Nat} {p t : Nat}
theorem mtc_ne {k : Nat} (hk : k < 12) (h : ch p ≠ gtL (sN k) 0) : mtc ch (sN k) p = (false, p, []) := by
  obtain ⟨h1, h2, h3, h4, _⟩ := hd_B k hk
  rw [h1, mtc_c, if_neg h2, if_neg h3, if_neg h4, if_neg h]
theorem sel_no (h : sel (ch p) (ch (p + 1)) = 12) : ch p ≠ 97 ∧ ch p ≠ 112 ∧ ch p ≠ 116 ∧ ch p ≠ 117 ∧ ch p ≠ 102 ∧ ch p ≠ 111 ∧ ch p ≠ 99 ∧ ch p ≠ 98 ∧ ch p ≠ 109 ∧ ch p ≠ 100 ∧ ch p ≠ 115 := by
  obtain ⟨c, hc⟩ : ∃ c, c = ch p := ⟨_, rfl⟩
  obtain ⟨d, hd⟩ : ∃ d, d = ch (p + 1) := ⟨_, rfl⟩
  rw [← hc, ← hd] at h
  rw [← hc]
  unfold sel at h
  by_cases d97 : c = 97
  · rw [if_pos d97] at h; omega
  rw [if_neg d97] at h
  by_cases d112 : c = 112
  · rw [if_pos d112] at h
    by_cases y : d = 105
    · rw [if_pos y] at h; omega
    · rw [if_neg y] at h; omega
  rw [if_neg d112] at h
  by_cases d116 : c = 116
  · rw [if_pos d116] at h; omega
  rw [if_neg d116] at h
  by_cases d117 : c = 117
  · rw [if_pos d117] at h; omega
  rw [if_neg d117] at h
  by_cases d102 : c = 102
  · rw [if_pos d102] at h; omega
  rw [if_neg d102] at h
  by_cases d111 : c = 111
  · rw [if_pos d111] at h; omega
  rw [if_neg d111] at h
  by_cases d99 : c = 99
  · rw [if_pos d99] at h; omega
  rw [if_neg d99] at h
  by_cases d98 : c = 98
  · rw [if_pos d98] at h; omega
  rw [if_neg d98] at h
  by_cases d109 : c = 109
  · rw [if_pos d109] at h; omega
  rw [if_neg d109] at h
  by_cases d100 : c = 100
  · rw [if_pos d100] at h; omega
  rw [if_neg d100] at h
  by_cases d115 : c = 115
  · rw [if_pos d115] at h; omega
  rw [if_neg d115] at h
  exact ⟨d97, d112, d116, d117, d102, d111, d99, d98, d109, d100, d115⟩
theorem sel_12 (h : sel (ch p) (ch (p + 1)) = 12) {k : Nat} (hk : k < 12) : mtc ch (sN k) p = (false, p, []) := by
  refine mtc_ne hk (fun e => ?_)
  obtain ⟨n1, n2, n3, n4, n5, n6, n7, n8, n9, n10, n11⟩ := sel_no h
  have hk' : k = 0 ∨ k = 1 ∨ k = 2 ∨ k = 3 ∨ k = 4 ∨ k = 5 ∨ k = 6 ∨ k = 7 ∨ k = 8 ∨ k = 9 ∨ k = 10 ∨ k = 11 := by omega
  have hv := hdv_B k hk
  rw [hv] at e
  rcases hk' with rfl | rfl | rfl | rfl | rfl | rfl | rfl | rfl | rfl | rfl | rfl | rfl
  · exact n1 e
  · exact n2 e
  · exact n3 e
  · exact n4 e
  · exact n5 e
  · exact n6 e
  · exact n2 e
  · exact n7 e
  · exact n8 e
  · exact n9 e
  · exact n10 e
  · exact n11 e
theorem sel_eq (c d : Nat) : ∀ s, s < 12 → sel c d = s → c = gtL [97, 112, 116, 117, 102, 111, 112, 99, 98, 109, 100, 115] s ∧ (s = 6 → d = 105) ∧ (s = 1 → d ≠ 105) := by
  intro s hs h
  unfold sel at h
  by_cases c0 : c = 97
  · rw [if_pos c0] at h; rw [← h]; exact ⟨c0, fun z => by omega, fun z => by omega⟩
  rw [if_neg c0] at h
  by_cases c1 : c = 112
  · rw [if_pos c1] at h
    by_cases y : d = 105
    · rw [if_pos y] at h; rw [← h]; exact ⟨c1, fun _ => y, fun z => by omega⟩
    · rw [if_neg y] at h; rw [← h]; exact ⟨c1, fun z => by omega, fun _ => y⟩
  rw [if_neg c1] at h
  by_cases d116 : c = 116
  · rw [if_pos d116] at h; rw [← h]; exact ⟨d116, fun z => by omega, fun z => by omega⟩
  rw [if_neg d116] at h
  by_cases d117 : c = 117
  · rw [if_pos d117] at h; rw [← h]; exact ⟨d117, fun z => by omega, fun z => by omega⟩
  rw [if_neg d117] at h
  by_cases d102 : c = 102
  · rw [if_pos d102] at h; rw [← h]; exact ⟨d102, fun z => by omega, fun z => by omega⟩
  rw [if_neg d102] at h
  by_cases d111 : c = 111
  · rw [if_pos d111] at h; rw [← h]; exact ⟨d111, fun z => by omega, fun z => by omega⟩
  rw [if_neg d111] at h
  by_cases d99 : c = 99
  · rw [if_pos d99] at h; rw [← h]; exact ⟨d99, fun z => by omega, fun z => by omega⟩
  rw [if_neg d99] at h
  by_cases d98 : c = 98
  · rw [if_pos d98] at h; rw [← h]; exact ⟨d98, fun z => by omega, fun z => by omega⟩
  rw [if_neg d98] at h
  by_cases d109 : c = 109
  · rw [if_pos d109] at h; rw [← h]; exact ⟨d109, fun z => by omega, fun z => by omega⟩
  rw [if_neg d109] at h
  by_cases d100 : c = 100
  · rw [if_pos d100] at h; rw [← h]; exact ⟨d100, fun z => by omega, fun z => by omega⟩
  rw [if_neg d100] at h
  by_cases d115 : c = 115
  · rw [if_pos d115] at h; rw [← h]; exact ⟨d115, fun z => by omega, fun z => by omega⟩
  rw [if_neg d115] at h
  omega
theorem sel_head {s : Nat} (hs : s < 12) (h : sel (ch p) (ch (p + 1)) = s) : ch p = gtL (sN s) 0 ∧ (s = 6 → ch (p + 1) = 105) ∧ (s = 1 → ch (p + 1) ≠ 105) := by
  rw [hdv_B s hs]
  exact sel_eq _ _ s hs h
theorem sel_le (c c2 : Nat) : sel c c2 ≤ 12 := by
  unfold sel
  repeat' split
  all_goals omega
theorem heads_B : ∀ k, k < 12 → ∀ s, s < 12 → gtL (sN k) 0 = gtL (sN s) 0 → k = s ∨ (k = 1 ∧ s = 6) ∨ (k = 6 ∧ s = 1) := by decide +kernel
theorem sel_other (h8 : ∀ i, t ≤ i → ch i = 0) (hp : p ≤ t) {s k : Nat} (hs : s < 12) (h : sel (ch p) (ch (p + 1)) = s) (hk : k < 12) (hne : k ≠ s) : (mtc ch (sN k) p).1 = false ∧ (mtc ch (sN k) p).2.1 ≤ (mtc ch (sN s) p).2.1 := by
  have hb := (mtc_b h8 (sN s) p (hd_B s hs).2.2.2.2.2.2.2 hp).1
  by_cases z : ch p = gtL (sN k) 0
  · obtain ⟨q1, q2, q3⟩ := sel_head hs h
    have hlt : p < t := by
      by_cases y : p < t
      · exact y
      · have := h8 p (by omega)
        rw [this] at z
        have hd := hd_B k hk
        exact absurd z.symm (hd.2.2.2.2.2.2.2 _ (by rw [hd.1]; exact List.mem_cons_self))
    rcases heads_B k hk s hs (z.symm.trans q1) with e | ⟨rfl, rfl⟩ | ⟨rfl, rfl⟩
    · exact absurd e hne
    · have e1 : mtc ch (sN 1) p = (false, p + 1, []) := by
        rw [sN_1]
        rw [mtc_c, if_neg (by decide), if_neg (by decide), if_neg (by decide), if_pos (show ch p = 112 from z.trans (hdv_B _ (by omega))), mtc_c, if_neg (by decide), if_neg (by decide), if_neg (by decide), if_neg (by rw [q2 rfl]; decide)]
      have e2 : mtc ch (sN 6) p = mtc ch [105, 112, 101, 32, 68, 62, 68, 32, 78] (p + 1) := by
        rw [sN_6]
        rw [mtc_c, if_neg (by decide), if_neg (by decide), if_neg (by decide), if_pos (show ch p = 112 from z.trans (hdv_B _ (by omega)))]
      rw [e1, e2]
      exact ⟨rfl, (mtc_b h8 _ (p + 1) (by decide) hlt).1⟩
    · have e1 : mtc ch (sN 6) p = (false, p + 1, []) := by
        rw [sN_6]
        rw [mtc_c, if_neg (by decide), if_neg (by decide), if_neg (by decide), if_pos (show ch p = 112 from z.trans (hdv_B _ (by omega))), mtc_c, if_neg (by decide), if_neg (by decide), if_neg (by decide), if_neg (q3 rfl)]
      have e2 : mtc ch (sN 1) p = mtc ch [111, 117, 114, 32, 68, 32, 78] (p + 1) := by
        rw [sN_1]
        rw [mtc_c, if_neg (by decide), if_neg (by decide), if_neg (by decide), if_pos (show ch p = 112 from z.trans (hdv_B _ (by omega)))]
      rw [e1, e2]
      exact ⟨rfl, (mtc_b h8 _ (p + 1) (by decide) hlt).1⟩
  · rw [mtc_ne hk z]
    exact ⟨rfl, hb⟩
end
/-- one command read: is it one, where it ends or can't go on, what it is -/
def rcW (ch : Nat → Nat) (p : Nat) : Bool × Nat × CM := if sel (ch p) (ch (p + 1)) < 12 then ((mtc ch (sN (sel (ch p) (ch (p + 1)))) p).1, (mtc ch (sN (sel (ch p) (ch (p + 1)))) p).2.1, (sel (ch p) (ch (p + 1)), (mtc ch (sN (sel (ch p) (ch (p + 1)))) p).2.2)) else (false, p, (12, []))
theorem rcW_b {ch : Nat → Nat} {p t : Nat} (h8 : ∀ i, t ≤ i → ch i = 0) (hp : p ≤ t) : p ≤ (rcW ch p).2.1 ∧ (rcW ch p).2.1 ≤ t ∧ ((rcW ch p).1 = true → p + 3 ≤ (rcW ch p).2.1 ∧ (rcW ch p).2.2.1 < 12 ∧ (rcW ch p).2.2.2.length = cS (sN (rcW ch p).2.2.1)) := by
  unfold rcW
  by_cases z : sel (ch p) (ch (p + 1)) < 12
  · rw [if_pos z]
    obtain ⟨a, b, c⟩ := mtc_b h8 (sN (sel (ch p) (ch (p + 1)))) p (hd_B _ z).2.2.2.2.2.2.2 hp
    refine ⟨a, b, fun h => ⟨?_, z, (mtc_ops ch _ p).2 h⟩⟩
    have h1 := c h
    have h2 := (hd_B _ z).2.2.2.2.2.1
    show p + 3 ≤ (mtc ch (sN (sel (ch p) (ch (p + 1)))) p).2.1
    omega
  · rw [if_neg z]
    exact ⟨Nat.le_refl _, hp, fun h => by cases h⟩
section
variable {w0 w : XW} {cs : List CM} {t : Nat} {ch : Nat → Nat}
theorem x_append {k : Nat} {os : List Nat} (P : PD w.1 cs os) (hn : cs.length ≤ 15) (ho : os.length ≤ 3) : ∃ w', f_X0_append (zI k) w = some w' ∧ CCm w'.1 (cs ++ [(k, os)]) ∧ (∀ w0, JX w0 w → JX w0 w') ∧ w'.1 138 4 = w.1 138 4 ∧ w'.1 138 3 = w.1 138 3 := by
  obtain ⟨p1, p2, p3⟩ := P
  refine ⟨wset (wset w 139 cs.length (zI k)) 138 2 (zI (cs.length + 1)), ?_, ⟨?_, fun j q hq => ?_⟩, fun w0 J => (J.set (by omega) _ _).set (by omega) _ _, ?_, ?_⟩
  · unfold f_X0_append
    rw [p1.1, if_neg (show ¬ (60 ≤ zI cs.length) by rw [zl_60, zI_le (by omega) (by omega)]; omega), if_pos (by rw [inB_z (by omega)]; omega), zI_nat (by omega), wset_at, if_neg (by omega), p1.1, zl_1, zI_add]
  · rw [wset_hit, List.length_append]; rfl
  · by_cases z : j < cs.length
    · rw [List.getElem?_append_left z] at hq
      obtain ⟨a, b, c⟩ := p1.2 j q hq
      refine ⟨?_, b, fun i hi => ?_⟩
      · rw [wset_at, if_neg (by omega), wset_at, if_neg (by omega)]; exact a
      · rw [wset_at, if_neg (by omega), wset_at, if_neg (by omega)]; exact c i hi
    · have hj : j < (cs ++ [(k, os)]).length := (List.getElem?_eq_some_iff.mp hq).1
      rw [List.length_append] at hj
      have hj : j < cs.length + 1 := hj
      have hj : j = cs.length := by omega
      rw [hj, List.getElem?_append_right (Nat.le_refl _), Nat.sub_self] at hq
      have hq : (k, os) = q := Option.some.inj hq
      rw [← hq, hj]
      refine ⟨?_, ho, fun i hi => ?_⟩
      · rw [wset_at, if_neg (by omega), wset_hit]
      · rw [wset_at, if_neg (by omega), wset_at, if_neg (by omega)]; exact p3 i hi
  · rw [wset_at, if_neg (by omega), wset_at, if_neg (by omega)]
  · rw [wset_at, if_neg (by omega), wset_at, if_neg (by omega)]
theorem x_shape {k : Nat} (hk : k < 12) (w : XW) : f_X0_shapeOf (zI k) w = some (k + 7, w) := by
  have hk' : k = 0 ∨ k = 1 ∨ k = 2 ∨ k = 3 ∨ k = 4 ∨ k = 5 ∨ k = 6 ∨ k = 7 ∨ k = 8 ∨ k = 9 ∨ k = 10 ∨ k = 11 := by omega
  unfold f_X0_shapeOf
  rcases hk' with rfl | rfl | rfl | rfl | rfl | rfl | rfl | rfl | rfl | rfl | rfl | rfl <;> rfl
theorem x_command (T : CT w0 t ch) {p : Nat} (hp : p ≤ t) (hn : cs.length ≤ 15) (J : JX w0 w) (C : CCm w.1 cs) (h3 : w.1 138 3 = zM) : ∃ w', f_X0_readCommand (zI p) w = some w' ∧ JX w0 w' ∧ (((rcW ch p).1 = true ∧ CCm w'.1 (cs ++ [(rcW ch p).2.2]) ∧ w'.1 138 3 = zM ∧ w'.1 138 4 = zI (rcW ch p).2.1) ∨ ((rcW ch p).1 = false ∧ w'.1 138 3 = zI (rcW ch p).2.1)) := by
  obtain ⟨t1, t2, t3, t4, t5⟩ := id T
  obtain ⟨q1, q2, q3⟩ := rcW_b t5 hp
  obtain ⟨q, hq⟩ : ∃ q, q = rcW ch p := ⟨_, rfl⟩
  have loop : ∀ (d fuel k z : Nat) (w : XW), k + d = 12 → d < fuel → p ≤ z → z ≤ q.2.1 → (sel (ch p) (ch (p + 1)) < k → q.1 = false ∧ z = q.2.1) → JX w0 w → CCm w.1 cs → w.1 138 3 = zM → ∃ w', f_X0_readCommand_5 (zI p) fuel (zI z) (zI k) w = some w' ∧ JX w0 w' ∧ ((q.1 = true ∧ CCm w'.1 (cs ++ [q.2.2]) ∧ w'.1 138 3 = zM ∧ w'.1 138 4 = zI q.2.1) ∨ (q.1 = false ∧ w'.1 138 3 = zI q.2.1)) := by
    rw [← hq] at q1 q2 q3
    intro d
    induction d with
    | zero =>
      intro fuel k z w hk hf hz1 hz2 hs J C h3
      cases fuel with
      | zero => omega
      | succ fuel =>
        unfold f_X0_readCommand_5
        rw [if_pos (show 12 ≤ zI k by rw [zl_12, zI_le (by omega) (by omega)]; omega)]
        have hz : q.1 = false ∧ z = q.2.1 := by
          by_cases y : sel (ch p) (ch (p + 1)) < 12
          · exact hs (by omega)
          · have e : q = (false, p, (12, [])) := by rw [hq]; unfold rcW; rw [if_neg y]
            rw [e] at hz2 ⊢
            exact ⟨rfl, by show z = p; have : z ≤ p := hz2; omega⟩
        exact ⟨_, rfl, J.set (by omega) _ _, Or.inr ⟨hz.1, by rw [wset_hit, hz.2]⟩⟩
    | succ d ih =>
      intro fuel k z w hk hf hz1 hz2 hs J C h3
      cases fuel with
      | zero => omega
      | succ fuel =>
        unfold f_X0_readCommand_5
        rw [if_neg (show ¬ (12 ≤ zI k) by rw [zl_12, zI_le (by omega) (by omega)]; omega), x_shape (by omega), bS_s]
        have P0 : PD (wset (wset w 138 4 (zI p)) 138 5 (zI 0)).1 cs [] := by
          refine ⟨C.cg ?_ (fun j hj => ?_) (fun j hj => ?_), wset_hit _ _ _ _, fun i hi => by cases hi⟩
          · rw [wset_at, if_neg (by omega), wset_at, if_neg (by omega)]
          · rw [wset_at, if_neg (by omega), wset_at, if_neg (by omega)]
          · rw [wset_at, if_neg (by omega), wset_at, if_neg (by omega)]
        have hB := hd_B k (by omega)
        obtain ⟨w2, e1, e2, e3, e4, e5⟩ := x_follows (w0 := w0) T (s3 := k) (by omega) hn (sN k) [] p 1000 [] zM (wset (wset w 138 4 (zI p)) 138 5 (zI 0)) rfl (by omega) hp (by have := hB.2.2.2.2.2.2.1; show 0 + (sN k).length ≤ 10; omega) ((J.set (by omega) _ _).set (by omega) _ _) (by rw [wset_at, if_neg (by omega), wset_hit]) (by rw [wset_at, if_neg (by omega), wset_at, if_neg (by omega)]; exact h3) P0
        have hmb := mtc_b t5 (sN k) p hB.2.2.2.2.2.2.2 hp
        have hmo := mtc_ops ch (sN k) p
        have hfo : f_X0_follows (zI p) (k + 7) w = some (zI (mtc ch (sN k) p).1.toNat, w2) := e1
        rw [hfo, bI_s]
        have step : (mtc ch (sN k) p).1 = false → (mtc ch (sN k) p).2.1 ≤ q.2.1 → (sel (ch p) (ch (p + 1)) < k + 1 → q.1 = false ∧ (if z < (mtc ch (sN k) p).2.1 then (mtc ch (sN k) p).2.1 else z) = q.2.1) → ∃ w', (if zI (mtc ch (sN k) p).1.toNat = 0 then (f_X0_readCommand_5 (zI p) fuel (if zI z < (w2.1 138 4) then (w2.1 138 4) else zI z) (zI k + 1) w2) else (bV (f_X0_append (zI k) w2) (fun w3 => (some w3)))) = some w' ∧ JX w0 w' ∧ ((q.1 = true ∧ CCm w'.1 (cs ++ [q.2.2]) ∧ w'.1 138 3 = zM ∧ w'.1 138 4 = zI q.2.1) ∨ (q.1 = false ∧ w'.1 138 3 = zI q.2.1)) := fun g1 g2 g3 => by
          rw [g1, if_pos (show zI false.toNat = 0 from rfl), e3, show zI k + 1 = zI (k + 1) by rw [zl_1, zI_add]]
          have ez : (if zI z < zI (mtc ch (sN k) p).2.1 then zI (mtc ch (sN k) p).2.1 else zI z) = zI (if z < (mtc ch (sN k) p).2.1 then (mtc ch (sN k) p).2.1 else z) := by
            by_cases y : z < (mtc ch (sN k) p).2.1
            · rw [if_pos (by rw [zI_lt (by omega) (by omega)]; exact y), if_pos y]
            · rw [if_neg (by rw [zI_lt (by omega) (by omega)]; exact y), if_neg y]
          rw [ez]
          refine ih fuel (k + 1) _ w2 (by omega) (by omega) ?_ ?_ g3 e2 e5.1 e4
          · by_cases y : z < (mtc ch (sN k) p).2.1
            · rw [if_pos y]; omega
            · rw [if_neg y]; exact hz1
          · by_cases y : z < (mtc ch (sN k) p).2.1
            · rw [if_pos y]; exact g2
            · rw [if_neg y]; exact hz2
        by_cases y : sel (ch p) (ch (p + 1)) = k
        · have eq : q = ((mtc ch (sN k) p).1, (mtc ch (sN k) p).2.1, (k, (mtc ch (sN k) p).2.2)) := by
            rw [hq]; unfold rcW; rw [y, if_pos (show k < 12 by omega)]
          by_cases z1 : (mtc ch (sN k) p).1 = true
          · rw [z1, if_neg (show ¬ (zI true.toNat = 0) by decide)]
            obtain ⟨w3, a1, a2, a3, a4, a5⟩ := x_append (k := k) e5 hn (by have h1 := hmo.1; have h2 := hB.2.2.2.2.1; show (mtc ch (sN k) p).2.2.length ≤ 3; omega)
            rw [a1, bV_s]
            refine ⟨w3, rfl, a3 _ e2, Or.inl ⟨by rw [eq]; exact z1, by rw [eq]; exact a2, a5.trans e4, ?_⟩⟩
            rw [a4, e3, eq]
          · have z1 := Bool.eq_false_iff.mpr z1
            have e21 : q.2.1 = (mtc ch (sN k) p).2.1 := by rw [eq]
            refine step z1 (by rw [e21]; exact Nat.le_refl _) (fun _ => ⟨by rw [eq]; exact z1, ?_⟩)
            rw [e21] at hz2 ⊢
            by_cases x : z < (mtc ch (sN k) p).2.1
            · rw [if_pos x]
            · rw [if_neg x]; omega
        · have hle := sel_le (ch p) (ch (p + 1))
          have hf2 : (mtc ch (sN k) p).1 = false ∧ (mtc ch (sN k) p).2.1 ≤ q.2.1 := by
            by_cases x : sel (ch p) (ch (p + 1)) = 12
            · rw [sel_12 x (show k < 12 by omega)]
              exact ⟨rfl, q1⟩
            · have h := sel_other t5 hp (s := sel (ch p) (ch (p + 1))) (k := k) (by omega) rfl (by omega) (fun z => y z.symm)
              refine ⟨h.1, ?_⟩
              have e21 : q.2.1 = (mtc ch (sN (sel (ch p) (ch (p + 1)))) p).2.1 := by rw [hq]; unfold rcW; rw [if_pos (by omega)]
              rw [e21]; exact h.2
          refine step hf2.1 hf2.2 (fun x => ?_)
          obtain ⟨s1, s2⟩ := hs (by omega)
          refine ⟨s1, ?_⟩
          by_cases x : z < (mtc ch (sN k) p).2.1
          · omega
          · rw [if_neg x]; exact s2
  rw [← hq] at q1 q2 q3 ⊢
  exact loop 12 1000 0 p w rfl (by omega) (Nat.le_refl _) q1 (fun h => by omega) J C h3
end
