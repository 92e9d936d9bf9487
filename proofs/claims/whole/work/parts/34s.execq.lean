theorem Rel.alt {B B' : Nat} {h h' : Nat → Nat → Int32} (q : Rel B h) (hB : B ≤ B') (S : ∃ F, F 3 ≤ B' ∧ RSx h' F) (e : ∀ a, (24 ≤ a ∧ a ≤ 33) ∨ a = 144 ∨ (36 ≤ a ∧ a ≤ 123) ∨ a = 145 ∨ a = 34 ∨ a = 135 ∨ a = 148 → h' a = h a) (e134 : h' 134 1 = h 134 1) (e0 : h' 0 10 = h 0 10) (e1 : ∀ c, c = 5 ∨ c = 6 ∨ c = 12 → h' 141 c = h 141 c) (et : RTx h') (ef : RFx h') (ed : RDx h') : Rel B' h' := by
  obtain ⟨_, q2, q3, q4, q5, q6, q7⟩ := q
  exact ⟨S, q2.cg hB (fun a h1 h2 => e a (by omega)) (e 144 (by omega)) e0 (e1 6 (by omega)), q3.cg hB (fun a h1 h2 => e a (by omega)) (e 145 (by omega)) (e 34 (by omega)) (e1 5 (by omega)), et, q5.cg e134 (e 135 (by omega)) (e 148 (by omega)) (e1 12 (by omega)), ef, ed⟩
theorem m_127 {i cz : Nat} {r10 : Int32} (hc : (0 ≤ r10 ∧ cz = 9) ∨ (¬ 0 ≤ r10 ∧ -r10 = zI cz)) : ∀ (d fuel j : Nat) (w : XW), j + d = 66 → d < fuel → ∃ m2, f_X11_execute_127 (zI i) r10 fuel (zI j) w = some (0, wset (wset (wset (wset (wset m2 141 15 (zI 8)) 141 16 (zI i)) 141 17 (zI 0)) 141 17 (zI cz)) 141 0 (zI 2)) ∧ Fr (fun a => a = 142) w m2 ∧ (∀ x, j ≤ x → x < 66 → m2.1 142 x = w.1 143 x) ∧ (∀ x, x < j → m2.1 142 x = w.1 142 x) := by
  intro d
  induction d with
  | zero =>
    intro fuel j w hj hf
    cases fuel with
    | zero => omega
    | succ fuel =>
      refine ⟨w, ?_, Fr.rf, fun x h1 h2 => by omega, fun _ _ => rfl⟩
      unfold f_X11_execute_127
      rw [if_pos (show 66 ≤ zI j by rw [zl_66, zI_le (by omega) (by omega)]; omega), zl_8, den_m, bI_s]
      rcases hc with ⟨h1, h2⟩ | ⟨h1, h2⟩
      · rw [if_pos h1, h2]; rfl
      · rw [if_neg h1, h2]; rfl
  | succ d ih =>
    intro fuel j w hj hf
    cases fuel with
    | zero => omega
    | succ fuel =>
      unfold f_X11_execute_127
      rw [if_neg (show ¬ (66 ≤ zI j) by rw [zl_66, zI_le (by omega) (by omega)]; omega), if_pos (show inB (zI j) 66 by rw [inB_z (by omega)]; omega), if_pos (show inB (zI j) 66 by rw [inB_z (by omega)]; omega), zI_nat (by omega), zl_1, zI_add]
      obtain ⟨m2, e1, e2, e3, e4⟩ := ih fuel (j + 1) (wset w 142 j (w.1 143 j)) (by omega) (by omega)
      refine ⟨m2, e1, (Fr.rf.set (P := fun a => a = 142) rfl _ _).tr e2, fun x h1 h2 => ?_, fun x hx => ?_⟩
      · by_cases z : x = j
        · rw [z, e4 j (by omega), wset_hit]
        · rw [e3 x (by omega) h2, wset_at, if_neg (by omega)]
      · rw [e4 x (by omega), wset_at, if_neg (by omega)]
theorem q_execute (B : Nat) : QX B (B + 1600) f_X10_execute f_X11_execute [(iae, 1), (uoe, 2)] := fun w q => by
  have hR := q
  obtain ⟨⟨F, hF, hI, hC, hM⟩, q2, ⟨hs, nh, nx, b1, b2, b3, b4, b5, b6⟩, q4, q5, q6, q7⟩ := q
  have hH1 : HC w.1 hs nh nx := ⟨b1, b2, b3, b4, fun i hi => (b6 i hi).2.2.1⟩
  have hH2 : HM w.1 hs nh := ⟨b5, fun i hi => (b6 i hi).2.2.2⟩
  have hF1 : F 1 ≤ 7 := by have := hI.1; have := hI.2.1; omega
  obtain ⟨t, ch, t1, t2, t3, t4, t5, t6, t7⟩ := txt_of q4
  have T : CT w t ch := ⟨t1, t2, t4, t6, t7⟩
  obtain ⟨wa, x1, x2, x3⟩ := x_read T
  have rb := rd_b t7 t1 100 0 [] (by omega) (by show 4 * 0 ≤ 0; omega) (fun q h => by cases h)
  have rv := rd_v (t := t) t6 100 0 [] (fun q h => by cases h)
  obtain ⟨r, hr⟩ : ∃ r, r = rd ch t 100 0 [] := ⟨_, rfl⟩
  have hcl : f_X10_execute w = bVX (f_X10_refuseFault ((wset wa 132 1 0).1 138 3) (wset wa 132 1 0)) (fun w3 => (bV (f_X8_copyFrom 12 1 w3) (fun w4 => (f_X10_execute_42 1000 0 w4)))) := by
    unfold f_X10_execute; rw [x1, bV_s]; rfl
  -- the reference, begun
  have hmd : ∀ (u : XW) (v : Int64 × UInt64), u.1 141 = w.1 141 → u.1 142 = w.1 142 → u.1 146 = w.1 146 → ∃ m0 : XW, m0.2 = v ∧ (∀ a c, a ≠ 143 → ¬ (a = 141 ∧ (c = 0 ∨ c = 11 ∨ c = 18 ∨ c = 19 ∨ c = 20 ∨ c = 22)) → m0.1 a c = u.1 a c) ∧ m0.1 141 0 = zI 0 ∧ m0.1 141 11 = zI 0 ∧ Mo m0.1 143 0 F ∧ MT m0 t ch ∧ JN m0 0 0 0 m0 ∧ f_X11_execute (u.1, v) = bV (f_X11_readsOne m0) (fun w2 => f_X11_execute_36 1000 w2) := by
    intro u v h1 h2 h3
    obtain ⟨w1, e1, e2, e3⟩ := m_rem (u.1, v)
    have g : ∀ a c, a ≠ 143 → ¬ (a = 141 ∧ c = 0) → w1.1 a c = u.1 a c := fun a c ha hc => by rw [e2.at ha, wset_at, if_neg (by omega)]
    obtain ⟨m0, hm0⟩ : ∃ m0 : XW, m0 = wset (wset (wset (wset (wset w1 141 18 0) 141 19 ((wset w1 141 18 0).1 141 11)) 141 11 0) 141 20 0) 141 22 0 := ⟨_, rfl⟩
    have f : ∀ a c, ¬ (a = 141 ∧ (c = 11 ∨ c = 18 ∨ c = 19 ∨ c = 20 ∨ c = 22)) → m0.1 a c = w1.1 a c := fun a c h => by
      rw [hm0, wset_at, if_neg (by omega), wset_at, if_neg (by omega), wset_at, if_neg (by omega), wset_at, if_neg (by omega), wset_at, if_neg (by omega)]
    have f18 : m0.1 141 18 = zI 0 := by
      rw [hm0, wset_at, if_neg (by omega), wset_at, if_neg (by omega), wset_at, if_neg (by omega), wset_at, if_neg (by omega), wset_hit, zl_0]
    have f19 : m0.1 141 19 = zI t := by
      rw [hm0, wset_at, if_neg (by omega), wset_at, if_neg (by omega), wset_at, if_neg (by omega), wset_hit, wset_at, if_neg (by omega), g 141 11 (by omega) (by omega), h1]
      exact t3
    have f11 : m0.1 141 11 = zI 0 := by rw [hm0, wset_at, if_neg (by omega), wset_at, if_neg (by omega), wset_hit, zl_0]
    have f20 : m0.1 141 20 = zI 0 := by rw [hm0, wset_at, if_neg (by omega), wset_hit, zl_0]
    have f22 : m0.1 141 22 = zI 0 := by rw [hm0, wset_hit, zl_0]
    refine ⟨m0, by rw [hm0]; exact e2.2, fun a c ha hc => (f a c (by omega)).trans (g a c ha (by omega)), ?_, f11, fun j hj => ?_, ⟨t1, f19, fun i hi => ?_, t6, t7⟩, ⟨rfl, fun _ _ _ _ => rfl, f18, f22, f20⟩, ?_⟩
    · rw [f 141 0 (by omega), e2.at (by omega), wset_hit]
    · rw [f 143 _ (by omega), Nat.zero_add, e3 j hj]
      show u.1 142 j = _
      rw [h2]; exact hM.at hj
    · rw [f 146 i (by omega), g 146 i (by omega) (by omega), h3]; exact t5 i hi
    · unfold f_X11_execute
      rw [e1, bV_s, hm0]
  have hread : ∀ (m0 : XW), MT m0 t ch → JN m0 0 0 0 m0 → _ := fun m0 hT hJ => m_reading hT 100 0 1000 [] m0 (by omega) (by omega) (by omega) (by show 4 * 0 ≤ 0; omega) hJ (fun j q h => by cases h)
  rw [← hr] at x3 rb rv hread
  rcases x3 with ⟨y1, y2, y3⟩ | ⟨y1, y2⟩
  · -- all read: what comes of it
    have e132 : ∀ a c, ¬ (a = 132 ∧ c = 1) → (wset wa 132 1 0).1 a c = wa.1 a c := fun a c h => by rw [wset_at, if_neg (by omega)]
    have hwb : ∀ a c, a ≠ 138 → a ≠ 139 → a ≠ 140 → ¬ (a = 132 ∧ c = 1) → (wset wa 132 1 0).1 a c = w.1 a c := fun a c h1 h2 h3 h4 => (e132 a c h4).trans (x2.2 a c h1 h2 h3)
    have hCb : Cls (wset wa 132 1 0).1 1 F := hC.cg (fun a h1 h2 => by funext c; exact hwb a c (by omega) (by omega) (by omega) (by omega))
    obtain ⟨wc, k1, k2, k3⟩ := z_copy (k := 12) (k1 := 1) hCb (by omega) hF1 hI.2.2.1
    have hCc : Cls wc.1 1 F := hCb.fr k2 (fun a h1 h2 => by omega)
    have hMc : CCm wc.1 r.2.2 := y3.cg ((k2.at (by omega) _).trans (e132 _ _ (by omega))) (fun j _ => (k2.at (by omega) _).trans (e132 _ _ (by omega))) (fun j _ => (k2.at (by omega) _).trans (e132 _ _ (by omega)))
    have hcl2 : f_X10_execute w = f_X10_execute_42 1000 (zI 0) wc := by
      rw [hcl]
      have e3 : (wset wa 132 1 0).1 138 3 = zM := (e132 138 3 (by omega)).trans y2
      unfold f_X10_refuseFault
      rw [e3, if_pos (show zM = -1 from rfl), bVX_s, k1, bV_s, zl_0]
    have gc : ∀ a c, ¬ (13 ≤ a ∧ a ≤ 22) → a ≠ 138 → a ≠ 139 → a ≠ 140 → ¬ (a = 132 ∧ c = 1) → wc.1 a c = w.1 a c := fun a c h0 h1 h2 h3 h4 => (k2.at (by omega) c).trans (hwb a c h1 h2 h3 h4)
    rcases exec_loop rb.2.1 rb.2.2 rv r.2.2.length 1000 0 F wc (by omega) (by have := rb.2.1; omega) hI hCc hMc with ⟨G, wd, i1, i2, i3, i4, i5, i6⟩ | ⟨i, cz, wd, r6, i1, i2, i3, i4, i5, i6, i7⟩
    · -- done
      have gd : ∀ a c, ¬ (2 ≤ a ∧ a ≤ 22) → ¬ (125 ≤ a ∧ a ≤ 127) → a ≠ 138 → a ≠ 139 → a ≠ 140 → ¬ (a = 132 ∧ c = 1) → wd.1 a c = w.1 a c := fun a c h0 h00 h1 h2 h3 h4 => (i5.at (by omega) c).trans (gc a c (by omega) h1 h2 h3 h4)
      have hHd : HC wd.1 hs nh nx := ⟨b1, b2, (gd 34 1 (by omega) (by omega) (by omega) (by omega) (by omega) (by omega)).trans b3, (gd 34 2 (by omega) (by omega) (by omega) (by omega) (by omega) (by omega)).trans b4, fun i hi => by
        have hin := slot_in nx i
        exact (hH1.2.2.2.2 i hi).cg (fun a h1 h2 => by funext c; exact gd a c (by omega) (by omega) (by omega) (by omega) (by omega) (by omega))⟩
      have hC12 : Cls wd.1 12 F := k3.fr i5 (fun a h1 h2 => by omega)
      obtain ⟨we, l1, l2, l3⟩ := h_keep hHd hC12 (by omega) hF1 hI.2.2.1
      have ge : ∀ a c, ¬ (2 ≤ a ∧ a ≤ 22) → ¬ (125 ≤ a ∧ a ≤ 127) → a ≠ 138 → a ≠ 139 → a ≠ 140 → a ≠ 34 → ¬ (37 ≤ a ∧ a ≤ 123) → ¬ (a = 132 ∧ c = 1) → we.1 a c = w.1 a c := fun a c h0 h00 h1 h2 h3 h4 h5 h6 => (l2.at (by omega) c).trans (gd a c h0 h00 h1 h2 h3 h6)
      have hcnt : we.1 138 2 = zI r.2.2.length := (l2.at (by omega) 2).trans ((i5.at (by omega) 2).trans hMc.1)
      refine Or.inr ⟨zI r.2.2.length, we, ?_, fun v => ?_⟩
      · rw [hcl2, i3, l1, bV_s, hcnt]
      · obtain ⟨m0, n1, n2, n3, n4, n5, n6, n7, nE⟩ := hmd we v (by funext c; exact ge 141 c (by omega) (by omega) (by omega) (by omega) (by omega) (by omega) (by omega) (by omega)) (by funext c; exact ge 142 c (by omega) (by omega) (by omega) (by omega) (by omega) (by omega) (by omega) (by omega)) (by funext c; exact ge 146 c (by omega) (by omega) (by omega) (by omega) (by omega) (by omega) (by omega) (by omega))
        rcases hread m0 n6 n7 with ⟨_, m1, o1, o2, o3⟩ | ⟨o1, _⟩
        · have gm1 : ∀ a c, a ≠ 147 → a ≠ 143 → ¬ (a = 141 ∧ (c = 0 ∨ c = 11 ∨ c = 18 ∨ c = 19 ∨ c = 20 ∨ c = 22)) → m1.1 a c = we.1 a c := fun a c h1 h2 h3 => (o1.2.1 a c (by omega) h1).trans (n2 a c h2 h3)
          have hM1 : Mo m1.1 142 0 F := fun j hj => by
            rw [gm1 142 _ (by omega) (by omega) (by omega), ge 142 _ (by omega) (by omega) (by omega) (by omega) (by omega) (by omega) (by omega) (by omega)]; exact hM j hj
          obtain ⟨m2, p1, p2, p3⟩ := i6 1000 m1 (by have := rb.2.1; omega) hM1 o2 o1.2.2.2.2
          have gm2 : ∀ a c, a ≠ 147 → a ≠ 143 → a ≠ 142 → a ≠ 149 → ¬ (a = 141 ∧ (c = 0 ∨ c = 11 ∨ c = 14 ∨ c = 18 ∨ c = 19 ∨ c = 20 ∨ c = 22)) → m2.1 a c = we.1 a c := fun a c h1 h2 h3 h4 h5 => (p3.2 a c (by omega)).trans (gm1 a c h1 h2 (by omega))
          have hH2m : HM m2.1 hs nh := ⟨by rw [gm2 141 5 (by omega) (by omega) (by omega) (by omega) (by omega), ge 141 5 (by omega) (by omega) (by omega) (by omega) (by omega) (by omega) (by omega) (by omega)]; exact b5, fun i hi j hj => by
            rw [gm2 145 _ (by omega) (by omega) (by omega) (by omega) (by omega), ge 145 _ (by omega) (by omega) (by omega) (by omega) (by omega) (by omega) (by omega) (by omega)]; exact hH2.2 i hi j hj⟩
          have hM143 : Mo m2.1 143 0 F := fun j hj => by
            rw [p3.2 143 _ (by omega), o1.2.1 143 _ (by omega) (by omega)]; exact n5 j hj
          obtain ⟨m3, s1, s2, s3, s4⟩ := m_changed (w := m2) (F := F) (zI r.2.2.length) b1 hH2m hM143
          have g3 : ∀ a c, a ≠ 147 → a ≠ 143 → a ≠ 142 → a ≠ 149 → a ≠ 141 → a ≠ 145 → m3.1 a c = we.1 a c := fun a c h1 h2 h3 h4 h5 h6 => (s2.at (by omega) c).trans (gm2 a c h1 h2 h3 h4 (by omega))
          have g141 : ∀ c, c ≠ 5 → ¬ (c = 0 ∨ c = 11 ∨ c = 14 ∨ c = 18 ∨ c = 19 ∨ c = 20 ∨ c = 22) → m3.1 141 c = w.1 141 c := fun c h1 h2 => by
            rw [s3 c h1, gm2 141 c (by omega) (by omega) (by omega) (by omega) (by omega), ge 141 c (by omega) (by omega) (by omega) (by omega) (by omega) (by omega) (by omega) (by omega)]
          have G3 : ∀ a c, ¬ (2 ≤ a ∧ a ≤ 22) → ¬ (125 ≤ a ∧ a ≤ 127) → a ≠ 138 → a ≠ 139 → a ≠ 140 → a ≠ 34 → ¬ (37 ≤ a ∧ a ≤ 123) → ¬ (a = 132 ∧ c = 1) → a ≠ 147 → a ≠ 143 → a ≠ 142 → a ≠ 149 → a ≠ 141 → a ≠ 145 → m3.1 a c = w.1 a c := fun a c h0 h00 h1 h2 h3 h4 h5 h6 h7 h8 h9 h10 h11 h12 => (g3 a c h7 h8 h9 h10 h11 h12).trans (ge a c h0 h00 h1 h2 h3 h4 h5 h6)
          refine ⟨m3, ?_, s2.2.trans (p3.1.trans (o1.1.trans n1)), ?_, ?_⟩
          · rw [nE, o3]
            have p1' : f_X11_execute_104 1000 0 m1 = f_X11_changed (zI r.2.2.length) m2 := p1
            rw [p1', s1]
          · rw [s3 0 (by omega), p3.2 141 0 (by omega), o1.2.1 141 0 (by omega) (by omega)]; exact n3
          · refine Rel.mk2 (F := G) (hs := hcons F hs) (n := n8 nh) (nx := (nx + 1) % 8) (by have := rb.2.1; omega) ⟨i1, ?_, ?_⟩ (q2.cg (by omega) (fun a h1 h2 => by funext c; exact G3 a c (by omega) (by omega) (by omega) (by omega) (by omega) (by omega) (by omega) (by omega) (by omega) (by omega) (by omega) (by omega) (by omega) (by omega)) (by funext c; exact G3 144 c (by omega) (by omega) (by omega) (by omega) (by omega) (by omega) (by omega) (by omega) (by omega) (by omega) (by omega) (by omega) (by omega) (by omega)) (G3 0 10 (by omega) (by omega) (by omega) (by omega) (by omega) (by omega) (by omega) (by omega) (by omega) (by omega) (by omega) (by omega) (by omega) (by omega)) (g141 6 (by omega) (by omega))) ?_ s4 (hs_cons hI (by omega) (by omega) (fun i hi => ⟨(b6 i hi).1, (b6 i hi).2.1⟩)) ⟨0, by omega, ?_, ?_, fun i hi => by omega⟩ (q5.cg (G3 134 1 (by omega) (by omega) (by omega) (by omega) (by omega) (by omega) (by omega) (by omega) (by omega) (by omega) (by omega) (by omega) (by omega) (by omega)) (by funext c; exact G3 135 c (by omega) (by omega) (by omega) (by omega) (by omega) (by omega) (by omega) (by omega) (by omega) (by omega) (by omega) (by omega) (by omega) (by omega)) (by funext c; exact G3 148 c (by omega) (by omega) (by omega) (by omega) (by omega) (by omega) (by omega) (by omega) (by omega) (by omega) (by omega) (by omega) (by omega) (by omega)) (g141 12 (by omega) (by omega))) (q6.cg (G3 0 11 (by omega) (by omega) (by omega) (by omega) (by omega) (by omega) (by omega) (by omega) (by omega) (by omega) (by omega) (by omega) (by omega) (by omega)) (g141 13 (by omega) (by omega))) (q7.cg (fun c h1 h2 => G3 0 c (by omega) (by omega) (by omega) (by omega) (by omega) (by omega) (by omega) (by omega) (by omega) (by omega) (by omega) (by omega) (by omega) (by omega)) (fun c h1 h2 => g141 c (by omega) (by omega)))
            · exact ((i4.fr l2 (fun a h1 h2 => by omega)).cg (fun a h1 h2 => by funext c; exact g3 a c (by omega) (by omega) (by omega) (by omega) (by omega) (by omega)))
            · exact p2.fr s2 (by omega)
            · obtain ⟨z1, z2, z3, z4, z5⟩ := l3
              refine ⟨z1, z2, (g3 34 1 (by omega) (by omega) (by omega) (by omega) (by omega) (by omega)).trans z3, (g3 34 2 (by omega) (by omega) (by omega) (by omega) (by omega) (by omega)).trans z4, fun i hi => ?_⟩
              have hin := slot_in ((nx + 1) % 8) i
              exact (z5 i hi).cg (fun a h1 h2 => by funext c; exact g3 a c (by omega) (by omega) (by omega) (by omega) (by omega) (by omega))
            · rw [g3 132 1 (by omega) (by omega) (by omega) (by omega) (by omega) (by omega), l2.at (by omega), i5.at (by omega), k2.at (by omega), wset_hit, zl_0]
            · rw [s3 11 (by omega), p3.2 141 11 (by omega), o1.2.1 141 11 (by omega) (by omega)]; exact n4
        · exfalso; rw [y1] at o1; cases o1
    · -- one denied: all taken back
      have hC12 : Cls wd.1 12 F := k3.fr i6 (fun a h1 h2 => by omega)
      obtain ⟨we, l1, l2, l3⟩ := z_copy (k := 1) (k1 := 12) hC12 (by omega) hF1 hI.2.2.1
      have ge : ∀ a c, ¬ (2 ≤ a ∧ a ≤ 22) → ¬ (125 ≤ a ∧ a ≤ 127) → a ≠ 138 → a ≠ 139 → a ≠ 140 → ¬ (a = 132 ∧ c = 1) → we.1 a c = w.1 a c := fun a c h0 h00 h1 h2 h3 h4 => (l2.at (by omega) c).trans ((i6.at (by omega) c).trans (gc a c (by omega) h1 h2 h3 h4))
      obtain ⟨u, hu⟩ : ∃ u, u = denW we 8 i (zI cz) := ⟨_, rfl⟩
      have gu : ∀ a c, ¬ (a = 0 ∧ 12 ≤ c ∧ c ≤ 14) → u.1 a c = we.1 a c := fun a c h => by
        rw [hu]; unfold denW; rw [wset_at, if_neg (by omega), wset_at, if_neg (by omega), wset_at, if_neg (by omega)]
      have u12 : u.1 0 12 = zI 8 ∧ u.1 0 13 = zI i ∧ u.1 0 14 = zI cz := by
        rw [hu]; unfold denW; simp only [wset_at]; exact ⟨rfl, rfl, rfl⟩
      have gw : ∀ a c, ¬ (2 ≤ a ∧ a ≤ 22) → ¬ (125 ≤ a ∧ a ≤ 127) → a ≠ 138 → a ≠ 139 → a ≠ 140 → ¬ (a = 132 ∧ c = 1) → ¬ (a = 0 ∧ 12 ≤ c ∧ c ≤ 14) → u.1 a c = w.1 a c := fun a c h0 h00 h1 h2 h3 h4 h5 => (gu a c h5).trans (ge a c h0 h00 h1 h2 h3 h4)
      refine Or.inl ⟨(uoe, 2), List.mem_cons_of_mem _ List.mem_cons_self, u, ?_, fun v => ?_⟩
      · rw [hcl2, i4, l1, bV_s, i5, bI_s, hu]
        rfl
      · obtain ⟨m0, n1, n2, n3, n4, n5, n6, n7, nE⟩ := hmd u v (by funext c; exact gw 141 c (by omega) (by omega) (by omega) (by omega) (by omega) (by omega) (by omega)) (by funext c; exact gw 142 c (by omega) (by omega) (by omega) (by omega) (by omega) (by omega) (by omega)) (by funext c; exact gw 146 c (by omega) (by omega) (by omega) (by omega) (by omega) (by omega) (by omega))
        rcases hread m0 n6 n7 with ⟨_, m1, o1, o2, o3⟩ | ⟨o1, _⟩
        · have gm1 : ∀ a c, a ≠ 147 → a ≠ 143 → ¬ (a = 141 ∧ (c = 0 ∨ c = 11 ∨ c = 18 ∨ c = 19 ∨ c = 20 ∨ c = 22)) → m1.1 a c = u.1 a c := fun a c h1 h2 h3 => (o1.2.1 a c (by omega) h1).trans (n2 a c h2 h3)
          have hM1 : Mo m1.1 142 0 F := fun j hj => by
            rw [gm1 142 _ (by omega) (by omega) (by omega), gw 142 _ (by omega) (by omega) (by omega) (by omega) (by omega) (by omega) (by omega)]; exact hM j hj
          obtain ⟨m2, r10, p1, pc, p3⟩ := i7 1000 m1 (by have := rb.2.1; omega) hM1 o2 o1.2.2.2.2
          obtain ⟨m3, s1, s2, s3, _⟩ := m_127 (i := i) pc 66 1000 0 m2 (by omega) (by omega)
          have g3 : ∀ a c, a ≠ 147 → a ≠ 143 → a ≠ 142 → a ≠ 149 → ¬ (a = 141 ∧ (c = 0 ∨ c = 11 ∨ c = 18 ∨ c = 19 ∨ c = 20 ∨ c = 22)) → ¬ (a = 141 ∧ 14 ≤ c ∧ c ≤ 17) → m3.1 a c = u.1 a c := fun a c h1 h2 h3 h4 h5 h6 => (s2.at h3 c).trans ((p3.2 a c (by omega)).trans (gm1 a c h1 h2 h5))
          obtain ⟨m4, hm4⟩ : ∃ m4 : XW, m4 = wset (wset (wset (wset (wset m3 141 15 (zI 8)) 141 16 (zI i)) 141 17 (zI 0)) 141 17 (zI cz)) 141 0 (zI 2) := ⟨_, rfl⟩
          have g4 : ∀ a c, ¬ (a = 141 ∧ (c = 0 ∨ c = 15 ∨ c = 16 ∨ c = 17)) → m4.1 a c = m3.1 a c := fun a c h => by
            rw [hm4, wset_at, if_neg (by omega), wset_at, if_neg (by omega), wset_at, if_neg (by omega), wset_at, if_neg (by omega), wset_at, if_neg (by omega)]
          have h4 : m4.1 141 15 = zI 8 ∧ m4.1 141 16 = zI i ∧ m4.1 141 17 = zI cz ∧ m4.1 141 0 = zI 2 := by
            rw [hm4]; simp only [wset_at]; exact ⟨rfl, rfl, rfl, rfl⟩
          have gu4 : ∀ a c, a ≠ 147 → a ≠ 143 → a ≠ 142 → a ≠ 149 → a ≠ 141 → m4.1 a c = u.1 a c := fun a c h1 h2 h3 h4 h5 => (g4 a c (by omega)).trans (g3 a c h1 h2 h3 h4 (by omega) (by omega))
          have gw4 : ∀ a c, a ≠ 147 → a ≠ 143 → a ≠ 142 → a ≠ 149 → a ≠ 141 → ¬ (2 ≤ a ∧ a ≤ 22) → ¬ (125 ≤ a ∧ a ≤ 127) → a ≠ 138 → a ≠ 139 → a ≠ 140 → ¬ (a = 132 ∧ c = 1) → ¬ (a = 0 ∧ 12 ≤ c ∧ c ≤ 14) → m4.1 a c = w.1 a c := fun a c h1 h2 h3 h4 h5 e1 e2 e3 e4 e5 e6 e7 => (gu4 a c h1 h2 h3 h4 h5).trans (gw a c e1 e2 e3 e4 e5 e6 e7)
          have g141 : ∀ c, ¬ (c = 0 ∨ c = 11 ∨ c = 18 ∨ c = 19 ∨ c = 20 ∨ c = 22) → ¬ (14 ≤ c ∧ c ≤ 17) → m4.1 141 c = w.1 141 c := fun c h1 h2 => by
            rw [g4 141 c (by omega), g3 141 c (by omega) (by omega) (by omega) (by omega) (by omega) (by omega), gw 141 c (by omega) (by omega) (by omega) (by omega) (by omega) (by omega) (by omega)]
          refine ⟨0, m4, ?_, ?_, h4.2.2.2, hR.alt (by omega) ⟨F, by omega, hI, ?_, fun j hj => ?_⟩ (fun a ha => by funext c; exact gw4 a c (by omega) (by omega) (by omega) (by omega) (by omega) (by omega) (by omega) (by omega) (by omega) (by omega) (by omega) (by omega)) (gw4 134 1 (by omega) (by omega) (by omega) (by omega) (by omega) (by omega) (by omega) (by omega) (by omega) (by omega) (by omega) (by omega)) (gw4 0 10 (by omega) (by omega) (by omega) (by omega) (by omega) (by omega) (by omega) (by omega) (by omega) (by omega) (by omega) (by omega)) (fun c hc => g141 c (by omega) (by omega)) ⟨0, by omega, ?_, ?_, fun i hi => by omega⟩ ?_ ⟨Or.inr ⟨8, i, by omega, by omega, by omega, ?_, h4.1, ?_, h4.2.1⟩, Or.inr ⟨cz, i2, i3, ?_, h4.2.2.1⟩⟩⟩
          · rw [nE, o3]
            have p1' : f_X11_execute_104 1000 0 m1 = f_X11_execute_127 (zI i) r10 1000 0 m2 := p1
            have s1' : f_X11_execute_127 (zI i) r10 1000 0 m2 = some (0, m4) := by rw [hm4]; exact s1
            rw [p1', s1']
          · rw [hm4]; exact s2.2.trans (p3.1.trans (o1.1.trans n1))
          · exact l3.cg (fun a h1 h2 => by funext c; exact (gu4 a c (by omega) (by omega) (by omega) (by omega) (by omega)).trans (gu a c (by omega)))
          · rw [g4 142 _ (by omega), Nat.zero_add, s3 j (by omega) hj, p3.2 143 _ (by omega), o1.2.1 143 _ (by omega) (by omega)]
            have := n5 j hj
            rw [Nat.zero_add] at this
            exact this
          · rw [gu4 132 1 (by omega) (by omega) (by omega) (by omega) (by omega), gu 132 1 (by omega), l2.at (by omega), i6.at (by omega), k2.at (by omega), wset_hit, zl_0]
          · rw [g4 141 11 (by omega), s2.at (by omega), p3.2 141 11 (by omega), o1.2.1 141 11 (by omega) (by omega)]; exact n4
          · exact q6.cg (gw4 0 11 (by omega) (by omega) (by omega) (by omega) (by omega) (by omega) (by omega) (by omega) (by omega) (by omega) (by omega) (by omega)) (g141 13 (by omega) (by omega))
          · rw [gu4 0 12 (by omega) (by omega) (by omega) (by omega) (by omega)]; exact u12.1
          · rw [gu4 0 13 (by omega) (by omega) (by omega) (by omega) (by omega)]; exact u12.2.1
          · rw [gu4 0 14 (by omega) (by omega) (by omega) (by omega) (by omega)]; exact u12.2.2
        · exfalso; rw [y1] at o1; cases o1
  · -- a fault
    obtain ⟨u, hu⟩ : ∃ u, u = wset (wset wa 132 1 0) 0 11 (zI r.2.1) := ⟨_, rfl⟩
    have gu : ∀ a c, a ≠ 138 → a ≠ 139 → a ≠ 140 → ¬ (a = 132 ∧ c = 1) → ¬ (a = 0 ∧ c = 11) → u.1 a c = w.1 a c := fun a c h1 h2 h3 h4 h5 => by
      rw [hu, wset_at, if_neg (by omega), wset_at, if_neg (by omega)]; exact x2.2 a c h1 h2 h3
    refine Or.inl ⟨(iae, 1), List.mem_cons_self, u, ?_, fun v => ?_⟩
    · rw [hcl]
      have e3 : (wset wa 132 1 0).1 138 3 = zI r.2.1 := by rw [wset_at, if_neg (by omega)]; exact y2
      unfold f_X10_refuseFault
      have := rb.1
      rw [e3, if_neg (show ¬ (zI r.2.1 = -1) by rw [zl_1, zm1, zI_zM (by omega)]; exact id), hu]
      rfl
    · obtain ⟨m0, n1, n2, n3, n4, n5, n6, n7, nE⟩ := hmd u v (by funext c; exact gu 141 c (by omega) (by omega) (by omega) (by omega) (by omega)) (by funext c; exact gu 142 c (by omega) (by omega) (by omega) (by omega) (by omega)) (by funext c; exact gu 146 c (by omega) (by omega) (by omega) (by omega) (by omega))
      rcases hread m0 n6 n7 with ⟨o1, _⟩ | ⟨_, m1, wr, nn, o1, o3⟩
      · exfalso; rw [y1] at o1; cases o1
      · obtain ⟨m4, hm4⟩ : ∃ m4 : XW, m4 = wset (wset m1 141 13 (zI r.2.1)) 141 0 1 := ⟨_, rfl⟩
        have g4 : ∀ a c, a ≠ 147 → a ≠ 143 → ¬ (a = 141 ∧ (c = 0 ∨ c = 11 ∨ c = 13 ∨ c = 18 ∨ c = 19 ∨ c = 20 ∨ c = 22)) → m4.1 a c = u.1 a c := fun a c h1 h2 h3 => by
          rw [hm4, wset_at, if_neg (by omega), wset_at, if_neg (by omega)]
          exact (o1.2.1 a c (by omega) h1).trans (n2 a c h2 (by omega))
        have gw4 : ∀ a c, a ≠ 147 → a ≠ 143 → ¬ (a = 141 ∧ (c = 0 ∨ c = 11 ∨ c = 13 ∨ c = 18 ∨ c = 19 ∨ c = 20 ∨ c = 22)) → a ≠ 138 → a ≠ 139 → a ≠ 140 → ¬ (a = 132 ∧ c = 1) → ¬ (a = 0 ∧ c = 11) → m4.1 a c = w.1 a c := fun a c h1 h2 h3 e1 e2 e3 e4 e5 => (g4 a c h1 h2 h3).trans (gu a c e1 e2 e3 e4 e5)
        refine ⟨0, m4, ?_, ?_, ?_, hR.alt (by omega) ⟨F, by omega, hI, ?_, fun j hj => ?_⟩ (fun a ha => by funext c; exact gw4 a c (by omega) (by omega) (by omega) (by omega) (by omega) (by omega) (by omega) (by omega)) (gw4 134 1 (by omega) (by omega) (by omega) (by omega) (by omega) (by omega) (by omega) (by omega)) (gw4 0 10 (by omega) (by omega) (by omega) (by omega) (by omega) (by omega) (by omega) (by omega)) (fun c hc => gw4 141 c (by omega) (by omega) (by omega) (by omega) (by omega) (by omega) (by omega) (by omega)) ⟨0, by omega, ?_, ?_, fun i hi => by omega⟩ ?_ (q7.cg (fun c h1 h2 => gw4 0 c (by omega) (by omega) (by omega) (by omega) (by omega) (by omega) (by omega) (by omega)) (fun c h1 h2 => gw4 141 c (by omega) (by omega) (by omega) (by omega) (by omega) (by omega) (by omega) (by omega)))⟩
        · rw [nE, o3, hm4]
        · rw [hm4]; exact o1.1.trans n1
        · rw [hm4, wset_hit]; rfl
        · exact hC.cg (fun a h1 h2 => by funext c; exact gw4 a c (by omega) (by omega) (by omega) (by omega) (by omega) (by omega) (by omega) (by omega))
        · rw [gw4 142 _ (by omega) (by omega) (by omega) (by omega) (by omega) (by omega) (by omega) (by omega)]; exact hM j hj
        · rw [g4 132 1 (by omega) (by omega) (by omega), hu, wset_at, if_neg (by omega), wset_hit, zl_0]
        · rw [hm4, wset_at, if_neg (by omega), wset_at, if_neg (by omega), o1.2.1 141 11 (by omega) (by omega)]; exact n4
        · show m4.1 0 11 = m4.1 141 13
          rw [g4 0 11 (by omega) (by omega) (by omega), hu, wset_hit, hm4, wset_at, if_neg (by omega), wset_hit]
