theorem MK.one {m : Nat} {S : Nat → Bool} (h : MK 1 m S) : m = (S 0).toNat := by
  have h1 := h.1
  have h2 := h.2 0 (by omega)
  have hm : m = 0 ∨ m = 1 := by omega
  rcases hm with rfl | rfl
  · rw [← h2]; rfl
  · rw [← h2]; rfl
theorem tb_B : ∀ m, m < 128 → ∀ k, k < 7 → bt m k = (m.testBit k).toNat := by decide +kernel
theorem q_matches (B : Nat) (x : Int32) : QX B B (f_X10_matches x) (f_X11_matches x) [(ioobe, 1), (iae, 2)] := fun w q => by
  obtain ⟨F, hF, hI, hC, hM, _⟩ := q.get
  have a1 := hI.1
  rcases reqS (x := x) hC hI with ⟨s, hs, rfl, hR⟩ | ⟨hR1, hR2⟩
  · obtain ⟨t, ch, t1, t2, t3, t4, t5, t6, t7⟩ := txt_of q.2.2.2.1
    obtain ⟨wa, e1, e2, e3⟩ := c_askOne hC hI hs
    have T : CT wa t ch := ⟨t1, by rw [e2.at (by omega)]; exact t2, fun i hi => by rw [e2.at (by omega)]; exact t4 i hi, t6, t7⟩
    obtain ⟨x, wb, f1, f2, f3, f4, f5⟩ := c_read T e3
    have h2 : wb.2 = w.2 := f2.trans e2.2
    have hfr : ∀ a c, ¬ (a = 136 ∨ a = 137) → wb.1 a c = w.1 a c := fun a c h => (f3 a c (by omega)).trans (e2.at h c)
    have hcl : f_X10_matches (zI s) w = bVX (f_X10_refuseFault (wb.1 136 3) wb) (fun w4 => (if x = 0 then (some (.inl (0, w4))) else (some (.inl (1, w4))))) := by
      unfold f_X10_matches; rw [hR, bVX_s, e1, bV_s, f1, bI_s]
    have hM' : ∀ (u : XW) (v : Int64 × UInt64), (∀ a c, ¬ (a = 136 ∨ a = 137 ∨ a = 0) → u.1 a c = w.1 a c) → Mo (u.1) 142 0 F ∧ ∃ w', w'.2 = v ∧ (∀ a c, ¬ (a = 141 ∧ (c = 0 ∨ c = 18 ∨ c = 19 ∨ c = 21 ∨ c = 22 ∨ c = 13)) → w'.1 a c = u.1 a c) ∧ w'.1 141 0 = zI 0 ∧
        (((PG ch (stF F) 400 4 0 nV 0).1 = false ∧ (PG ch (stF F) 400 4 0 nV 0).2.2 = t ∧ w'.1 141 13 = u.1 141 13 ∧ ∃ m, MK (F 0) m (PG ch (stF F) 400 4 0 nV 0).2.1 ∧ f_X11_found (wset (u.1, v) 141 0 0) = some (zI m, w')) ∨
         (((PG ch (stF F) 400 4 0 nV 0).1 = true ∨ (PG ch (stF F) 400 4 0 nV 0).2.2 ≠ t) ∧ w'.1 141 13 = zI (PG ch (stF F) 400 4 0 nV 0).2.2 ∧ f_X11_found (wset (u.1, v) 141 0 0) = some (zM, w'))) := by
      intro u v hu
      obtain ⟨w', g1, g2, g3⟩ := m_found (wset (u.1, v) 141 0 0) (t := t) (ch := ch) (F := F) t1 (by rw [wset_at, if_neg (by omega)]; show u.1 141 11 = _; rw [hu _ _ (by omega)]; exact t3) (fun i hi => by rw [wset_at, if_neg (by omega)]; show u.1 146 i = _; rw [hu _ _ (by omega)]; exact t5 i hi) t6 t7 (fun j hj => by rw [wset_at, if_neg (by omega)]; show u.1 142 _ = _; rw [hu _ _ (by omega)]; exact hM j hj) hI
      refine ⟨fun j hj => by rw [hu _ _ (by omega)]; exact hM j hj, w', g1, fun a c h => by rw [g2 a c (by omega), wset_at, if_neg (by omega)], by rw [g2 141 0 (by omega), wset_hit, zl_0], ?_⟩
      rw [wset_at, if_neg (by omega)] at g3
      exact g3
    rcases f5 with ⟨y1, y2, y3, m, rfl, hm⟩ | ⟨y1, y2⟩
    · have hm1 := hm.one
      refine Or.inr ⟨zI m, wb, ?_, fun v => ?_⟩
      · rw [hcl, y3]
        show bVX (some (.inl wb)) _ = _
        rw [bVX_s]
        have h01 : m = 0 ∨ m = 1 := by have := hm.1; omega
        rcases h01 with rfl | rfl
        · rfl
        · rfl
      · obtain ⟨hMu, w', g1, g2, g0, g3⟩ := hM' wb v (fun a c h => hfr a c (by omega))
        rcases g3 with ⟨_, _, g4, m', hm', g5⟩ | ⟨g4, _⟩
        · have hlt := hm'.lt a1
          have hb : bt m' s = m := by rw [hm1, tb_B m' hlt s (by omega), hm'.2 s hs]
          refine ⟨wset w' 141 0 0, ?_, g1, by rw [wset_hit, zl_0], q.cg (Nat.le_refl _) (fun a h1 h2 h3 h4 h5 h6 h7 h8 => by funext c; rw [wset_at, if_neg (by omega), g2 a c (by omega), hfr a c (by omega)]) (fun c hc => by rw [wset_at, if_neg (by omega), g2 0 c (by omega), hfr 0 c (by omega)]) (fun c hc => by
            rw [wset_at, if_neg (by omega)]
            by_cases z : c = 13
            · rw [z, g4, hfr _ _ (by omega)]
            · rw [g2 141 c (by omega), hfr _ _ (by omega)])⟩
          unfold f_X11_matches
          rw [m_isSecT (w := (wb.1, v)) hMu a1 hs, bI_s, if_neg (show ¬ zI 1 = 0 by decide), if_pos (by rw [wset_hit]; decide), g5, bI_s, if_neg (show ¬ (zI m' = -1) by rw [zl_1, zm1, zI_zM (by omega)]; exact id), if_pos (show (wset w' 141 0 0).1 141 0 = 0 by rw [wset_hit])]
          have hsh : ((zI m' >>> (zI s &&& 31)) &&& 1) = zI m := by
            rw [zl_31, zl_1, br_shrB m' (by omega) s (by omega), hb]
          rw [hsh]
          have h01 : m = 0 ∨ m = 1 := by have := hm.1; omega
          rcases h01 with rfl | rfl
          · rw [if_neg (show ¬ (zI 0 = 1) by decide)]; rfl
          · rw [if_pos (show zI 1 = 1 from rfl)]; rfl
        · exfalso
          rcases g4 with g4 | g4
          · rw [y1] at g4; cases g4
          · exact g4 y2
    · refine Or.inl ⟨(iae, 2), List.mem_cons_of_mem _ List.mem_cons_self, wset wb 0 11 (wb.1 136 3), ?_, fun v => ?_⟩
      · rw [hcl]
        unfold f_X10_refuseFault
        rw [y2, if_neg (show ¬ (zI (PG ch (stF F) 400 4 0 nV 0).2.2 = -1) by rw [zl_1, zm1, zI_zM (by omega)]; exact id)]
        rfl
      · obtain ⟨hMu, w', g1, g2, g0, g3⟩ := hM' (wset wb 0 11 (wb.1 136 3)) v (fun a c h => by rw [wset_at, if_neg (by omega)]; exact hfr a c (by omega))
        rcases g3 with ⟨g4, g5, _⟩ | ⟨_, g4, g5⟩
        · exfalso
          rcases y1 with y | y
          · rw [g4] at y; cases y
          · exact y g5
        · have hn : ∀ a c, a ≠ 0 → (wset wb 0 11 (wb.1 136 3)).1 a c = wb.1 a c := fun a c h => by rw [wset_at, if_neg (by omega)]
          refine ⟨zI 0, wset w' 141 0 2, ?_, g1, by rw [wset_hit]; rfl, q.flt (Nat.le_refl _) (fun a h1 h2 h3 h4 h5 h6 h7 h8 => by funext c; rw [wset_at, if_neg (by omega), g2 a c (by omega), hn a c h1, hfr a c (by omega)]) (fun c hc h11 => by rw [wset_at, if_neg (by omega), g2 0 c (by omega), wset_at, if_neg (by omega), hfr 0 c (by omega)]) (fun c hc => by rw [wset_at, if_neg (by omega), g2 141 c (by omega), hn _ _ (by omega), hfr _ _ (by omega)]) ?_⟩
          · unfold f_X11_matches
            rw [m_isSecT (w := ((wset wb 0 11 (wb.1 136 3)).1, v)) hMu a1 hs, bI_s, if_neg (show ¬ zI 1 = 0 by decide), if_pos (by rw [wset_hit]; decide), g5, bI_s, if_pos (show zM = -1 from rfl), if_neg (show ¬ ((wset w' 141 0 2).1 141 0 = 0) by rw [wset_hit]; decide)]
            rfl
          · rw [wset_at, if_neg (by omega), wset_at, if_neg (by omega), g2 0 11 (by omega), wset_hit, g4, y2]
  · refine Or.inl ⟨(ioobe, 1), List.mem_cons_self, w, ?_, fun v => ⟨zI 0, wset (w.1, v) 141 0 (zI 1), ?_, rfl, wset_hit _ _ _ _, q.thr v _⟩⟩
    · unfold f_X10_matches
      rw [hR1, bVX_x]
    · unfold f_X11_matches
      rw [hR2 (w.1, v) hM, bI_s, if_pos (show zI 0 = 0 from rfl), zl_1, if_neg (thr_pos (by omega) (by omega)).1]
      rfl
