def inc (u : XW) : Option XW := some (wset u 141 20 ((u.1 141 20) + 1))
def wrgS (v : XW) : Option XW := some (wset (wset v 141 22 1) 141 20 (((wset v 141 22 1).1 141 20) + 1))
def CH (P : XW → Option XW) (r : Int32) (v : XW) : Option XW := if r = 97 then bV (f_X11_says 12 v) inc else if r = 98 then bV (f_X11_number 22 1 1 v) inc else if r = 99 then bV (f_X11_number 21 1 1 v) inc else if r = 100 then bV (f_X11_says 24 v) inc else if r = 101 then wrgS v else if r = 102 then bV (f_X11_number 19 1 1 v) inc else if r = 103 then wrgS v else if r = 104 then wrgS v else if r = 105 then wrgS v else if r = 106 then wrgS v else if r = 107 then wrgS v else if r = 108 then wrgS v else if r = 109 then bV (f_X11_number 23 1 1 v) inc else if r = 110 then wrgS v else if r = 111 then bV (f_X11_says 20 v) inc else if r = 112 then P v else if r = 113 then wrgS v else if r = 114 then wrgS v else if r = 115 then bV (f_X11_says 25 v) inc else if r = 116 then bV (f_X11_term 17 v) inc else if r = 117 then bV (f_X11_term 18 v) inc else wrgS v
def pipeP (v : XW) : Option XW := bV (f_X11_number 13 1 1 v) (fun a => bV (f_X11_number 15 2 1 a) (fun b => bV (f_X11_number 16 3 2 b) inc))
def pourP (v : XW) : Option XW := bV (f_X11_number 14 1 1 v) (fun a => bV (f_X11_number 16 3 2 a) inc)
theorem ro_def (w : XW) : f_X11_readsOne w = bI (f_X11_here 0 w) (fun r1 w1 => if r1 = 112 then bI (f_X11_here 1 w1) (fun r36 w36 => if r36 = 105 then (if inB (4 * (w36.1 141 20)) 240 then CH pipeP r1 (wset w36 147 (Int32.toNatClampNeg (4 * (w36.1 141 20))) 105) else none) else (if inB (4 * (w36.1 141 20)) 240 then CH pourP r1 (wset w36 147 (Int32.toNatClampNeg (4 * (w36.1 141 20))) r1) else none)) else (if inB (4 * (w1.1 141 20)) 240 then CH pourP r1 (wset w1 147 (Int32.toNatClampNeg (4 * (w1.1 141 20))) r1) else none)) := (rfl)
theorem CH_97 (P : XW → Option XW) (v : XW) : CH P (zI 97) v = bV (f_X11_says 12 v) inc := by
  unfold CH
  rw [if_pos (by decide)]
theorem CH_98 (P : XW → Option XW) (v : XW) : CH P (zI 98) v = bV (f_X11_number 22 1 1 v) inc := by
  unfold CH
  rw [if_neg (by decide), if_pos (by decide)]
theorem CH_99 (P : XW → Option XW) (v : XW) : CH P (zI 99) v = bV (f_X11_number 21 1 1 v) inc := by
  unfold CH
  rw [if_neg (by decide), if_neg (by decide), if_pos (by decide)]
theorem CH_100 (P : XW → Option XW) (v : XW) : CH P (zI 100) v = bV (f_X11_says 24 v) inc := by
  unfold CH
  rw [if_neg (by decide), if_neg (by decide), if_neg (by decide), if_pos (by decide)]
theorem CH_102 (P : XW → Option XW) (v : XW) : CH P (zI 102) v = bV (f_X11_number 19 1 1 v) inc := by
  unfold CH
  rw [if_neg (by decide), if_neg (by decide), if_neg (by decide), if_neg (by decide), if_neg (by decide), if_pos (by decide)]
theorem CH_109 (P : XW → Option XW) (v : XW) : CH P (zI 109) v = bV (f_X11_number 23 1 1 v) inc := by
  unfold CH
  rw [if_neg (by decide), if_neg (by decide), if_neg (by decide), if_neg (by decide), if_neg (by decide), if_neg (by decide), if_neg (by decide), if_neg (by decide), if_neg (by decide), if_neg (by decide), if_neg (by decide), if_neg (by decide), if_pos (by decide)]
theorem CH_111 (P : XW → Option XW) (v : XW) : CH P (zI 111) v = bV (f_X11_says 20 v) inc := by
  unfold CH
  rw [if_neg (by decide), if_neg (by decide), if_neg (by decide), if_neg (by decide), if_neg (by decide), if_neg (by decide), if_neg (by decide), if_neg (by decide), if_neg (by decide), if_neg (by decide), if_neg (by decide), if_neg (by decide), if_neg (by decide), if_neg (by decide), if_pos (by decide)]
theorem CH_112 (P : XW → Option XW) (v : XW) : CH P (zI 112) v = P v := by
  unfold CH
  rw [if_neg (by decide), if_neg (by decide), if_neg (by decide), if_neg (by decide), if_neg (by decide), if_neg (by decide), if_neg (by decide), if_neg (by decide), if_neg (by decide), if_neg (by decide), if_neg (by decide), if_neg (by decide), if_neg (by decide), if_neg (by decide), if_neg (by decide), if_pos (by decide)]
theorem CH_115 (P : XW → Option XW) (v : XW) : CH P (zI 115) v = bV (f_X11_says 25 v) inc := by
  unfold CH
  rw [if_neg (by decide), if_neg (by decide), if_neg (by decide), if_neg (by decide), if_neg (by decide), if_neg (by decide), if_neg (by decide), if_neg (by decide), if_neg (by decide), if_neg (by decide), if_neg (by decide), if_neg (by decide), if_neg (by decide), if_neg (by decide), if_neg (by decide), if_neg (by decide), if_neg (by decide), if_neg (by decide), if_pos (by decide)]
theorem CH_116 (P : XW → Option XW) (v : XW) : CH P (zI 116) v = bV (f_X11_term 17 v) inc := by
  unfold CH
  rw [if_neg (by decide), if_neg (by decide), if_neg (by decide), if_neg (by decide), if_neg (by decide), if_neg (by decide), if_neg (by decide), if_neg (by decide), if_neg (by decide), if_neg (by decide), if_neg (by decide), if_neg (by decide), if_neg (by decide), if_neg (by decide), if_neg (by decide), if_neg (by decide), if_neg (by decide), if_neg (by decide), if_neg (by decide), if_pos (by decide)]
theorem CH_117 (P : XW → Option XW) (v : XW) : CH P (zI 117) v = bV (f_X11_term 18 v) inc := by
  unfold CH
  rw [if_neg (by decide), if_neg (by decide), if_neg (by decide), if_neg (by decide), if_neg (by decide), if_neg (by decide), if_neg (by decide), if_neg (by decide), if_neg (by decide), if_neg (by decide), if_neg (by decide), if_neg (by decide), if_neg (by decide), if_neg (by decide), if_neg (by decide), if_neg (by decide), if_neg (by decide), if_neg (by decide), if_neg (by decide), if_neg (by decide), if_pos (by decide)]
theorem CH_no (P : XW → Option XW) {r : Int32} (v : XW) (n97 : ¬ r = 97) (n98 : ¬ r = 98) (n99 : ¬ r = 99) (n100 : ¬ r = 100) (n102 : ¬ r = 102) (n109 : ¬ r = 109) (n111 : ¬ r = 111) (n112 : ¬ r = 112) (n115 : ¬ r = 115) (n116 : ¬ r = 116) (n117 : ¬ r = 117) : CH P r v = wrgS v := by
  unfold CH
  simp only [if_neg n97, if_neg n98, if_neg n99, if_neg n100, if_neg n102, if_neg n109, if_neg n111, if_neg n112, if_neg n115, if_neg n116, if_neg n117, ite_self]
theorem sw_B : sN 0 = sN 12 ∧ sN 1 = (sN 14 ++ [68]) ++ (sN 16 ++ [78]) ∧ sN 2 = sN 17 ++ [68, 84] ∧ sN 3 = sN 18 ++ [68, 84] ∧ sN 4 = sN 19 ++ [68] ∧ sN 5 = sN 20 ∧ sN 6 = (sN 13 ++ [68]) ++ ((sN 15 ++ [68]) ++ (sN 16 ++ [78])) ∧ sN 7 = sN 21 ++ [68] ∧ sN 8 = sN 22 ++ [68] ∧ sN 9 = sN 23 ++ [68] ∧ sN 10 = sN 24 ∧ sN 11 = sN 25 := by decide +kernel
theorem lt_B : ∀ i, i < 26 → 12 ≤ i → ∀ x, x ∈ sN i → x ≠ 68 ∧ x ≠ 78 ∧ x ≠ 84 ∧ 0 < x ∧ x < 65536 := by decide +kernel
def ltr (k : Nat) : Nat := gtL [97, 112, 116, 117, 102, 111, 105, 99, 98, 109, 100, 115] k
def MQc (h : Nat → Nat → Int32) (n : Nat) (q : CM) : Prop := h 147 (4 * n) = zI (ltr q.1) ∧ (q.1 = 1 → h 147 (4 * n + 1) = zI (gtL q.2 0) ∧ h 147 (4 * n + 3) = zI (gtL q.2 1)) ∧ (q.1 = 6 → h 147 (4 * n + 1) = zI (gtL q.2 0) ∧ h 147 (4 * n + 2) = zI (gtL q.2 1) ∧ h 147 (4 * n + 3) = zI (gtL q.2 2)) ∧ (q.1 = 2 ∨ q.1 = 3 → h 147 (4 * n + 1) = zI (gtL q.2 0) ∧ h 147 (4 * n + 2) = zI (gtL q.2 1)) ∧ (q.1 = 4 ∨ q.1 = 7 ∨ q.1 = 8 ∨ q.1 = 9 → h 147 (4 * n + 1) = zI (gtL q.2 0))
def RO (w0 w : XW) (n : Nat) (r : MR) (k : Nat) (m : Nat) (o : Option XW) : Prop := ∃ w', o = some w' ∧ JN w0 r.2.1 (!r.1).toNat m w' ∧ (∀ c, c < 4 * n → w'.1 147 c = w.1 147 c) ∧ (r.1 = true → MQc w'.1 n (k, r.2.2))
section
variable {w0 w : XW} {p n t : Nat} {ch : Nat → Nat}
theorem RO.inc {r : MR} {k : Nat} {o : Option XW} (h : RO w0 w n r k n o) : RO w0 w n r k (n + 1) (bV o inc) := by
  obtain ⟨u, e1, e2, e3, e4⟩ := h
  rw [e1, bV_s]
  show RO w0 w n r k (n + 1) (some (wset u 141 20 ((u.1 141 20) + 1)))
  have e : u.1 141 20 + 1 = zI (n + 1) := by rw [e2.2.2.2.2, zl_1, zI_add]
  rw [e]
  have f : ∀ c, (wset u 141 20 (zI (n + 1))).1 147 c = u.1 147 c := fun c => by rw [wset_at, if_neg (by omega)]
  refine ⟨_, rfl, e2.cm _, fun c hc => (f c).trans (e3 c hc), fun h => ?_⟩
  obtain ⟨q1, q2, q3, q4, q5⟩ := e4 h
  refine ⟨(f _).trans q1, fun z => ?_, fun z => ?_, fun z => ?_, fun z => ?_⟩
  · exact ⟨(f _).trans (q2 z).1, (f _).trans (q2 z).2⟩
  · exact ⟨(f _).trans (q3 z).1, (f _).trans (q3 z).2.1, (f _).trans (q3 z).2.2⟩
  · exact ⟨(f _).trans (q4 z).1, (f _).trans (q4 z).2⟩
  · exact (f _).trans (q5 z)
theorem ro_word (T : MT w0 t ch) {s k : Nat} (hs : s < 26) (h12 : 12 ≤ s) (hk : sN k = sN s) (hkd : k = 0 ∨ k = 5 ∨ k = 10 ∨ k = 11) (hp : p ≤ t) {v : XW} (J : JN w0 p 0 n v) (hv : ∀ c, c < 4 * n → v.1 147 c = w.1 147 c) (hl : v.1 147 (4 * n) = zI (ltr k)) : RO w0 w n (mtc ch (sN k) p) k (n + 1) (bV (f_X11_says s v) inc) := by
  apply RO.inc
  obtain ⟨u, e1, e2, e3, e4⟩ := n_word T hs (lt_B s hs h12) hp J
  rw [hk]
  exact ⟨u, e1, e2, fun c hc => (e3 c).trans (hv c hc), fun h => ⟨(e3 _).trans hl, fun z => by have z : k = 1 := z; omega, fun z => by have z : k = 6 := z; omega, fun z => by have z : k = 2 ∨ k = 3 := z; omega, fun z => by have z : k = 4 ∨ k = 7 ∨ k = 8 ∨ k = 9 := z; omega⟩⟩
theorem ro_num (T : MT w0 t ch) {s k : Nat} (hs : s < 26) (h12 : 12 ≤ s) (hk : sN k = sN s ++ [68]) (hkd : k = 4 ∨ k = 7 ∨ k = 8 ∨ k = 9) (hp : p ≤ t) (hn : 4 * n + 3 < 240) {v : XW} (J : JN w0 p 0 n v) (hv : ∀ c, c < 4 * n → v.1 147 c = w.1 147 c) (hl : v.1 147 (4 * n) = zI (ltr k)) : RO w0 w n (mtc ch (sN k) p) k (n + 1) (bV (f_X11_number s 1 1 v) inc) := by
  apply RO.inc
  obtain ⟨u, e1, e2, e3, e4⟩ := (n_number (k := 1) T hs (lt_B s hs h12) hp (by omega) J).1
  rw [hk]
  refine ⟨u, e1, e2, fun c hc => (e3 c (by omega)).trans (hv c hc), fun h => ⟨(e3 _ (by omega)).trans hl, fun z => by have z : k = 1 := z; omega, fun z => by have z : k = 6 := z; omega, fun z => by have z : k = 2 ∨ k = 3 := z; omega, fun z => ?_⟩⟩
  obtain ⟨x, x1, x2⟩ := e4 h
  show u.1 147 (4 * n + 1) = zI (gtL (mtc ch (sN s ++ [68]) p).2.2 0)
  rw [x1]; exact x2
theorem ro_term (T : MT w0 t ch) {s k : Nat} (hs : s < 26) (h12 : 12 ≤ s) (hk : sN k = sN s ++ [68, 84]) (hkd : k = 2 ∨ k = 3) (hp : p ≤ t) (hn : 4 * n + 3 < 240) {v : XW} (J : JN w0 p 0 n v) (hv : ∀ c, c < 4 * n → v.1 147 c = w.1 147 c) (hl : v.1 147 (4 * n) = zI (ltr k)) : RO w0 w n (mtc ch (sN k) p) k (n + 1) (bV (f_X11_term s v) inc) := by
  apply RO.inc
  obtain ⟨u, e1, e2, e3, e4⟩ := n_term T hs (lt_B s hs h12) hp hn J
  rw [hk]
  refine ⟨u, e1, e2, fun c hc => (e3 c (by omega) (by omega)).trans (hv c hc), fun h => ⟨(e3 _ (by omega) (by omega)).trans hl, fun z => by have z : k = 1 := z; omega, fun z => by have z : k = 6 := z; omega, fun z => ?_, fun z => by have z : k = 4 ∨ k = 7 ∨ k = 8 ∨ k = 9 := z; omega⟩⟩
  obtain ⟨x, y, x1, x2, x3⟩ := e4 h
  show u.1 147 (4 * n + 1) = zI (gtL (mtc ch (sN s ++ [68, 84]) p).2.2 0) ∧ u.1 147 (4 * n + 2) = zI (gtL (mtc ch (sN s ++ [68, 84]) p).2.2 1)
  rw [x1]; exact ⟨x2, x3⟩
theorem nz_word {s : Nat} (hs : s < 26) (h12 : 12 ≤ s) {e : Nat} (he : e ≠ 0) : ∀ x, x ∈ sN s ++ [e] → x ≠ 0 := fun x hx => by
  rcases List.mem_append.mp hx with h | h
  · have := lt_B s hs h12 x h; omega
  · rw [List.mem_singleton.mp h]; exact he
/-- two numbers one behind the other: where, and what they say -/
theorem ro_pour (T : MT w0 t ch) (hp : p ≤ t) (hn : 4 * n + 3 < 240) {v : XW} (J : JN w0 p 0 n v) (hv : ∀ c, c < 4 * n → v.1 147 c = w.1 147 c) (hl : v.1 147 (4 * n) = zI (ltr 1)) : RO w0 w n (mtc ch (sN 1) p) 1 (n + 1) (pourP v) := by
  obtain ⟨a, a1, a2, a3, a4⟩ := (n_number (s := 14) (k := 1) T (by omega) (lt_B 14 (by omega) (by omega)) hp (by omega) J).1
  have hb := (mtc_b T.2.2.2.2 (sN 14 ++ [68]) p (nz_word (by omega) (by omega) (by omega)) hp).2.1
  have e1 : f_X11_number 14 1 1 v = some a := a1
  have e0 : pourP v = bV (f_X11_number 16 3 2 a) inc := by unfold pourP; rw [e1, bV_s]
  rw [e0]
  apply RO.inc
  rw [sw_B.2.1, mtc_app]
  obtain ⟨q, hq⟩ : ∃ q, q = mtc ch (sN 14 ++ [68]) p := ⟨_, rfl⟩
  rw [← hq] at a2 a4 hb ⊢
  by_cases z : q.1 = true
  · rw [if_pos z]
    rw [z] at a2
    obtain ⟨x, x1, x2⟩ := a4 z
    obtain ⟨b, b1, b2, b3, b4⟩ := (n_number (s := 16) (k := 3) T (by omega) (lt_B 16 (by omega) (by omega)) hb (by omega) (show JN w0 q.2.1 0 n a from a2)).2
    refine ⟨b, b1, b2, fun c hc => (b3 c (by omega)).trans ((a3 c (by omega)).trans (hv c hc)), fun h => ⟨(b3 _ (by omega)).trans ((a3 _ (by omega)).trans hl), fun _ => ?_, fun y => by have y : 1 = 6 := y; omega, fun y => by have y : 1 = 2 ∨ 1 = 3 := y; omega, fun y => by have y : 1 = 4 ∨ 1 = 7 ∨ 1 = 8 ∨ 1 = 9 := y; omega⟩⟩
    obtain ⟨u, u1, u2⟩ := b4 h
    show b.1 147 (4 * n + 1) = zI (gtL (q.2.2 ++ (mtc ch (sN 16 ++ [78]) q.2.1).2.2) 0) ∧ b.1 147 (4 * n + 3) = zI (gtL (q.2.2 ++ (mtc ch (sN 16 ++ [78]) q.2.1).2.2) 1)
    rw [x1, u1]
    exact ⟨(b3 _ (by omega)).trans x2, u2⟩
  · rw [if_neg z]
    have z := Bool.eq_false_iff.mpr z
    rw [z] at a2
    obtain ⟨b, b1, b2, b3⟩ := n_number_wr (s := 16) (k := 3) (most := 2) (by omega) (by omega) (show JN w0 q.2.1 1 n a from a2)
    refine ⟨b, b1, by rw [z]; exact b2, fun c hc => (b3 c (by omega)).trans ((a3 c (by omega)).trans (hv c hc)), fun h => by rw [z] at h; cases h⟩
theorem ro_pipe (T : MT w0 t ch) (hp : p ≤ t) (hn : 4 * n + 3 < 240) {v : XW} (J : JN w0 p 0 n v) (hv : ∀ c, c < 4 * n → v.1 147 c = w.1 147 c) (hl : v.1 147 (4 * n) = zI (ltr 6)) : RO w0 w n (mtc ch (sN 6) p) 6 (n + 1) (pipeP v) := by
  obtain ⟨a, a1, a2, a3, a4⟩ := (n_number (s := 13) (k := 1) T (by omega) (lt_B 13 (by omega) (by omega)) hp (by omega) J).1
  have hb := (mtc_b T.2.2.2.2 (sN 13 ++ [68]) p (nz_word (by omega) (by omega) (by omega)) hp).2.1
  have e1 : f_X11_number 13 1 1 v = some a := a1
  have e0 : pipeP v = bV (f_X11_number 15 2 1 a) (fun b => bV (f_X11_number 16 3 2 b) inc) := by unfold pipeP; rw [e1, bV_s]
  rw [e0, sw_B.2.2.2.2.2.2.1, mtc_app]
  obtain ⟨q, hq⟩ : ∃ q, q = mtc ch (sN 13 ++ [68]) p := ⟨_, rfl⟩
  rw [← hq] at a2 a4 hb ⊢
  by_cases z : q.1 = true
  · rw [if_pos z]
    rw [z] at a2
    obtain ⟨x, x1, x2⟩ := a4 z
    obtain ⟨b, b1, b2, b3, b4⟩ := (n_number (s := 15) (k := 2) T (by omega) (lt_B 15 (by omega) (by omega)) hb (by omega) (show JN w0 q.2.1 0 n a from a2)).1
    have hb2 := (mtc_b T.2.2.2.2 (sN 15 ++ [68]) q.2.1 (nz_word (by omega) (by omega) (by omega)) hb).2.1
    have e2 : f_X11_number 15 2 1 a = some b := b1
    rw [e2, bV_s]
    apply RO.inc
    rw [mtc_app]
    obtain ⟨r, hr⟩ : ∃ r, r = mtc ch (sN 15 ++ [68]) q.2.1 := ⟨_, rfl⟩
    rw [← hr] at b2 b4 hb2 ⊢
    by_cases y : r.1 = true
    · rw [if_pos y]
      rw [y] at b2
      obtain ⟨x', x3, x4⟩ := b4 y
      obtain ⟨c, c1, c2, c3, c4⟩ := (n_number (s := 16) (k := 3) T (by omega) (lt_B 16 (by omega) (by omega)) hb2 (by omega) (show JN w0 r.2.1 0 n b from b2)).2
      refine ⟨c, c1, c2, fun d hd => (c3 d (by omega)).trans ((b3 d (by omega)).trans ((a3 d (by omega)).trans (hv d hd))), fun h => ⟨(c3 _ (by omega)).trans ((b3 _ (by omega)).trans ((a3 _ (by omega)).trans hl)), fun y => by have y : 6 = 1 := y; omega, fun _ => ?_, fun y => by have y : 6 = 2 ∨ 6 = 3 := y; omega, fun y => by have y : 6 = 4 ∨ 6 = 7 ∨ 6 = 8 ∨ 6 = 9 := y; omega⟩⟩
      obtain ⟨u, u1, u2⟩ := c4 h
      show c.1 147 (4 * n + 1) = zI (gtL (q.2.2 ++ (r.2.2 ++ (mtc ch (sN 16 ++ [78]) r.2.1).2.2)) 0) ∧ c.1 147 (4 * n + 2) = zI (gtL (q.2.2 ++ (r.2.2 ++ (mtc ch (sN 16 ++ [78]) r.2.1).2.2)) 1) ∧ c.1 147 (4 * n + 3) = zI (gtL (q.2.2 ++ (r.2.2 ++ (mtc ch (sN 16 ++ [78]) r.2.1).2.2)) 2)
      rw [x1, x3, u1]
      exact ⟨(c3 _ (by omega)).trans ((b3 _ (by omega)).trans x2), (c3 _ (by omega)).trans x4, u2⟩
    · rw [if_neg y]
      have y := Bool.eq_false_iff.mpr y
      rw [y] at b2
      obtain ⟨c, c1, c2, c3⟩ := n_number_wr (s := 16) (k := 3) (most := 2) (by omega) (by omega) (show JN w0 r.2.1 1 n b from b2)
      refine ⟨c, c1, by show JN w0 r.2.1 (!r.1).toNat n c; rw [y]; exact c2, fun d hd => (c3 d (by omega)).trans ((b3 d (by omega)).trans ((a3 d (by omega)).trans (hv d hd))), fun h => absurd (show r.1 = true from h) (by rw [y]; decide)⟩
  · rw [if_neg z]
    have z := Bool.eq_false_iff.mpr z
    rw [z] at a2
    obtain ⟨b, b1, b2, b3⟩ := n_number_wr (s := 15) (k := 2) (most := 1) (by omega) (by omega) (show JN w0 q.2.1 1 n a from a2)
    have e2 : f_X11_number 15 2 1 a = some b := b1
    rw [e2, bV_s]
    apply RO.inc
    obtain ⟨c, c1, c2, c3⟩ := n_number_wr (s := 16) (k := 3) (most := 2) (by omega) (by omega) b2
    refine ⟨c, c1, by rw [z]; exact c2, fun d hd => (c3 d (by omega)).trans ((b3 d (by omega)).trans ((a3 d (by omega)).trans (hv d hd))), fun h => by rw [z] at h; cases h⟩
theorem m_readsOne (T : MT w0 t ch) (hp : p ≤ t) (hn : n ≤ 15) (J : JN w0 p 0 n w) : RO w0 w n ((rcW ch p).1, (rcW ch p).2.1, (rcW ch p).2.2.2) (rcW ch p).2.2.1 (n + 1) (f_X11_readsOne w) := by
  obtain ⟨t1, t2, t3, t4, t5⟩ := id T
  have e4 : 4 * (w.1 141 20) = zI (4 * n) := by rw [J.2.2.2.2, zl_4, zI_mul]
  have hin : inB (zI (4 * n)) 240 := by rw [inB_z (by omega)]; omega
  have hv : ∀ x : Int32, ∀ c, c < 4 * n → (wset w 147 (4 * n) x).1 147 c = w.1 147 c := fun x c hc => by rw [wset_at, if_neg (by omega)]
  have hh : f_X11_readsOne w = if hvZ t ch p = 112 then (if hvZ t ch (p + 1) = 105 then CH pipeP (hvZ t ch p) (wset w 147 (4 * n) 105) else CH pourP (hvZ t ch p) (wset w 147 (4 * n) (hvZ t ch p))) else CH pourP (hvZ t ch p) (wset w 147 (4 * n) (hvZ t ch p)) := by
    have e5 : f_X11_here 1 w = some (hvZ t ch (p + 1), w) := n_here 1 T J (by omega)
    rw [ro_def, n_here0 T J hp, bI_s, e5, bI_s]
    simp only [e4]
    rw [if_pos hin, if_pos hin, zI_nat (by omega)]
  rw [hh]
  have ne : ∀ c, 0 < c → c < 65536 → ch p ≠ c → ¬ (hvZ t ch p = zI c) := fun c h1 h2 h3 => by rw [hvL t4 t5 h1 h2]; exact h3
  by_cases h12 : sel (ch p) (ch (p + 1)) = 12
  · obtain ⟨n1, n2, n3, n4, n5, n6, n7, n8, n9, n10, n11⟩ := sel_no h12
    have hr : rcW ch p = (false, p, (12, [])) := by unfold rcW; rw [if_neg (by omega)]
    rw [hr, if_neg (show ¬ (hvZ t ch p = 112) from ne 112 (by omega) (by omega) n2), CH_no pourP _ (ne 97 (by omega) (by omega) n1) (ne 98 (by omega) (by omega) n8) (ne 99 (by omega) (by omega) n7) (ne 100 (by omega) (by omega) n10) (ne 102 (by omega) (by omega) n5) (ne 109 (by omega) (by omega) n9) (ne 111 (by omega) (by omega) n6) (ne 112 (by omega) (by omega) n2) (ne 115 (by omega) (by omega) n11) (ne 116 (by omega) (by omega) n3) (ne 117 (by omega) (by omega) n4)]
    unfold wrgS
    have J1 := (J.td (4 * n) (hvZ t ch p)).wg 1
    rw [show (wset (wset w 147 (4 * n) (hvZ t ch p)) 141 22 1).1 141 20 = zI n from J1.2.2.2.2, zl_1, zI_add]
    refine ⟨_, rfl, J1.cm _, fun c hc => ?_, fun h => by cases h⟩
    rw [wset_at, if_neg (by omega), wset_at, if_neg (by omega)]; exact hv _ c hc
  · have hs : sel (ch p) (ch (p + 1)) < 12 := by have := sel_le (ch p) (ch (p + 1)); omega
    obtain ⟨k, hk⟩ : ∃ k, k = sel (ch p) (ch (p + 1)) := ⟨_, rfl⟩
    have hr : rcW ch p = ((mtc ch (sN k) p).1, (mtc ch (sN k) p).2.1, (k, (mtc ch (sN k) p).2.2)) := by unfold rcW; rw [if_pos hs, hk]
    rw [hr]
    obtain ⟨g1, g2, g3⟩ := sel_head (by omega) hk.symm
    rw [hdv_B k (by omega)] at g1
    have hpos : ∀ c, 0 < c → c < 65536 → ch p = c → hvZ t ch p = zI c := fun c h1 h2 h3 => by rw [hvL t4 t5 h1 h2]; exact h3
    obtain ⟨w1, w2, w3, w4, w5, w6, w7, w8, w9, w10, w11, w12⟩ := sw_B
    have hk' : k = 0 ∨ k = 1 ∨ k = 2 ∨ k = 3 ∨ k = 4 ∨ k = 5 ∨ k = 6 ∨ k = 7 ∨ k = 8 ∨ k = 9 ∨ k = 10 ∨ k = 11 := by omega
    have Jt : ∀ x : Int32, JN w0 p 0 n (wset w 147 (4 * n) x) := fun x => J.td _ _
    rcases hk' with rfl | rfl | rfl | rfl | rfl | rfl | rfl | rfl | rfl | rfl | rfl | rfl
    · have g1 : ch p = 97 := g1
      rw [hpos 97 (by omega) (by omega) g1, if_neg (show ¬ (zI 97 = 112) by decide), CH_97]
      exact ro_word T (by omega) (by omega) w1 (by omega) hp (Jt _) (hv _) (wset_hit _ _ _ _)
    · have g1 : ch p = 112 := g1
      rw [hpos 112 (by omega) (by omega) g1, if_pos (show zI 112 = 112 from rfl), if_neg (show ¬ (hvZ t ch (p + 1) = 105) by rw [zl_105, hvL t4 t5 (by omega) (by omega)]; exact g3 rfl), CH_112]
      exact ro_pour T hp (by omega) (Jt _) (hv _) (wset_hit _ _ _ _)
    · have g1 : ch p = 116 := g1
      rw [hpos 116 (by omega) (by omega) g1, if_neg (show ¬ (zI 116 = 112) by decide), CH_116]
      exact ro_term T (by omega) (by omega) w3 (by omega) hp (by omega) (Jt _) (hv _) (wset_hit _ _ _ _)
    · have g1 : ch p = 117 := g1
      rw [hpos 117 (by omega) (by omega) g1, if_neg (show ¬ (zI 117 = 112) by decide), CH_117]
      exact ro_term T (by omega) (by omega) w4 (by omega) hp (by omega) (Jt _) (hv _) (wset_hit _ _ _ _)
    · have g1 : ch p = 102 := g1
      rw [hpos 102 (by omega) (by omega) g1, if_neg (show ¬ (zI 102 = 112) by decide), CH_102]
      exact ro_num T (by omega) (by omega) w5 (by omega) hp (by omega) (Jt _) (hv _) (wset_hit _ _ _ _)
    · have g1 : ch p = 111 := g1
      rw [hpos 111 (by omega) (by omega) g1, if_neg (show ¬ (zI 111 = 112) by decide), CH_111]
      exact ro_word T (by omega) (by omega) w6 (by omega) hp (Jt _) (hv _) (wset_hit _ _ _ _)
    · have g1 : ch p = 112 := g1
      rw [hpos 112 (by omega) (by omega) g1, if_pos (show zI 112 = 112 from rfl), if_pos (show hvZ t ch (p + 1) = 105 by rw [zl_105, hvL t4 t5 (by omega) (by omega)]; exact g2 rfl), CH_112]
      exact ro_pipe T hp (by omega) (Jt _) (hv _) (wset_hit _ _ _ _)
    · have g1 : ch p = 99 := g1
      rw [hpos 99 (by omega) (by omega) g1, if_neg (show ¬ (zI 99 = 112) by decide), CH_99]
      exact ro_num T (by omega) (by omega) w8 (by omega) hp (by omega) (Jt _) (hv _) (wset_hit _ _ _ _)
    · have g1 : ch p = 98 := g1
      rw [hpos 98 (by omega) (by omega) g1, if_neg (show ¬ (zI 98 = 112) by decide), CH_98]
      exact ro_num T (by omega) (by omega) w9 (by omega) hp (by omega) (Jt _) (hv _) (wset_hit _ _ _ _)
    · have g1 : ch p = 109 := g1
      rw [hpos 109 (by omega) (by omega) g1, if_neg (show ¬ (zI 109 = 112) by decide), CH_109]
      exact ro_num T (by omega) (by omega) w10 (by omega) hp (by omega) (Jt _) (hv _) (wset_hit _ _ _ _)
    · have g1 : ch p = 100 := g1
      rw [hpos 100 (by omega) (by omega) g1, if_neg (show ¬ (zI 100 = 112) by decide), CH_100]
      exact ro_word T (by omega) (by omega) w11 (by omega) hp (Jt _) (hv _) (wset_hit _ _ _ _)
    · have g1 : ch p = 115 := g1
      rw [hpos 115 (by omega) (by omega) g1, if_neg (show ¬ (zI 115 = 112) by decide), CH_115]
      exact ro_word T (by omega) (by omega) w12 (by omega) hp (Jt _) (hv _) (wset_hit _ _ _ _)
end
