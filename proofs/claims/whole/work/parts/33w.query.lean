/-! calls that ask -/
theorem Rel.get {B : Nat} {h : Nat → Nat → Int32} (q : Rel B h) : ∃ F, F 3 ≤ B ∧ Inv F ∧ Cls h 1 F ∧ Mo h 142 0 F ∧ ∀ h' : Nat → Nat → Int32, (∀ a, a ≠ 0 → a ≠ 141 → a ≠ 142 → ¬ (124 ≤ a ∧ a ≤ 131) → ¬ (136 ≤ a ∧ a ≤ 140) → ¬ (12 ≤ a ∧ a ≤ 22) → a ≠ 143 → a ≠ 147 → a ≠ 149 → h' a = h a) → (∀ c, 10 ≤ c → h' 0 c = h 0 c) → (∀ c, c = 5 ∨ c = 6 ∨ c = 11 ∨ c = 12 ∨ c = 13 ∨ c = 15 ∨ c = 16 ∨ c = 17 → h' 141 c = h 141 c) → Mo h' 142 0 F → Rel B h' := by
  obtain ⟨⟨F, q1, q1'⟩, q2, q3, q4, q5, q6, q7⟩ := q
  refine ⟨F, q1, q1'.1, q1'.2.1, q1'.2.2, fun h' e e0 e1 hM => ?_⟩
  have g : ∀ a, a ≠ 0 → a ≠ 141 → a ≠ 142 → ¬ (124 ≤ a ∧ a ≤ 131) → ¬ (136 ≤ a ∧ a ≤ 140) → ¬ (12 ≤ a ∧ a ≤ 22) → a ≠ 143 → a ≠ 147 → a ≠ 149 → h' a = h a := e
  refine ⟨⟨F, by omega, q1'.1, q1'.2.1.cg (fun a h1 h2 => g a (by omega) (by omega) (by omega) (by omega) (by omega) (by omega) (by omega) (by omega) (by omega)), hM⟩, q2.cg (Nat.le_refl _) (fun a h1 h2 => g a (by omega) (by omega) (by omega) (by omega) (by omega) (by omega) (by omega) (by omega) (by omega)) (g _ (by omega) (by omega) (by omega) (by omega) (by omega) (by omega) (by omega) (by omega) (by omega)) (e0 _ (by omega)) (e1 _ (by omega)), q3.cg (Nat.le_refl _) (fun a h1 h2 => g a (by omega) (by omega) (by omega) (by omega) (by omega) (by omega) (by omega) (by omega) (by omega)) (g _ (by omega) (by omega) (by omega) (by omega) (by omega) (by omega) (by omega) (by omega) (by omega)) (g _ (by omega) (by omega) (by omega) (by omega) (by omega) (by omega) (by omega) (by omega) (by omega)) (e1 _ (by omega)), q4.cg ?_ ?_ ?_ (e1 _ (by omega)), q5.cg ?_ ?_ ?_ (e1 _ (by omega)), q6.cg (e0 _ (by omega)) (e1 _ (by omega)), q7.cg (fun c h1 h2 => e0 c (by omega)) (fun c h1 h2 => e1 c (by omega))⟩
  · rw [g 132 (by omega) (by omega) (by omega) (by omega) (by omega) (by omega) (by omega) (by omega) (by omega)]
  · exact g 133 (by omega) (by omega) (by omega) (by omega) (by omega) (by omega) (by omega) (by omega) (by omega)
  · exact g 146 (by omega) (by omega) (by omega) (by omega) (by omega) (by omega) (by omega) (by omega) (by omega)
  · rw [g 134 (by omega) (by omega) (by omega) (by omega) (by omega) (by omega) (by omega) (by omega) (by omega)]
  · exact g 135 (by omega) (by omega) (by omega) (by omega) (by omega) (by omega) (by omega) (by omega) (by omega)
  · exact g 148 (by omega) (by omega) (by omega) (by omega) (by omega) (by omega) (by omega) (by omega) (by omega)
def QX (B B' : Nat) (cl : XW → Option ((Int32 × XW) ⊕ (String × XW))) (md : XW → Option (Int32 × XW)) (es : List (String × Nat)) : Prop := ∀ w : XW, Rel B w.1 →
  (∃ e ∈ es, ∃ w1, cl w = some (.inr (e.1, w1)) ∧ ∀ v, ∃ r w2, md (w1.1, v) = some (r, w2) ∧ w2.2 = v ∧ w2.1 141 0 = zI e.2 ∧ Rel B' w2.1) ∨
  (∃ r w1, cl w = some (.inl (r, w1)) ∧ ∀ v, ∃ w2, md (w1.1, v) = some (r, w2) ∧ w2.2 = v ∧ w2.1 141 0 = zI 0 ∧ Rel B' w2.1)
def QD (B B' : Nat) (cl md : XW → Option (Int32 × XW)) : Prop := ∀ w : XW, Rel B w.1 → ∃ r w1, cl w = some (r, w1) ∧ ∀ v, ∃ w2, md (w1.1, v) = some (r, w2) ∧ w2.2 = v ∧ Rel B' w2.1
/-- the reference has said what it threw, nothing else -/
theorem Rel.thr {B : Nat} {w : XW} (q : Rel B w.1) (v : Int64 × UInt64) (x : Int32) : Rel B (wset (w.1, v) 141 0 x).1 := q.cg (Nat.le_refl _) (fun a h1 h2 h3 h4 h5 h6 h7 h8 => by funext y; rw [wset_at, if_neg (by omega)]) (fun c hc => by rw [wset_at, if_neg (by omega)]) (fun c hc => by rw [wset_at, if_neg (by omega)])
theorem Mo.thr {w : XW} {F : Nat → Nat} (q : Mo w.1 142 0 F) (v : Int64 × UInt64) (x : Int32) : Mo (wset (w.1, v) 141 0 x).1 142 0 F := q.cg (by funext y; rw [wset_at, if_neg (by omega)])
def ioobe : String := "java/lang/IndexOutOfBoundsException"
def iae : String := "java/lang/IllegalArgumentException"
def nsee : String := "java/util/NoSuchElementException"
def uoe : String := "java/lang/UnsupportedOperationException"
def ise : String := "java/lang/IllegalStateException"
def aex : String := "java/lang/ArithmeticException"
theorem q_count (B : Nat) : QD B B f_X10_sectionCount f_X11_sectionCount := fun w q => by
  obtain ⟨F, _, hI, hC, hM, _⟩ := q.get
  refine ⟨zI (F 0), w, ?_, fun v => ⟨wset (w.1, v) 141 0 (zI 0), ?_, rfl, q.thr v _⟩⟩
  · unfold f_X10_sectionCount; rw [show w.1 2 0 = zI (F 0) from hC.1]
  · unfold f_X11_sectionCount
    rw [zl_0, show (zI 0).toNatClampNeg = 0 from rfl, (hM.thr v (zI 0)).at (by omega)]
theorem q_folded (B : Nat) : QD B B f_X10_foldedCount f_X11_foldedCount := fun w q => by
  obtain ⟨F, _, hI, hC, hM, _⟩ := q.get
  refine ⟨zI (F 1), w, ?_, fun v => ⟨wset (w.1, v) 141 0 (zI 0), ?_, rfl, q.thr v _⟩⟩
  · unfold f_X10_foldedCount; rw [show w.1 5 0 = zI (F 1) from hC.2.2.2.2.2.1]
  · unfold f_X11_foldedCount
    rw [zl_0, show Int32.toNatClampNeg 1 = 1 from rfl, (hM.thr v (zI 0)).at (by omega)]
theorem q_pipeCount (B : Nat) : QD B B f_X10_pipeCount f_X11_pipeCount := fun w q => by
  obtain ⟨F, _, hI, hC, hM, _⟩ := q.get
  refine ⟨zI (F 2), w, ?_, fun v => ⟨wset (w.1, v) 141 0 (zI 0), ?_, rfl, q.thr v _⟩⟩
  · unfold f_X10_pipeCount; rw [show w.1 7 0 = zI (F 2) from hC.2.2.2.2.2.2.2.1]
  · unfold f_X11_pipeCount
    rw [zl_0, show Int32.toNatClampNeg 2 = 2 from rfl, (hM.thr v (zI 0)).at (by omega)]
theorem q_poured (B : Nat) : QD B B f_X10_poured f_X11_poured := fun w q => by
  obtain ⟨F, _, hI, hC, hM, _⟩ := q.get
  refine ⟨zI (F 3), w, ?_, fun v => ⟨wset (w.1, v) 141 0 (zI 0), ?_, rfl, q.thr v _⟩⟩
  · unfold f_X10_poured; rw [show w.1 2 1 = zI (F 3) from hC.2.1]
  · unfold f_X11_poured
    rw [zl_0, show Int32.toNatClampNeg 3 = 3 from rfl, (hM.thr v (zI 0)).at (by omega)]
theorem q_leaked (B : Nat) : QD B B f_X10_leaked f_X11_leaked := fun w q => by
  obtain ⟨F, _, hI, hC, hM, _⟩ := q.get
  refine ⟨zI (F 4), w, ?_, fun v => ⟨wset (w.1, v) 141 0 (zI 0), ?_, rfl, q.thr v _⟩⟩
  · unfold f_X10_leaked; rw [show w.1 2 2 = zI (F 4) from hC.2.2.1]
  · unfold f_X11_leaked
    rw [zl_0, show Int32.toNatClampNeg 4 = 4 from rfl, (hM.thr v (zI 0)).at (by omega)]
theorem q_undoCount (B : Nat) : QD B B f_X10_undoCount f_X11_undoCount := fun w q => by
  obtain ⟨_, _, ⟨hs, n, nx, b1, b2, b3, b4, b5, b6⟩, _⟩ := id q
  refine ⟨zI n, w, ?_, fun v => ⟨wset (w.1, v) 141 0 (zI 0), ?_, rfl, q.thr v _⟩⟩
  · unfold f_X10_undoCount; rw [b4]
  · unfold f_X11_undoCount
    rw [zl_0, wset_at, if_neg (by omega), b5]
/-! water -/
theorem reqS {w : XW} {F : Nat → Nat} {x : Int32} (hC : Cls w.1 1 F) (hI : Inv F) : (∃ i, i < F 0 ∧ x = zI i ∧ f_X10_requireSection x w = some (.inl w)) ∨ (f_X10_requireSection x w = some (.inr (ioobe, w)) ∧ ∀ w : XW, Mo w.1 142 0 F → f_X11_isSection x w = some (zI 0, w)) := by
  rcases secZ F x hI.1 with ⟨i, hi, rfl⟩ | ⟨h1, h2⟩
  · refine Or.inl ⟨i, hi, rfl, ?_⟩
    unfold f_X10_requireSection
    rw [s_hasT hC.1 hI.1 hi, bI_s, if_neg (by decide)]
  · refine Or.inr ⟨?_, h2⟩
    unfold f_X10_requireSection
    rw [h1 w hC, bI_s, if_pos (by rfl)]
    rfl
theorem reqP {w : XW} {F : Nat → Nat} {x : Int32} (hC : Cls w.1 1 F) (hI : Inv F) : (∃ i, i < F 2 ∧ x = zI i ∧ f_X10_requirePipe x w = some (.inl w)) ∨ (f_X10_requirePipe x w = some (.inr (ioobe, w)) ∧ ∀ w : XW, Mo w.1 142 0 F → f_X11_isPipe x w = some (zI 0, w)) := by
  rcases pipZ F x hI.2.2.1 with ⟨i, hi, rfl⟩ | ⟨h1, h2⟩
  · refine Or.inl ⟨i, hi, rfl, ?_⟩
    unfold f_X10_requirePipe
    rw [i_hasT hC.2.2.2.2.2.2.2.1 hI.2.2.1 hi, bI_s, if_neg (by decide)]
  · refine Or.inr ⟨?_, h2⟩
    unfold f_X10_requirePipe
    rw [h1 w hC, bI_s, if_pos (by rfl)]
    rfl
theorem reqT {w : XW} {x : Int32} (hx : ¬ x < 0) : (∃ t, t < 8 ∧ x = zI (97 + t) ∧ f_X10_requireTerm x w = some (.inl w)) ∨ (f_X10_requireTerm x w = some (.inr (iae, w)) ∧ ∀ w : XW, f_X11_isTerm x w = some (zI 0, w)) := by
  rcases zI_cases x with h | ⟨a, ha, rfl⟩
  · exact absurd h hx
  · rcases trmZ ha with ⟨t, ht, rfl⟩ | ⟨h1, h2⟩
    · refine Or.inl ⟨t, ht, rfl, ?_⟩
      unfold f_X10_requireTerm
      rw [s_isTermT ht, bI_s, if_neg (by decide)]
    · refine Or.inr ⟨?_, h2⟩
      unfold f_X10_requireTerm
      rw [h1 w, bI_s, if_pos (by rfl)]
      rfl
theorem thr_pos {w : XW} {v : Int64 × UInt64} {k : Nat} (hk : 0 < k) (h31 : k < 2147483648) : ¬ ((wset (w.1, v) 141 0 (zI k)).1 141 0 ≤ 0) ∧ ¬ ((wset (w.1, v) 141 0 (zI k)).1 141 0 = 0) := by
  rw [wset_hit, zl_0, zI_le h31 (by omega), zI_inj h31 (by omega)]
  omega
theorem q_water (B : Nat) (x : Int32) : QX B B (f_X10_water x) (f_X11_water x) [(ioobe, 1)] := fun w q => by
  obtain ⟨F, _, hI, hC, hM, _⟩ := q.get
  rcases reqS (x := x) hC hI with ⟨i, hi, rfl, h⟩ | ⟨h1, h2⟩
  · have a1 := hI.1
    have hwi : w.1 3 i = zI (F (5 + i)) := hC.2.2.2.1 i (by omega)
    refine Or.inr ⟨zI (F (5 + i)), w, ?_, fun v => ⟨wset (w.1, v) 141 0 (zI 0), ?_, rfl, wset_hit _ _ _ _, q.thr v _⟩⟩
    · unfold f_X10_water
      rw [h, bVX_s, s_waterOf hC.1 a1 hi hwi, bI_s]
    · unfold f_X11_water
      rw [m_isSecT (w := (w.1, v)) hM a1 hi, bI_s, if_neg (by decide), if_pos (by rw [wset_hit]; decide), zl_5, zI_add, if_pos (by rw [inB_z (by omega)]; omega), zI_nat (by omega), zl_0, (hM.thr v (zI 0)).at (by omega)]
  · refine Or.inl ⟨(ioobe, 1), List.mem_cons_self, w, ?_, fun v => ⟨zI 0, wset (w.1, v) 141 0 (zI 1), ?_, rfl, wset_hit _ _ _ _, q.thr v _⟩⟩
    · unfold f_X10_water
      rw [h1, bVX_x]
    · unfold f_X11_water
      rw [h2 (w.1, v) hM, bI_s, if_pos (by rfl), zl_1, if_neg (thr_pos (by omega) (by omega)).1]
      rfl
theorem q_hasTerm (B : Nat) (x y : Int32) (hy : ¬ y < 0) : QX B B (f_X10_hasTerm x y) (f_X11_hasTerm x y) [(ioobe, 1), (iae, 2)] := fun w q => by
  obtain ⟨F, _, hI, hC, hM, _⟩ := q.get
  rcases reqS (x := x) hC hI with ⟨i, hi, rfl, h⟩ | ⟨h1, h2⟩
  · have a1 := hI.1
    have a5 := (hI.2.2.2.2.1 i (by omega)).2.1
    rcases reqT (w := w) hy with ⟨t, ht, rfl, hT⟩ | ⟨k1, k2⟩
    · refine Or.inr ⟨zI (bt (F (12 + i)) t), w, ?_, fun v => ⟨wset (w.1, v) 141 0 (zI 0), ?_, rfl, wset_hit _ _ _ _, q.thr v _⟩⟩
      · unfold f_X10_hasTerm
        rw [h, bVX_s, hT, bVX_s, s_bears hC.1 a1 hi a5 (hC.2.2.2.2.1 i (by omega)) ht, bI_s, if_pos (by rcases bt_01 (F (12 + i)) t with e | e <;> rw [e] <;> decide)]
      · unfold f_X11_hasTerm
        rw [m_isSecT (w := (w.1, v)) hM a1 hi, bI_s, if_neg (by decide), m_isTermT ht, bI_s, if_neg (by decide), if_pos (by rw [wset_hit]), zl_0, m_has (hM.thr v (zI 0)) (by omega) a5 ht, bI_s]
        rcases bt_01 (F (12 + i)) t with e | e <;> rw [e] <;> rfl
    · refine Or.inl ⟨(iae, 2), List.mem_cons_of_mem _ List.mem_cons_self, w, ?_, fun v => ⟨zI 0, wset (w.1, v) 141 0 (zI 2), ?_, rfl, wset_hit _ _ _ _, q.thr v _⟩⟩
      · unfold f_X10_hasTerm
        rw [h, bVX_s, k1, bVX_x]
      · unfold f_X11_hasTerm
        rw [m_isSecT (w := (w.1, v)) hM a1 hi, bI_s, if_neg (by decide), k2, bI_s, if_pos (by rfl), zl_2, if_neg (thr_pos (by omega) (by omega)).2]
        rfl
  · refine Or.inl ⟨(ioobe, 1), List.mem_cons_self, w, ?_, fun v => ⟨zI 0, wset (w.1, v) 141 0 (zI 1), ?_, rfl, wset_hit _ _ _ _, q.thr v _⟩⟩
    · unfold f_X10_hasTerm
      rw [h1, bVX_x]
    · unfold f_X11_hasTerm
      rw [h2 (w.1, v) hM, bI_s, if_pos (by rfl), zl_1, if_neg (thr_pos (by omega) (by omega)).2]
      rfl
/-! pipes -/
theorem m_asked {w : XW} {v : Int64 × UInt64} {F : Nat → Nat} {i j : Nat} (hM : Mo w.1 142 0 F) (h10 : F 2 ≤ 10) (hi : i < F 2) (hj : j < 4) : f_X11_asked (zI i) (zI j) (w.1, v) = some (zI (F (26 + 4 * i + j)), wset (w.1, v) 141 0 (zI 0)) := by
  unfold f_X11_asked
  rw [m_isPipeT (w := (w.1, v)) hM h10 hi, bI_s, if_neg (by decide), if_pos (by rw [wset_hit]; decide), zl_0, m_pipe (hM.thr v (zI 0)) (by omega), bI_s]
theorem m_asked_no {w : XW} {v : Int64 × UInt64} {x y : Int32} (h : f_X11_isPipe x (w.1, v) = some (zI 0, (w.1, v))) : f_X11_asked x y (w.1, v) = some (zI 0, wset (w.1, v) 141 0 (zI 1)) := by
  unfold f_X11_asked
  rw [h, bI_s, if_pos (by rfl), zl_1, if_neg (thr_pos (by omega) (by omega)).1]
  rfl
theorem q_pipe (B : Nat) (x : Int32) (cl : XW → Option ((Int32 × XW) ⊕ (String × XW))) (md : XW → Option (Int32 × XW)) (j : Nat) (hj : j < 4) (hcl : ∀ (w : XW) (F : Nat → Nat), Cls w.1 1 F → Inv F → (∀ i, i < F 2 → x = zI i → f_X10_requirePipe x w = some (.inl w) → cl w = some (.inl (zI (F (26 + 4 * i + j)), w))) ∧ (f_X10_requirePipe x w = some (.inr (ioobe, w)) → cl w = some (.inr (ioobe, w))))
    (hmd : ∀ w a w2, f_X11_asked x (zI j) w = some (zI a, w2) → (j = 3 → a ≤ 1) → a < 100 → md w = some (zI a, w2)) : QX B B cl md [(ioobe, 1)] := fun w q => by
  obtain ⟨F, _, hI, hC, hM, _⟩ := q.get
  obtain ⟨c1, c2⟩ := hcl w F hC hI
  rcases reqP (x := x) hC hI with ⟨i, hi, rfl, h⟩ | ⟨h1, h2⟩
  · have h8 := hI.2.2.2.2.2.2.2 i hi
    have a1 := hI.1
    refine Or.inr ⟨_, w, c1 i hi rfl h, fun v => ⟨wset (w.1, v) 141 0 (zI 0), hmd _ _ _ (m_asked hM hI.2.2.1 hi hj) (fun z => ?_) ?_, rfl, wset_hit _ _ _ _, q.thr v _⟩⟩
    · subst z; rw [show 26 + 4 * i + 3 = 29 + 4 * i by omega]; exact h8.2.2.2.2.2
    · have e : j = 0 ∨ j = 1 ∨ j = 2 ∨ j = 3 := by omega
      rcases e with rfl | rfl | rfl | rfl
      · rw [Nat.add_zero]; omega
      · rw [show 26 + 4 * i + 1 = 27 + 4 * i by omega]; omega
      · rw [show 26 + 4 * i + 2 = 28 + 4 * i by omega]; omega
      · rw [show 26 + 4 * i + 3 = 29 + 4 * i by omega]; omega
  · exact Or.inl ⟨(ioobe, 1), List.mem_cons_self, w, c2 h1, fun v => ⟨zI 0, wset (w.1, v) 141 0 (zI 1), hmd _ 0 _ (m_asked_no (h2 (w.1, v) hM)) (fun _ => by omega) (by omega), rfl, wset_hit _ _ _ _, q.thr v _⟩⟩
theorem q_pipeFrom (B : Nat) (x : Int32) : QX B B (f_X10_pipeFrom x) (f_X11_pipeFrom x) [(ioobe, 1)] := q_pipe B x _ _ 0 (by omega) (fun w F hC hI => ⟨fun i hi hx h => by
  unfold f_X10_pipeFrom
  subst hx
  rw [h, bVX_s, i_start hC.2.2.2.2.2.2.2.1 hI.2.2.1 hi (hC.2.2.2.2.2.2.2.2.1 i hi).1, bI_s, Nat.add_zero], fun h => by
  unfold f_X10_pipeFrom
  rw [h, bVX_x]⟩) (fun w a w2 h _ _ => by
  unfold f_X11_pipeFrom
  rw [zl_0, h, bI_s])
theorem q_pipeTo (B : Nat) (x : Int32) : QX B B (f_X10_pipeTo x) (f_X11_pipeTo x) [(ioobe, 1)] := q_pipe B x _ _ 1 (by omega) (fun w F hC hI => ⟨fun i hi hx h => by
  unfold f_X10_pipeTo
  subst hx
  rw [h, bVX_s, i_end hC.2.2.2.2.2.2.2.1 hI.2.2.1 hi (hC.2.2.2.2.2.2.2.2.1 i hi).2.1, bI_s, show 26 + 4 * i + 1 = 27 + 4 * i by omega], fun h => by
  unfold f_X10_pipeTo
  rw [h, bVX_x]⟩) (fun w a w2 h _ _ => by
  unfold f_X11_pipeTo
  rw [zl_1, h, bI_s])
theorem q_capacity (B : Nat) (x : Int32) : QX B B (f_X10_capacity x) (f_X11_capacity x) [(ioobe, 1)] := q_pipe B x _ _ 2 (by omega) (fun w F hC hI => ⟨fun i hi hx h => by
  unfold f_X10_capacity
  subst hx
  rw [h, bVX_s, i_width hC.2.2.2.2.2.2.2.1 hI.2.2.1 hi (hC.2.2.2.2.2.2.2.2.1 i hi).2.2.1, bI_s, show 26 + 4 * i + 2 = 28 + 4 * i by omega], fun h => by
  unfold f_X10_capacity
  rw [h, bVX_x]⟩) (fun w a w2 h _ _ => by
  unfold f_X11_capacity
  rw [zl_2, h, bI_s])
theorem q_isBroken (B : Nat) (x : Int32) : QX B B (f_X10_isBroken x) (f_X11_isBroken x) [(ioobe, 1)] := q_pipe B x _ _ 3 (by omega) (fun w F hC hI => ⟨fun i hi hx h => by
  have h8 := (hI.2.2.2.2.2.2.2 i hi).2.2.2.2.2
  unfold f_X10_isBroken
  subst hx
  rw [h, bVX_s, i_broken hC.2.2.2.2.2.2.2.1 hI.2.2.1 hi (hC.2.2.2.2.2.2.2.2.1 i hi).2.2.2 h8, bI_s, show 26 + 4 * i + 3 = 29 + 4 * i by omega, if_pos (by
    have e : F (29 + 4 * i) = 0 ∨ F (29 + 4 * i) = 1 := by omega
    rcases e with e | e <;> rw [e] <;> decide)], fun h => by
  unfold f_X10_isBroken
  rw [h, bVX_x]⟩) (fun w a w2 h h3 _ => by
  unfold f_X11_isBroken
  rw [zl_3, h, bI_s]
  have e : a = 0 ∨ a = 1 := by have := h3 rfl; omega
  rcases e with rfl | rfl <;> rfl)
/-! flows -/
theorem fl_hyp {F : Nat → Nat} (hI : Inv F) : (∀ p, p < F 2 → F (26 + 4 * p) < F 0 ∧ F (27 + 4 * p) < F 0) ∧ (∀ p, p < F 2 → F (28 + 4 * p) ≤ 20) ∧ (∀ p, p < F 2 → F (26 + 4 * p) < 8 ∧ F (27 + 4 * p) < 8 ∧ F (28 + 4 * p) ≤ 20 ∧ F (29 + 4 * p) ≤ 1) := by
  have a1 := hI.1
  exact ⟨fun p hp => ⟨(hI.2.2.2.2.2.2.2 p hp).1, (hI.2.2.2.2.2.2.2 p hp).2.1⟩, fun p hp => (hI.2.2.2.2.2.2.2 p hp).2.2.2.2.1, fun p hp => ⟨by have := (hI.2.2.2.2.2.2.2 p hp).1; omega, by have := (hI.2.2.2.2.2.2.2 p hp).2.1; omega, (hI.2.2.2.2.2.2.2 p hp).2.2.2.2.1, (hI.2.2.2.2.2.2.2 p hp).2.2.2.2.2⟩⟩
/-- denial 7 of both -/
theorem den7 {B : Nat} {w : XW} (q : Rel B w.1) (d : Nat) (hd : d < 100) (v : Int64 × UInt64) : Rel B (wset (wset (wset (wset (wset ((denW w 7 d zM).1, v) 141 0 (zI 0)) 141 15 (zI 7)) 141 16 (zI d)) 141 17 (zI 0)) 141 0 (zI 1)).1 := by
  have q0 := q
  obtain ⟨⟨F, q1, q1'⟩, q2, q3, q4, q5, q6, q7⟩ := q
  obtain ⟨X, hX⟩ : ∃ X, X = (wset (wset (wset (wset (wset ((denW w 7 d zM).1, v) 141 0 (zI 0)) 141 15 (zI 7)) 141 16 (zI d)) 141 17 (zI 0)) 141 0 (zI 1)).1 := ⟨_, rfl⟩
  have g : ∀ x, x ≠ 0 → x ≠ 141 → X x = w.1 x := fun x h0 h1 => by
    funext y
    rw [hX]
    unfold denW
    simp (disch := omega) only [wset_at, if_neg]
  have g141 : ∀ y, y ≠ 0 → ¬ (15 ≤ y ∧ y ≤ 17) → X 141 y = w.1 141 y := fun y h0 h1 => by
    rw [hX]
    unfold denW
    simp (disch := omega) only [wset_at, if_neg]
  have g0 : ∀ y, ¬ (12 ≤ y ∧ y ≤ 14) → X 0 y = w.1 0 y := fun y hy => by
    rw [hX]
    unfold denW
    simp (disch := omega) only [wset_at, if_neg]
  rw [← hX]
  refine ⟨⟨F, q1, q1'.cg (fun a h1 h2 => g a (by omega) (by omega)) (g _ (by omega) (by omega))⟩, q2.cg (by omega) (fun a h1 h2 => g a (by omega) (by omega)) (g _ (by omega) (by omega)) (g0 _ (by omega)) (g141 _ (by omega) (by omega)), q3.cg (by omega) (fun a h1 h2 => g a (by omega) (by omega)) (g _ (by omega) (by omega)) (g _ (by omega) (by omega)) (g141 _ (by omega) (by omega)), q4.cg (by rw [g 132 (by omega) (by omega)]) (g _ (by omega) (by omega)) (g _ (by omega) (by omega)) (g141 _ (by omega) (by omega)), q5.cg (by rw [g 134 (by omega) (by omega)]) (g _ (by omega) (by omega)) (g _ (by omega) (by omega)) (g141 _ (by omega) (by omega)), q6.cg (g0 _ (by omega)) (g141 _ (by omega) (by omega)), Or.inr ⟨7, d, by omega, by omega, hd, ?_, ?_, ?_, ?_⟩, Or.inl ⟨?_, ?_⟩⟩
  all_goals (rw [hX]; rfl)
theorem q_flowG (B : Nat) (cl : XW → Option ((Int32 × XW) ⊕ (String × XW))) (fl : XW → Option (Int32 × XW)) (hcl : ∀ w, cl w = bI (f_X8_judgeEnds 1 w) (fun r1 w1 => (bVX (f_X10_obey r1 w1) (fun w2 => (bI (fl w2) (fun r3 w3 => (some (.inl (r3, w3))))))))) (hfl : ∀ (w : XW) (F : Nat → Nat), Inv F → 2 ≤ F 0 → Cls w.1 1 F → ∃ w', fl w = some (zI (mcF F 99 (F 0)), w') ∧ Fr (fun a => 125 ≤ a ∧ a ≤ 127) w w') : QX B B cl f_X11_greatestFlow [(uoe, 1)] := fun w q => by
  obtain ⟨F, _, hI, hC, hM, hq⟩ := q.get
  have a1 := hI.1
  have q1 : w.1 (1 + 1) 0 = zI (F 0) := hC.1
  by_cases h0 : F 0 < 2
  · refine Or.inl ⟨(uoe, 1), List.mem_cons_self, denW w 7 (F 0) zM, ?_, fun v => ⟨zI 0, wset (wset (wset (wset (wset ((denW w 7 (F 0) zM).1, v) 141 0 (zI 0)) 141 15 (zI 7)) 141 16 (zI (F 0))) 141 17 (zI 0)) 141 0 (zI 1), ?_, rfl, wset_hit _ _ _ _, den7 q (F 0) (by omega) v⟩⟩
    · rw [hcl]
      unfold f_X8_judgeEnds
      rw [q1, if_pos (by rw [zl_2, zI_lt (by omega) (by omega)]; exact h0), zl_7, den_c, bI_s, bI_s, obey_den (by omega) (by omega) (by omega), bVX_x]
      rfl
    · have hM0 : (wset ((denW w 7 (F 0) zM).1, v) 141 0 (zI 0)).1 142 0 = zI (F 0) := by
        unfold denW
        simp (disch := omega) only [wset_at, if_neg]
        exact hM.at (by omega)
      unfold f_X11_greatestFlow
      rw [zl_0, show (zI 0).toNatClampNeg = 0 from rfl, hM0, if_pos (by rw [zl_1, zI_le (by omega) (by omega)]; omega), zl_7, den_m, bI_s]
      rfl
  · obtain ⟨w1, e1, e2⟩ := hfl w F hI (by omega) hC
    obtain ⟨_, _, k3⟩ := fl_hyp hI
    refine Or.inr ⟨zI (mcF F 99 (F 0)), w1, ?_, fun v => ⟨wset (w1.1, v) 141 0 (zI 0), ?_, rfl, wset_hit _ _ _ _, ?_⟩⟩
    · rw [hcl]
      unfold f_X8_judgeEnds
      rw [q1, if_neg (by rw [zl_2, zI_lt (by omega) (by omega)]; exact h0), zl_0, bI_s, obey_ok, bVX_s, e1, bI_s]
    · have hM1 : Mo w1.1 142 0 F := hM.fr e2 (by omega)
      unfold f_X11_greatestFlow
      rw [zl_0, show (zI 0).toNatClampNeg = 0 from rfl, (hM1.thr v (zI 0)).at (by omega), if_neg (by rw [zl_1, zI_le (by omega) (by omega)]; omega), zl_1, zm1, m_cut a1 (by omega) (hM1.thr v (zI 0)) hI.2.2.1 nowo k3, bI_s]
    · refine hq _ (fun a z1 z2 z3 z4 z5 z6 z7 z8 z9 => ?_) (fun c hc => ?_) (fun c hc => ?_) ((hM.fr e2 (by omega)).thr v _)
      · funext y; rw [wset_at, if_neg (by omega)]; exact e2.at (by omega) y
      · rw [wset_at, if_neg (by omega)]; exact e2.at (by omega) c
      · rw [wset_at, if_neg (by omega)]; exact e2.at (by omega) c
theorem q_greatest (B : Nat) : QX B B f_X10_greatestFlow f_X11_greatestFlow [(uoe, 1)] := q_flowG B f_X10_greatestFlow (fun w2 => f_X1_greatest 7 (w2.1 2 0) (-1) w2) (fun w => rfl) (fun w F hI h2 hC => by
  obtain ⟨k1, k2, k3⟩ := fl_hyp hI
  obtain ⟨w', e1, e2, e3⟩ := g_greatest (y := zM) (wo := 99) hI.1 h2 (hC.pp hI) nowo k1 k2
  refine ⟨w', ?_, e2⟩
  rw [show w.1 2 0 = zI (F 0) from hC.1]
  exact e1)
theorem q_smallest (B : Nat) : QX B B f_X10_smallestCut f_X11_smallestCut [(uoe, 1)] := fun w q => by
  have h := q_flowG B f_X10_smallestCut (fun w2 => f_X1_smallest 7 (w2.1 2 0) w2) (fun w => rfl) (fun w F hI h2 hC => by
    obtain ⟨k1, k2, k3⟩ := fl_hyp hI
    refine ⟨w, ?_, Fr.rf⟩
    rw [show w.1 2 0 = zI (F 0) from hC.1]
    exact g_smallest hI.1 h2 (hC.pp hI) (fun p hp => ⟨(k3 p hp).1, (k3 p hp).2.1, (k3 p hp).2.2.1⟩)) w q
  have e : f_X11_smallestCut = f_X11_greatestFlow := by funext w; unfold f_X11_smallestCut; rw [bI_id]
  rw [e]
  exact h
theorem q_loss (B : Nat) (x : Int32) : QX B B (f_X10_lossOf x) (f_X11_lossOf x) [(ioobe, 1)] := fun w q => by
  obtain ⟨F, _, hI, hC, hM, hq⟩ := q.get
  have a1 := hI.1
  obtain ⟨k1, k2, k3⟩ := fl_hyp hI
  rcases reqP (x := x) hC hI with ⟨i, hi, rfl, h⟩ | ⟨h1, h2⟩
  · have h8 := hI.2.2.2.2.2.2.2 i hi
    have h10 := hI.2.2.1
    have hy : ∀ p, p < 10 → (zI p = zI i) = (p = i) := fun p hp => zI_inj (by omega) (by omega)
    obtain ⟨w1, e1, e2, e3⟩ := g_greatest (y := zM) (wo := 99) a1 (by omega) (hC.pp hI) nowo k1 k2
    have hC1 : Cls w1.1 1 F := hC.fr e2 (fun a h1 h2 => by omega)
    obtain ⟨w2, f1, f2, f3⟩ := g_greatest (y := zI i) (wo := i) a1 (by omega) (hC1.pp hI) hy k1 k2
    have hM2 : Mo w2.1 142 0 F := (hM.fr e2 (by omega)).fr f2 (by omega)
    refine Or.inr ⟨zI (mcF F 99 (F 0)) - zI (mcF F i (F 0)), w2, ?_, fun v => ⟨wset (w2.1, v) 141 0 (zI 0), ?_, rfl, wset_hit _ _ _ _, ?_⟩⟩
    · unfold f_X10_lossOf
      rw [h, bVX_s, show w.1 2 0 = zI (F 0) from hC.1, zl_1, zm1, e1, bI_s, f1, bI_s]
    · unfold f_X11_lossOf
      rw [m_isPipeT (w := (w2.1, v)) hM2 h10 hi, bI_s, if_neg (by decide), if_pos (by rw [wset_hit]; decide), zl_0, zl_1, zm1, m_cut a1 (by omega) (hM2.thr v (zI 0)) h10 nowo k3, bI_s, m_cut a1 (by omega) (hM2.thr v (zI 0)) h10 hy k3, bI_s]
    · refine hq _ (fun a z1 z2 z3 z4 z5 z6 z7 z8 z9 => ?_) (fun c hc => ?_) (fun c hc => ?_) (hM2.thr v _)
      · funext y; rw [wset_at, if_neg (by omega)]; exact (e2.tr f2).at (by omega) y
      · rw [wset_at, if_neg (by omega)]; exact (e2.tr f2).at (by omega) c
      · rw [wset_at, if_neg (by omega)]; exact (e2.tr f2).at (by omega) c
  · refine Or.inl ⟨(ioobe, 1), List.mem_cons_self, w, ?_, fun v => ⟨zI 0, wset (w.1, v) 141 0 (zI 1), ?_, rfl, wset_hit _ _ _ _, q.thr v _⟩⟩
    · unfold f_X10_lossOf
      rw [h1, bVX_x]
    · unfold f_X11_lossOf
      rw [h2 (w.1, v) hM, bI_s, if_pos (by rfl), zl_1, if_neg (thr_pos (by omega) (by omega)).1]
      rfl
