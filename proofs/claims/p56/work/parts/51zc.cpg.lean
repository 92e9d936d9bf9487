/-! the program reads a search as PG does -/
def JC (w0 : XW) (p fa : Int32) (w : XW) : Prop := w.2 = w0.2 ∧ (∀ a c, ¬ (a = 136 ∧ (c = 2 ∨ c = 3)) → w.1 a c = w0.1 a c) ∧ w.1 136 2 = p ∧ w.1 136 3 = fa
def CT (w0 : XW) (t : Nat) (ch : Nat → Nat) : Prop := t ≤ 60 ∧ w0.1 132 1 = zI t ∧ (∀ i, i < t → w0.1 133 i = zI (ch i)) ∧ (∀ i, ch i < 65536) ∧ (∀ i, t ≤ i → ch i = 0)
def CB (w0 : XW) (n : Nat) (σ : Nat → Nat) (S : Nat → Nat → Bool) : Prop := n ≤ 7 ∧ w0.1 136 1 = zI (2 ^ n - 1) ∧ ∀ i, i < 8 → ∃ b, w0.1 137 i = zI b ∧ MK n b (fun k => S i (σ k))
section
variable {w0 w : XW} {p fa : Int32}
theorem JC.sp (J : JC w0 p fa w) (q : Int32) : JC w0 q fa (wset w 136 2 q) := by
  obtain ⟨a, b, c, d⟩ := J
  refine ⟨a, fun x y h => ?_, ?_, ?_⟩
  · rw [wset_at, if_neg (by omega), b x y h]
  · rw [wset_hit]
  · rw [wset_at, if_neg (by omega)]; exact d
theorem JC.fag (J : JC w0 p fa w) (q : Int32) : JC w0 p q (wset w 136 3 q) := by
  obtain ⟨a, b, c, d⟩ := J
  refine ⟨a, fun x y h => ?_, ?_, ?_⟩
  · rw [wset_at, if_neg (by omega), b x y h]
  · rw [wset_at, if_neg (by omega)]; exact c
  · rw [wset_hit]
end
theorem JC.nx {w0 w : XW} {fa : Int32} {p : Nat} (J : JC w0 (zI p) fa w) : JC w0 (zI (p + 1)) fa (wset w 136 2 (w.1 136 2 + 1)) := by
  rw [J.2.2.1, zl_1, zI_add]; exact J.sp _
section
variable {w0 : XW} {t : Nat} {ch : Nat → Nat} {n : Nat} {σ : Nat → Nat} {S : Nat → Nat → Bool}
theorem c_at {w : XW} {p : Nat} (T : CT w0 t ch) (h : ∀ a c, a ≠ 136 → w.1 a c = w0.1 a c) (hp : p < 2147483648) : f_X6_at 132 (zI p) w = some (zI (ch p), w) := by
  obtain ⟨t1, t2, t3, t4, t5⟩ := T
  unfold f_X6_at
  rw [if_neg (by rw [zl_0, zI_lt (by omega) (by omega)]; omega), h 132 1 (by omega), t2]
  by_cases z : p < t
  · rw [if_neg (by rw [zI_le (by omega) (by omega)]; omega), if_pos (by rw [inB_z (by omega), row132]; omega), zI_nat (by omega), h 133 p (by omega), t3 p z, ch_nar (t4 p), if_pos rfl]
  · rw [if_pos (by rw [zI_le (by omega) (by omega)]; omega), t5 p (by omega)]
    rfl
theorem JC.tx {p fa : Int32} {w : XW} (J : JC w0 p fa w) : ∀ a c, a ≠ 136 → w.1 a c = w0.1 a c := fun a c h => J.2.1 a c (by omega)
theorem c_isTerm {c : Nat} (hc : c < 65536) (w : XW) : f_X9_isTerm (zI c) w = some (zI (if 97 ≤ c ∧ c ≤ 104 then 1 else 0), w) := by
  unfold f_X9_isTerm
  by_cases h1 : c < 97
  · rw [if_pos (show zI c < 97 by rw [zl_97, zI_lt (by omega) (by omega)]; exact h1), if_neg (by omega)]
    rfl
  · rw [if_neg (show ¬ (zI c < 97) by rw [zl_97, zI_lt (by omega) (by omega)]; exact h1)]
    by_cases h2 : 104 < c
    · rw [if_pos (show 104 < zI c by rw [zl_104, zI_lt (by omega) (by omega)]; exact h2), if_neg (by omega)]
      rfl
    · rw [if_neg (show ¬ (104 < zI c) by rw [zl_104, zI_lt (by omega) (by omega)]; exact h2), if_pos (by omega)]
      rfl
theorem c_starts {c : Nat} (hc : c < 65536) (w : XW) : f_X7_startsFactor (zI c) w = some (zI (if isF c then 1 else 0), w) := by
  unfold f_X7_startsFactor
  by_cases h2 : c = 45
  · rw [if_pos (show zI c = 45 by rw [zl_45, zI_inj (by omega) (by omega)]; exact h2), if_pos (Or.inl h2)]
    rfl
  · rw [if_neg (show ¬ (zI c = 45) by rw [zl_45, zI_inj (by omega) (by omega)]; exact h2)]
    by_cases h3 : c = 40
    · rw [if_pos (show zI c = 40 by rw [zl_40, zI_inj (by omega) (by omega)]; exact h3), if_pos (Or.inr (Or.inl h3))]
      rfl
    · rw [if_neg (show ¬ (zI c = 40) by rw [zl_40, zI_inj (by omega) (by omega)]; exact h3), c_isTerm hc, bI_s]
      by_cases h1 : 97 ≤ c ∧ c ≤ 104
      · rw [if_pos h1, if_neg (show ¬ zI 1 = 0 by decide), if_pos (Or.inr (Or.inr h1))]
        rfl
      · rw [if_neg h1, if_pos (show zI 0 = 0 from rfl), if_neg (fun z => z.elim h2 (fun z => z.elim h3 h1))]
        rfl
theorem c_bearers {p fa : Int32} {w : XW} {c : Nat} (B : CB w0 n σ S) (J : JC w0 p fa w) (hc : c < 8) : ∃ b, f_X7_bearersOf (zI (97 + c)) w = some (zI b, w) ∧ MK n b (fun k => S c (σ k)) := by
  obtain ⟨b, b1, b2⟩ := B.2.2 c hc
  refine ⟨b, ?_, b2⟩
  unfold f_X7_bearersOf
  have e : zI (97 + c) - 97 = zI c := by rw [zl_97, zI_sub (by omega), show 97 + c - 97 = c by omega]
  simp only [e]
  rw [if_neg (show ¬ (zI c < 0) by rw [zl_0, zI_lt (by omega) (by omega)]; omega), if_neg (show ¬ (8 ≤ zI c) by rw [zl_8, zI_le (by omega) (by omega)]; omega), if_pos (by rw [inB_z (by omega)]; omega), zI_nat (by omega), J.2.1 137 c (by omega), b1]
def CSp (w0 : XW) (n : Nat) (σ : Nat → Nat) (r : PR) (o : Option (Int32 × XW)) : Prop := ∃ x w', o = some (x, w') ∧ (r.1 = true → ∃ q, JC w0 q (zI r.2.2) w') ∧ (r.1 = false → JC w0 (zI r.2.2) zM w' ∧ ∃ m, x = zI m ∧ MK n m (fun k => r.2.1 (σ k)))
theorem CSp.j {r : PR} {K : (Nat → Bool) → Nat → PR} {o : Option (Int32 × XW)} {K' : Int32 → XW → Option (Int32 × XW)} (h : CSp w0 n σ r o) (hok : ∀ m w', r.1 = false → MK n m (fun k => r.2.1 (σ k)) → JC w0 (zI r.2.2) zM w' → CSp w0 n σ (K r.2.1 r.2.2) (K' (zI m) w')) (hwr : ∀ x w' q, r.1 = true → JC w0 q (zI r.2.2) w' → ∃ x', K' x w' = some (x', w')) : CSp w0 n σ (PGj r K) (bI o K') := by
  obtain ⟨x, w', e, g1, g2⟩ := h
  rw [e, bI_s]
  unfold PGj
  by_cases z : r.1 = true
  · rw [if_pos z]
    obtain ⟨q, J⟩ := g1 z
    obtain ⟨x', e'⟩ := hwr x w' q z J
    exact ⟨x', w', e', fun _ => ⟨q, J⟩, fun h => by cases h⟩
  · rw [if_neg z]
    have z := Bool.eq_false_iff.mpr z
    obtain ⟨J, m, rfl, hm⟩ := g2 z
    exact hok m w' z hm J
theorem c_parse (T : CT w0 t ch) (B : CB w0 n σ S) : ∀ f : Nat,
    (∀ op p k lf s (neg : Bool) w, op + k = 5 → op ≤ 4 → p ≤ t → 5 * (t - p) < f → s ≤ p → 60 - s < lf → JC w0 (zI p) zM w → CSp w0 n σ ((PG ch S f 0 op nV p).1, (fun j => neg ^^ (PG ch S f 0 op nV p).2.1 j), (PG ch S f 0 op nV p).2.2) (f_X7_readFactor_5 (f_X7_readSum k) (zI op) lf (zI neg.toNat) (zI s) w)) ∧
    (∀ op p k lf s m v w, op + k = 5 → op ≤ 4 → p ≤ t → 5 * (t - p) + 1 < f → s < p → 60 - s < lf → MK n m (fun k => v (σ k)) → JC w0 (zI p) zM w → CSp w0 n σ (PG ch S f 1 op v p) (f_X7_readProduct_10 (f_X7_readSum k) (zI op) lf (zI m) (zI s) w)) ∧
    (∀ op p k w, op + k = 5 → op ≤ 4 → p ≤ t → 5 * (t - p) + 2 < f → JC w0 (zI p) zM w → CSp w0 n σ (PG ch S f 2 op nV p) (f_X7_readProduct (f_X7_readSum k) (zI op) w)) ∧
    (∀ op p k lf s m v w, op + k = 5 → op ≤ 4 → p ≤ t → 5 * (t - p) + 3 < f → s < p → 60 - s < lf → MK n m (fun k => v (σ k)) → JC w0 (zI p) zM w → CSp w0 n σ (PG ch S f 3 op v p) (f_X7_readSum_10 (f_X7_readSum k) (zI op) lf (zI m) (zI s) w)) ∧
    (∀ op p k w, op + k = 5 → op ≤ 4 → p ≤ t → 5 * (t - p) + 4 < f → JC w0 (zI p) zM w → CSp w0 n σ (PG ch S f 4 op nV p) (f_X7_readSumO (f_X7_readSum k) (zI op) w)) := by
  obtain ⟨t1, t2, t3, t4, t5⟩ := id T
  have hlt : ∀ p, ch p ≠ 0 → p < t := fun p h => by
    by_cases z : p < t
    · exact z
    · exact absurd (t5 p (by omega)) h
  intro f
  induction f with
  | zero => exact ⟨fun _ _ _ _ _ _ _ _ _ _ h => by omega, fun _ _ _ _ _ _ _ _ _ _ _ h => by omega, fun _ _ _ _ _ _ _ h => by omega, fun _ _ _ _ _ _ _ _ _ _ _ h => by omega, fun _ _ _ _ _ _ _ h => by omega⟩
  | succ f ih =>
    obtain ⟨iA, iB, iC, iD, iE⟩ := ih
    have hpw : ∀ (RC : Int32 → XW → Option (Int32 × XW)) (y : Int32) (lf d : Nat) (z s q : Int32) (w : XW), 0 < lf → d ≤ t → JC w0 q (zI d) w → f_X7_readProduct_10 RC y lf z s w = some (z, w) := fun RC y lf d z s q w hl hd J => by
      cases lf with
      | zero => omega
      | succ lf =>
        unfold f_X7_readProduct_10
        by_cases h : 60 ≤ s
        · rw [if_pos h]
        · rw [if_neg h, J.2.2.2, if_neg (by rw [zl_1, zm1, zI_zM (by omega)]; exact id)]
    have hsw : ∀ (RC : Int32 → XW → Option (Int32 × XW)) (y : Int32) (lf d : Nat) (z s q : Int32) (w : XW), 0 < lf → d ≤ t → JC w0 q (zI d) w → f_X7_readSum_10 RC y lf z s w = some (z, w) := fun RC y lf d z s q w hl hd J => by
      cases lf with
      | zero => omega
      | succ lf =>
        unfold f_X7_readSum_10
        by_cases h : 60 ≤ s
        · rw [if_pos h]
        · rw [if_neg h, J.2.2.2, if_neg (by rw [zl_1, zm1, zI_zM (by omega)]; exact id)]
    refine ⟨?_, ?_, ?_, ?_, ?_⟩
    · intro op p k lf s neg w hk ho hp hf hs hl J
      -- a plain factor, and the sign
      have plain : ∀ w, ch p ≠ 45 → JC w0 (zI p) zM w → CSp w0 n σ (PG ch S (f + 1) 0 op nV p) (f_X7_readPlainFactor (f_X7_readSum k) (zI op) w) := by
        intro w h2 J
        rw [PG0]
        unfold f_X7_readPlainFactor
        rw [J.2.2.1, c_at T J.tx (by omega), bI_s, c_isTerm (t4 p), bI_s]
        by_cases h1 : 97 ≤ ch p ∧ ch p ≤ 104
        · rw [if_pos h1, if_pos h1, if_neg (show ¬ zI 1 = 0 by decide)]
          have J1 := J.nx
          obtain ⟨b, b1, b2⟩ := c_bearers B J1 (show ch p - 97 < 8 by omega)
          rw [show 97 + (ch p - 97) = ch p by omega] at b1
          rw [b1, bI_s]
          exact ⟨_, _, rfl, fun h => absurd (show false = true from h) (by decide), fun _ => ⟨J1, b, rfl, b2⟩⟩
        · rw [if_neg h1, if_neg h1, if_neg h2, if_pos (show zI 0 = 0 from rfl)]
          by_cases h3 : ch p = 40
          · have hl := hlt p (by omega)
            rw [if_pos h3, if_pos (show zI (ch p) = 40 by rw [zl_40, zI_inj (by have := t4 p; omega) (by omega)]; exact h3)]
            by_cases h4 : op = 4
            · rw [if_pos h4, if_neg (show ¬ (zI op < 4) by rw [zl_4, zI_lt (by omega) (by omega)]; omega), J.2.2.1]
              exact ⟨_, _, rfl, fun _ => ⟨zI p, J.fag (zI p)⟩, fun h => absurd (show true = false from h) (by decide)⟩
            · rw [if_neg h4, if_pos (show zI op < 4 by rw [zl_4, zI_lt (by omega) (by omega)]; omega)]
              have J1 := J.nx
              cases k with
              | zero => omega
              | succ k =>
                obtain ⟨x, w', e, g1, g2⟩ := iE (op + 1) (p + 1) k _ (by omega) (by omega) (by omega) (by omega) J1
                have hb := (PGb (S := S) t5 f 4 (op + 1) nV (p + 1) (by omega) (by omega)).2.1
                rw [show zI op + 1 = zI (op + 1) by rw [zl_1, zI_add]]
                show CSp w0 n σ (PGc ch _) (bI (f_X7_readSumO (f_X7_readSum k) (zI (op + 1)) _) _)
                rw [e, bI_s]
                obtain ⟨r, hr⟩ : ∃ r, r = PG ch S f 4 (op + 1) nV (p + 1) := ⟨_, rfl⟩
                rw [← hr] at g1 g2 hb ⊢
                unfold PGc
                by_cases z : r.1 = true
                · obtain ⟨q, J2⟩ := g1 z
                  rw [if_pos z, J2.2.2.2, if_neg (show ¬ (zI r.2.2 = -1) by rw [zl_1, zm1, zI_zM (by omega)]; exact id)]
                  exact ⟨_, _, rfl, fun _ => ⟨_, J2.sp _⟩, fun h => absurd (show true = false from h) (by decide)⟩
                · rw [if_neg z]
                  have z := Bool.eq_false_iff.mpr z
                  obtain ⟨J2, m, rfl, hm⟩ := g2 z
                  rw [J2.2.2.2, if_pos (show zM = -1 from rfl), J2.2.2.1, c_at T J2.tx (by omega), bI_s]
                  by_cases y : ch r.2.2 = 41
                  · rw [if_pos y, if_pos (show zI (ch r.2.2) = 41 by rw [zl_41, zI_inj (by have := t4 r.2.2; omega) (by omega)]; exact y)]
                    exact ⟨_, _, rfl, fun h => absurd (show false = true from h) (by decide), fun _ => ⟨J2.nx, m, rfl, hm⟩⟩
                  · rw [if_neg y, if_neg (show ¬ (zI (ch r.2.2) = 41) by rw [zl_41, zI_inj (by have := t4 r.2.2; omega) (by omega)]; exact y), J2.2.2.1]
                    exact ⟨_, _, rfl, fun _ => ⟨_, (J2.fag (zI r.2.2)).sp _⟩, fun h => absurd (show true = false from h) (by decide)⟩
          · rw [if_neg h3, if_neg (show ¬ (zI (ch p) = 40) by rw [zl_40, zI_inj (by have := t4 p; omega) (by omega)]; exact h3), J.2.2.1]
            exact ⟨_, _, rfl, fun _ => ⟨zI p, J.fag (zI p)⟩, fun h => absurd (show true = false from h) (by decide)⟩
      have signed : ∀ w, ch p ≠ 45 → JC w0 (zI p) zM w → CSp w0 n σ ((PG ch S (f + 1) 0 op nV p).1, (fun j => neg ^^ (PG ch S (f + 1) 0 op nV p).2.1 j), (PG ch S (f + 1) 0 op nV p).2.2) (bI (f_X7_readPlainFactor (f_X7_readSum k) (zI op) w) (fun r1 w1 => (if zI neg.toNat = 0 then (some (r1, w1)) else (some (((w1.1 136 1) &&& (r1 ^^^ (-1))), w1))))) := by
        intro w h2 J
        obtain ⟨x, w', e, g1, g2⟩ := plain w h2 J
        rw [e, bI_s]
        cases neg with
        | false =>
          rw [if_pos (show zI false.toNat = 0 from rfl)]
          refine ⟨x, w', rfl, g1, fun h => ?_⟩
          obtain ⟨J2, m, rfl, hm⟩ := g2 h
          exact ⟨J2, m, rfl, by simpa using hm⟩
        | true =>
          rw [if_neg (show ¬ zI true.toNat = 0 by decide)]
          refine ⟨_, w', rfl, g1, fun h => ?_⟩
          obtain ⟨J2, m, rfl, hm⟩ := g2 h
          obtain ⟨b, b1, b2⟩ := hm.not B.1
          refine ⟨J2, b, ?_, by simpa using b2⟩
          rw [J2.2.1 136 1 (by omega), B.2.1, zl_1, zm1]
          exact b1
      cases lf with
      | zero => omega
      | succ lf =>
        unfold f_X7_readFactor_5
        by_cases h60 : 60 ≤ s
        · rw [if_pos (show 60 ≤ zI s by rw [zl_60, zI_le (by omega) (by omega)]; exact h60)]
          exact signed w (by have := t5 p (by omega); omega) J
        · rw [if_neg (show ¬ (60 ≤ zI s) by rw [zl_60, zI_le (by omega) (by omega)]; exact h60), J.2.2.1, c_at T J.tx (by omega), bI_s]
          by_cases h2 : ch p = 45
          · have hl2 := hlt p (by omega)
            have J1 := J.nx
            rw [if_pos (show zI (ch p) = 45 by rw [zl_45, zI_inj (by omega) (by omega)]; exact h2), PG0, if_neg (show ¬ (97 ≤ ch p ∧ ch p ≤ 104) by omega), if_pos h2, show zI s + 1 = zI (s + 1) by rw [zl_1, zI_add]]
            have h := iA op (p + 1) k lf (s + 1) (!neg) _ hk ho (by omega) (by omega) (by omega) (by omega) J1
            have hv : (fun j => (!neg) ^^ (PG ch S f 0 op nV (p + 1)).2.1 j) = (fun j => neg ^^ !(PG ch S f 0 op nV (p + 1)).2.1 j) := by
              funext j
              cases neg <;> cases (PG ch S f 0 op nV (p + 1)).2.1 j <;> rfl
            rw [hv] at h
            cases neg with
            | false => rw [if_pos (show zI false.toNat = 0 from rfl)]; exact h
            | true => rw [if_neg (show ¬ zI true.toNat = 0 by decide)]; exact h
          · rw [if_neg (show ¬ (zI (ch p) = 45) by rw [zl_45, zI_inj (by have := t4 p; omega) (by omega)]; exact h2)]
            exact signed w h2 J
    · intro op p k lf s m v w hk ho hp hf hs hl hm J
      cases lf with
      | zero => omega
      | succ lf =>
        rw [PG1]
        unfold f_X7_readProduct_10
        rw [if_neg (show ¬ (60 ≤ zI s) by rw [zl_60, zI_le (by omega) (by omega)]; omega), J.2.2.2, if_pos (show zM = -1 from rfl), J.2.2.1, c_at T J.tx (by omega), bI_s, c_starts (t4 p), bI_s]
        by_cases h1 : isF (ch p)
        · rw [if_pos h1, if_pos h1, if_neg (show ¬ zI 1 = 0 by decide)]
          have hl2 := hlt p (by unfold isF at h1; omega)
          obtain ⟨b1, b2, b3⟩ := PGb (S := S) t5 f 0 op nV p (by omega) hp
          have hA := iA op p k 1000 0 false w hk ho hp (by omega) (by omega) (by omega) J
          simp only [Bool.false_xor] at hA
          unfold f_X7_readFactor
          refine CSp.j hA (fun m' w' z hm' J' => ?_) (fun x w' q z J' => ⟨_, hpw _ _ _ _ _ _ _ _ (by omega) b2 J'⟩)
          have b3 := b3 (Or.inl rfl) z
          rw [zI_and, show zI s + 1 = zI (s + 1) by rw [zl_1, zI_add]]
          exact iB op _ k lf (s + 1) _ _ w' hk ho b2 (by omega) (by omega) (by omega) (hm.and hm') J'
        · rw [if_neg h1, if_neg h1, if_pos (show zI 0 = 0 from rfl)]
          exact ⟨_, _, rfl, fun h => absurd (show false = true from h) (by decide), fun _ => ⟨J, m, rfl, hm⟩⟩
    · intro op p k w hk ho hp hf J
      rw [PG2]
      unfold f_X7_readProduct f_X7_readFactor
      obtain ⟨b1, b2, b3⟩ := PGb (S := S) t5 f 0 op nV p (by omega) hp
      have hA := iA op p k 1000 0 false w hk ho hp (by omega) (by omega) (by omega) J
      simp only [Bool.false_xor] at hA
      refine CSp.j hA (fun m' w' z hm' J' => ?_) (fun x w' q z J' => ⟨_, hpw _ _ _ _ _ _ _ _ (by omega) b2 J'⟩)
      have b3 := b3 (Or.inl rfl) z
      exact iB op _ k 1000 0 _ _ w' hk ho b2 (by omega) (by omega) (by omega) hm' J'
    · intro op p k lf s m v w hk ho hp hf hs hl hm J
      cases lf with
      | zero => omega
      | succ lf =>
        rw [PG3]
        unfold f_X7_readSum_10
        rw [if_neg (show ¬ (60 ≤ zI s) by rw [zl_60, zI_le (by omega) (by omega)]; omega), J.2.2.2, if_pos (show zM = -1 from rfl), J.2.2.1, c_at T J.tx (by omega), bI_s]
        by_cases h1 : ch p = 43
        · have hl2 := hlt p (by omega)
          rw [if_pos h1, if_pos (show zI (ch p) = 43 by rw [zl_43, zI_inj (by omega) (by omega)]; exact h1)]
          obtain ⟨b1, b2, b3⟩ := PGb (S := S) t5 f 2 op nV (p + 1) (by omega) (by omega)
          have J1 := J.nx
          refine CSp.j (iC op (p + 1) k _ hk ho (by omega) (by omega) J1) (fun m' w' z hm' J' => ?_) (fun x w' q z J' => ⟨_, hsw _ _ _ _ _ _ _ _ (by omega) b2 J'⟩)
          have b3 := b3 (Or.inr (Or.inl rfl)) z
          rw [zI_or, show zI s + 1 = zI (s + 1) by rw [zl_1, zI_add]]
          exact iD op _ k lf (s + 1) _ _ w' hk ho b2 (by omega) (by omega) (by omega) (hm.or hm') J'
        · rw [if_neg h1, if_neg (show ¬ (zI (ch p) = 43) by rw [zl_43, zI_inj (by have := t4 p; omega) (by omega)]; exact h1)]
          exact ⟨_, _, rfl, fun h => absurd (show false = true from h) (by decide), fun _ => ⟨J, m, rfl, hm⟩⟩
    · intro op p k w hk ho hp hf J
      rw [PG4]
      unfold f_X7_readSumO
      obtain ⟨b1, b2, b3⟩ := PGb (S := S) t5 f 2 op nV p (by omega) hp
      refine CSp.j (iC op p k w hk ho hp (by omega) J) (fun m' w' z hm' J' => ?_) (fun x w' q z J' => ⟨_, hsw _ _ _ _ _ _ _ _ (by omega) b2 J'⟩)
      have b3 := b3 (Or.inr (Or.inl rfl)) z
      exact iD op _ k 1000 0 _ _ w' hk ho b2 (by omega) (by omega) (by omega) hm' J'
end
