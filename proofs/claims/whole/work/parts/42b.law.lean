/-! one turn of the law, by the command asked -/
def ES (es : List (String × Nat)) (KX : String → XW → Option (Int32 × XW)) : Prop := ∀ e, e ∈ es → e.2 ≠ 0 ∧ e.2 < 10 ∧ ∀ u, KX e.1 u = some (zI e.2, u)
theorem bDl_s {ρ : Type} (a : UInt64) (w : XW) (K : UInt64 → XW → Option ρ) : bD (some (a, w)) K = K a w := (rfl)
theorem bFl_s {ρ : Type} (a : UInt32) (w : XW) (K : UInt32 → XW → Option ρ) : bF (some (a, w)) K = K a w := (rfl)
theorem lg_self (x : Int64) : lg_cmp x x = 0 := by
  unfold lg_cmp
  rw [if_neg (show ¬ (x > x) from Int64.lt_irrefl), if_pos rfl]
section
variable {B B' : Nat} {w : XW} {K : Int32 → XW → Option (Int32 × XW)} {z : Int32}
theorem law1 {cl : XW → Option ((Int32 × XW) ⊕ (String × XW))} {md : XW → Option (Int32 × XW)} {es : List (String × Nat)} {KX : String → XW → Option (Int32 × XW)} (h : QX B B' cl md es) (hk : ES es KX) (q : Rel B w.1) : ∃ w2, Rel B' w2.1 ∧ bI (bCI (cl w) (fun r1 w1 => (some (0, (w1.1, (Int32.toInt64 r1), w1.2.2)))) KX) (fun r1 w1 => (bI (md w1) (fun r2 w2 => (bI (f_X11_thrown w2) (fun r3 w3 => (if r3 = r1 then (if r1 = 0 then (if (lg_cmp w3.2.1 (Int32.toInt64 r2)) = 0 then (K (z + 4) w3) else (some (0, w3))) else (K (z + 4) w3)) else (some (0, w3)))))))) = K (z + 4) w2 := by
  rcases h w q with ⟨e, he, w1, h1, h2⟩ | ⟨r, w1, h1, h2⟩
  · obtain ⟨k1, k2, k3⟩ := hk e he
    obtain ⟨r, w2, a, b, c, d⟩ := h2 w1.2
    have a : md w1 = some (r, w2) := a
    refine ⟨w2, d, ?_⟩
    rw [h1]
    show bI (KX e.1 w1) _ = _
    rw [k3, bI_s, a, bI_s]
    unfold f_X11_thrown
    rw [bI_s, c, if_pos rfl, if_neg (show ¬ (zI e.2 = 0) by rw [zl_0, zI_inj (by omega) (by omega)]; exact k1)]
  · obtain ⟨w2, a, b, c, d⟩ := h2 (Int32.toInt64 r, w1.2.2)
    refine ⟨w2, d, ?_⟩
    rw [h1]
    show bI (some ((0 : Int32), ((w1.1, (Int32.toInt64 r), w1.2.2) : XW))) _ = _
    rw [bI_s, a, bI_s]
    unfold f_X11_thrown
    rw [bI_s, c, if_pos (show zI 0 = 0 from rfl), if_pos (show (0 : Int32) = 0 from rfl), b, lg_self, if_pos (show (0 : Int32) = 0 from rfl)]
theorem law2 {cl : XW → Option ((Int32 × XW) ⊕ (String × XW))} {md : XW → Option (Int32 × XW)} {es : List (String × Nat)} {KX : String → XW → Option (Int32 × XW)} (h : QX B B' cl md es) (hk : ES es KX) (q : Rel B w.1) : ∃ w2, Rel B' w2.1 ∧ bI (bCI (cl w) (fun r1 w1 => (if r1 = 0 then (some (0, (w1.1, 0, w1.2.2))) else (some (0, (w1.1, 1, w1.2.2))))) KX) (fun r1 w1 => (bI (md w1) (fun r2 w2 => (bI (f_X11_thrown w2) (fun r3 w3 => (if r3 = r1 then (if r1 = 0 then (if r2 = 0 then (if (lg_cmp w3.2.1 0) = 0 then (K (z + 4) w3) else (some (0, w3))) else (if (lg_cmp w3.2.1 1) = 0 then (K (z + 4) w3) else (some (0, w3)))) else (K (z + 4) w3)) else (some (0, w3)))))))) = K (z + 4) w2 := by
  rcases h w q with ⟨e, he, w1, h1, h2⟩ | ⟨r, w1, h1, h2⟩
  · obtain ⟨k1, k2, k3⟩ := hk e he
    obtain ⟨r, w2, a, b, c, d⟩ := h2 w1.2
    have a : md w1 = some (r, w2) := a
    refine ⟨w2, d, ?_⟩
    rw [h1]
    show bI (KX e.1 w1) _ = _
    rw [k3, bI_s, a, bI_s]
    unfold f_X11_thrown
    rw [bI_s, c, if_pos rfl, if_neg (show ¬ (zI e.2 = 0) by rw [zl_0, zI_inj (by omega) (by omega)]; exact k1)]
  · rw [h1]
    show ∃ w2 : XW, Rel B' w2.1 ∧ bI (if r = 0 then (some ((0 : Int32), ((w1.1, (0 : Int64), w1.2.2) : XW))) else (some ((0 : Int32), ((w1.1, (1 : Int64), w1.2.2) : XW)))) _ = _
    by_cases y : r = 0
    · obtain ⟨w2, a, b, c, d⟩ := h2 (0, w1.2.2)
      refine ⟨w2, d, ?_⟩
      rw [if_pos y, bI_s, a, bI_s]
      unfold f_X11_thrown
      rw [bI_s, c, if_pos (show zI 0 = 0 from rfl), if_pos (show (0 : Int32) = 0 from rfl), if_pos y, b, lg_self, if_pos (show (0 : Int32) = 0 from rfl)]
    · obtain ⟨w2, a, b, c, d⟩ := h2 (1, w1.2.2)
      refine ⟨w2, d, ?_⟩
      rw [if_neg y, bI_s, a, bI_s]
      unfold f_X11_thrown
      rw [bI_s, c, if_pos (show zI 0 = 0 from rfl), if_pos (show (0 : Int32) = 0 from rfl), if_neg y, b, lg_self, if_pos (show (0 : Int32) = 0 from rfl)]
theorem law0 {cl md : XW → Option (Int32 × XW)} (h : QD B B' cl md) (q : Rel B w.1) : ∃ w2, Rel B' w2.1 ∧ bI (cl w) (fun r1 w1 => (bI (md w1) (fun r2 w2 => (if r1 = r2 then (K (z + 4) w2) else (some (0, w2)))))) = K (z + 4) w2 := by
  obtain ⟨r, w1, h1, h2⟩ := h w q
  obtain ⟨w2, a, b, d⟩ := h2 w1.2
  have a : md w1 = some (r, w2) := a
  refine ⟨w2, d, ?_⟩
  rw [h1, bI_s, a, bI_s, if_pos rfl]
end
theorem order_self (d : FP.Core.Datum) (h : d ≠ .nan) : FP.Core.order d d = some .eq := by
  have cs : ∀ x : Int, compare x x = Ordering.eq := fun x => by
    show compareOfLessAndEq x x = _
    unfold compareOfLessAndEq
    rw [if_neg (Int.lt_irrefl _), if_pos rfl]
  cases d with
  | nan => exact absurd rfl h
  | inf s => show some (compare _ _) = _; rw [cs]
  | fin s c q => show some (compare _ _) = _; rw [cs]
theorem dcmp_self {x : UInt64} (h : okF64 x) : Op.cmpValue (FP.dcmp x x) .l = 0 := by
  obtain ⟨b1, b2, b3, b4, b5⟩ := fp_b64
  have h : (x &&& 9223372036854775807) ≤ 9218868437227405312 := h
  rw [UInt64.le_iff_toNat_le, UInt64.toNat_and] at h
  have e : (9223372036854775807 : UInt64).toNat = 2 ^ 63 - 1 := rfl
  rw [e, Nat.and_two_pow_sub_one_eq_mod] at h
  have h : x.toNat % 9223372036854775808 ≤ 9218868437227405312 := h
  have hE : FP.Core.fieldE FP.Core.b64 x.toNat = FP.Core.b64.exps - 1 → FP.Core.fieldT FP.Core.b64 x.toNat = 0 := by
    unfold FP.Core.fieldE FP.Core.fieldT
    rw [b1, b2]
    intro z
    omega
  have hd : FP.Core.decode FP.Core.b64 x.toNat ≠ .nan := by
    unfold FP.Core.decode
    split
    · rename_i z
      rw [if_pos (hE z)]
      intro q; cases q
    · split
      · intro q; cases q
      · intro q; cases q
  have hc : FP.dcmp x x = some .eq := order_self _ hd
  rw [hc]
  rfl
theorem Rel.up1600 {B : Nat} {h : Nat → Nat → Int32} (q : Rel B h) : Rel (B + 1600) h := q.cg (by omega) (fun _ _ _ _ _ _ _ _ _ => rfl) (fun _ _ => rfl) (fun _ _ => rfl)
theorem es_0 : ES [(uoe, 1)] (fun e1 w1 => (if e1 = "java/lang/UnsupportedOperationException" then (some (1, w1)) else none)) := by
  intro e he
  rcases List.mem_cons.mp he with he | he
  · rw [he]
    refine ⟨by decide, by decide, fun u => ?_⟩
    show (if uoe = "java/lang/UnsupportedOperationException" then (some ((1 : Int32), u)) else _) = _
    rw [if_pos (show uoe = "java/lang/UnsupportedOperationException" from rfl)]
    rfl
  cases he
theorem es_1 : ES [(ioobe, 1), (iae, 2), (uoe, 3)] (fun e1 w1 => (if e1 = "java/lang/IndexOutOfBoundsException" then (some (1, w1)) else (if e1 = "java/lang/IllegalArgumentException" then (some (2, w1)) else (if e1 = "java/lang/UnsupportedOperationException" then (some (3, w1)) else none)))) := by
  intro e he
  rcases List.mem_cons.mp he with he | he
  · rw [he]
    refine ⟨by decide, by decide, fun u => ?_⟩
    show (if ioobe = "java/lang/IndexOutOfBoundsException" then (some ((1 : Int32), u)) else _) = _
    rw [if_pos (show ioobe = "java/lang/IndexOutOfBoundsException" from rfl)]
    rfl
  rcases List.mem_cons.mp he with he | he
  · rw [he]
    refine ⟨by decide, by decide, fun u => ?_⟩
    show (if iae = "java/lang/IndexOutOfBoundsException" then (some ((1 : Int32), u)) else if iae = "java/lang/IllegalArgumentException" then (some ((2 : Int32), u)) else _) = _
    rw [if_neg (by decide), if_pos (show iae = "java/lang/IllegalArgumentException" from rfl)]
    rfl
  rcases List.mem_cons.mp he with he | he
  · rw [he]
    refine ⟨by decide, by decide, fun u => ?_⟩
    show (if uoe = "java/lang/IndexOutOfBoundsException" then (some ((1 : Int32), u)) else if uoe = "java/lang/IllegalArgumentException" then (some ((2 : Int32), u)) else if uoe = "java/lang/UnsupportedOperationException" then (some ((3 : Int32), u)) else _) = _
    rw [if_neg (by decide), if_neg (by decide), if_pos (show uoe = "java/lang/UnsupportedOperationException" from rfl)]
    rfl
  cases he
theorem es_2 : ES [(ioobe, 1)] (fun e1 w1 => (if e1 = "java/lang/IndexOutOfBoundsException" then (some (1, w1)) else none)) := by
  intro e he
  rcases List.mem_cons.mp he with he | he
  · rw [he]
    refine ⟨by decide, by decide, fun u => ?_⟩
    show (if ioobe = "java/lang/IndexOutOfBoundsException" then (some ((1 : Int32), u)) else _) = _
    rw [if_pos (show ioobe = "java/lang/IndexOutOfBoundsException" from rfl)]
    rfl
  cases he
theorem es_3 : ES [(ioobe, 1), (iae, 2)] (fun e1 w1 => (if e1 = "java/lang/IndexOutOfBoundsException" then (some (1, w1)) else (if e1 = "java/lang/IllegalArgumentException" then (some (2, w1)) else none))) := by
  intro e he
  rcases List.mem_cons.mp he with he | he
  · rw [he]
    refine ⟨by decide, by decide, fun u => ?_⟩
    show (if ioobe = "java/lang/IndexOutOfBoundsException" then (some ((1 : Int32), u)) else _) = _
    rw [if_pos (show ioobe = "java/lang/IndexOutOfBoundsException" from rfl)]
    rfl
  rcases List.mem_cons.mp he with he | he
  · rw [he]
    refine ⟨by decide, by decide, fun u => ?_⟩
    show (if iae = "java/lang/IndexOutOfBoundsException" then (some ((1 : Int32), u)) else if iae = "java/lang/IllegalArgumentException" then (some ((2 : Int32), u)) else _) = _
    rw [if_neg (by decide), if_pos (show iae = "java/lang/IllegalArgumentException" from rfl)]
    rfl
  cases he
theorem es_4 : ES [(iae, 1)] (fun e1 w1 => (if e1 = "java/lang/IllegalArgumentException" then (some (1, w1)) else none)) := by
  intro e he
  rcases List.mem_cons.mp he with he | he
  · rw [he]
    refine ⟨by decide, by decide, fun u => ?_⟩
    show (if iae = "java/lang/IllegalArgumentException" then (some ((1 : Int32), u)) else _) = _
    rw [if_pos (show iae = "java/lang/IllegalArgumentException" from rfl)]
    rfl
  cases he
theorem es_5 : ES [(nsee, 1)] (fun e1 w1 => (if e1 = "java/util/NoSuchElementException" then (some (1, w1)) else none)) := by
  intro e he
  rcases List.mem_cons.mp he with he | he
  · rw [he]
    refine ⟨by decide, by decide, fun u => ?_⟩
    show (if nsee = "java/util/NoSuchElementException" then (some ((1 : Int32), u)) else _) = _
    rw [if_pos (show nsee = "java/util/NoSuchElementException" from rfl)]
    rfl
  cases he
theorem es_6 : ES [(ioobe, 1), (uoe, 2)] (fun e1 w1 => (if e1 = "java/lang/IndexOutOfBoundsException" then (some (1, w1)) else (if e1 = "java/lang/UnsupportedOperationException" then (some (2, w1)) else none))) := by
  intro e he
  rcases List.mem_cons.mp he with he | he
  · rw [he]
    refine ⟨by decide, by decide, fun u => ?_⟩
    show (if ioobe = "java/lang/IndexOutOfBoundsException" then (some ((1 : Int32), u)) else _) = _
    rw [if_pos (show ioobe = "java/lang/IndexOutOfBoundsException" from rfl)]
    rfl
  rcases List.mem_cons.mp he with he | he
  · rw [he]
    refine ⟨by decide, by decide, fun u => ?_⟩
    show (if uoe = "java/lang/IndexOutOfBoundsException" then (some ((1 : Int32), u)) else if uoe = "java/lang/UnsupportedOperationException" then (some ((2 : Int32), u)) else _) = _
    rw [if_neg (by decide), if_pos (show uoe = "java/lang/UnsupportedOperationException" from rfl)]
    rfl
  cases he
theorem es_7 : ES [(ioobe, 1), (nsee, 2)] (fun e1 w1 => (if e1 = "java/lang/IndexOutOfBoundsException" then (some (1, w1)) else (if e1 = "java/util/NoSuchElementException" then (some (2, w1)) else none))) := by
  intro e he
  rcases List.mem_cons.mp he with he | he
  · rw [he]
    refine ⟨by decide, by decide, fun u => ?_⟩
    show (if ioobe = "java/lang/IndexOutOfBoundsException" then (some ((1 : Int32), u)) else _) = _
    rw [if_pos (show ioobe = "java/lang/IndexOutOfBoundsException" from rfl)]
    rfl
  rcases List.mem_cons.mp he with he | he
  · rw [he]
    refine ⟨by decide, by decide, fun u => ?_⟩
    show (if nsee = "java/lang/IndexOutOfBoundsException" then (some ((1 : Int32), u)) else if nsee = "java/util/NoSuchElementException" then (some ((2 : Int32), u)) else _) = _
    rw [if_neg (by decide), if_pos (show nsee = "java/util/NoSuchElementException" from rfl)]
    rfl
  cases he
theorem es_8 : ES [(ise, 1)] (fun e1 w1 => (if e1 = "java/lang/IllegalStateException" then (some (1, w1)) else none)) := by
  intro e he
  rcases List.mem_cons.mp he with he | he
  · rw [he]
    refine ⟨by decide, by decide, fun u => ?_⟩
    show (if ise = "java/lang/IllegalStateException" then (some ((1 : Int32), u)) else _) = _
    rw [if_pos (show ise = "java/lang/IllegalStateException" from rfl)]
    rfl
  cases he
theorem es_9 : ES [(iae, 1), (uoe, 2)] (fun e1 w1 => (if e1 = "java/lang/IllegalArgumentException" then (some (1, w1)) else (if e1 = "java/lang/UnsupportedOperationException" then (some (2, w1)) else none))) := by
  intro e he
  rcases List.mem_cons.mp he with he | he
  · rw [he]
    refine ⟨by decide, by decide, fun u => ?_⟩
    show (if iae = "java/lang/IllegalArgumentException" then (some ((1 : Int32), u)) else _) = _
    rw [if_pos (show iae = "java/lang/IllegalArgumentException" from rfl)]
    rfl
  rcases List.mem_cons.mp he with he | he
  · rw [he]
    refine ⟨by decide, by decide, fun u => ?_⟩
    show (if uoe = "java/lang/IllegalArgumentException" then (some ((1 : Int32), u)) else if uoe = "java/lang/UnsupportedOperationException" then (some ((2 : Int32), u)) else _) = _
    rw [if_neg (by decide), if_pos (show uoe = "java/lang/UnsupportedOperationException" from rfl)]
    rfl
  cases he
theorem lc_272 {B : Nat} (hB : B < 16777216) {g : GC} {K : Int32 → XW → Option (Int32 × XW)} {z5 : Int32} {w : XW} (h1 : inB (z5 + 1) g.2.2.2.2.2.2.2.1) (h2 : inB (z5 + 2) g.2.2.2.2.2.2.2.1) (h3 : inB (z5 + 3) g.2.2.2.2.2.2.2.1) (q : Rel B w.1) : ∃ w2, Rel (B + 1600) w2.1 ∧ f_L_c272 g K z5 w = K (z5 + 4) w2 := by
  unfold f_L_c272 f_L_addSection
  exact law1 (q_addSection B) es_0 q
theorem lc_316 {B : Nat} (hB : B < 16777216) {g : GC} {K : Int32 → XW → Option (Int32 × XW)} {z5 : Int32} {w : XW} (h1 : inB (z5 + 1) g.2.2.2.2.2.2.2.1) (h2 : inB (z5 + 2) g.2.2.2.2.2.2.2.1) (h3 : inB (z5 + 3) g.2.2.2.2.2.2.2.1) (q : Rel B w.1) : ∃ w2, Rel (B + 1600) w2.1 ∧ f_L_c316 g K z5 w = K (z5 + 4) w2 := by
  unfold f_L_c316 f_L_pour
  simp only [if_pos h1, if_pos h2]
  exact law1 (q_pour B (g.2.2.2.2.2.2.2.2 (Int32.toNatClampNeg (z5 + 1))) (g.2.2.2.2.2.2.2.2 (Int32.toNatClampNeg (z5 + 2)))) es_1 q
theorem lc_384 {B : Nat} (hB : B < 16777216) {g : GC} {K : Int32 → XW → Option (Int32 × XW)} {z5 : Int32} {w : XW} (h1 : inB (z5 + 1) g.2.2.2.2.2.2.2.1) (h2 : inB (z5 + 2) g.2.2.2.2.2.2.2.1) (h3 : inB (z5 + 3) g.2.2.2.2.2.2.2.1) (q : Rel B w.1) : ∃ w2, Rel (B + 1600) w2.1 ∧ f_L_c384 g K z5 w = K (z5 + 4) w2 := by
  unfold f_L_c384 f_L_tag
  simp only [if_pos h1, if_pos h2]
  exact law1 (q_tag B (g.2.2.2.2.2.2.2.2 (Int32.toNatClampNeg (z5 + 1))) (((Int32.toUInt32 (g.2.2.2.2.2.2.2.2 (Int32.toNatClampNeg (z5 + 2)))) % 65536).toInt32) (chN_pos _)) es_1 q
theorem lc_454 {B : Nat} (hB : B < 16777216) {g : GC} {K : Int32 → XW → Option (Int32 × XW)} {z5 : Int32} {w : XW} (h1 : inB (z5 + 1) g.2.2.2.2.2.2.2.1) (h2 : inB (z5 + 2) g.2.2.2.2.2.2.2.1) (h3 : inB (z5 + 3) g.2.2.2.2.2.2.2.1) (q : Rel B w.1) : ∃ w2, Rel (B + 1600) w2.1 ∧ f_L_c454 g K z5 w = K (z5 + 4) w2 := by
  unfold f_L_c454 f_L_untag
  simp only [if_pos h1, if_pos h2]
  exact law1 (q_untag B (g.2.2.2.2.2.2.2.2 (Int32.toNatClampNeg (z5 + 1))) (((Int32.toUInt32 (g.2.2.2.2.2.2.2.2 (Int32.toNatClampNeg (z5 + 2)))) % 65536).toInt32) (chN_pos _)) es_1 q
theorem lc_524 {B : Nat} (hB : B < 16777216) {g : GC} {K : Int32 → XW → Option (Int32 × XW)} {z5 : Int32} {w : XW} (h1 : inB (z5 + 1) g.2.2.2.2.2.2.2.1) (h2 : inB (z5 + 2) g.2.2.2.2.2.2.2.1) (h3 : inB (z5 + 3) g.2.2.2.2.2.2.2.1) (q : Rel B w.1) : ∃ w2, Rel (B + 1600) w2.1 ∧ f_L_c524 g K z5 w = K (z5 + 4) w2 := by
  unfold f_L_c524
  exact law0 ((q_count B).mono (by omega)) q
theorem lc_537 {B : Nat} (hB : B < 16777216) {g : GC} {K : Int32 → XW → Option (Int32 × XW)} {z5 : Int32} {w : XW} (h1 : inB (z5 + 1) g.2.2.2.2.2.2.2.1) (h2 : inB (z5 + 2) g.2.2.2.2.2.2.2.1) (h3 : inB (z5 + 3) g.2.2.2.2.2.2.2.1) (q : Rel B w.1) : ∃ w2, Rel (B + 1600) w2.1 ∧ f_L_c537 g K z5 w = K (z5 + 4) w2 := by
  unfold f_L_c537 f_L_water
  simp only [if_pos h1]
  exact law1 ((q_water B (g.2.2.2.2.2.2.2.2 (Int32.toNatClampNeg (z5 + 1)))).mono (by omega)) es_2 q
theorem lc_593 {B : Nat} (hB : B < 16777216) {g : GC} {K : Int32 → XW → Option (Int32 × XW)} {z5 : Int32} {w : XW} (h1 : inB (z5 + 1) g.2.2.2.2.2.2.2.1) (h2 : inB (z5 + 2) g.2.2.2.2.2.2.2.1) (h3 : inB (z5 + 3) g.2.2.2.2.2.2.2.1) (q : Rel B w.1) : ∃ w2, Rel (B + 1600) w2.1 ∧ f_L_c593 g K z5 w = K (z5 + 4) w2 := by
  unfold f_L_c593 f_L_hasTerm
  simp only [if_pos h1, if_pos h2]
  exact law2 ((q_hasTerm B (g.2.2.2.2.2.2.2.2 (Int32.toNatClampNeg (z5 + 1))) (((Int32.toUInt32 (g.2.2.2.2.2.2.2.2 (Int32.toNatClampNeg (z5 + 2)))) % 65536).toInt32) (chN_pos _)).mono (by omega)) es_3 q
theorem lc_670 {B : Nat} (hB : B < 16777216) {g : GC} {K : Int32 → XW → Option (Int32 × XW)} {z5 : Int32} {w : XW} (h1 : inB (z5 + 1) g.2.2.2.2.2.2.2.1) (h2 : inB (z5 + 2) g.2.2.2.2.2.2.2.1) (h3 : inB (z5 + 3) g.2.2.2.2.2.2.2.1) (q : Rel B w.1) : ∃ w2, Rel (B + 1600) w2.1 ∧ f_L_c670 g K z5 w = K (z5 + 4) w2 := by
  unfold f_L_c670 f_L_sectionsWith
  simp only [if_pos h1]
  exact law1 ((q_with B (((Int32.toUInt32 (g.2.2.2.2.2.2.2.2 (Int32.toNatClampNeg (z5 + 1)))) % 65536).toInt32) (chN_pos _)).mono (by omega)) es_4 q
theorem lc_728 {B : Nat} (hB : B < 16777216) {g : GC} {K : Int32 → XW → Option (Int32 × XW)} {z5 : Int32} {w : XW} (h1 : inB (z5 + 1) g.2.2.2.2.2.2.2.1) (h2 : inB (z5 + 2) g.2.2.2.2.2.2.2.1) (h3 : inB (z5 + 3) g.2.2.2.2.2.2.2.1) (q : Rel B w.1) : ∃ w2, Rel (B + 1600) w2.1 ∧ f_L_c728 g K z5 w = K (z5 + 4) w2 := by
  unfold f_L_c728 f_L_sectionByWater
  simp only [if_pos h1]
  exact law1 ((q_byWater B (g.2.2.2.2.2.2.2.2 (Int32.toNatClampNeg (z5 + 1)))).mono (by omega)) es_5 q
theorem lc_784 {B : Nat} (hB : B < 16777216) {g : GC} {K : Int32 → XW → Option (Int32 × XW)} {z5 : Int32} {w : XW} (h1 : inB (z5 + 1) g.2.2.2.2.2.2.2.1) (h2 : inB (z5 + 2) g.2.2.2.2.2.2.2.1) (h3 : inB (z5 + 3) g.2.2.2.2.2.2.2.1) (q : Rel B w.1) : ∃ w2, Rel (B + 1600) w2.1 ∧ f_L_c784 g K z5 w = K (z5 + 4) w2 := by
  unfold f_L_c784 f_L_fold
  simp only [if_pos h1]
  exact law1 (q_fold B (g.2.2.2.2.2.2.2.2 (Int32.toNatClampNeg (z5 + 1)))) es_6 q
theorem lc_840 {B : Nat} (hB : B < 16777216) {g : GC} {K : Int32 → XW → Option (Int32 × XW)} {z5 : Int32} {w : XW} (h1 : inB (z5 + 1) g.2.2.2.2.2.2.2.1) (h2 : inB (z5 + 2) g.2.2.2.2.2.2.2.1) (h3 : inB (z5 + 3) g.2.2.2.2.2.2.2.1) (q : Rel B w.1) : ∃ w2, Rel (B + 1600) w2.1 ∧ f_L_c840 g K z5 w = K (z5 + 4) w2 := by
  unfold f_L_c840 f_L_unfold
  exact law1 (q_unfold B) es_0 q
theorem lc_884 {B : Nat} (hB : B < 16777216) {g : GC} {K : Int32 → XW → Option (Int32 × XW)} {z5 : Int32} {w : XW} (h1 : inB (z5 + 1) g.2.2.2.2.2.2.2.1) (h2 : inB (z5 + 2) g.2.2.2.2.2.2.2.1) (h3 : inB (z5 + 3) g.2.2.2.2.2.2.2.1) (q : Rel B w.1) : ∃ w2, Rel (B + 1600) w2.1 ∧ f_L_c884 g K z5 w = K (z5 + 4) w2 := by
  unfold f_L_c884
  exact law0 ((q_folded B).mono (by omega)) q
theorem lc_897 {B : Nat} (hB : B < 16777216) {g : GC} {K : Int32 → XW → Option (Int32 × XW)} {z5 : Int32} {w : XW} (h1 : inB (z5 + 1) g.2.2.2.2.2.2.2.1) (h2 : inB (z5 + 2) g.2.2.2.2.2.2.2.1) (h3 : inB (z5 + 3) g.2.2.2.2.2.2.2.1) (q : Rel B w.1) : ∃ w2, Rel (B + 1600) w2.1 ∧ f_L_c897 g K z5 w = K (z5 + 4) w2 := by
  unfold f_L_c897 f_L_layerOf
  simp only [if_pos h1]
  exact law1 ((q_layerOf B (g.2.2.2.2.2.2.2.2 (Int32.toNatClampNeg (z5 + 1)))).mono (by omega)) es_7 q
theorem lc_953 {B : Nat} (hB : B < 16777216) {g : GC} {K : Int32 → XW → Option (Int32 × XW)} {z5 : Int32} {w : XW} (h1 : inB (z5 + 1) g.2.2.2.2.2.2.2.1) (h2 : inB (z5 + 2) g.2.2.2.2.2.2.2.1) (h3 : inB (z5 + 3) g.2.2.2.2.2.2.2.1) (q : Rel B w.1) : ∃ w2, Rel (B + 1600) w2.1 ∧ f_L_c953 g K z5 w = K (z5 + 4) w2 := by
  unfold f_L_c953 f_L_sectionIn
  simp only [if_pos h1]
  exact law1 ((q_sectionIn B (g.2.2.2.2.2.2.2.2 (Int32.toNatClampNeg (z5 + 1)))).mono (by omega)) es_2 q
theorem lc_1009 {B : Nat} (hB : B < 16777216) {g : GC} {K : Int32 → XW → Option (Int32 × XW)} {z5 : Int32} {w : XW} (h1 : inB (z5 + 1) g.2.2.2.2.2.2.2.1) (h2 : inB (z5 + 2) g.2.2.2.2.2.2.2.1) (h3 : inB (z5 + 3) g.2.2.2.2.2.2.2.1) (q : Rel B w.1) : ∃ w2, Rel (B + 1600) w2.1 ∧ f_L_c1009 g K z5 w = K (z5 + 4) w2 := by
  unfold f_L_c1009 f_L_canFold
  simp only [if_pos h1]
  exact law2 ((q_canFold B (g.2.2.2.2.2.2.2.2 (Int32.toNatClampNeg (z5 + 1)))).mono (by omega)) es_2 q
theorem lc_1072 {B : Nat} (hB : B < 16777216) {g : GC} {K : Int32 → XW → Option (Int32 × XW)} {z5 : Int32} {w : XW} (h1 : inB (z5 + 1) g.2.2.2.2.2.2.2.1) (h2 : inB (z5 + 2) g.2.2.2.2.2.2.2.1) (h3 : inB (z5 + 3) g.2.2.2.2.2.2.2.1) (q : Rel B w.1) : ∃ w2, Rel (B + 1600) w2.1 ∧ f_L_c1072 g K z5 w = K (z5 + 4) w2 := by
  unfold f_L_c1072
  exact law0 ((q_comp B).mono (by omega)) q
theorem lc_1085 {B : Nat} (hB : B < 16777216) {g : GC} {K : Int32 → XW → Option (Int32 × XW)} {z5 : Int32} {w : XW} (h1 : inB (z5 + 1) g.2.2.2.2.2.2.2.1) (h2 : inB (z5 + 2) g.2.2.2.2.2.2.2.1) (h3 : inB (z5 + 3) g.2.2.2.2.2.2.2.1) (q : Rel B w.1) : ∃ w2, Rel (B + 1600) w2.1 ∧ f_L_c1085 g K z5 w = K (z5 + 4) w2 := by
  unfold f_L_c1085
  exact law0 ((q_compO B).mono (by omega)) q
theorem lc_1098 {B : Nat} (hB : B < 16777216) {g : GC} {K : Int32 → XW → Option (Int32 × XW)} {z5 : Int32} {w : XW} (h1 : inB (z5 + 1) g.2.2.2.2.2.2.2.1) (h2 : inB (z5 + 2) g.2.2.2.2.2.2.2.1) (h3 : inB (z5 + 3) g.2.2.2.2.2.2.2.1) (q : Rel B w.1) : ∃ w2, Rel (B + 1600) w2.1 ∧ f_L_c1098 g K z5 w = K (z5 + 4) w2 := by
  unfold f_L_c1098 f_L_layPipe
  simp only [if_pos h1, if_pos h2, if_pos h3]
  exact law1 (q_layPipe B (g.2.2.2.2.2.2.2.2 (Int32.toNatClampNeg (z5 + 1))) (g.2.2.2.2.2.2.2.2 (Int32.toNatClampNeg (z5 + 2))) (g.2.2.2.2.2.2.2.2 (Int32.toNatClampNeg (z5 + 3)))) es_1 q
theorem lc_1178 {B : Nat} (hB : B < 16777216) {g : GC} {K : Int32 → XW → Option (Int32 × XW)} {z5 : Int32} {w : XW} (h1 : inB (z5 + 1) g.2.2.2.2.2.2.2.1) (h2 : inB (z5 + 2) g.2.2.2.2.2.2.2.1) (h3 : inB (z5 + 3) g.2.2.2.2.2.2.2.1) (q : Rel B w.1) : ∃ w2, Rel (B + 1600) w2.1 ∧ f_L_c1178 g K z5 w = K (z5 + 4) w2 := by
  unfold f_L_c1178 f_L_removePipe
  simp only [if_pos h1]
  exact law1 (q_removePipe B (g.2.2.2.2.2.2.2.2 (Int32.toNatClampNeg (z5 + 1)))) es_2 q
theorem lc_1234 {B : Nat} (hB : B < 16777216) {g : GC} {K : Int32 → XW → Option (Int32 × XW)} {z5 : Int32} {w : XW} (h1 : inB (z5 + 1) g.2.2.2.2.2.2.2.1) (h2 : inB (z5 + 2) g.2.2.2.2.2.2.2.1) (h3 : inB (z5 + 3) g.2.2.2.2.2.2.2.1) (q : Rel B w.1) : ∃ w2, Rel (B + 1600) w2.1 ∧ f_L_c1234 g K z5 w = K (z5 + 4) w2 := by
  unfold f_L_c1234 f_L_breakPipe
  simp only [if_pos h1]
  exact law1 (q_breakPipe B (g.2.2.2.2.2.2.2.2 (Int32.toNatClampNeg (z5 + 1)))) es_6 q
theorem lc_1290 {B : Nat} (hB : B < 16777216) {g : GC} {K : Int32 → XW → Option (Int32 × XW)} {z5 : Int32} {w : XW} (h1 : inB (z5 + 1) g.2.2.2.2.2.2.2.1) (h2 : inB (z5 + 2) g.2.2.2.2.2.2.2.1) (h3 : inB (z5 + 3) g.2.2.2.2.2.2.2.1) (q : Rel B w.1) : ∃ w2, Rel (B + 1600) w2.1 ∧ f_L_c1290 g K z5 w = K (z5 + 4) w2 := by
  unfold f_L_c1290 f_L_mendPipe
  simp only [if_pos h1]
  exact law1 (q_mendPipe B (g.2.2.2.2.2.2.2.2 (Int32.toNatClampNeg (z5 + 1)))) es_6 q
theorem lc_1346 {B : Nat} (hB : B < 16777216) {g : GC} {K : Int32 → XW → Option (Int32 × XW)} {z5 : Int32} {w : XW} (h1 : inB (z5 + 1) g.2.2.2.2.2.2.2.1) (h2 : inB (z5 + 2) g.2.2.2.2.2.2.2.1) (h3 : inB (z5 + 3) g.2.2.2.2.2.2.2.1) (q : Rel B w.1) : ∃ w2, Rel (B + 1600) w2.1 ∧ f_L_c1346 g K z5 w = K (z5 + 4) w2 := by
  unfold f_L_c1346
  exact law0 ((q_pipeCount B).mono (by omega)) q
theorem lc_1359 {B : Nat} (hB : B < 16777216) {g : GC} {K : Int32 → XW → Option (Int32 × XW)} {z5 : Int32} {w : XW} (h1 : inB (z5 + 1) g.2.2.2.2.2.2.2.1) (h2 : inB (z5 + 2) g.2.2.2.2.2.2.2.1) (h3 : inB (z5 + 3) g.2.2.2.2.2.2.2.1) (q : Rel B w.1) : ∃ w2, Rel (B + 1600) w2.1 ∧ f_L_c1359 g K z5 w = K (z5 + 4) w2 := by
  unfold f_L_c1359 f_L_pipeFrom
  simp only [if_pos h1]
  exact law1 ((q_pipeFrom B (g.2.2.2.2.2.2.2.2 (Int32.toNatClampNeg (z5 + 1)))).mono (by omega)) es_2 q
theorem lc_1415 {B : Nat} (hB : B < 16777216) {g : GC} {K : Int32 → XW → Option (Int32 × XW)} {z5 : Int32} {w : XW} (h1 : inB (z5 + 1) g.2.2.2.2.2.2.2.1) (h2 : inB (z5 + 2) g.2.2.2.2.2.2.2.1) (h3 : inB (z5 + 3) g.2.2.2.2.2.2.2.1) (q : Rel B w.1) : ∃ w2, Rel (B + 1600) w2.1 ∧ f_L_c1415 g K z5 w = K (z5 + 4) w2 := by
  unfold f_L_c1415 f_L_pipeTo
  simp only [if_pos h1]
  exact law1 ((q_pipeTo B (g.2.2.2.2.2.2.2.2 (Int32.toNatClampNeg (z5 + 1)))).mono (by omega)) es_2 q
theorem lc_1471 {B : Nat} (hB : B < 16777216) {g : GC} {K : Int32 → XW → Option (Int32 × XW)} {z5 : Int32} {w : XW} (h1 : inB (z5 + 1) g.2.2.2.2.2.2.2.1) (h2 : inB (z5 + 2) g.2.2.2.2.2.2.2.1) (h3 : inB (z5 + 3) g.2.2.2.2.2.2.2.1) (q : Rel B w.1) : ∃ w2, Rel (B + 1600) w2.1 ∧ f_L_c1471 g K z5 w = K (z5 + 4) w2 := by
  unfold f_L_c1471 f_L_capacity
  simp only [if_pos h1]
  exact law1 ((q_capacity B (g.2.2.2.2.2.2.2.2 (Int32.toNatClampNeg (z5 + 1)))).mono (by omega)) es_2 q
theorem lc_1527 {B : Nat} (hB : B < 16777216) {g : GC} {K : Int32 → XW → Option (Int32 × XW)} {z5 : Int32} {w : XW} (h1 : inB (z5 + 1) g.2.2.2.2.2.2.2.1) (h2 : inB (z5 + 2) g.2.2.2.2.2.2.2.1) (h3 : inB (z5 + 3) g.2.2.2.2.2.2.2.1) (q : Rel B w.1) : ∃ w2, Rel (B + 1600) w2.1 ∧ f_L_c1527 g K z5 w = K (z5 + 4) w2 := by
  unfold f_L_c1527 f_L_isBroken
  simp only [if_pos h1]
  exact law2 ((q_isBroken B (g.2.2.2.2.2.2.2.2 (Int32.toNatClampNeg (z5 + 1)))).mono (by omega)) es_2 q
theorem lc_1590 {B : Nat} (hB : B < 16777216) {g : GC} {K : Int32 → XW → Option (Int32 × XW)} {z5 : Int32} {w : XW} (h1 : inB (z5 + 1) g.2.2.2.2.2.2.2.1) (h2 : inB (z5 + 2) g.2.2.2.2.2.2.2.1) (h3 : inB (z5 + 3) g.2.2.2.2.2.2.2.1) (q : Rel B w.1) : ∃ w2, Rel (B + 1600) w2.1 ∧ f_L_c1590 g K z5 w = K (z5 + 4) w2 := by
  unfold f_L_c1590 f_L_greatestFlow
  exact law1 ((q_greatest B).mono (by omega)) es_0 q
theorem lc_1634 {B : Nat} (hB : B < 16777216) {g : GC} {K : Int32 → XW → Option (Int32 × XW)} {z5 : Int32} {w : XW} (h1 : inB (z5 + 1) g.2.2.2.2.2.2.2.1) (h2 : inB (z5 + 2) g.2.2.2.2.2.2.2.1) (h3 : inB (z5 + 3) g.2.2.2.2.2.2.2.1) (q : Rel B w.1) : ∃ w2, Rel (B + 1600) w2.1 ∧ f_L_c1634 g K z5 w = K (z5 + 4) w2 := by
  unfold f_L_c1634 f_L_smallestCut
  exact law1 ((q_smallest B).mono (by omega)) es_0 q
theorem lc_1678 {B : Nat} (hB : B < 16777216) {g : GC} {K : Int32 → XW → Option (Int32 × XW)} {z5 : Int32} {w : XW} (h1 : inB (z5 + 1) g.2.2.2.2.2.2.2.1) (h2 : inB (z5 + 2) g.2.2.2.2.2.2.2.1) (h3 : inB (z5 + 3) g.2.2.2.2.2.2.2.1) (q : Rel B w.1) : ∃ w2, Rel (B + 1600) w2.1 ∧ f_L_c1678 g K z5 w = K (z5 + 4) w2 := by
  unfold f_L_c1678 f_L_lossOf
  simp only [if_pos h1]
  exact law1 ((q_loss B (g.2.2.2.2.2.2.2.2 (Int32.toNatClampNeg (z5 + 1)))).mono (by omega)) es_2 q
theorem lc_1734 {B : Nat} (hB : B < 16777216) {g : GC} {K : Int32 → XW → Option (Int32 × XW)} {z5 : Int32} {w : XW} (h1 : inB (z5 + 1) g.2.2.2.2.2.2.2.1) (h2 : inB (z5 + 2) g.2.2.2.2.2.2.2.1) (h3 : inB (z5 + 3) g.2.2.2.2.2.2.2.1) (q : Rel B w.1) : ∃ w2, Rel (B + 1600) w2.1 ∧ f_L_c1734 g K z5 w = K (z5 + 4) w2 := by
  unfold f_L_c1734 f_L_drain
  exact law1 (q_drain B) es_0 q
theorem lc_1778 {B : Nat} (hB : B < 16777216) {g : GC} {K : Int32 → XW → Option (Int32 × XW)} {z5 : Int32} {w : XW} (h1 : inB (z5 + 1) g.2.2.2.2.2.2.2.1) (h2 : inB (z5 + 2) g.2.2.2.2.2.2.2.1) (h3 : inB (z5 + 3) g.2.2.2.2.2.2.2.1) (q : Rel B w.1) : ∃ w2, Rel (B + 1600) w2.1 ∧ f_L_c1778 g K z5 w = K (z5 + 4) w2 := by
  unfold f_L_c1778 f_L_seep
  exact law1 (q_seep B) es_0 q
theorem lc_1822 {B : Nat} (hB : B < 16777216) {g : GC} {K : Int32 → XW → Option (Int32 × XW)} {z5 : Int32} {w : XW} (h1 : inB (z5 + 1) g.2.2.2.2.2.2.2.1) (h2 : inB (z5 + 2) g.2.2.2.2.2.2.2.1) (h3 : inB (z5 + 3) g.2.2.2.2.2.2.2.1) (q : Rel B w.1) : ∃ w2, Rel (B + 1600) w2.1 ∧ f_L_c1822 g K z5 w = K (z5 + 4) w2 := by
  unfold f_L_c1822
  exact law0 ((q_total B).mono (by omega)) q
theorem lc_1835 {B : Nat} (hB : B < 16777216) {g : GC} {K : Int32 → XW → Option (Int32 × XW)} {z5 : Int32} {w : XW} (h1 : inB (z5 + 1) g.2.2.2.2.2.2.2.1) (h2 : inB (z5 + 2) g.2.2.2.2.2.2.2.1) (h3 : inB (z5 + 3) g.2.2.2.2.2.2.2.1) (q : Rel B w.1) : ∃ w2, Rel (B + 1600) w2.1 ∧ f_L_c1835 g K z5 w = K (z5 + 4) w2 := by
  unfold f_L_c1835
  exact law0 ((q_totalA B).mono (by omega)) q
theorem lc_1848 {B : Nat} (hB : B < 16777216) {g : GC} {K : Int32 → XW → Option (Int32 × XW)} {z5 : Int32} {w : XW} (h1 : inB (z5 + 1) g.2.2.2.2.2.2.2.1) (h2 : inB (z5 + 2) g.2.2.2.2.2.2.2.1) (h3 : inB (z5 + 3) g.2.2.2.2.2.2.2.1) (q : Rel B w.1) : ∃ w2, Rel (B + 1600) w2.1 ∧ f_L_c1848 g K z5 w = K (z5 + 4) w2 := by
  unfold f_L_c1848
  exact law0 ((q_poured B).mono (by omega)) q
theorem lc_1861 {B : Nat} (hB : B < 16777216) {g : GC} {K : Int32 → XW → Option (Int32 × XW)} {z5 : Int32} {w : XW} (h1 : inB (z5 + 1) g.2.2.2.2.2.2.2.1) (h2 : inB (z5 + 2) g.2.2.2.2.2.2.2.1) (h3 : inB (z5 + 3) g.2.2.2.2.2.2.2.1) (q : Rel B w.1) : ∃ w2, Rel (B + 1600) w2.1 ∧ f_L_c1861 g K z5 w = K (z5 + 4) w2 := by
  unfold f_L_c1861
  exact law0 ((q_leaked B).mono (by omega)) q
theorem lc_1874 {B : Nat} (hB : B < 16777216) {g : GC} {K : Int32 → XW → Option (Int32 × XW)} {z5 : Int32} {w : XW} (h1 : inB (z5 + 1) g.2.2.2.2.2.2.2.1) (h2 : inB (z5 + 2) g.2.2.2.2.2.2.2.1) (h3 : inB (z5 + 3) g.2.2.2.2.2.2.2.1) (q : Rel B w.1) : ∃ w2, Rel (B + 1600) w2.1 ∧ f_L_c1874 g K z5 w = K (z5 + 4) w2 := by
  unfold f_L_c1874 f_L_meanWater
  rcases q_mean B w q with ⟨w1, h1, h2⟩ | ⟨r, w1, h1, h2⟩
  · obtain ⟨r, w2, a, b, c, d⟩ := h2 w1.2
    have a : f_X11_meanWater w1 = some (r, w2) := a
    refine ⟨w2, d.up1600, ?_⟩
    rw [h1]
    show bI (some ((1 : Int32), w1)) _ = _
    rw [bI_s, a, bDl_s]
    unfold f_X11_thrown
    rw [bI_s, c, if_pos (show zI 1 = 1 from rfl), if_neg (show ¬ ((1 : Int32) = 0) by decide)]
  · obtain ⟨w2, a, b, c, d⟩ := h2 (w1.2.1, r)
    refine ⟨w2, d.up1600, ?_⟩
    rw [h1]
    show bI (some ((0 : Int32), ((w1.1, w1.2.1, r) : XW))) _ = _
    rw [bI_s, a, bDl_s]
    unfold f_X11_thrown
    rw [bI_s, c, if_pos (show zI 0 = 0 from rfl), if_pos (show (0 : Int32) = 0 from rfl), b]
    by_cases y : Op.cmpValue (FP.dcmp r r) .l = 0
    · rw [if_pos y]
    · rw [if_neg y, if_neg y, if_neg y]
theorem lc_1939 {B : Nat} (hB : B < 16777216) {g : GC} {K : Int32 → XW → Option (Int32 × XW)} {z5 : Int32} {w : XW} (h1 : inB (z5 + 1) g.2.2.2.2.2.2.2.1) (h2 : inB (z5 + 2) g.2.2.2.2.2.2.2.1) (h3 : inB (z5 + 3) g.2.2.2.2.2.2.2.1) (q : Rel B w.1) : ∃ w2, Rel (B + 1600) w2.1 ∧ f_L_c1939 g K z5 w = K (z5 + 4) w2 := by
  unfold f_L_c1939 f_L_leakedShare
  rcases q_share B hB w q with ⟨w1, h1, h2⟩ | ⟨r, w1, h1, hok, h2⟩
  · obtain ⟨r, w2, a, b, c, d⟩ := h2 w1.2
    have a : f_X11_leakedShare w1 = some (r, w2) := a
    refine ⟨w2, d.up1600, ?_⟩
    rw [h1]
    show bI (some ((1 : Int32), w1)) _ = _
    rw [bI_s, a, bFl_s]
    unfold f_X11_thrown
    rw [bI_s, c, if_pos (show zI 1 = 1 from rfl), if_neg (show ¬ ((1 : Int32) = 0) by decide)]
  · obtain ⟨w2, a, b, c, d⟩ := h2 (w1.2.1, FP.f2d r)
    refine ⟨w2, d.up1600, ?_⟩
    rw [h1]
    show bI (if okF64 (FP.f2d r) then (some ((0 : Int32), ((w1.1, w1.2.1, (FP.f2d r)) : XW))) else none) _ = _
    rw [if_pos hok, bI_s, a, bFl_s]
    unfold f_X11_thrown
    rw [bI_s, c, if_pos (show zI 0 = 0 from rfl), if_pos (show (0 : Int32) = 0 from rfl), if_pos hok, b]
    rw [if_pos (dcmp_self hok)]
theorem lc_2005 {B : Nat} (hB : B < 16777216) {g : GC} {K : Int32 → XW → Option (Int32 × XW)} {z5 : Int32} {w : XW} (h1 : inB (z5 + 1) g.2.2.2.2.2.2.2.1) (h2 : inB (z5 + 2) g.2.2.2.2.2.2.2.1) (h3 : inB (z5 + 3) g.2.2.2.2.2.2.2.1) (q : Rel B w.1) : ∃ w2, Rel (B + 1600) w2.1 ∧ f_L_c2005 g K z5 w = K (z5 + 4) w2 := by
  unfold f_L_c2005 f_L_feed
  simp only [if_pos h1]
  simp only [ch_i2c]
  exact law1 ((q_feed B (chN_lt _)).mono (by omega)) es_8 q
theorem lc_2063 {B : Nat} (hB : B < 16777216) {g : GC} {K : Int32 → XW → Option (Int32 × XW)} {z5 : Int32} {w : XW} (h1 : inB (z5 + 1) g.2.2.2.2.2.2.2.1) (h2 : inB (z5 + 2) g.2.2.2.2.2.2.2.1) (h3 : inB (z5 + 3) g.2.2.2.2.2.2.2.1) (q : Rel B w.1) : ∃ w2, Rel (B + 1600) w2.1 ∧ f_L_c2063 g K z5 w = K (z5 + 4) w2 := by
  unfold f_L_c2063
  exact law0 ((q_clear B).mono (by omega)) q
theorem lc_2076 {B : Nat} (hB : B < 16777216) {g : GC} {K : Int32 → XW → Option (Int32 × XW)} {z5 : Int32} {w : XW} (h1 : inB (z5 + 1) g.2.2.2.2.2.2.2.1) (h2 : inB (z5 + 2) g.2.2.2.2.2.2.2.1) (h3 : inB (z5 + 3) g.2.2.2.2.2.2.2.1) (q : Rel B w.1) : ∃ w2, Rel (B + 1600) w2.1 ∧ f_L_c2076 g K z5 w = K (z5 + 4) w2 := by
  unfold f_L_c2076 f_L_search
  exact law1 ((q_search B).mono (by omega)) es_4 q
theorem lc_2120 {B : Nat} (hB : B < 16777216) {g : GC} {K : Int32 → XW → Option (Int32 × XW)} {z5 : Int32} {w : XW} (h1 : inB (z5 + 1) g.2.2.2.2.2.2.2.1) (h2 : inB (z5 + 2) g.2.2.2.2.2.2.2.1) (h3 : inB (z5 + 3) g.2.2.2.2.2.2.2.1) (q : Rel B w.1) : ∃ w2, Rel (B + 1600) w2.1 ∧ f_L_c2120 g K z5 w = K (z5 + 4) w2 := by
  unfold f_L_c2120 f_L_matches
  simp only [if_pos h1]
  exact law2 ((q_matches B (g.2.2.2.2.2.2.2.2 (Int32.toNatClampNeg (z5 + 1)))).mono (by omega)) es_3 q
theorem lc_2183 {B : Nat} (hB : B < 16777216) {g : GC} {K : Int32 → XW → Option (Int32 × XW)} {z5 : Int32} {w : XW} (h1 : inB (z5 + 1) g.2.2.2.2.2.2.2.1) (h2 : inB (z5 + 2) g.2.2.2.2.2.2.2.1) (h3 : inB (z5 + 3) g.2.2.2.2.2.2.2.1) (q : Rel B w.1) : ∃ w2, Rel (B + 1600) w2.1 ∧ f_L_c2183 g K z5 w = K (z5 + 4) w2 := by
  unfold f_L_c2183 f_L_execute
  exact law1 (q_execute B) es_9 q
theorem lc_2227 {B : Nat} (hB : B < 16777216) {g : GC} {K : Int32 → XW → Option (Int32 × XW)} {z5 : Int32} {w : XW} (h1 : inB (z5 + 1) g.2.2.2.2.2.2.2.1) (h2 : inB (z5 + 2) g.2.2.2.2.2.2.2.1) (h3 : inB (z5 + 3) g.2.2.2.2.2.2.2.1) (q : Rel B w.1) : ∃ w2, Rel (B + 1600) w2.1 ∧ f_L_c2227 g K z5 w = K (z5 + 4) w2 := by
  unfold f_L_c2227 f_L_faultPosition
  exact law1 ((q_fault B).mono (by omega)) es_5 q
theorem lc_2271 {B : Nat} (hB : B < 16777216) {g : GC} {K : Int32 → XW → Option (Int32 × XW)} {z5 : Int32} {w : XW} (h1 : inB (z5 + 1) g.2.2.2.2.2.2.2.1) (h2 : inB (z5 + 2) g.2.2.2.2.2.2.2.1) (h3 : inB (z5 + 3) g.2.2.2.2.2.2.2.1) (q : Rel B w.1) : ∃ w2, Rel (B + 1600) w2.1 ∧ f_L_c2271 g K z5 w = K (z5 + 4) w2 := by
  unfold f_L_c2271 f_L_writeSection
  simp only [if_pos h1]
  exact law1 ((q_writeSection B (g.2.2.2.2.2.2.2.2 (Int32.toNatClampNeg (z5 + 1)))).mono (by omega)) es_2 q
theorem lc_2327 {B : Nat} (hB : B < 16777216) {g : GC} {K : Int32 → XW → Option (Int32 × XW)} {z5 : Int32} {w : XW} (h1 : inB (z5 + 1) g.2.2.2.2.2.2.2.1) (h2 : inB (z5 + 2) g.2.2.2.2.2.2.2.1) (h3 : inB (z5 + 3) g.2.2.2.2.2.2.2.1) (q : Rel B w.1) : ∃ w2, Rel (B + 1600) w2.1 ∧ f_L_c2327 g K z5 w = K (z5 + 4) w2 := by
  unfold f_L_c2327
  exact law0 ((q_writePile B).mono (by omega)) q
theorem lc_2340 {B : Nat} (hB : B < 16777216) {g : GC} {K : Int32 → XW → Option (Int32 × XW)} {z5 : Int32} {w : XW} (h1 : inB (z5 + 1) g.2.2.2.2.2.2.2.1) (h2 : inB (z5 + 2) g.2.2.2.2.2.2.2.1) (h3 : inB (z5 + 3) g.2.2.2.2.2.2.2.1) (q : Rel B w.1) : ∃ w2, Rel (B + 1600) w2.1 ∧ f_L_c2340 g K z5 w = K (z5 + 4) w2 := by
  unfold f_L_c2340 f_L_lineCharacter
  simp only [if_pos h1]
  exact law1 ((q_lineChar B (g.2.2.2.2.2.2.2.2 (Int32.toNatClampNeg (z5 + 1)))).mono (by omega)) es_2 q
theorem lc_2396 {B : Nat} (hB : B < 16777216) {g : GC} {K : Int32 → XW → Option (Int32 × XW)} {z5 : Int32} {w : XW} (h1 : inB (z5 + 1) g.2.2.2.2.2.2.2.1) (h2 : inB (z5 + 2) g.2.2.2.2.2.2.2.1) (h3 : inB (z5 + 3) g.2.2.2.2.2.2.2.1) (q : Rel B w.1) : ∃ w2, Rel (B + 1600) w2.1 ∧ f_L_c2396 g K z5 w = K (z5 + 4) w2 := by
  unfold f_L_c2396 f_L_denial
  exact law1 ((q_denial B).mono (by omega)) es_5 q
theorem lc_2440 {B : Nat} (hB : B < 16777216) {g : GC} {K : Int32 → XW → Option (Int32 × XW)} {z5 : Int32} {w : XW} (h1 : inB (z5 + 1) g.2.2.2.2.2.2.2.1) (h2 : inB (z5 + 2) g.2.2.2.2.2.2.2.1) (h3 : inB (z5 + 3) g.2.2.2.2.2.2.2.1) (q : Rel B w.1) : ∃ w2, Rel (B + 1600) w2.1 ∧ f_L_c2440 g K z5 w = K (z5 + 4) w2 := by
  unfold f_L_c2440 f_L_denialDetail
  exact law1 ((q_detail B).mono (by omega)) es_5 q
theorem lc_2484 {B : Nat} (hB : B < 16777216) {g : GC} {K : Int32 → XW → Option (Int32 × XW)} {z5 : Int32} {w : XW} (h1 : inB (z5 + 1) g.2.2.2.2.2.2.2.1) (h2 : inB (z5 + 2) g.2.2.2.2.2.2.2.1) (h3 : inB (z5 + 3) g.2.2.2.2.2.2.2.1) (q : Rel B w.1) : ∃ w2, Rel (B + 1600) w2.1 ∧ f_L_c2484 g K z5 w = K (z5 + 4) w2 := by
  unfold f_L_c2484 f_L_denialCause
  exact law1 ((q_cause B).mono (by omega)) es_5 q
theorem lc_2528 {B : Nat} (hB : B < 16777216) {g : GC} {K : Int32 → XW → Option (Int32 × XW)} {z5 : Int32} {w : XW} (h1 : inB (z5 + 1) g.2.2.2.2.2.2.2.1) (h2 : inB (z5 + 2) g.2.2.2.2.2.2.2.1) (h3 : inB (z5 + 3) g.2.2.2.2.2.2.2.1) (q : Rel B w.1) : ∃ w2, Rel (B + 1600) w2.1 ∧ f_L_c2528 g K z5 w = K (z5 + 4) w2 := by
  unfold f_L_c2528 f_L_undo
  exact law1 ((q_undo B).mono (by omega)) es_8 q
theorem lc_2572 {B : Nat} (hB : B < 16777216) {g : GC} {K : Int32 → XW → Option (Int32 × XW)} {z5 : Int32} {w : XW} (h1 : inB (z5 + 1) g.2.2.2.2.2.2.2.1) (h2 : inB (z5 + 2) g.2.2.2.2.2.2.2.1) (h3 : inB (z5 + 3) g.2.2.2.2.2.2.2.1) (q : Rel B w.1) : ∃ w2, Rel (B + 1600) w2.1 ∧ f_L_c2572 g K z5 w = K (z5 + 4) w2 := by
  unfold f_L_c2572
  exact law0 ((q_undoCount B).mono (by omega)) q
theorem lc_2585 {B : Nat} (hB : B < 16777216) {g : GC} {K : Int32 → XW → Option (Int32 × XW)} {z5 : Int32} {w : XW} (h1 : inB (z5 + 1) g.2.2.2.2.2.2.2.1) (h2 : inB (z5 + 2) g.2.2.2.2.2.2.2.1) (h3 : inB (z5 + 3) g.2.2.2.2.2.2.2.1) (q : Rel B w.1) : ∃ w2, Rel (B + 1600) w2.1 ∧ f_L_c2585 g K z5 w = K (z5 + 4) w2 := by
  unfold f_L_c2585
  exact law0 ((q_save B).mono (by omega)) q
theorem lc_2598 {B : Nat} (hB : B < 16777216) {g : GC} {K : Int32 → XW → Option (Int32 × XW)} {z5 : Int32} {w : XW} (h1 : inB (z5 + 1) g.2.2.2.2.2.2.2.1) (h2 : inB (z5 + 2) g.2.2.2.2.2.2.2.1) (h3 : inB (z5 + 3) g.2.2.2.2.2.2.2.1) (q : Rel B w.1) : ∃ w2, Rel (B + 1600) w2.1 ∧ f_L_c2598 g K z5 w = K (z5 + 4) w2 := by
  unfold f_L_c2598 f_L_restoreSnapshot
  exact law1 ((q_restore B).mono (by omega)) es_8 q
theorem law_loop {g : GC} (hl : g.2.2.2.2.2.2.2.1 ≤ 2048) : ∀ (n i B : Nat) (w : XW), 4 * i ≤ g.2.2.2.2.2.2.2.1 → g.2.2.2.2.2.2.2.1 < 4 * (i + n) → B + 1600 * n < 16777216 → Rel B w.1 → ∃ w', f_L_law_28 g n (zI (4 * i)) w = some (1, w') := by
  intro n
  induction n with
  | zero => intro i B w h1 h2; omega
  | succ n ih =>
    intro i B w h1 h2 hB q
    rw [f_L_law_28]
    by_cases hend : g.2.2.2.2.2.2.2.1 < 4 * i + 4
    · have hlt : (Int32.ofNat g.2.2.2.2.2.2.2.1) - 4 < zI (4 * i) := by
        show zI g.2.2.2.2.2.2.2.1 - 4 < zI (4 * i)
        by_cases h4 : 4 ≤ g.2.2.2.2.2.2.2.1
        · rw [zl_4, zI_sub h4, zI_lt (by omega) (by omega)]; omega
        · have hi : i = 0 := by omega
          have hs : g.2.2.2.2.2.2.2.1 = 0 ∨ g.2.2.2.2.2.2.2.1 = 1 ∨ g.2.2.2.2.2.2.2.1 = 2 ∨ g.2.2.2.2.2.2.2.1 = 3 := by omega
          rw [hi]
          rcases hs with e | e | e | e <;> rw [e] <;> decide
      rw [if_pos hlt]
      exact ⟨w, rfl⟩
    · have hlt : ¬ ((Int32.ofNat g.2.2.2.2.2.2.2.1) - 4 < zI (4 * i)) := by
        show ¬ (zI g.2.2.2.2.2.2.2.1 - 4 < zI (4 * i))
        rw [zl_4, zI_sub (by omega), zI_lt (by omega) (by omega)]; omega
      have h0 : inB (zI (4 * i)) g.2.2.2.2.2.2.2.1 := by rw [inB_z (by omega)]; omega
      have h1 : inB (zI (4 * i) + 1) g.2.2.2.2.2.2.2.1 := by rw [zl_1, zI_add, inB_z (by omega)]; omega
      have h2' : inB (zI (4 * i) + 2) g.2.2.2.2.2.2.2.1 := by rw [zl_2, zI_add, inB_z (by omega)]; omega
      have h3 : inB (zI (4 * i) + 3) g.2.2.2.2.2.2.2.1 := by rw [zl_3, zI_add, inB_z (by omega)]; omega
      have go : ∀ w2 : XW, Rel (B + 1600) w2.1 → ∃ w', f_L_law_28 g n (zI (4 * i) + 4) w2 = some (1, w') := fun w2 q2 => by
        rw [zl_4, zI_add, show 4 * i + 4 = 4 * (i + 1) by omega]
        exact ih (i + 1) (B + 1600) w2 (by omega) (by omega) (by omega) q2
      have hB' : B < 16777216 := by omega
      rw [if_neg hlt, if_pos h0]
      by_cases c0 : ((g.2.2.2.2.2.2.2.2 (Int32.toNatClampNeg (zI (4 * i)))) &&& 63) = 0
      · rw [if_pos c0]
        obtain ⟨w2, r2, e2⟩ := lc_272 (K := f_L_law_28 g n) hB' h1 h2' h3 q
        rw [e2]
        exact go w2 r2
      rw [if_neg c0]
      by_cases c1 : ((g.2.2.2.2.2.2.2.2 (Int32.toNatClampNeg (zI (4 * i)))) &&& 63) = 1
      · rw [if_pos c1]
        obtain ⟨w2, r2, e2⟩ := lc_316 (K := f_L_law_28 g n) hB' h1 h2' h3 q
        rw [e2]
        exact go w2 r2
      rw [if_neg c1]
      by_cases c2 : ((g.2.2.2.2.2.2.2.2 (Int32.toNatClampNeg (zI (4 * i)))) &&& 63) = 2
      · rw [if_pos c2]
        obtain ⟨w2, r2, e2⟩ := lc_384 (K := f_L_law_28 g n) hB' h1 h2' h3 q
        rw [e2]
        exact go w2 r2
      rw [if_neg c2]
      by_cases c3 : ((g.2.2.2.2.2.2.2.2 (Int32.toNatClampNeg (zI (4 * i)))) &&& 63) = 3
      · rw [if_pos c3]
        obtain ⟨w2, r2, e2⟩ := lc_454 (K := f_L_law_28 g n) hB' h1 h2' h3 q
        rw [e2]
        exact go w2 r2
      rw [if_neg c3]
      by_cases c4 : ((g.2.2.2.2.2.2.2.2 (Int32.toNatClampNeg (zI (4 * i)))) &&& 63) = 4
      · rw [if_pos c4]
        obtain ⟨w2, r2, e2⟩ := lc_524 (K := f_L_law_28 g n) hB' h1 h2' h3 q
        rw [e2]
        exact go w2 r2
      rw [if_neg c4]
      by_cases c5 : ((g.2.2.2.2.2.2.2.2 (Int32.toNatClampNeg (zI (4 * i)))) &&& 63) = 5
      · rw [if_pos c5]
        obtain ⟨w2, r2, e2⟩ := lc_537 (K := f_L_law_28 g n) hB' h1 h2' h3 q
        rw [e2]
        exact go w2 r2
      rw [if_neg c5]
      by_cases c6 : ((g.2.2.2.2.2.2.2.2 (Int32.toNatClampNeg (zI (4 * i)))) &&& 63) = 6
      · rw [if_pos c6]
        obtain ⟨w2, r2, e2⟩ := lc_593 (K := f_L_law_28 g n) hB' h1 h2' h3 q
        rw [e2]
        exact go w2 r2
      rw [if_neg c6]
      by_cases c7 : ((g.2.2.2.2.2.2.2.2 (Int32.toNatClampNeg (zI (4 * i)))) &&& 63) = 7
      · rw [if_pos c7]
        obtain ⟨w2, r2, e2⟩ := lc_670 (K := f_L_law_28 g n) hB' h1 h2' h3 q
        rw [e2]
        exact go w2 r2
      rw [if_neg c7]
      by_cases c8 : ((g.2.2.2.2.2.2.2.2 (Int32.toNatClampNeg (zI (4 * i)))) &&& 63) = 8
      · rw [if_pos c8]
        obtain ⟨w2, r2, e2⟩ := lc_728 (K := f_L_law_28 g n) hB' h1 h2' h3 q
        rw [e2]
        exact go w2 r2
      rw [if_neg c8]
      by_cases c9 : ((g.2.2.2.2.2.2.2.2 (Int32.toNatClampNeg (zI (4 * i)))) &&& 63) = 9
      · rw [if_pos c9]
        obtain ⟨w2, r2, e2⟩ := lc_784 (K := f_L_law_28 g n) hB' h1 h2' h3 q
        rw [e2]
        exact go w2 r2
      rw [if_neg c9]
      by_cases c10 : ((g.2.2.2.2.2.2.2.2 (Int32.toNatClampNeg (zI (4 * i)))) &&& 63) = 10
      · rw [if_pos c10]
        obtain ⟨w2, r2, e2⟩ := lc_840 (K := f_L_law_28 g n) hB' h1 h2' h3 q
        rw [e2]
        exact go w2 r2
      rw [if_neg c10]
      by_cases c11 : ((g.2.2.2.2.2.2.2.2 (Int32.toNatClampNeg (zI (4 * i)))) &&& 63) = 11
      · rw [if_pos c11]
        obtain ⟨w2, r2, e2⟩ := lc_884 (K := f_L_law_28 g n) hB' h1 h2' h3 q
        rw [e2]
        exact go w2 r2
      rw [if_neg c11]
      by_cases c12 : ((g.2.2.2.2.2.2.2.2 (Int32.toNatClampNeg (zI (4 * i)))) &&& 63) = 12
      · rw [if_pos c12]
        obtain ⟨w2, r2, e2⟩ := lc_897 (K := f_L_law_28 g n) hB' h1 h2' h3 q
        rw [e2]
        exact go w2 r2
      rw [if_neg c12]
      by_cases c13 : ((g.2.2.2.2.2.2.2.2 (Int32.toNatClampNeg (zI (4 * i)))) &&& 63) = 13
      · rw [if_pos c13]
        obtain ⟨w2, r2, e2⟩ := lc_953 (K := f_L_law_28 g n) hB' h1 h2' h3 q
        rw [e2]
        exact go w2 r2
      rw [if_neg c13]
      by_cases c14 : ((g.2.2.2.2.2.2.2.2 (Int32.toNatClampNeg (zI (4 * i)))) &&& 63) = 14
      · rw [if_pos c14]
        obtain ⟨w2, r2, e2⟩ := lc_1009 (K := f_L_law_28 g n) hB' h1 h2' h3 q
        rw [e2]
        exact go w2 r2
      rw [if_neg c14]
      by_cases c15 : ((g.2.2.2.2.2.2.2.2 (Int32.toNatClampNeg (zI (4 * i)))) &&& 63) = 15
      · rw [if_pos c15]
        obtain ⟨w2, r2, e2⟩ := lc_1072 (K := f_L_law_28 g n) hB' h1 h2' h3 q
        rw [e2]
        exact go w2 r2
      rw [if_neg c15]
      by_cases c16 : ((g.2.2.2.2.2.2.2.2 (Int32.toNatClampNeg (zI (4 * i)))) &&& 63) = 16
      · rw [if_pos c16]
        obtain ⟨w2, r2, e2⟩ := lc_1085 (K := f_L_law_28 g n) hB' h1 h2' h3 q
        rw [e2]
        exact go w2 r2
      rw [if_neg c16]
      by_cases c17 : ((g.2.2.2.2.2.2.2.2 (Int32.toNatClampNeg (zI (4 * i)))) &&& 63) = 17
      · rw [if_pos c17]
        obtain ⟨w2, r2, e2⟩ := lc_1098 (K := f_L_law_28 g n) hB' h1 h2' h3 q
        rw [e2]
        exact go w2 r2
      rw [if_neg c17]
      by_cases c18 : ((g.2.2.2.2.2.2.2.2 (Int32.toNatClampNeg (zI (4 * i)))) &&& 63) = 18
      · rw [if_pos c18]
        obtain ⟨w2, r2, e2⟩ := lc_1178 (K := f_L_law_28 g n) hB' h1 h2' h3 q
        rw [e2]
        exact go w2 r2
      rw [if_neg c18]
      by_cases c19 : ((g.2.2.2.2.2.2.2.2 (Int32.toNatClampNeg (zI (4 * i)))) &&& 63) = 19
      · rw [if_pos c19]
        obtain ⟨w2, r2, e2⟩ := lc_1234 (K := f_L_law_28 g n) hB' h1 h2' h3 q
        rw [e2]
        exact go w2 r2
      rw [if_neg c19]
      by_cases c20 : ((g.2.2.2.2.2.2.2.2 (Int32.toNatClampNeg (zI (4 * i)))) &&& 63) = 20
      · rw [if_pos c20]
        obtain ⟨w2, r2, e2⟩ := lc_1290 (K := f_L_law_28 g n) hB' h1 h2' h3 q
        rw [e2]
        exact go w2 r2
      rw [if_neg c20]
      by_cases c21 : ((g.2.2.2.2.2.2.2.2 (Int32.toNatClampNeg (zI (4 * i)))) &&& 63) = 21
      · rw [if_pos c21]
        obtain ⟨w2, r2, e2⟩ := lc_1346 (K := f_L_law_28 g n) hB' h1 h2' h3 q
        rw [e2]
        exact go w2 r2
      rw [if_neg c21]
      by_cases c22 : ((g.2.2.2.2.2.2.2.2 (Int32.toNatClampNeg (zI (4 * i)))) &&& 63) = 22
      · rw [if_pos c22]
        obtain ⟨w2, r2, e2⟩ := lc_1359 (K := f_L_law_28 g n) hB' h1 h2' h3 q
        rw [e2]
        exact go w2 r2
      rw [if_neg c22]
      by_cases c23 : ((g.2.2.2.2.2.2.2.2 (Int32.toNatClampNeg (zI (4 * i)))) &&& 63) = 23
      · rw [if_pos c23]
        obtain ⟨w2, r2, e2⟩ := lc_1415 (K := f_L_law_28 g n) hB' h1 h2' h3 q
        rw [e2]
        exact go w2 r2
      rw [if_neg c23]
      by_cases c24 : ((g.2.2.2.2.2.2.2.2 (Int32.toNatClampNeg (zI (4 * i)))) &&& 63) = 24
      · rw [if_pos c24]
        obtain ⟨w2, r2, e2⟩ := lc_1471 (K := f_L_law_28 g n) hB' h1 h2' h3 q
        rw [e2]
        exact go w2 r2
      rw [if_neg c24]
      by_cases c25 : ((g.2.2.2.2.2.2.2.2 (Int32.toNatClampNeg (zI (4 * i)))) &&& 63) = 25
      · rw [if_pos c25]
        obtain ⟨w2, r2, e2⟩ := lc_1527 (K := f_L_law_28 g n) hB' h1 h2' h3 q
        rw [e2]
        exact go w2 r2
      rw [if_neg c25]
      by_cases c26 : ((g.2.2.2.2.2.2.2.2 (Int32.toNatClampNeg (zI (4 * i)))) &&& 63) = 26
      · rw [if_pos c26]
        obtain ⟨w2, r2, e2⟩ := lc_1590 (K := f_L_law_28 g n) hB' h1 h2' h3 q
        rw [e2]
        exact go w2 r2
      rw [if_neg c26]
      by_cases c27 : ((g.2.2.2.2.2.2.2.2 (Int32.toNatClampNeg (zI (4 * i)))) &&& 63) = 27
      · rw [if_pos c27]
        obtain ⟨w2, r2, e2⟩ := lc_1634 (K := f_L_law_28 g n) hB' h1 h2' h3 q
        rw [e2]
        exact go w2 r2
      rw [if_neg c27]
      by_cases c28 : ((g.2.2.2.2.2.2.2.2 (Int32.toNatClampNeg (zI (4 * i)))) &&& 63) = 28
      · rw [if_pos c28]
        obtain ⟨w2, r2, e2⟩ := lc_1678 (K := f_L_law_28 g n) hB' h1 h2' h3 q
        rw [e2]
        exact go w2 r2
      rw [if_neg c28]
      by_cases c29 : ((g.2.2.2.2.2.2.2.2 (Int32.toNatClampNeg (zI (4 * i)))) &&& 63) = 29
      · rw [if_pos c29]
        obtain ⟨w2, r2, e2⟩ := lc_1734 (K := f_L_law_28 g n) hB' h1 h2' h3 q
        rw [e2]
        exact go w2 r2
      rw [if_neg c29]
      by_cases c30 : ((g.2.2.2.2.2.2.2.2 (Int32.toNatClampNeg (zI (4 * i)))) &&& 63) = 30
      · rw [if_pos c30]
        obtain ⟨w2, r2, e2⟩ := lc_1778 (K := f_L_law_28 g n) hB' h1 h2' h3 q
        rw [e2]
        exact go w2 r2
      rw [if_neg c30]
      by_cases c31 : ((g.2.2.2.2.2.2.2.2 (Int32.toNatClampNeg (zI (4 * i)))) &&& 63) = 31
      · rw [if_pos c31]
        obtain ⟨w2, r2, e2⟩ := lc_1822 (K := f_L_law_28 g n) hB' h1 h2' h3 q
        rw [e2]
        exact go w2 r2
      rw [if_neg c31]
      by_cases c32 : ((g.2.2.2.2.2.2.2.2 (Int32.toNatClampNeg (zI (4 * i)))) &&& 63) = 32
      · rw [if_pos c32]
        obtain ⟨w2, r2, e2⟩ := lc_1835 (K := f_L_law_28 g n) hB' h1 h2' h3 q
        rw [e2]
        exact go w2 r2
      rw [if_neg c32]
      by_cases c33 : ((g.2.2.2.2.2.2.2.2 (Int32.toNatClampNeg (zI (4 * i)))) &&& 63) = 33
      · rw [if_pos c33]
        obtain ⟨w2, r2, e2⟩ := lc_1848 (K := f_L_law_28 g n) hB' h1 h2' h3 q
        rw [e2]
        exact go w2 r2
      rw [if_neg c33]
      by_cases c34 : ((g.2.2.2.2.2.2.2.2 (Int32.toNatClampNeg (zI (4 * i)))) &&& 63) = 34
      · rw [if_pos c34]
        obtain ⟨w2, r2, e2⟩ := lc_1861 (K := f_L_law_28 g n) hB' h1 h2' h3 q
        rw [e2]
        exact go w2 r2
      rw [if_neg c34]
      by_cases c35 : ((g.2.2.2.2.2.2.2.2 (Int32.toNatClampNeg (zI (4 * i)))) &&& 63) = 35
      · rw [if_pos c35]
        obtain ⟨w2, r2, e2⟩ := lc_1874 (K := f_L_law_28 g n) hB' h1 h2' h3 q
        rw [e2]
        exact go w2 r2
      rw [if_neg c35]
      by_cases c36 : ((g.2.2.2.2.2.2.2.2 (Int32.toNatClampNeg (zI (4 * i)))) &&& 63) = 36
      · rw [if_pos c36]
        obtain ⟨w2, r2, e2⟩ := lc_1939 (K := f_L_law_28 g n) hB' h1 h2' h3 q
        rw [e2]
        exact go w2 r2
      rw [if_neg c36]
      by_cases c37 : ((g.2.2.2.2.2.2.2.2 (Int32.toNatClampNeg (zI (4 * i)))) &&& 63) = 37
      · rw [if_pos c37]
        obtain ⟨w2, r2, e2⟩ := lc_2005 (K := f_L_law_28 g n) hB' h1 h2' h3 q
        rw [e2]
        exact go w2 r2
      rw [if_neg c37]
      by_cases c38 : ((g.2.2.2.2.2.2.2.2 (Int32.toNatClampNeg (zI (4 * i)))) &&& 63) = 38
      · rw [if_pos c38]
        obtain ⟨w2, r2, e2⟩ := lc_2063 (K := f_L_law_28 g n) hB' h1 h2' h3 q
        rw [e2]
        exact go w2 r2
      rw [if_neg c38]
      by_cases c39 : ((g.2.2.2.2.2.2.2.2 (Int32.toNatClampNeg (zI (4 * i)))) &&& 63) = 39
      · rw [if_pos c39]
        obtain ⟨w2, r2, e2⟩ := lc_2076 (K := f_L_law_28 g n) hB' h1 h2' h3 q
        rw [e2]
        exact go w2 r2
      rw [if_neg c39]
      by_cases c40 : ((g.2.2.2.2.2.2.2.2 (Int32.toNatClampNeg (zI (4 * i)))) &&& 63) = 40
      · rw [if_pos c40]
        obtain ⟨w2, r2, e2⟩ := lc_2120 (K := f_L_law_28 g n) hB' h1 h2' h3 q
        rw [e2]
        exact go w2 r2
      rw [if_neg c40]
      by_cases c41 : ((g.2.2.2.2.2.2.2.2 (Int32.toNatClampNeg (zI (4 * i)))) &&& 63) = 41
      · rw [if_pos c41]
        obtain ⟨w2, r2, e2⟩ := lc_2183 (K := f_L_law_28 g n) hB' h1 h2' h3 q
        rw [e2]
        exact go w2 r2
      rw [if_neg c41]
      by_cases c42 : ((g.2.2.2.2.2.2.2.2 (Int32.toNatClampNeg (zI (4 * i)))) &&& 63) = 42
      · rw [if_pos c42]
        obtain ⟨w2, r2, e2⟩ := lc_2227 (K := f_L_law_28 g n) hB' h1 h2' h3 q
        rw [e2]
        exact go w2 r2
      rw [if_neg c42]
      by_cases c43 : ((g.2.2.2.2.2.2.2.2 (Int32.toNatClampNeg (zI (4 * i)))) &&& 63) = 43
      · rw [if_pos c43]
        obtain ⟨w2, r2, e2⟩ := lc_2271 (K := f_L_law_28 g n) hB' h1 h2' h3 q
        rw [e2]
        exact go w2 r2
      rw [if_neg c43]
      by_cases c44 : ((g.2.2.2.2.2.2.2.2 (Int32.toNatClampNeg (zI (4 * i)))) &&& 63) = 44
      · rw [if_pos c44]
        obtain ⟨w2, r2, e2⟩ := lc_2327 (K := f_L_law_28 g n) hB' h1 h2' h3 q
        rw [e2]
        exact go w2 r2
      rw [if_neg c44]
      by_cases c45 : ((g.2.2.2.2.2.2.2.2 (Int32.toNatClampNeg (zI (4 * i)))) &&& 63) = 45
      · rw [if_pos c45]
        obtain ⟨w2, r2, e2⟩ := lc_2340 (K := f_L_law_28 g n) hB' h1 h2' h3 q
        rw [e2]
        exact go w2 r2
      rw [if_neg c45]
      by_cases c46 : ((g.2.2.2.2.2.2.2.2 (Int32.toNatClampNeg (zI (4 * i)))) &&& 63) = 46
      · rw [if_pos c46]
        obtain ⟨w2, r2, e2⟩ := lc_2396 (K := f_L_law_28 g n) hB' h1 h2' h3 q
        rw [e2]
        exact go w2 r2
      rw [if_neg c46]
      by_cases c47 : ((g.2.2.2.2.2.2.2.2 (Int32.toNatClampNeg (zI (4 * i)))) &&& 63) = 47
      · rw [if_pos c47]
        obtain ⟨w2, r2, e2⟩ := lc_2440 (K := f_L_law_28 g n) hB' h1 h2' h3 q
        rw [e2]
        exact go w2 r2
      rw [if_neg c47]
      by_cases c48 : ((g.2.2.2.2.2.2.2.2 (Int32.toNatClampNeg (zI (4 * i)))) &&& 63) = 48
      · rw [if_pos c48]
        obtain ⟨w2, r2, e2⟩ := lc_2484 (K := f_L_law_28 g n) hB' h1 h2' h3 q
        rw [e2]
        exact go w2 r2
      rw [if_neg c48]
      by_cases c49 : ((g.2.2.2.2.2.2.2.2 (Int32.toNatClampNeg (zI (4 * i)))) &&& 63) = 49
      · rw [if_pos c49]
        obtain ⟨w2, r2, e2⟩ := lc_2528 (K := f_L_law_28 g n) hB' h1 h2' h3 q
        rw [e2]
        exact go w2 r2
      rw [if_neg c49]
      by_cases c50 : ((g.2.2.2.2.2.2.2.2 (Int32.toNatClampNeg (zI (4 * i)))) &&& 63) = 50
      · rw [if_pos c50]
        obtain ⟨w2, r2, e2⟩ := lc_2572 (K := f_L_law_28 g n) hB' h1 h2' h3 q
        rw [e2]
        exact go w2 r2
      rw [if_neg c50]
      by_cases c51 : ((g.2.2.2.2.2.2.2.2 (Int32.toNatClampNeg (zI (4 * i)))) &&& 63) = 51
      · rw [if_pos c51]
        obtain ⟨w2, r2, e2⟩ := lc_2585 (K := f_L_law_28 g n) hB' h1 h2' h3 q
        rw [e2]
        exact go w2 r2
      rw [if_neg c51]
      by_cases c52 : ((g.2.2.2.2.2.2.2.2 (Int32.toNatClampNeg (zI (4 * i)))) &&& 63) = 52
      · rw [if_pos c52]
        obtain ⟨w2, r2, e2⟩ := lc_2598 (K := f_L_law_28 g n) hB' h1 h2' h3 q
        rw [e2]
        exact go w2 r2
      rw [if_neg c52]
      exact go w q.up1600
