/-! the class alone: what a state is behind any calls -/
def RC (B : Nat) (w : XW) (F : Nat → Nat) (hs : Nat → Nat → Nat) (n nx : Nat) : Prop := F 3 ≤ B ∧ Inv F ∧ Cls w.1 1 F ∧ HC w.1 hs n nx ∧ (∀ i, i < n → Inv (hs i) ∧ hs i 3 ≤ B) ∧ w.1 132 1 = zI 0
/-- cells in which no state lies -/
def KF : Nat → Prop := fun a => a = 0 ∨ (12 ≤ a ∧ a ≤ 33) ∨ (124 ≤ a ∧ a ≤ 131) ∨ 133 ≤ a
/-- cells that a search for a flow or for foldings uses -/
def KQ : Nat → Prop := fun a => 124 ≤ a ∧ a ≤ 131
def KG : Nat → Prop := fun a => (2 ≤ a ∧ a ≤ 11) ∨ a = 34 ∨ (37 ≤ a ∧ a ≤ 123) ∨ (125 ≤ a ∧ a ≤ 127)
theorem KQ.F {a : Nat} (h : KQ a) : KF a := Or.inr (Or.inr (Or.inl h))
theorem HC.fr {w w' : XW} {P : Nat → Prop} {hs : Nat → Nat → Nat} {n nx : Nat} (h : HC w.1 hs n nx) (hf : Fr P w w') (hP : ∀ a, 34 ≤ a → a ≤ 123 → ¬ P a) : HC w'.1 hs n nx := by
  obtain ⟨z1, z2, z3, z4, z5⟩ := h
  refine ⟨z1, z2, by rw [hf.at (hP 34 (by omega) (by omega))]; exact z3, by rw [hf.at (hP 34 (by omega) (by omega))]; exact z4, fun i hi => ?_⟩
  have hin := slot_in nx i
  exact (z5 i hi).fr hf (fun a h1 h2 => hP a (by omega) (by omega))
theorem RC.fr {B : Nat} {w w' : XW} {F : Nat → Nat} {hs : Nat → Nat → Nat} {n nx : Nat} (h : RC B w F hs n nx) (hf : Fr KF w w') : RC B w' F hs n nx := by
  obtain ⟨a1, a2, a3, a4, a5, a6⟩ := h
  exact ⟨a1, a2, a3.fr hf (fun a h1 h2 => by unfold KF; omega), a4.fr hf (fun a h1 h2 => by unfold KF; omega), a5, (hf.at (by unfold KF; omega) _).trans a6⟩
theorem RC.q {B : Nat} {w w' : XW} {F : Nat → Nat} {hs : Nat → Nat → Nat} {n nx : Nat} (h : RC B w F hs n nx) (hf : Fr KQ w w') : RC B w' F hs n nx := h.fr (hf.wk fun _ => KQ.F)
theorem RC.wk {B B' : Nat} {w : XW} {F : Nat → Nat} {hs : Nat → Nat → Nat} {n nx : Nat} (h : RC B w F hs n nx) (hB : B ≤ B') : RC B' w F hs n nx := ⟨Nat.le_trans h.1 hB, h.2.1, h.2.2.1, h.2.2.2.1, fun i hi => ⟨(h.2.2.2.2.1 i hi).1, Nat.le_trans (h.2.2.2.2.1 i hi).2 hB⟩, h.2.2.2.2.2⟩
theorem den_fr (w : XW) (n d : Nat) (c : Int32) : Fr (fun a => a = 0) w (denW w n d c) := ((fr1 _ _).tr (fr1 _ _)).tr (fr1 _ _)
theorem RC.den {B : Nat} {w : XW} {F : Nat → Nat} {hs : Nat → Nat → Nat} {n nx : Nat} (h : RC B w F hs n nx) (n' d : Nat) (c : Int32) : RC B (denW w n' d c) F hs n nx := h.fr ((den_fr w n' d c).wk fun a z => Or.inl z)
theorem denW_0 (w : XW) (n d : Nat) (c : Int32) : (denW w n d c).1 0 12 = zI n ∧ (denW w n d c).1 0 13 = zI d := ⟨rfl, rfl⟩
/-- a call of a change: an exception, a denial, or done -/
theorem chgC {kd a b c : Int32} {mop : XW → Option (Int32 × XW)} (hop : OpR kd a b c mop) {B : Nat} {w : XW} {F : Nat → Nat} {hs : Nat → Nat → Nat} {n nx : Nat} (h : RC B w F hs n nx) :
    (∃ e, (e = 1 ∨ e = 2) ∧ KE kd a F e ∧ f_X10_change kd a b c w = some (.inr (exE e, w))) ∨
    (∃ n' d, 1 ≤ n' ∧ n' ≤ 7 ∧ d < 100 ∧ KD kd a F n' d ∧ f_X10_change kd a b c w = some (.inr ("java/lang/UnsupportedOperationException", denW w n' d zM))) ∨
    (∃ ans G w1, ans < 1000 ∧ KO kd a F ans G ∧ f_X10_change kd a b c w = some (.inl (zI ans, w1)) ∧ RC (B + 99) w1 G (hcons F hs) (n8 n) ((nx + 1) % 8) ∧ Fr KG w w1) := by
  obtain ⟨q1, hI, hC, hH, hhs, h132⟩ := h
  rcases hop F hI with ⟨e, he, hke, hj, hm⟩ | ⟨n', d, hn1, hn2, hd, hkd, hj, hm⟩ | ⟨ans, G, hG, hG3, hans, hko, hj, ha, hm⟩
  · refine Or.inl ⟨e, he, hke, ?_⟩
    unfold f_X10_change
    rw [hj w hC, bI_s, obey_err he, bVX_x]
  · refine Or.inr (Or.inl ⟨n', d, hn1, hn2, hd, hkd, ?_⟩)
    unfold f_X10_change
    rw [hj w hC, bI_s, obey_den hn1 (by omega) hd, bVX_x]
  · have hF1 : F 1 ≤ 7 := by have := hI.1; have := hI.2.1; omega
    obtain ⟨w1, k1, k2, k3⟩ := h_keep hH hC (by omega) hF1 hI.2.2.1
    have hC1 : Cls w1.1 1 F := hC.fr k2 (fun a h1 h2 => by omega)
    obtain ⟨w2, l1, l2, l3⟩ := ha w1 hC1
    refine Or.inr (Or.inr ⟨ans, G, w2, hans, hko, ?_, ⟨by omega, hG, l2, k3.fr l3 (fun a h1 h2 => by omega), hs_cons hI (by omega) (by omega) hhs, ?_⟩, (k2.wk fun a z => ?_).tr (l3.wk fun a z => ?_)⟩)
    · unfold f_X10_change
      rw [hj w hC, bI_s, obey_ok, bVX_s, k1, bV_s, l1, bI_s]
    · rw [l3.at (by omega), k2.at (by omega)]; exact h132
    · unfold KG; omega
    · unfold KG; omega
/-- what a call of the law's for a change does -/
def LO (kd a : Int32) (f : XW → Option (Int32 × XW)) : Prop := ∀ (B : Nat) (w : XW) (F : Nat → Nat) (hs : Nat → Nat → Nat) (n nx : Nat), RC B w F hs n nx →
  (∃ r, (r = -77 ∨ r = -78) ∧ (kd = 4 → ∀ l, l ≤ F 1 → a = zI l → False) ∧ ¬ (kd = 10 ∨ kd = 11) ∧ f w = some (r, w)) ∨
  (∃ n' d, KD kd a F n' d ∧ f w = some (-76, denW w n' d zM)) ∨
  (∃ ans G w1, ans < 1000 ∧ KO kd a F ans G ∧ f w = some (zI ans, w1) ∧ RC (B + 99) w1 G (hcons F hs) (n8 n) ((nx + 1) % 8) ∧ Fr KG w w1)
theorem bCI_s {ρ : Type} (a : Int32) (w : XW) (K : Int32 → XW → Option ρ) (KX : String → XW → Option ρ) : bCI (some (.inl (a, w))) K KX = K a w := rfl
theorem bCI_x {ρ : Type} (e : String) (w : XW) (K : Int32 → XW → Option ρ) (KX : String → XW → Option ρ) : bCI (some (.inr (e, w))) K KX = KX e w := rfl
theorem LO_of {kd a b c : Int32} {mop : XW → Option (Int32 × XW)} (hop : OpR kd a b c mop) {f : XW → Option (Int32 × XW)}
    (h1 : ∀ F e w, (e = 1 ∨ e = 2) → KE kd a F e → f_X10_change kd a b c w = some (.inr (exE e, w)) → ∃ r, (r = -77 ∨ r = -78) ∧ f w = some (r, w))
    (h2 : ∀ F n d w w1, KD kd a F n d → f_X10_change kd a b c w = some (.inr ("java/lang/UnsupportedOperationException", w1)) → f w = some (-76, w1))
    (h3 : ∀ r w w1, f_X10_change kd a b c w = some (.inl (r, w1)) → f w = some (r, w1)) : LO kd a f := by
  intro B w F hs n nx h
  rcases chgC hop h with ⟨e, he, hke, hf⟩ | ⟨n', d, _, _, _, hkd, hf⟩ | ⟨ans, G, w1, hans, hko, hf, hR, hfr⟩
  · obtain ⟨r, hr, hr2⟩ := h1 F e w he hke hf
    exact Or.inl ⟨r, hr, hke.2, fun z => hke.1.1 (z.elim (fun e => Or.inr (Or.inr (Or.inl e))) (fun e => Or.inr (Or.inr (Or.inr e)))), hr2⟩
  · exact Or.inr (Or.inl ⟨n', d, hkd, h2 F n' d w _ hkd hf⟩)
  · exact Or.inr (Or.inr ⟨ans, G, w1, hans, hko, h3 _ _ _ hf, hR, hfr⟩)
theorem exE1 : exE 1 = "java/lang/IndexOutOfBoundsException" := rfl
theorem exE2 : exE 2 = "java/lang/IllegalArgumentException" := rfl
theorem lo_addSection : LO 0 0 (f_L_addSection) := by
  refine LO_of (op_add 0 0 0) (fun F e w he hke hf => ?_) (fun F n d w w1 hkd hf => ?_) (fun r w w1 hf => ?_)
  · exact absurd (by decide) hke.1.1
  · unfold f_L_addSection f_X10_addSection
    rw [hf, bIX_x, bCI_x]
    rfl
  · unfold f_L_addSection f_X10_addSection
    rw [hf, bIX_s, bCI_s]
theorem lo_pour (x y : Int32) : LO 1 x (f_L_pour x y) := by
  refine LO_of (op_pour x y 0) (fun F e w he hke hf => ?_) (fun F n d w w1 hkd hf => ?_) (fun r w w1 hf => ?_)
  · rcases he with rfl | rfl
    · exact ⟨-77, Or.inl rfl, by unfold f_L_pour f_X10_pour; rw [hf, bIX_x, bCI_x, exE1]; rfl⟩
    · exact ⟨-78, Or.inr rfl, by unfold f_L_pour f_X10_pour; rw [hf, bIX_x, bCI_x, exE2]; rfl⟩
  · unfold f_L_pour f_X10_pour
    rw [hf, bIX_x, bCI_x]
    rfl
  · unfold f_L_pour f_X10_pour
    rw [hf, bIX_s, bCI_s]
theorem lo_tag (x y : Int32) (hy : ¬ y < 0) : LO 2 x (f_L_tag x y) := by
  refine LO_of (op_tag x y 0 hy) (fun F e w he hke hf => ?_) (fun F n d w w1 hkd hf => ?_) (fun r w w1 hf => ?_)
  · rcases he with rfl | rfl
    · exact ⟨-77, Or.inl rfl, by unfold f_L_tag f_X10_tag; rw [hf, bIX_x, bCI_x, exE1]; rfl⟩
    · exact ⟨-78, Or.inr rfl, by unfold f_L_tag f_X10_tag; rw [hf, bIX_x, bCI_x, exE2]; rfl⟩
  · unfold f_L_tag f_X10_tag
    rw [hf, bIX_x, bCI_x]
    rfl
  · unfold f_L_tag f_X10_tag
    rw [hf, bIX_s, bCI_s]
theorem lo_untag (x y : Int32) (hy : ¬ y < 0) : LO 3 x (f_L_untag x y) := by
  refine LO_of (op_untag x y 0 hy) (fun F e w he hke hf => ?_) (fun F n d w w1 hkd hf => ?_) (fun r w w1 hf => ?_)
  · rcases he with rfl | rfl
    · exact ⟨-77, Or.inl rfl, by unfold f_L_untag f_X10_untag; rw [hf, bIX_x, bCI_x, exE1]; rfl⟩
    · exact ⟨-78, Or.inr rfl, by unfold f_L_untag f_X10_untag; rw [hf, bIX_x, bCI_x, exE2]; rfl⟩
  · unfold f_L_untag f_X10_untag
    rw [hf, bIX_x, bCI_x]
    rfl
  · unfold f_L_untag f_X10_untag
    rw [hf, bIX_s, bCI_s]
theorem lo_fold (x : Int32) : LO 4 x (f_L_fold x) := by
  refine LO_of (op_fold x 0 0) (fun F e w he hke hf => ?_) (fun F n d w w1 hkd hf => ?_) (fun r w w1 hf => ?_)
  · obtain rfl : e = 1 := hke.1.2 (by decide)
    exact ⟨-77, Or.inl rfl, by unfold f_L_fold f_X10_fold; rw [hf, bIX_x, bCI_x, exE1]; rfl⟩
  · unfold f_L_fold f_X10_fold
    rw [hf, bIX_x, bCI_x]
    rfl
  · unfold f_L_fold f_X10_fold
    rw [hf, bIX_s, bCI_s]
theorem lo_unfold : LO 5 0 (f_L_unfold) := by
  refine LO_of (op_open 0 0 0) (fun F e w he hke hf => ?_) (fun F n d w w1 hkd hf => ?_) (fun r w w1 hf => ?_)
  · exact absurd (by decide) hke.1.1
  · unfold f_L_unfold f_X10_unfold
    rw [hf, bIX_x, bCI_x]
    rfl
  · unfold f_L_unfold f_X10_unfold
    rw [hf, bIX_s, bCI_s]
theorem lo_layPipe (x y z : Int32) : LO 6 x (f_L_layPipe x y z) := by
  refine LO_of (op_pipe x y z) (fun F e w he hke hf => ?_) (fun F n d w w1 hkd hf => ?_) (fun r w w1 hf => ?_)
  · rcases he with rfl | rfl
    · exact ⟨-77, Or.inl rfl, by unfold f_L_layPipe f_X10_layPipe; rw [hf, bIX_x, bCI_x, exE1]; rfl⟩
    · exact ⟨-78, Or.inr rfl, by unfold f_L_layPipe f_X10_layPipe; rw [hf, bIX_x, bCI_x, exE2]; rfl⟩
  · unfold f_L_layPipe f_X10_layPipe
    rw [hf, bIX_x, bCI_x]
    rfl
  · unfold f_L_layPipe f_X10_layPipe
    rw [hf, bIX_s, bCI_s]
theorem lo_removePipe (x : Int32) : LO 7 x (f_L_removePipe x) := by
  refine LO_of (op_cut x 0 0) (fun F e w he hke hf => ?_) (fun F n d w w1 hkd hf => ?_) (fun r w w1 hf => ?_)
  · obtain rfl : e = 1 := hke.1.2 (by decide)
    exact ⟨-77, Or.inl rfl, by unfold f_L_removePipe f_X10_removePipe; rw [hf, bIX_x, bCI_x, exE1]; rfl⟩
  · exact absurd rfl hkd.1
  · unfold f_L_removePipe f_X10_removePipe
    rw [hf, bIX_s, bCI_s]
theorem lo_breakPipe (x : Int32) : LO 8 x (f_L_breakPipe x) := by
  refine LO_of (op_break x 0 0) (fun F e w he hke hf => ?_) (fun F n d w w1 hkd hf => ?_) (fun r w w1 hf => ?_)
  · obtain rfl : e = 1 := hke.1.2 (by decide)
    exact ⟨-77, Or.inl rfl, by unfold f_L_breakPipe f_X10_breakPipe; rw [hf, bIX_x, bCI_x, exE1]; rfl⟩
  · unfold f_L_breakPipe f_X10_breakPipe
    rw [hf, bIX_x, bCI_x]
    rfl
  · unfold f_L_breakPipe f_X10_breakPipe
    rw [hf, bIX_s, bCI_s]
theorem lo_mendPipe (x : Int32) : LO 9 x (f_L_mendPipe x) := by
  refine LO_of (op_mend x 0 0) (fun F e w he hke hf => ?_) (fun F n d w w1 hkd hf => ?_) (fun r w w1 hf => ?_)
  · obtain rfl : e = 1 := hke.1.2 (by decide)
    exact ⟨-77, Or.inl rfl, by unfold f_L_mendPipe f_X10_mendPipe; rw [hf, bIX_x, bCI_x, exE1]; rfl⟩
  · unfold f_L_mendPipe f_X10_mendPipe
    rw [hf, bIX_x, bCI_x]
    rfl
  · unfold f_L_mendPipe f_X10_mendPipe
    rw [hf, bIX_s, bCI_s]
theorem lo_drain : LO 10 0 (f_L_drain) := by
  refine LO_of (op_drain 0 0 0) (fun F e w he hke hf => ?_) (fun F n d w w1 hkd hf => ?_) (fun r w w1 hf => ?_)
  · exact absurd (by decide) hke.1.1
  · unfold f_L_drain f_X10_drain
    rw [hf, bIX_x, bCI_x]
    rfl
  · unfold f_L_drain f_X10_drain
    rw [hf, bIX_s, bCI_s]
theorem lo_seep : LO 11 0 (f_L_seep) := by
  refine LO_of (op_seep 0 0 0) (fun F e w he hke hf => ?_) (fun F n d w w1 hkd hf => ?_) (fun r w w1 hf => ?_)
  · exact absurd (by decide) hke.1.1
  · unfold f_L_seep f_X10_seep
    rw [hf, bIX_x, bCI_x]
    rfl
  · unfold f_L_seep f_X10_seep
    rw [hf, bIX_s, bCI_s]
