/-! the store at the start -/
def Wz : XW := (fun k j => if k = 0 ∧ 11 ≤ j ∧ j ≤ 14 then zM else zI 0, fun _ => 0)
def Fz : Nat → Nat := fun _ => 0
theorem Wz_z {k j : Nat} (h1 : k ≠ 0) : Wz.1 k j = zI 0 := by
  show (if k = 0 ∧ 11 ≤ j ∧ j ≤ 14 then zM else zI 0) = zI 0
  rw [if_neg (by omega)]
theorem inv_0 : Inv Fz := by
  refine ⟨by show 0 ≤ 7; omega, Nat.le_refl _, by show 0 ≤ 10; omega, ?_, fun i hi => ⟨by show 0 ≤ 99; omega, by show 0 < 256; omega, fun _ => ⟨rfl, rfl⟩⟩, ?_, fun j _ _ => rfl, fun p hp => absurd hp (by show ¬ (p < 0); omega)⟩
  · show 0 = 0 + sm (fun _ => 0) 7
    rfl
  · show plF Fz ∈ piles 0
    decide
theorem cls_0 : Cls Wz.1 1 Fz := by
  have e : ∀ k j, k ≠ 0 → Wz.1 k j = zI 0 := fun k j h1 => Wz_z h1
  refine ⟨e _ _ (by omega), e _ _ (by omega), e _ _ (by omega), fun i hi => e _ _ (by omega), fun i hi => e _ _ (by omega), e _ _ (by omega), fun s hs => absurd hs (by show ¬ (s < 0); omega), e _ _ (by omega), fun p hp => absurd hp (by show ¬ (p < 0); omega), fun p hp => ?_⟩
  exact Or.inl (e _ _ (by omega))
theorem rc_0 : RC 0 Wz Fz (fun _ => Fz) 0 0 :=
  ⟨Nat.le_refl _, inv_0, cls_0, ⟨by omega, by omega, Wz_z (by omega), Wz_z (by omega), fun i hi => absurd hi (Nat.not_lt_zero i)⟩, fun i hi => absurd hi (Nat.not_lt_zero i), Wz_z (by omega)⟩
/-! the cells that stand then are the store's -/
def layA (g : GC) (w : XW) : Nat → List Sh → List va_E
  | _, [] => []
  | n, q :: r => layE g w n q :: layA g w (n + 1) r
theorem layA_get (g : GC) (w : XW) : ∀ (L : List Sh) (n k : Nat), (layA g w n L)[k]? = (L[k]?).map (layE g w (n + k)) := by
  intro L
  induction L with
  | nil => intro n k; rfl
  | cons x r ih =>
    intro n k
    cases k with
    | zero => rfl
    | succ k =>
      show (layA g w (n + 1) r)[k]? = (r[k]?).map _
      rw [ih, show n + 1 + k = n + (k + 1) by omega]
theorem layA_app (g : GC) (w : XW) : ∀ (L L' : List Sh) (n : Nat), layA g w n (L ++ L') = layA g w n L ++ layA g w (n + L.length) L' := by
  intro L
  induction L with
  | nil => intro L' n; rfl
  | cons x r ih =>
    intro L' n
    show layE g w n x :: layA g w (n + 1) (r ++ L') = layE g w n x :: (layA g w (n + 1) r ++ layA g w (n + (r.length + 1)) L')
    rw [ih, show n + 1 + r.length = n + (r.length + 1) by omega]
theorem hrf_end (g : GC) : hrow g 34 8 = layE g Wz 35 (6, 8, [some 36, some 47, some 58, some 69, some 80, some 91, some 102, some 113]) := by
  show (.inl (g.2.2.1 4, 8, .inr (.inr (.inr (.inr (hrf g 34 8))))) : va_E) = .inl (g.2.2.1 4, 8, .inr (.inr (.inr (.inr (fun j => (([some 36, some 47, some 58, some 69, some 80, some 91, some 102, some 113] : List (Option Nat)).getD j none).map (g.2.1 + ·))))))
  have e : hrf g 34 8 = fun j => (([some 36, some 47, some 58, some 69, some 80, some 91, some 102, some 113] : List (Option Nat)).getD j none).map (g.2.1 + ·) := by
    funext j
    match j with
    | 0 => rfl
    | 1 => rfl
    | 2 => rfl
    | 3 => rfl
    | 4 => rfl
    | 5 => rfl
    | 6 => rfl
    | 7 => rfl
    | j + 8 => rw [hrf, if_neg (by omega)]; rfl
  rw [e]
def sT_1 : List Sh := [(0, 8, [some 2, some 5, some 7]), (0, 9, [none, none, none, some 3, some 4]), (1, 7, []), (1, 7, []), (0, 4, [none, some 6]), (1, 7, []), (0, 5, [none, some 8, some 9, some 10, some 11]), (1, 10, []), (1, 10, []), (1, 10, []), (2, 10, [])]
theorem bT_1 (g : GC) : bkX8 g 1 = layA g Wz 1 sT_1 := rfl
def sT_12 : List Sh := [(0, 8, [some 13, some 16, some 18]), (0, 9, [none, none, none, some 14, some 15]), (1, 7, []), (1, 7, []), (0, 4, [none, some 17]), (1, 7, []), (0, 5, [none, some 19, some 20, some 21, some 22]), (1, 10, []), (1, 10, []), (1, 10, []), (2, 10, [])]
theorem bT_12 (g : GC) : bkX8 g 12 = layA g Wz 12 sT_12 := rfl
def sT_23 : List Sh := [(0, 8, [some 24, some 27, some 29]), (0, 9, [none, none, none, some 25, some 26]), (1, 7, []), (1, 7, []), (0, 4, [none, some 28]), (1, 7, []), (0, 5, [none, some 30, some 31, some 32, some 33]), (1, 10, []), (1, 10, []), (1, 10, []), (2, 10, [])]
theorem bT_23 (g : GC) : bkX8 g 23 = layA g Wz 23 sT_23 := rfl
def sT_36 : List Sh := [(0, 8, [some 37, some 40, some 42]), (0, 9, [none, none, none, some 38, some 39]), (1, 7, []), (1, 7, []), (0, 4, [none, some 41]), (1, 7, []), (0, 5, [none, some 43, some 44, some 45, some 46]), (1, 10, []), (1, 10, []), (1, 10, []), (2, 10, [])]
theorem bT_36 (g : GC) : bkX8 g 36 = layA g Wz 36 sT_36 := rfl
def sT_47 : List Sh := [(0, 8, [some 48, some 51, some 53]), (0, 9, [none, none, none, some 49, some 50]), (1, 7, []), (1, 7, []), (0, 4, [none, some 52]), (1, 7, []), (0, 5, [none, some 54, some 55, some 56, some 57]), (1, 10, []), (1, 10, []), (1, 10, []), (2, 10, [])]
theorem bT_47 (g : GC) : bkX8 g 47 = layA g Wz 47 sT_47 := rfl
def sT_58 : List Sh := [(0, 8, [some 59, some 62, some 64]), (0, 9, [none, none, none, some 60, some 61]), (1, 7, []), (1, 7, []), (0, 4, [none, some 63]), (1, 7, []), (0, 5, [none, some 65, some 66, some 67, some 68]), (1, 10, []), (1, 10, []), (1, 10, []), (2, 10, [])]
theorem bT_58 (g : GC) : bkX8 g 58 = layA g Wz 58 sT_58 := rfl
def sT_69 : List Sh := [(0, 8, [some 70, some 73, some 75]), (0, 9, [none, none, none, some 71, some 72]), (1, 7, []), (1, 7, []), (0, 4, [none, some 74]), (1, 7, []), (0, 5, [none, some 76, some 77, some 78, some 79]), (1, 10, []), (1, 10, []), (1, 10, []), (2, 10, [])]
theorem bT_69 (g : GC) : bkX8 g 69 = layA g Wz 69 sT_69 := rfl
def sT_80 : List Sh := [(0, 8, [some 81, some 84, some 86]), (0, 9, [none, none, none, some 82, some 83]), (1, 7, []), (1, 7, []), (0, 4, [none, some 85]), (1, 7, []), (0, 5, [none, some 87, some 88, some 89, some 90]), (1, 10, []), (1, 10, []), (1, 10, []), (2, 10, [])]
theorem bT_80 (g : GC) : bkX8 g 80 = layA g Wz 80 sT_80 := rfl
def sT_91 : List Sh := [(0, 8, [some 92, some 95, some 97]), (0, 9, [none, none, none, some 93, some 94]), (1, 7, []), (1, 7, []), (0, 4, [none, some 96]), (1, 7, []), (0, 5, [none, some 98, some 99, some 100, some 101]), (1, 10, []), (1, 10, []), (1, 10, []), (2, 10, [])]
theorem bT_91 (g : GC) : bkX8 g 91 = layA g Wz 91 sT_91 := rfl
def sT_102 : List Sh := [(0, 8, [some 103, some 106, some 108]), (0, 9, [none, none, none, some 104, some 105]), (1, 7, []), (1, 7, []), (0, 4, [none, some 107]), (1, 7, []), (0, 5, [none, some 109, some 110, some 111, some 112]), (1, 10, []), (1, 10, []), (1, 10, []), (2, 10, [])]
theorem bT_102 (g : GC) : bkX8 g 102 = layA g Wz 102 sT_102 := rfl
def sT_113 : List Sh := [(0, 8, [some 114, some 117, some 119]), (0, 9, [none, none, none, some 115, some 116]), (1, 7, []), (1, 7, []), (0, 4, [none, some 118]), (1, 7, []), (0, 5, [none, some 120, some 121, some 122, some 123]), (1, 10, []), (1, 10, []), (1, 10, []), (2, 10, [])]
theorem bT_113 (g : GC) : bkX8 g 113 = layA g Wz 113 sT_113 := rfl
def sT_34 : List Sh := [(0, 3, [some 35, none, none]), (6, 8, [some 36, some 47, some 58, some 69, some 80, some 91, some 102, some 113])] ++ (sT_36 ++ (sT_47 ++ (sT_58 ++ (sT_69 ++ (sT_80 ++ (sT_91 ++ (sT_102 ++ (sT_113))))))))
theorem bT_34 (g : GC) : bkX3 g 34 = layA g Wz 34 sT_34 := by
  show (.inr (3, [.ref (g.2.1 + 35), .int 0, .int 0]) : va_E) :: hrow g 34 8 :: (((((((([] ++ bkX8 g 36) ++ bkX8 g 47) ++ bkX8 g 58) ++ bkX8 g 69) ++ bkX8 g 80) ++ bkX8 g 91) ++ bkX8 g 102) ++ bkX8 g 113) = _
  rw [hrf_end, bT_36, bT_47, bT_58, bT_69, bT_80, bT_91, bT_102, bT_113]
  unfold sT_34
  rw [layA_app, layA_app, layA_app, layA_app, layA_app, layA_app, layA_app, layA_app]
  simp only [List.nil_append, List.append_assoc]
  rfl
def sT_124 : List Sh := [(0, 1, [some 125, some 126, some 127]), (1, 49, []), (1, 7, []), (1, 7, [])]
theorem bT_124 (g : GC) : bkX1 g 124 = layA g Wz 124 sT_124 := rfl
def sT_128 : List Sh := [(0, 2, [some 129, some 131]), (0, 4, [none, some 130]), (1, 7, []), (1, 7, [])]
theorem bT_128 (g : GC) : bkX2 g 128 = layA g Wz 128 sT_128 := rfl
def sT_132 : List Sh := [(0, 6, [some 133, none]), (3, 60, [])]
theorem bT_132 (g : GC) : bkX6 g 60 132 = layA g Wz 132 sT_132 := rfl
def sT_134 : List Sh := [(0, 6, [some 135, none]), (3, 14, [])]
theorem bT_134 (g : GC) : bkX6 g 14 134 = layA g Wz 134 sT_134 := rfl
def sT_136 : List Sh := [(0, 7, [some 137, none, none, none]), (1, 8, [])]
theorem bT_136 (g : GC) : bkX7 g 136 = layA g Wz 136 sT_136 := rfl
def sT_138 : List Sh := [(0, 0, [some 139, some 140, none, none, none, none]), (1, 60, []), (1, 180, [])]
theorem bT_138 (g : GC) : bkX0 g 138 = layA g Wz 138 sT_138 := rfl
def sT_0 : List Sh := [(0, 10, [some 1, some 12, some 23, some 34, some 124, some 128, some 132, some 134, some 136, some 138, none, none, none, none, none])] ++ (sT_1 ++ (sT_12 ++ (sT_23 ++ (sT_34 ++ (sT_124 ++ (sT_128 ++ (sT_132 ++ (sT_134 ++ (sT_136 ++ (sT_138))))))))))
theorem bT_0 (g : GC) : bkX10 g 0 = layA g Wz 0 sT_0 := by
  show layE g Wz 0 (0, 10, [some 1, some 12, some 23, some 34, some 124, some 128, some 132, some 134, some 136, some 138, none, none, none, none, none]) :: (((((((((([] ++ bkX8 g 1) ++ bkX8 g 12) ++ bkX8 g 23) ++ bkX3 g 34) ++ bkX1 g 124) ++ bkX2 g 128) ++ bkX6 g 60 132) ++ bkX6 g 14 134) ++ bkX7 g 136) ++ bkX0 g 138) = _
  rw [bT_1, bT_12, bT_23, bT_34, bT_124, bT_128, bT_132, bT_134, bT_136, bT_138]
  unfold sT_0
  rw [layA_app, layA_app, layA_app, layA_app, layA_app, layA_app, layA_app, layA_app, layA_app, layA_app]
  simp only [List.nil_append, List.append_assoc]
  rfl
theorem TT_sT : TT = sT_0 ++ [(4, 70, [])] := by decide +kernel
theorem CC_eq (g : GC) : CC g = layA g Wz 0 TT := by
  unfold CC
  have e1 : 0 + sT_0.length = 141 := by decide +kernel
  rw [TT_sT, layA_app, bT_0, e1]
  rfl
theorem CC_ok (g : GC) : ∀ (k : Nat) (q : Sh), TT[k]? = some q → (CC g)[k]? = some (layE g Wz k q) := by
  intro k q hk
  rw [CC_eq, layA_get, hk, Nat.zero_add]
  rfl
