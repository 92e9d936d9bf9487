/-! The numbers of the store, counted; what a walk changes -/
def zI (n : Nat) : Int32 := Int32.ofNat n
def zM : Int32 := -1
theorem zI_nat {a : Nat} (ha : a < 2147483648) : (zI a).toNatClampNeg = a := Int32.toNatClampNeg_ofNat_of_lt ha
theorem zI_lt {a b : Nat} (ha : a < 2147483648) (hb : b < 2147483648) : (zI a < zI b) = (a < b) := propext (Int32.ofNat_lt_iff_lt ha hb)
theorem zI_le {a b : Nat} (ha : a < 2147483648) (hb : b < 2147483648) : (zI a ≤ zI b) = (a ≤ b) := propext (Int32.ofNat_le_iff_le ha hb)
theorem zI_inj {a b : Nat} (ha : a < 2147483648) (hb : b < 2147483648) : (zI a = zI b) = (a = b) := propext ⟨fun h => by
  have h2 := congrArg Int32.toNatClampNeg h
  rwa [zI_nat ha, zI_nat hb] at h2, fun h => h ▸ rfl⟩
theorem zI_add (a b : Nat) : zI a + zI b = zI (a + b) := (Int32.ofNat_add a b).symm
theorem zI_mul (a b : Nat) : zI a * zI b = zI (a * b) := (Int32.ofNat_mul a b).symm
theorem zI_sub {a b : Nat} (h : b ≤ a) : zI a - zI b = zI (a - b) := (Int32.ofNat_sub a b h).symm
theorem zI_div {a b : Nat} (ha : a < 2147483648) (hb : b < 2147483648) : zI a / zI b = zI (a / b) := (Int32.ofNat_div ha hb).symm
theorem zI_toInt {a : Nat} (ha : a < 2147483648) : (zI a).toInt = a := Int32.toInt_ofNat_of_lt ha
theorem zm1 : -(zI 1) = zM := (rfl)
theorem zM_toInt : zM.toInt = -1 := rfl
theorem zI_zM {a : Nat} (ha : a < 2147483648) : (zI a = zM) = False := by
  apply propext
  constructor
  · intro h
    have h2 := congrArg Int32.toInt h
    rw [zI_toInt ha, zM_toInt] at h2
    omega
  · intro h; cases h
theorem zM_zI {a : Nat} (ha : a < 2147483648) : (zM = zI a) = False := by
  rw [← zI_zM ha]; exact propext eq_comm
theorem zM_add (a : Nat) : zM + zI (a + 1) = zI a := by
  rw [← zI_add, Int32.add_comm, Int32.add_assoc]
  show zI a + (zI 1 + zM) = zI a
  rw [show zI 1 + zM = 0 by decide, Int32.add_zero]
theorem zI_addM {a : Nat} (h : 1 ≤ a) : zI a + zM = zI (a - 1) := by
  obtain ⟨b, rfl⟩ : ∃ b, a = b + 1 := ⟨a - 1, by omega⟩
  rw [Int32.add_comm, zM_add, Nat.add_sub_cancel]
theorem z0_addM : zI 0 + zM = zM := by decide
theorem z0_sub1 : zI 0 - zI 1 = zM := by decide
theorem zM_lt {a : Nat} (ha : a < 2147483648) : (zM < zI a) = True := by
  apply propext
  rw [Int32.lt_iff_toInt_lt, zI_toInt ha, zM_toInt]
  exact ⟨fun _ => trivial, fun _ => by omega⟩
theorem lt_zM {a : Nat} (ha : a < 2147483648) : (zI a < zM) = False := by
  apply propext
  rw [Int32.lt_iff_toInt_lt, zI_toInt ha, zM_toInt]
  constructor
  · intro h; omega
  · intro h; cases h
theorem zM_le {a : Nat} (ha : a < 2147483648) : (zM ≤ zI a) = True := by
  apply propext
  rw [Int32.le_iff_toInt_le, zI_toInt ha, zM_toInt]
  exact ⟨fun _ => trivial, fun _ => by omega⟩
theorem le_zM {a : Nat} (ha : a < 2147483648) : (zI a ≤ zM) = False := by
  apply propext
  rw [Int32.le_iff_toInt_le, zI_toInt ha, zM_toInt]
  constructor
  · intro h; omega
  · intro h; cases h
theorem zM_leM : (zM ≤ zM) = True := by decide
theorem zM_ltM : (zM < zM) = False := by decide
/-- below a bound, or not -/
theorem zI_cases (x : Int32) : x < 0 ∨ ∃ a, a < 2147483648 ∧ x = zI a := by
  by_cases h : x < 0
  · exact Or.inl h
  · refine Or.inr ⟨x.toNatClampNeg, Int32.toNatClampNeg_lt x, ?_⟩
    exact (Int32.ofNat_toNatClampNeg x (Int32.not_lt.mp h)).symm
theorem zI_neg {x : Int32} (h : x < 0) {a : Nat} (ha : a < 2147483648) : ¬ (zI a ≤ x) ∧ ¬ (zI a = x) ∧ ¬ (x = zI a) ∧ x < zI a ∧ ¬ (zI a < x) ∧ x ≤ zI a := by
  rw [Int32.lt_iff_toInt_lt] at h
  have h0 : (0 : Int32).toInt = 0 := rfl
  rw [h0] at h
  refine ⟨fun q => ?_, fun q => ?_, fun q => ?_, ?_, fun q => ?_, ?_⟩
  · rw [Int32.le_iff_toInt_le, zI_toInt ha] at q; omega
  · rw [← q, zI_toInt ha] at h; omega
  · rw [q, zI_toInt ha] at h; omega
  · rw [Int32.lt_iff_toInt_lt, zI_toInt ha]; omega
  · rw [Int32.lt_iff_toInt_lt, zI_toInt ha] at q; omega
  · rw [Int32.le_iff_toInt_le, zI_toInt ha]; omega
theorem inB_z {a n : Nat} (ha : a < 2147483648) : inB (zI a) n = (a < n) := by
  apply propext
  show ¬ (zI a < zI 0 ∨ n ≤ (zI a).toNatClampNeg) ↔ a < n
  rw [zI_lt ha (by omega), zI_nat ha]
  omega
theorem wset_at (w : XW) (k j : Nat) (v : Int32) (a c : Nat) : (wset w k j v).1 a c = if a = k ∧ c = j then v else w.1 a c := (rfl)
theorem wset_hit (w : XW) (k j : Nat) (v : Int32) : (wset w k j v).1 k j = v := by rw [wset_at, if_pos ⟨rfl, rfl⟩]
theorem wset_2 (w : XW) (k j : Nat) (v : Int32) : (wset w k j v).2 = w.2 := (rfl)
theorem bI_s {ρ : Type} (a : Int32) (w : XW) (K : Int32 → XW → Option ρ) : bI (some (a, w)) K = K a w := (rfl)
theorem bV_s {ρ : Type} (w : XW) (K : XW → Option ρ) : bV (some w) K = K w := (rfl)
theorem bD_s {ρ : Type} (a : UInt64) (w : XW) (K : UInt64 → XW → Option ρ) : bD (some (a, w)) K = K a w := (rfl)
theorem bF_s {ρ : Type} (a : UInt32) (w : XW) (K : UInt32 → XW → Option ρ) : bF (some (a, w)) K = K a w := (rfl)
theorem bS_s {ρ : Type} (a : Nat) (w : XW) (K : Nat → XW → Option ρ) : bS (some (a, w)) K = K a w := (rfl)
theorem bIX_s {β : Type} (a : Int32) (w : XW) (K : Int32 → XW → Option (β ⊕ (String × XW))) : bIX (some (.inl (a, w))) K = K a w := (rfl)
theorem bIX_x {β : Type} (x : String × XW) (K : Int32 → XW → Option (β ⊕ (String × XW))) : bIX (some (.inr x)) K = some (.inr x) := (rfl)
theorem bVX_s {β : Type} (w : XW) (K : XW → Option (β ⊕ (String × XW))) : bVX (some (.inl w)) K = K w := (rfl)
theorem bVX_x {β : Type} (x : String × XW) (K : XW → Option (β ⊕ (String × XW))) : bVX (some (.inr x)) K = some (.inr x) := (rfl)
/-- what may have changed: the cells of P alone -/
def Fr (P : Nat → Prop) (w w' : XW) : Prop := (∀ a, ¬ P a → w'.1 a = w.1 a) ∧ w'.2 = w.2
theorem Fr.rf {P : Nat → Prop} {w : XW} : Fr P w w := ⟨fun _ _ => rfl, rfl⟩
theorem Fr.tr {P : Nat → Prop} {w w1 w2 : XW} (h : Fr P w w1) (k : Fr P w1 w2) : Fr P w w2 := ⟨fun a q => (k.1 a q).trans (h.1 a q), k.2.trans h.2⟩
theorem Fr.wk {P Q : Nat → Prop} {w w' : XW} (h : Fr P w w') (q : ∀ a, P a → Q a) : Fr Q w w' := ⟨fun a k => h.1 a (fun z => k (q a z)), h.2⟩
theorem Fr.set {P : Nat → Prop} {w w' : XW} (h : Fr P w w') {k : Nat} (hk : P k) (j : Nat) (v : Int32) : Fr P w (wset w' k j v) := ⟨fun a q => by
  funext c
  rw [wset_at, if_neg (fun z : a = k ∧ c = j => q (z.1 ▸ hk)), h.1 a q], h.2⟩
theorem Fr.at {P : Nat → Prop} {w w' : XW} (h : Fr P w w') {a : Nat} (q : ¬ P a) (c : Nat) : w'.1 a c = w.1 a c := congrFun (h.1 a q) c
theorem nar0 : vp_nar .boolean 0 = 0 := by decide
theorem nar1 : vp_nar .boolean 1 = 1 := by decide
theorem nar0z : vp_nar .boolean (zI 0) = zI 0 := by decide
theorem nar1z : vp_nar .boolean (zI 1) = zI 1 := by decide
theorem zI_addneg {a b : Nat} (h : b ≤ a) : zI a + -(zI b) = zI (a - b) := by rw [← zI_sub h, Int32.sub_eq_add_neg]
theorem zl_0 : (0 : Int32) = zI 0 := (rfl)
theorem zl_1 : (1 : Int32) = zI 1 := (rfl)
theorem zl_2 : (2 : Int32) = zI 2 := (rfl)
theorem zl_3 : (3 : Int32) = zI 3 := (rfl)
theorem zl_4 : (4 : Int32) = zI 4 := (rfl)
theorem zl_5 : (5 : Int32) = zI 5 := (rfl)
theorem zl_6 : (6 : Int32) = zI 6 := (rfl)
theorem zl_7 : (7 : Int32) = zI 7 := (rfl)
theorem zl_8 : (8 : Int32) = zI 8 := (rfl)
theorem zl_9 : (9 : Int32) = zI 9 := (rfl)
theorem zl_10 : (10 : Int32) = zI 10 := (rfl)
theorem zl_11 : (11 : Int32) = zI 11 := (rfl)
theorem zl_12 : (12 : Int32) = zI 12 := (rfl)
theorem zl_13 : (13 : Int32) = zI 13 := (rfl)
theorem zl_14 : (14 : Int32) = zI 14 := (rfl)
theorem zl_15 : (15 : Int32) = zI 15 := (rfl)
theorem zl_16 : (16 : Int32) = zI 16 := (rfl)
theorem zl_17 : (17 : Int32) = zI 17 := (rfl)
theorem zl_18 : (18 : Int32) = zI 18 := (rfl)
theorem zl_19 : (19 : Int32) = zI 19 := (rfl)
theorem zl_20 : (20 : Int32) = zI 20 := (rfl)
theorem zl_21 : (21 : Int32) = zI 21 := (rfl)
theorem zl_22 : (22 : Int32) = zI 22 := (rfl)
theorem zl_23 : (23 : Int32) = zI 23 := (rfl)
theorem zl_24 : (24 : Int32) = zI 24 := (rfl)
theorem zl_25 : (25 : Int32) = zI 25 := (rfl)
theorem zl_26 : (26 : Int32) = zI 26 := (rfl)
theorem zl_27 : (27 : Int32) = zI 27 := (rfl)
theorem zl_28 : (28 : Int32) = zI 28 := (rfl)
theorem zl_29 : (29 : Int32) = zI 29 := (rfl)
theorem zl_30 : (30 : Int32) = zI 30 := (rfl)
theorem zl_31 : (31 : Int32) = zI 31 := (rfl)
theorem zl_32 : (32 : Int32) = zI 32 := (rfl)
theorem zl_33 : (33 : Int32) = zI 33 := (rfl)
theorem zl_34 : (34 : Int32) = zI 34 := (rfl)
theorem zl_35 : (35 : Int32) = zI 35 := (rfl)
theorem zl_36 : (36 : Int32) = zI 36 := (rfl)
theorem zl_37 : (37 : Int32) = zI 37 := (rfl)
theorem zl_38 : (38 : Int32) = zI 38 := (rfl)
theorem zl_39 : (39 : Int32) = zI 39 := (rfl)
theorem zl_40 : (40 : Int32) = zI 40 := (rfl)
theorem zl_41 : (41 : Int32) = zI 41 := (rfl)
theorem zl_42 : (42 : Int32) = zI 42 := (rfl)
theorem zl_43 : (43 : Int32) = zI 43 := (rfl)
theorem zl_44 : (44 : Int32) = zI 44 := (rfl)
theorem zl_45 : (45 : Int32) = zI 45 := (rfl)
theorem zl_46 : (46 : Int32) = zI 46 := (rfl)
theorem zl_47 : (47 : Int32) = zI 47 := (rfl)
theorem zl_48 : (48 : Int32) = zI 48 := (rfl)
theorem zl_49 : (49 : Int32) = zI 49 := (rfl)
theorem zl_50 : (50 : Int32) = zI 50 := (rfl)
theorem zl_51 : (51 : Int32) = zI 51 := (rfl)
theorem zl_52 : (52 : Int32) = zI 52 := (rfl)
theorem zl_53 : (53 : Int32) = zI 53 := (rfl)
theorem zl_54 : (54 : Int32) = zI 54 := (rfl)
theorem zl_55 : (55 : Int32) = zI 55 := (rfl)
theorem zl_56 : (56 : Int32) = zI 56 := (rfl)
theorem zl_57 : (57 : Int32) = zI 57 := (rfl)
theorem zl_58 : (58 : Int32) = zI 58 := (rfl)
theorem zl_59 : (59 : Int32) = zI 59 := (rfl)
theorem zl_60 : (60 : Int32) = zI 60 := (rfl)
theorem zl_61 : (61 : Int32) = zI 61 := (rfl)
theorem zl_62 : (62 : Int32) = zI 62 := (rfl)
theorem zl_63 : (63 : Int32) = zI 63 := (rfl)
theorem zl_64 : (64 : Int32) = zI 64 := (rfl)
theorem zl_65 : (65 : Int32) = zI 65 := (rfl)
theorem zl_66 : (66 : Int32) = zI 66 := (rfl)
theorem zl_67 : (67 : Int32) = zI 67 := (rfl)
theorem zl_68 : (68 : Int32) = zI 68 := (rfl)
theorem zl_69 : (69 : Int32) = zI 69 := (rfl)
theorem zl_70 : (70 : Int32) = zI 70 := (rfl)
theorem zl_71 : (71 : Int32) = zI 71 := (rfl)
theorem zl_72 : (72 : Int32) = zI 72 := (rfl)
theorem zl_73 : (73 : Int32) = zI 73 := (rfl)
theorem zl_74 : (74 : Int32) = zI 74 := (rfl)
theorem zl_75 : (75 : Int32) = zI 75 := (rfl)
theorem zl_76 : (76 : Int32) = zI 76 := (rfl)
theorem zl_77 : (77 : Int32) = zI 77 := (rfl)
theorem zl_78 : (78 : Int32) = zI 78 := (rfl)
theorem zl_79 : (79 : Int32) = zI 79 := (rfl)
theorem zl_80 : (80 : Int32) = zI 80 := (rfl)
theorem zl_81 : (81 : Int32) = zI 81 := (rfl)
theorem zl_82 : (82 : Int32) = zI 82 := (rfl)
theorem zl_83 : (83 : Int32) = zI 83 := (rfl)
theorem zl_84 : (84 : Int32) = zI 84 := (rfl)
theorem zl_85 : (85 : Int32) = zI 85 := (rfl)
theorem zl_86 : (86 : Int32) = zI 86 := (rfl)
theorem zl_87 : (87 : Int32) = zI 87 := (rfl)
theorem zl_88 : (88 : Int32) = zI 88 := (rfl)
theorem zl_89 : (89 : Int32) = zI 89 := (rfl)
theorem zl_90 : (90 : Int32) = zI 90 := (rfl)
theorem zl_91 : (91 : Int32) = zI 91 := (rfl)
theorem zl_92 : (92 : Int32) = zI 92 := (rfl)
theorem zl_93 : (93 : Int32) = zI 93 := (rfl)
theorem zl_94 : (94 : Int32) = zI 94 := (rfl)
theorem zl_95 : (95 : Int32) = zI 95 := (rfl)
theorem zl_96 : (96 : Int32) = zI 96 := (rfl)
theorem zl_97 : (97 : Int32) = zI 97 := (rfl)
theorem zl_98 : (98 : Int32) = zI 98 := (rfl)
theorem zl_99 : (99 : Int32) = zI 99 := (rfl)
theorem zl_100 : (100 : Int32) = zI 100 := (rfl)
theorem zl_101 : (101 : Int32) = zI 101 := (rfl)
theorem zl_102 : (102 : Int32) = zI 102 := (rfl)
theorem zl_103 : (103 : Int32) = zI 103 := (rfl)
theorem zl_104 : (104 : Int32) = zI 104 := (rfl)
theorem zl_105 : (105 : Int32) = zI 105 := (rfl)
theorem zl_106 : (106 : Int32) = zI 106 := (rfl)
theorem zl_107 : (107 : Int32) = zI 107 := (rfl)
theorem zl_108 : (108 : Int32) = zI 108 := (rfl)
theorem zl_109 : (109 : Int32) = zI 109 := (rfl)
theorem zl_110 : (110 : Int32) = zI 110 := (rfl)
theorem zl_111 : (111 : Int32) = zI 111 := (rfl)
theorem zl_112 : (112 : Int32) = zI 112 := (rfl)
theorem zl_113 : (113 : Int32) = zI 113 := (rfl)
theorem zl_114 : (114 : Int32) = zI 114 := (rfl)
theorem zl_115 : (115 : Int32) = zI 115 := (rfl)
theorem zl_116 : (116 : Int32) = zI 116 := (rfl)
theorem zl_117 : (117 : Int32) = zI 117 := (rfl)
theorem zl_118 : (118 : Int32) = zI 118 := (rfl)
theorem zl_119 : (119 : Int32) = zI 119 := (rfl)
theorem zl_120 : (120 : Int32) = zI 120 := (rfl)
theorem zl_121 : (121 : Int32) = zI 121 := (rfl)
theorem zl_122 : (122 : Int32) = zI 122 := (rfl)
theorem zl_123 : (123 : Int32) = zI 123 := (rfl)
theorem zl_124 : (124 : Int32) = zI 124 := (rfl)
theorem zl_125 : (125 : Int32) = zI 125 := (rfl)
theorem zl_126 : (126 : Int32) = zI 126 := (rfl)
theorem zl_127 : (127 : Int32) = zI 127 := (rfl)
theorem zl_128 : (128 : Int32) = zI 128 := (rfl)
theorem zl_180 : (180 : Int32) = zI 180 := (rfl)
theorem zl_200 : (200 : Int32) = zI 200 := (rfl)
theorem zl_240 : (240 : Int32) = zI 240 := (rfl)
theorem zl_462 : (462 : Int32) = zI 462 := (rfl)
theorem zl_528 : (528 : Int32) = zI 528 := (rfl)
theorem fr1 {k : Nat} {w : XW} (j : Nat) (v : Int32) : Fr (fun a => a = k) w (wset w k j v) := (Fr.rf (P := fun a => a = k)).set (k := k) rfl j v
