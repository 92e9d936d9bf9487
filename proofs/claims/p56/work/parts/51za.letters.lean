/-! what was kept: faults, denials; undo, snapshots; the text buffer -/
theorem ch_nar {c : Nat} (h : c < 65536) : vp_nar .char (zI c) = zI c := by
  show (zI c).toUInt32.toUInt16.toUInt32.toInt32 = zI c
  have e1 : (zI c).toUInt32 = UInt32.ofNat c := rfl
  have e2 : (UInt32.ofNat c).toUInt16.toUInt32 = UInt32.ofNat c := by
    apply UInt32.toNat_inj.mp
    rw [UInt16.toNat_toUInt32, UInt32.toNat_toUInt16, UInt32.toNat_ofNat_of_lt' (by show c < 4294967296; omega)]
    exact Nat.mod_eq_of_lt h
  rw [e1, e2]
  rfl
def chN (x : Int32) : Nat := x.toUInt32.toNat % 65536
theorem chN_lt (x : Int32) : chN x < 65536 := Nat.mod_lt _ (by omega)
theorem ch_i2c (x : Int32) : ((Int32.toUInt32 x) % 65536).toInt32 = zI (chN x) := by
  have e : (Int32.toUInt32 x) % 65536 = UInt32.ofNat (chN x) := by
    apply UInt32.toNat_inj.mp
    rw [UInt32.toNat_mod, UInt32.toNat_ofNat_of_lt' (by have := chN_lt x; show chN x < 4294967296; omega)]
    rfl
  rw [e]
  rfl
theorem chN_zI {c : Nat} (h : c < 65536) : chN (zI c) = c := by
  unfold chN
  have e1 : (zI c).toUInt32 = UInt32.ofNat c := rfl
  rw [e1, UInt32.toNat_ofNat_of_lt' (by show c < 4294967296; omega)]
  exact Nat.mod_eq_of_lt h
theorem chN_pos (x : Int32) : ¬ (((Int32.toUInt32 x) % 65536).toInt32 < 0) := by
  rw [ch_i2c, zl_0, zI_lt (by have := chN_lt x; omega) (by omega)]
  omega
/-! undo, snapshots -/
/-! the text buffer -/
theorem row132 : rowN 132 = 60 := by decide +kernel
theorem row134 : rowN 134 = 14 := by decide +kernel