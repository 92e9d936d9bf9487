/-! commands, executed one after another -/
theorem does_0 {j : Nat} {m : XW} (hj : j ≤ 16) (h : m.1 147 (4 * j) = zI 97) : f_X11_does (zI j) m = f_X11_adds m := by
  unfold f_X11_does
  have i0 : (4 : Int32) * zI j = zI (4 * j) := by rw [zl_4, zI_mul]
  simp only [i0]
  have i1 : zI (4 * j) + 1 = zI (4 * j + 1) := by rw [zl_1, zI_add]
  have i2 : zI (4 * j) + 2 = zI (4 * j + 2) := by rw [zl_2, zI_add]
  have i3 : zI (4 * j) + 3 = zI (4 * j + 3) := by rw [zl_3, zI_add]
  simp only [i1, i2, i3]
  rw [if_pos (show inB (zI (4 * j + 1)) 240 by rw [inB_z (by omega)]; omega), if_pos (show inB (zI (4 * j + 2)) 240 by rw [inB_z (by omega)]; omega), if_pos (show inB (zI (4 * j + 3)) 240 by rw [inB_z (by omega)]; omega), if_pos (show inB (zI (4 * j)) 240 by rw [inB_z (by omega)]; omega), zI_nat (show 4 * j < 2147483648 by omega), zI_nat (show 4 * j + 1 < 2147483648 by omega), zI_nat (show 4 * j + 2 < 2147483648 by omega), zI_nat (show 4 * j + 3 < 2147483648 by omega), h]
  rw [if_pos (by decide), bI_id]
theorem does_1 {j : Nat} {m : XW} (hj : j ≤ 16) (h : m.1 147 (4 * j) = zI 112) : f_X11_does (zI j) m = f_X11_pours (m.1 147 (4 * j + 1)) (m.1 147 (4 * j + 3)) m := by
  unfold f_X11_does
  have i0 : (4 : Int32) * zI j = zI (4 * j) := by rw [zl_4, zI_mul]
  simp only [i0]
  have i1 : zI (4 * j) + 1 = zI (4 * j + 1) := by rw [zl_1, zI_add]
  have i2 : zI (4 * j) + 2 = zI (4 * j + 2) := by rw [zl_2, zI_add]
  have i3 : zI (4 * j) + 3 = zI (4 * j + 3) := by rw [zl_3, zI_add]
  simp only [i1, i2, i3]
  rw [if_pos (show inB (zI (4 * j + 1)) 240 by rw [inB_z (by omega)]; omega), if_pos (show inB (zI (4 * j + 2)) 240 by rw [inB_z (by omega)]; omega), if_pos (show inB (zI (4 * j + 3)) 240 by rw [inB_z (by omega)]; omega), if_pos (show inB (zI (4 * j)) 240 by rw [inB_z (by omega)]; omega), zI_nat (show 4 * j < 2147483648 by omega), zI_nat (show 4 * j + 1 < 2147483648 by omega), zI_nat (show 4 * j + 2 < 2147483648 by omega), zI_nat (show 4 * j + 3 < 2147483648 by omega), h]
  rw [if_neg (by decide), if_neg (by decide), if_neg (by decide), if_neg (by decide), if_neg (by decide), if_neg (by decide), if_neg (by decide), if_neg (by decide), if_neg (by decide), if_neg (by decide), if_neg (by decide), if_neg (by decide), if_neg (by decide), if_neg (by decide), if_neg (by decide), if_pos (by decide), bI_id]
theorem does_2 {j : Nat} {m : XW} (hj : j ≤ 16) (h : m.1 147 (4 * j) = zI 116) : f_X11_does (zI j) m = f_X11_tags (m.1 147 (4 * j + 1)) (m.1 147 (4 * j + 2)) 1 m := by
  unfold f_X11_does
  have i0 : (4 : Int32) * zI j = zI (4 * j) := by rw [zl_4, zI_mul]
  simp only [i0]
  have i1 : zI (4 * j) + 1 = zI (4 * j + 1) := by rw [zl_1, zI_add]
  have i2 : zI (4 * j) + 2 = zI (4 * j + 2) := by rw [zl_2, zI_add]
  have i3 : zI (4 * j) + 3 = zI (4 * j + 3) := by rw [zl_3, zI_add]
  simp only [i1, i2, i3]
  rw [if_pos (show inB (zI (4 * j + 1)) 240 by rw [inB_z (by omega)]; omega), if_pos (show inB (zI (4 * j + 2)) 240 by rw [inB_z (by omega)]; omega), if_pos (show inB (zI (4 * j + 3)) 240 by rw [inB_z (by omega)]; omega), if_pos (show inB (zI (4 * j)) 240 by rw [inB_z (by omega)]; omega), zI_nat (show 4 * j < 2147483648 by omega), zI_nat (show 4 * j + 1 < 2147483648 by omega), zI_nat (show 4 * j + 2 < 2147483648 by omega), zI_nat (show 4 * j + 3 < 2147483648 by omega), h]
  rw [if_neg (by decide), if_neg (by decide), if_neg (by decide), if_neg (by decide), if_neg (by decide), if_neg (by decide), if_neg (by decide), if_neg (by decide), if_neg (by decide), if_neg (by decide), if_neg (by decide), if_neg (by decide), if_neg (by decide), if_neg (by decide), if_neg (by decide), if_neg (by decide), if_neg (by decide), if_neg (by decide), if_neg (by decide), if_pos (by decide), bI_id]
theorem does_3 {j : Nat} {m : XW} (hj : j ≤ 16) (h : m.1 147 (4 * j) = zI 117) : f_X11_does (zI j) m = f_X11_tags (m.1 147 (4 * j + 1)) (m.1 147 (4 * j + 2)) 0 m := by
  unfold f_X11_does
  have i0 : (4 : Int32) * zI j = zI (4 * j) := by rw [zl_4, zI_mul]
  simp only [i0]
  have i1 : zI (4 * j) + 1 = zI (4 * j + 1) := by rw [zl_1, zI_add]
  have i2 : zI (4 * j) + 2 = zI (4 * j + 2) := by rw [zl_2, zI_add]
  have i3 : zI (4 * j) + 3 = zI (4 * j + 3) := by rw [zl_3, zI_add]
  simp only [i1, i2, i3]
  rw [if_pos (show inB (zI (4 * j + 1)) 240 by rw [inB_z (by omega)]; omega), if_pos (show inB (zI (4 * j + 2)) 240 by rw [inB_z (by omega)]; omega), if_pos (show inB (zI (4 * j + 3)) 240 by rw [inB_z (by omega)]; omega), if_pos (show inB (zI (4 * j)) 240 by rw [inB_z (by omega)]; omega), zI_nat (show 4 * j < 2147483648 by omega), zI_nat (show 4 * j + 1 < 2147483648 by omega), zI_nat (show 4 * j + 2 < 2147483648 by omega), zI_nat (show 4 * j + 3 < 2147483648 by omega), h]
  rw [if_neg (by decide), if_neg (by decide), if_neg (by decide), if_neg (by decide), if_neg (by decide), if_neg (by decide), if_neg (by decide), if_neg (by decide), if_neg (by decide), if_neg (by decide), if_neg (by decide), if_neg (by decide), if_neg (by decide), if_neg (by decide), if_neg (by decide), if_neg (by decide), if_neg (by decide), if_neg (by decide), if_neg (by decide), if_neg (by decide), if_pos (by decide), bI_id]
theorem does_4 {j : Nat} {m : XW} (hj : j ≤ 16) (h : m.1 147 (4 * j) = zI 102) : f_X11_does (zI j) m = f_X11_folds (m.1 147 (4 * j + 1)) m := by
  unfold f_X11_does
  have i0 : (4 : Int32) * zI j = zI (4 * j) := by rw [zl_4, zI_mul]
  simp only [i0]
  have i1 : zI (4 * j) + 1 = zI (4 * j + 1) := by rw [zl_1, zI_add]
  have i2 : zI (4 * j) + 2 = zI (4 * j + 2) := by rw [zl_2, zI_add]
  have i3 : zI (4 * j) + 3 = zI (4 * j + 3) := by rw [zl_3, zI_add]
  simp only [i1, i2, i3]
  rw [if_pos (show inB (zI (4 * j + 1)) 240 by rw [inB_z (by omega)]; omega), if_pos (show inB (zI (4 * j + 2)) 240 by rw [inB_z (by omega)]; omega), if_pos (show inB (zI (4 * j + 3)) 240 by rw [inB_z (by omega)]; omega), if_pos (show inB (zI (4 * j)) 240 by rw [inB_z (by omega)]; omega), zI_nat (show 4 * j < 2147483648 by omega), zI_nat (show 4 * j + 1 < 2147483648 by omega), zI_nat (show 4 * j + 2 < 2147483648 by omega), zI_nat (show 4 * j + 3 < 2147483648 by omega), h]
  rw [if_neg (by decide), if_neg (by decide), if_neg (by decide), if_neg (by decide), if_neg (by decide), if_pos (by decide), bI_id]
theorem does_5 {j : Nat} {m : XW} (hj : j ≤ 16) (h : m.1 147 (4 * j) = zI 111) : f_X11_does (zI j) m = f_X11_opens m := by
  unfold f_X11_does
  have i0 : (4 : Int32) * zI j = zI (4 * j) := by rw [zl_4, zI_mul]
  simp only [i0]
  have i1 : zI (4 * j) + 1 = zI (4 * j + 1) := by rw [zl_1, zI_add]
  have i2 : zI (4 * j) + 2 = zI (4 * j + 2) := by rw [zl_2, zI_add]
  have i3 : zI (4 * j) + 3 = zI (4 * j + 3) := by rw [zl_3, zI_add]
  simp only [i1, i2, i3]
  rw [if_pos (show inB (zI (4 * j + 1)) 240 by rw [inB_z (by omega)]; omega), if_pos (show inB (zI (4 * j + 2)) 240 by rw [inB_z (by omega)]; omega), if_pos (show inB (zI (4 * j + 3)) 240 by rw [inB_z (by omega)]; omega), if_pos (show inB (zI (4 * j)) 240 by rw [inB_z (by omega)]; omega), zI_nat (show 4 * j < 2147483648 by omega), zI_nat (show 4 * j + 1 < 2147483648 by omega), zI_nat (show 4 * j + 2 < 2147483648 by omega), zI_nat (show 4 * j + 3 < 2147483648 by omega), h]
  rw [if_neg (by decide), if_neg (by decide), if_neg (by decide), if_neg (by decide), if_neg (by decide), if_neg (by decide), if_neg (by decide), if_neg (by decide), if_neg (by decide), if_neg (by decide), if_neg (by decide), if_neg (by decide), if_neg (by decide), if_neg (by decide), if_pos (by decide), bI_id]
theorem does_6 {j : Nat} {m : XW} (hj : j ≤ 16) (h : m.1 147 (4 * j) = zI 105) : f_X11_does (zI j) m = f_X11_pipes (m.1 147 (4 * j + 1)) (m.1 147 (4 * j + 2)) (m.1 147 (4 * j + 3)) m := by
  unfold f_X11_does
  have i0 : (4 : Int32) * zI j = zI (4 * j) := by rw [zl_4, zI_mul]
  simp only [i0]
  have i1 : zI (4 * j) + 1 = zI (4 * j + 1) := by rw [zl_1, zI_add]
  have i2 : zI (4 * j) + 2 = zI (4 * j + 2) := by rw [zl_2, zI_add]
  have i3 : zI (4 * j) + 3 = zI (4 * j + 3) := by rw [zl_3, zI_add]
  simp only [i1, i2, i3]
  rw [if_pos (show inB (zI (4 * j + 1)) 240 by rw [inB_z (by omega)]; omega), if_pos (show inB (zI (4 * j + 2)) 240 by rw [inB_z (by omega)]; omega), if_pos (show inB (zI (4 * j + 3)) 240 by rw [inB_z (by omega)]; omega), if_pos (show inB (zI (4 * j)) 240 by rw [inB_z (by omega)]; omega), zI_nat (show 4 * j < 2147483648 by omega), zI_nat (show 4 * j + 1 < 2147483648 by omega), zI_nat (show 4 * j + 2 < 2147483648 by omega), zI_nat (show 4 * j + 3 < 2147483648 by omega), h]
  rw [if_neg (by decide), if_neg (by decide), if_neg (by decide), if_neg (by decide), if_neg (by decide), if_neg (by decide), if_neg (by decide), if_neg (by decide), if_pos (by decide), bI_id]
theorem does_7 {j : Nat} {m : XW} (hj : j ≤ 16) (h : m.1 147 (4 * j) = zI 99) : f_X11_does (zI j) m = f_X11_cuts (m.1 147 (4 * j + 1)) m := by
  unfold f_X11_does
  have i0 : (4 : Int32) * zI j = zI (4 * j) := by rw [zl_4, zI_mul]
  simp only [i0]
  have i1 : zI (4 * j) + 1 = zI (4 * j + 1) := by rw [zl_1, zI_add]
  have i2 : zI (4 * j) + 2 = zI (4 * j + 2) := by rw [zl_2, zI_add]
  have i3 : zI (4 * j) + 3 = zI (4 * j + 3) := by rw [zl_3, zI_add]
  simp only [i1, i2, i3]
  rw [if_pos (show inB (zI (4 * j + 1)) 240 by rw [inB_z (by omega)]; omega), if_pos (show inB (zI (4 * j + 2)) 240 by rw [inB_z (by omega)]; omega), if_pos (show inB (zI (4 * j + 3)) 240 by rw [inB_z (by omega)]; omega), if_pos (show inB (zI (4 * j)) 240 by rw [inB_z (by omega)]; omega), zI_nat (show 4 * j < 2147483648 by omega), zI_nat (show 4 * j + 1 < 2147483648 by omega), zI_nat (show 4 * j + 2 < 2147483648 by omega), zI_nat (show 4 * j + 3 < 2147483648 by omega), h]
  rw [if_neg (by decide), if_neg (by decide), if_pos (by decide), bI_id]
theorem does_8 {j : Nat} {m : XW} (hj : j ≤ 16) (h : m.1 147 (4 * j) = zI 98) : f_X11_does (zI j) m = f_X11_turns (m.1 147 (4 * j + 1)) 1 m := by
  unfold f_X11_does
  have i0 : (4 : Int32) * zI j = zI (4 * j) := by rw [zl_4, zI_mul]
  simp only [i0]
  have i1 : zI (4 * j) + 1 = zI (4 * j + 1) := by rw [zl_1, zI_add]
  have i2 : zI (4 * j) + 2 = zI (4 * j + 2) := by rw [zl_2, zI_add]
  have i3 : zI (4 * j) + 3 = zI (4 * j + 3) := by rw [zl_3, zI_add]
  simp only [i1, i2, i3]
  rw [if_pos (show inB (zI (4 * j + 1)) 240 by rw [inB_z (by omega)]; omega), if_pos (show inB (zI (4 * j + 2)) 240 by rw [inB_z (by omega)]; omega), if_pos (show inB (zI (4 * j + 3)) 240 by rw [inB_z (by omega)]; omega), if_pos (show inB (zI (4 * j)) 240 by rw [inB_z (by omega)]; omega), zI_nat (show 4 * j < 2147483648 by omega), zI_nat (show 4 * j + 1 < 2147483648 by omega), zI_nat (show 4 * j + 2 < 2147483648 by omega), zI_nat (show 4 * j + 3 < 2147483648 by omega), h]
  rw [if_neg (by decide), if_pos (by decide), bI_id]
theorem does_9 {j : Nat} {m : XW} (hj : j ≤ 16) (h : m.1 147 (4 * j) = zI 109) : f_X11_does (zI j) m = f_X11_turns (m.1 147 (4 * j + 1)) 0 m := by
  unfold f_X11_does
  have i0 : (4 : Int32) * zI j = zI (4 * j) := by rw [zl_4, zI_mul]
  simp only [i0]
  have i1 : zI (4 * j) + 1 = zI (4 * j + 1) := by rw [zl_1, zI_add]
  have i2 : zI (4 * j) + 2 = zI (4 * j + 2) := by rw [zl_2, zI_add]
  have i3 : zI (4 * j) + 3 = zI (4 * j + 3) := by rw [zl_3, zI_add]
  simp only [i1, i2, i3]
  rw [if_pos (show inB (zI (4 * j + 1)) 240 by rw [inB_z (by omega)]; omega), if_pos (show inB (zI (4 * j + 2)) 240 by rw [inB_z (by omega)]; omega), if_pos (show inB (zI (4 * j + 3)) 240 by rw [inB_z (by omega)]; omega), if_pos (show inB (zI (4 * j)) 240 by rw [inB_z (by omega)]; omega), zI_nat (show 4 * j < 2147483648 by omega), zI_nat (show 4 * j + 1 < 2147483648 by omega), zI_nat (show 4 * j + 2 < 2147483648 by omega), zI_nat (show 4 * j + 3 < 2147483648 by omega), h]
  rw [if_neg (by decide), if_neg (by decide), if_neg (by decide), if_neg (by decide), if_neg (by decide), if_neg (by decide), if_neg (by decide), if_neg (by decide), if_neg (by decide), if_neg (by decide), if_neg (by decide), if_neg (by decide), if_pos (by decide), bI_id]
theorem does_10 {j : Nat} {m : XW} (hj : j ≤ 16) (h : m.1 147 (4 * j) = zI 100) : f_X11_does (zI j) m = f_X11_drains m := by
  unfold f_X11_does
  have i0 : (4 : Int32) * zI j = zI (4 * j) := by rw [zl_4, zI_mul]
  simp only [i0]
  have i1 : zI (4 * j) + 1 = zI (4 * j + 1) := by rw [zl_1, zI_add]
  have i2 : zI (4 * j) + 2 = zI (4 * j + 2) := by rw [zl_2, zI_add]
  have i3 : zI (4 * j) + 3 = zI (4 * j + 3) := by rw [zl_3, zI_add]
  simp only [i1, i2, i3]
  rw [if_pos (show inB (zI (4 * j + 1)) 240 by rw [inB_z (by omega)]; omega), if_pos (show inB (zI (4 * j + 2)) 240 by rw [inB_z (by omega)]; omega), if_pos (show inB (zI (4 * j + 3)) 240 by rw [inB_z (by omega)]; omega), if_pos (show inB (zI (4 * j)) 240 by rw [inB_z (by omega)]; omega), zI_nat (show 4 * j < 2147483648 by omega), zI_nat (show 4 * j + 1 < 2147483648 by omega), zI_nat (show 4 * j + 2 < 2147483648 by omega), zI_nat (show 4 * j + 3 < 2147483648 by omega), h]
  rw [if_neg (by decide), if_neg (by decide), if_neg (by decide), if_pos (by decide), bI_id]
theorem does_11 {j : Nat} {m : XW} (hj : j ≤ 16) (h : m.1 147 (4 * j) = zI 115) : f_X11_does (zI j) m = f_X11_seeps m := by
  unfold f_X11_does
  have i0 : (4 : Int32) * zI j = zI (4 * j) := by rw [zl_4, zI_mul]
  simp only [i0]
  have i1 : zI (4 * j) + 1 = zI (4 * j + 1) := by rw [zl_1, zI_add]
  have i2 : zI (4 * j) + 2 = zI (4 * j + 2) := by rw [zl_2, zI_add]
  have i3 : zI (4 * j) + 3 = zI (4 * j + 3) := by rw [zl_3, zI_add]
  simp only [i1, i2, i3]
  rw [if_pos (show inB (zI (4 * j + 1)) 240 by rw [inB_z (by omega)]; omega), if_pos (show inB (zI (4 * j + 2)) 240 by rw [inB_z (by omega)]; omega), if_pos (show inB (zI (4 * j + 3)) 240 by rw [inB_z (by omega)]; omega), if_pos (show inB (zI (4 * j)) 240 by rw [inB_z (by omega)]; omega), zI_nat (show 4 * j < 2147483648 by omega), zI_nat (show 4 * j + 1 < 2147483648 by omega), zI_nat (show 4 * j + 2 < 2147483648 by omega), zI_nat (show 4 * j + 3 < 2147483648 by omega), h]
  rw [if_neg (by decide), if_neg (by decide), if_neg (by decide), if_neg (by decide), if_neg (by decide), if_neg (by decide), if_neg (by decide), if_neg (by decide), if_neg (by decide), if_neg (by decide), if_neg (by decide), if_neg (by decide), if_neg (by decide), if_neg (by decide), if_neg (by decide), if_neg (by decide), if_neg (by decide), if_neg (by decide), if_pos (by decide), bI_id]
def mopC (q : CM) : XW → Option (Int32 × XW) :=
  if q.1 = 0 then f_X11_adds else if q.1 = 1 then f_X11_pours (zI (gtL q.2 0)) (zI (gtL q.2 1)) else if q.1 = 2 then f_X11_tags (zI (gtL q.2 0)) (zI (gtL q.2 1)) 1 else if q.1 = 3 then f_X11_tags (zI (gtL q.2 0)) (zI (gtL q.2 1)) 0 else if q.1 = 4 then f_X11_folds (zI (gtL q.2 0)) else if q.1 = 5 then f_X11_opens else if q.1 = 6 then f_X11_pipes (zI (gtL q.2 0)) (zI (gtL q.2 1)) (zI (gtL q.2 2)) else if q.1 = 7 then f_X11_cuts (zI (gtL q.2 0)) else if q.1 = 8 then f_X11_turns (zI (gtL q.2 0)) 1 else if q.1 = 9 then f_X11_turns (zI (gtL q.2 0)) 0 else if q.1 = 10 then f_X11_drains else f_X11_seeps
theorem does_q {j : Nat} {m : XW} {q : CM} (hj : j ≤ 16) (hk : q.1 < 12) (M : MQc m.1 j q) : f_X11_does (zI j) m = mopC q m := by
  obtain ⟨k, os⟩ := q
  obtain ⟨m1, m2, m3, m4, m5⟩ := M
  have hk' : k = 0 ∨ k = 1 ∨ k = 2 ∨ k = 3 ∨ k = 4 ∨ k = 5 ∨ k = 6 ∨ k = 7 ∨ k = 8 ∨ k = 9 ∨ k = 10 ∨ k = 11 := by have : k < 12 := hk; omega
  rcases hk' with rfl | rfl | rfl | rfl | rfl | rfl | rfl | rfl | rfl | rfl | rfl | rfl
  · exact does_0 hj m1
  · rw [does_1 hj m1, (m2 rfl).1, (m2 rfl).2]; rfl
  · rw [does_2 hj m1, (m4 (Or.inl rfl)).1, (m4 (Or.inl rfl)).2]; rfl
  · rw [does_3 hj m1, (m4 (Or.inr rfl)).1, (m4 (Or.inr rfl)).2]; rfl
  · rw [does_4 hj m1, m5 (Or.inl rfl)]; rfl
  · exact does_5 hj m1
  · rw [does_6 hj m1, (m3 rfl).1, (m3 rfl).2.1, (m3 rfl).2.2]; rfl
  · rw [does_7 hj m1, m5 (Or.inr (Or.inl rfl))]; rfl
  · rw [does_8 hj m1, m5 (Or.inr (Or.inr (Or.inl rfl)))]; rfl
  · rw [does_9 hj m1, m5 (Or.inr (Or.inr (Or.inr rfl)))]; rfl
  · exact does_10 hj m1
  · exact does_11 hj m1
theorem cS_B : cS (sN 1) = 2 ∧ cS (sN 2) = 2 ∧ cS (sN 3) = 2 ∧ cS (sN 4) = 1 ∧ cS (sN 6) = 3 ∧ cS (sN 7) = 1 ∧ cS (sN 8) = 1 ∧ cS (sN 9) = 1 := by decide +kernel
/-- a command the program runs: judged and obeyed with the operands read -/
theorem runQ {w : XW} {cs : List CM} {j : Nat} {q : CM} (C : CCm w.1 cs) (hq : cs[j]? = some q) (hn : cs.length ≤ 16) (hg : gdC q) (hv : ∀ x, x ∈ q.2 → x < 1000000) : ∃ a b c : Int32, OpR (zI q.1) a b c (mopC q) ∧ f_X10_runCommand (zI j) w = (bI (f_X8_judge 1 (zI q.1) a b c w) (fun r5 w5 => (if r5 = 0 then (bI (f_X8_apply 1 (zI q.1) a b c w5) (fun r6 w6 => (some (r5, w6)))) else (some (r5, w5))))) := by
  have hj : j < cs.length := (List.getElem?_eq_some_iff.mp hq).1
  obtain ⟨c1, c2, c3⟩ := C.2 j q hq
  have hop : ∀ i, i < 3 → f_X0_operandOf (zI j) (zI i) w = some (w.1 140 (3 * j + i), w) := fun i hi => by
    unfold f_X0_operandOf
    have e : zI j * 3 + zI i = zI (3 * j + i) := by rw [zl_3, zI_mul, zI_add, Nat.mul_comm]
    simp only [e]
    rw [if_neg (show ¬ (zI (3 * j + i) < 0) by rw [zl_0, zI_lt (by omega) (by omega)]; omega), if_neg (show ¬ (180 ≤ zI (3 * j + i)) by rw [zl_180, zI_le (by omega) (by omega)]; omega), if_pos (by rw [inB_z (by omega)]; omega), zI_nat (by omega)]
  refine ⟨w.1 140 (3 * j + 0), w.1 140 (3 * j + 1), w.1 140 (3 * j + 2), ?_, ?_⟩
  · obtain ⟨k, os⟩ := q
    obtain ⟨g1, g2⟩ := hg
    obtain ⟨b1, b2, b3, b4, b5, b6, b7, b8⟩ := cS_B
    have hk' : k = 0 ∨ k = 1 ∨ k = 2 ∨ k = 3 ∨ k = 4 ∨ k = 5 ∨ k = 6 ∨ k = 7 ∨ k = 8 ∨ k = 9 ∨ k = 10 ∨ k = 11 := by have : k < 12 := g1; omega
    have gl : os.length = cS (sN k) := g2
    clear g2
    have c4 : ∀ i, i < os.length → w.1 140 (3 * j + i) = zI (gtL os i) := c3
    clear c3
    have nn : ∀ i, i < os.length → ¬ (zI (gtL os i) < 0) := fun i hi => by
      have := hv _ (gtL_mem os i hi)
      rw [zl_0, zI_lt (by omega) (by omega)]; omega
    rcases hk' with rfl | rfl | rfl | rfl | rfl | rfl | rfl | rfl | rfl | rfl | rfl | rfl
    · exact op_add _ _ _
    · rw [b1] at gl; rw [c4 0 (by omega), c4 1 (by omega)]; exact op_pour _ _ _
    · rw [b2] at gl; rw [c4 0 (by omega), c4 1 (by omega)]; exact op_tag _ _ _ (nn 1 (by omega))
    · rw [b3] at gl; rw [c4 0 (by omega), c4 1 (by omega)]; exact op_untag _ _ _ (nn 1 (by omega))
    · rw [b4] at gl; rw [c4 0 (by omega)]; exact op_fold _ _ _
    · exact op_open _ _ _
    · rw [b5] at gl; rw [c4 0 (by omega), c4 1 (by omega), c4 2 (by omega)]; exact op_pipe _ _ _
    · rw [b6] at gl; rw [c4 0 (by omega)]; exact op_cut _ _ _
    · rw [b7] at gl; rw [c4 0 (by omega)]; exact op_break _ _ _
    · rw [b8] at gl; rw [c4 0 (by omega)]; exact op_mend _ _ _
    · exact op_drain _ _ _
    · exact op_seep _ _ _
  · unfold f_X10_runCommand
    have hkd : f_X0_kindOf (zI j) w = some (zI q.1, w) := by
      unfold f_X0_kindOf
      rw [if_neg (show ¬ (zI j < 0) by rw [zl_0, zI_lt (by omega) (by omega)]; omega), C.1, if_neg (show ¬ (zI cs.length ≤ zI j) by rw [zI_le (by omega) (by omega)]; omega), if_neg (show ¬ (60 ≤ zI j) by rw [zl_60, zI_le (by omega) (by omega)]; omega), if_pos (by rw [inB_z (by omega)]; omega), zI_nat (by omega), c1]
    have o0 : f_X0_operandOf (zI j) 0 w = some (w.1 140 (3 * j + 0), w) := hop 0 (by omega)
    have o1 : f_X0_operandOf (zI j) 1 w = some (w.1 140 (3 * j + 1), w) := hop 1 (by omega)
    have o2 : f_X0_operandOf (zI j) 2 w = some (w.1 140 (3 * j + 2), w) := hop 2 (by omega)
    rw [hkd, bI_s, o0, bI_s, o1, bI_s, o2, bI_s]
def FM0 (m m' : XW) : Prop := m'.2 = m.2 ∧ ∀ a c, ¬ (a = 142 ∨ a = 149 ∨ (a = 141 ∧ c = 14)) → m'.1 a c = m.1 a c
def FM1 (m m' : XW) : Prop := m'.2 = m.2 ∧ ∀ a c, ¬ (a = 142 ∨ a = 149 ∨ (a = 141 ∧ 14 ≤ c ∧ c ≤ 17)) → m'.1 a c = m.1 a c
theorem exec_loop {cs : List CM} (hn : cs.length ≤ 16) (hg : ∀ q, q ∈ cs → gdC q) (hv : ∀ q, q ∈ cs → ∀ x, x ∈ q.2 → x < 1000000) : ∀ (d fuel j : Nat) (F : Nat → Nat) (w : XW), j + d = cs.length → d < fuel → Inv F → Cls w.1 1 F → CCm w.1 cs →
    (∃ G w', Inv G ∧ G 3 ≤ F 3 + 99 * d ∧ f_X10_execute_42 fuel (zI j) w = bV (f_X3_keep 12 w') (fun w5 => (some (.inl ((w5.1 138 2), w5)))) ∧ Cls w'.1 1 G ∧ Fr KC w w' ∧ ∀ (fm : Nat) (m : XW), d < fm → Mo m.1 142 0 F → MCm m.1 cs → m.1 141 20 = zI cs.length → ∃ m', f_X11_execute_104 fm (zI j) m = f_X11_changed (zI cs.length) m' ∧ Mo m'.1 142 0 G ∧ FM0 m m') ∨
    (∃ i cz w' r6, i < 16 ∧ 1 ≤ cz ∧ cz ≤ 9 ∧ f_X10_execute_42 fuel (zI j) w = bV (f_X8_copyFrom 1 12 w') (fun w7 => (bI (f_X10_causeOf r6 w7) (fun r8 w8 => (bV (f_X10_recordDenial 8 (zI i) r8 w8) (fun w9 => (some (.inr ("java/lang/UnsupportedOperationException", w9)))))))) ∧ (∀ u, f_X10_causeOf r6 u = some (zI cz, u)) ∧ Fr KC w w' ∧ ∀ (fm : Nat) (m : XW), d < fm → Mo m.1 142 0 F → MCm m.1 cs → m.1 141 20 = zI cs.length → ∃ m' r10, f_X11_execute_104 fm (zI j) m = f_X11_execute_127 (zI i) r10 1000 0 m' ∧ ((0 ≤ r10 ∧ cz = 9) ∨ (¬ 0 ≤ r10 ∧ -r10 = zI cz)) ∧ FM1 m m') := by
  intro d
  induction d with
  | zero =>
    intro fuel j F w hj hf hI hC C
    cases fuel with
    | zero => omega
    | succ fuel =>
      refine Or.inl ⟨F, w, hI, by omega, ?_, hC, Fr.rf, fun fm m hfm hM hc h20 => ?_⟩
      · unfold f_X10_execute_42
        rw [C.1, if_pos (show zI cs.length ≤ zI j by rw [zI_le (by omega) (by omega)]; omega)]
      · cases fm with
        | zero => omega
        | succ fm =>
          refine ⟨m, ?_, hM, rfl, fun _ _ _ => rfl⟩
          unfold f_X11_execute_104
          rw [h20, if_pos (show zI cs.length ≤ zI j by rw [zI_le (by omega) (by omega)]; omega), bI_id]
  | succ d ih =>
    intro fuel j F w hj hf hI hC C
    cases fuel with
    | zero => omega
    | succ fuel =>
      have hjl : j < cs.length := by omega
      obtain ⟨q, hq⟩ : ∃ q, cs[j]? = some q := ⟨_, List.getElem?_eq_getElem hjl⟩
      have hmem : q ∈ cs := List.mem_of_getElem? hq
      obtain ⟨a, b, c, hop, hrun⟩ := runQ C hq hn (hg q hmem) (hv q hmem)
      have hcl : f_X10_execute_42 (fuel + 1) (zI j) w = (bI (f_X10_runCommand (zI j) w) (fun r6 w6 => (if r6 = 0 then (f_X10_execute_42 fuel (zI (j + 1)) w6) else (bV (f_X8_copyFrom 1 12 w6) (fun w7 => (bI (f_X10_causeOf r6 w7) (fun r8 w8 => (bV (f_X10_recordDenial 8 (zI j) r8 w8) (fun w9 => (some (.inr ("java/lang/UnsupportedOperationException", w9)))))))))))) := by
        rw [← zI_add j 1]
        show f_X10_execute_42 (fuel + 1) (zI j) w = _
        conv => lhs; unfold f_X10_execute_42
        rw [C.1, if_neg (show ¬ (zI cs.length ≤ zI j) by rw [zI_le (by omega) (by omega)]; omega)]
        rfl
      have hmd : ∀ (fm : Nat) (m : XW), MCm m.1 cs → m.1 141 20 = zI cs.length → f_X11_execute_104 (fm + 1) (zI j) m = bI (mopC q m) (fun r10 w10 => (if r10 = 0 then (f_X11_execute_104 fm (zI (j + 1)) w10) else (f_X11_execute_127 (zI j) r10 1000 0 w10))) := fun fm m hc h20 => by
        rw [← zI_add j 1, ← does_q (show j ≤ 16 by omega) (hg q hmem).1 (hc j q hq)]
        conv => lhs; unfold f_X11_execute_104
        rw [h20, if_neg (show ¬ (zI cs.length ≤ zI j) by rw [zI_le (by omega) (by omega)]; omega)]
        rfl
      rcases hop F hI with ⟨e, he, hjd, hm⟩ | ⟨n', dd, hn1, hn2, hd, hjd, hm⟩ | ⟨ans, G, hG, hG3, hans, hjd, ha, hm⟩
      · have hne : ¬ (-(zI e) = 0) := (neg_B e (by omega) (by omega)).1
        refine Or.inr ⟨j, 9, w, -(zI e), by omega, by omega, by omega, ?_, fun u => ?_, Fr.rf, fun fm m hfm hM hc h20 => ?_⟩
        · rw [hcl, hrun, hjd w hC, bI_s, if_neg hne, bI_s, if_neg hne]
        · unfold f_X10_causeOf
          rw [if_pos (by rcases he with rfl | rfl <;> decide)]
          rfl
        · cases fm with
          | zero => omega
          | succ fm =>
            refine ⟨m, zI e, ?_, Or.inl ⟨by rw [zl_0, zI_le (by omega) (by omega)]; omega, rfl⟩, rfl, fun _ _ _ => rfl⟩
            rw [hmd fm m hc h20, hm m hM, bI_s, if_neg (show ¬ (zI e = 0) by rw [zl_0, zI_inj (by omega) (by omega)]; omega)]
      · have hne : ¬ (zI (n' * 100 + dd) = 0) := by rw [zl_0, zI_inj (by omega) (by omega)]; omega
        refine Or.inr ⟨j, n', w, zI (n' * 100 + dd), by omega, by omega, by omega, ?_, fun u => ?_, Fr.rf, fun fm m hfm hM hc h20 => ?_⟩
        · rw [hcl, hrun, hjd w hC, bI_s, if_neg hne, bI_s, if_neg hne]
        · unfold f_X10_causeOf
          rw [if_neg (show ¬ (zI (n' * 100 + dd) ≤ 0) by rw [zl_0, zI_le (by omega) (by omega)]; omega), zl_100, zI_div (by omega) (by omega), show (n' * 100 + dd) / 100 = n' by omega]
        · cases fm with
          | zero => omega
          | succ fm =>
            obtain ⟨m1, f1, f2⟩ := hm m hM
            refine ⟨wset (wset (wset m1 141 15 (zI n')) 141 16 (zI dd)) 141 17 (zI 0), -(zI n'), ?_, Or.inr ⟨(neg_B n' (by omega) (by omega)).2.1, by rw [Int32.neg_neg]⟩, ?_, ?_⟩
            · rw [hmd fm m hc h20, f1, bI_s, if_neg (neg_B n' (by omega) (by omega)).1]
            · exact f2.2
            · intro x y h
              rw [wset_at, if_neg (by omega), wset_at, if_neg (by omega), wset_at, if_neg (by omega)]
              exact f2.at (by omega) y
      · obtain ⟨w1, g1, g2, g3⟩ := ha w hC
        have C1 : CCm w1.1 cs := C.cg (g3.at (by omega) _) (fun x _ => g3.at (by omega) _) (fun x _ => g3.at (by omega) _)
        have hcl2 : f_X10_execute_42 (fuel + 1) (zI j) w = f_X10_execute_42 fuel (zI (j + 1)) w1 := by
          rw [hcl, hrun, hjd w hC, bI_s, if_pos (show zI 0 = 0 from rfl), g1, bI_s, bI_s, if_pos (show zI 0 = 0 from rfl)]
        have hmd2 : ∀ (fm : Nat) (m : XW), Mo m.1 142 0 F → MCm m.1 cs → m.1 141 20 = zI cs.length → ∃ m1, f_X11_execute_104 (fm + 1) (zI j) m = f_X11_execute_104 fm (zI (j + 1)) m1 ∧ Mo m1.1 142 0 G ∧ MCm m1.1 cs ∧ m1.1 141 20 = zI cs.length ∧ FM0 m m1 := fun fm m hM hc h20 => by
          obtain ⟨m1, k1, k2, k3⟩ := hm m hM
          refine ⟨wset m1 141 14 (zI ans), ?_, fun x hx => by rw [wset_at, if_neg (by omega)]; exact k2 x hx, fun x y hxy => (hc x y hxy).cg (fun z _ => by rw [wset_at, if_neg (by omega)]; exact k3.at (by omega) z), by rw [wset_at, if_neg (by omega), k3.at (by omega)]; exact h20, k3.2, fun x y h => by rw [wset_at, if_neg (by omega)]; exact k3.at (by omega) y⟩
          rw [hmd fm m hc h20, k1, bI_s, if_pos (show zI 0 = 0 from rfl)]
        rcases ih fuel (j + 1) G w1 (by omega) (by omega) hG g2 C1 with ⟨G', w', i1, i2, i3, i4, i5, i6⟩ | ⟨i, cz, w', r6, i1, i2, i3, i4, i5, i6, i7⟩
        · refine Or.inl ⟨G', w', i1, by omega, hcl2.trans i3, i4, g3.tr i5, fun fm m hfm hM hc h20 => ?_⟩
          cases fm with
          | zero => omega
          | succ fm =>
            obtain ⟨m1, k1, k2, k3, k4, k5⟩ := hmd2 fm m hM hc h20
            obtain ⟨m', l1, l2, l3⟩ := i6 fm m1 (by omega) k2 k3 k4
            exact ⟨m', k1.trans l1, l2, l3.1.trans k5.1, fun x y h => (l3.2 x y h).trans (k5.2 x y h)⟩
        · refine Or.inr ⟨i, cz, w', r6, i1, i2, i3, hcl2.trans i4, i5, g3.tr i6, fun fm m hfm hM hc h20 => ?_⟩
          cases fm with
          | zero => omega
          | succ fm =>
            obtain ⟨m1, k1, k2, k3, k4, k5⟩ := hmd2 fm m hM hc h20
            obtain ⟨m', r10, l1, l2, l3⟩ := i7 fm m1 (by omega) k2 k3 k4
            exact ⟨m', r10, k1.trans l1, l2, l3.1.trans k5.1, fun x y h => (l3.2 x y h).trans (k5.2 x y (by omega))⟩
