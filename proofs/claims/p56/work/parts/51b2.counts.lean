/-! both counts of the foldings to come agree, pile by pile (the kernel counts) -/
theorem c_ok_0 : alB (fun n => decide (0 < n) || alP (fun P => odL P n 0 9 0 [0, 0, 0, 0, 0, 0, 0] == wyL 0 9 P n) (piles n)) 8 = true := by decide +kernel
theorem c_ok_1 : alB (fun n => decide (1 < n) || alP (fun P => odL P n 1 9 0 [1, 1, 1, 1, 1, 1, 1] == wyL 1 9 P n) (piles n)) 8 = true := by decide +kernel
theorem c_ok_2 : alB (fun n => decide (2 < n) || alP (fun P => odL P n 2 9 0 [2, 2, 2, 2, 2, 2, 2] == wyL 2 9 P n) (piles n)) 8 = true := by decide +kernel
theorem c_ok_3 : alB (fun n => decide (3 < n) || alP (fun P => odL P n 3 9 0 [3, 3, 3, 3, 3, 3, 3] == wyL 3 9 P n) (piles n)) 8 = true := by decide +kernel
theorem c_ok_4 : alB (fun n => decide (4 < n) || alP (fun P => odL P n 4 9 0 [4, 4, 4, 4, 4, 4, 4] == wyL 4 9 P n) (piles n)) 8 = true := by decide +kernel
theorem c_ok_5 : alB (fun n => decide (5 < n) || alP (fun P => odL P n 5 9 0 [5, 5, 5, 5, 5, 5, 5] == wyL 5 9 P n) (piles n)) 8 = true := by decide +kernel
theorem c_ok_6_0 : alP (fun P => odL P 0 6 9 0 [6, 6, 6, 6, 6, 6, 6] == wyL 6 9 P 0) (piles 0) = true := by decide +kernel
theorem c_ok_6_1 : alP (fun P => odL P 1 6 9 0 [6, 6, 6, 6, 6, 6, 6] == wyL 6 9 P 1) (piles 1) = true := by decide +kernel
theorem c_ok_6_2 : alP (fun P => odL P 2 6 9 0 [6, 6, 6, 6, 6, 6, 6] == wyL 6 9 P 2) (piles 2) = true := by decide +kernel
theorem c_ok_6_3 : alP (fun P => odL P 3 6 9 0 [6, 6, 6, 6, 6, 6, 6] == wyL 6 9 P 3) (piles 3) = true := by decide +kernel
theorem c_ok_6_4 : alP (fun P => odL P 4 6 9 0 [6, 6, 6, 6, 6, 6, 6] == wyL 6 9 P 4) (piles 4) = true := by decide +kernel
theorem c_ok_6_5 : alP (fun P => odL P 5 6 9 0 [6, 6, 6, 6, 6, 6, 6] == wyL 6 9 P 5) (piles 5) = true := by decide +kernel
theorem c_ok_6_6 : alP (fun P => odL P 6 6 9 0 [6, 6, 6, 6, 6, 6, 6] == wyL 6 9 P 6) (piles 6) = true := by decide +kernel
theorem c_ok_7_0 : alP (fun P => odL P 0 7 9 0 [7, 7, 7, 7, 7, 7, 7] == wyL 7 9 P 0) (piles 0) = true := by decide +kernel
theorem c_ok_7_1 : alP (fun P => odL P 1 7 9 0 [7, 7, 7, 7, 7, 7, 7] == wyL 7 9 P 1) (piles 1) = true := by decide +kernel
theorem c_ok_7_2 : alP (fun P => odL P 2 7 9 0 [7, 7, 7, 7, 7, 7, 7] == wyL 7 9 P 2) (piles 2) = true := by decide +kernel
theorem c_ok_7_3 : alP (fun P => odL P 3 7 9 0 [7, 7, 7, 7, 7, 7, 7] == wyL 7 9 P 3) (piles 3) = true := by decide +kernel
theorem c_ok_7_4 : alP (fun P => odL P 4 7 9 0 [7, 7, 7, 7, 7, 7, 7] == wyL 7 9 P 4) (piles 4) = true := by decide +kernel
theorem c_ok_7_5 : alP (fun P => odL P 5 7 9 0 [7, 7, 7, 7, 7, 7, 7] == wyL 7 9 P 5) (piles 5) = true := by decide +kernel
theorem c_ok_7_6 : alP (fun P => odL P 6 7 9 0 [7, 7, 7, 7, 7, 7, 7] == wyL 7 9 P 6) (piles 6) = true := by decide +kernel
theorem c_ok_7_7 : alP (fun P => odL P 7 7 9 0 [7, 7, 7, 7, 7, 7, 7] == wyL 7 9 P 7) (piles 7) = true := by decide +kernel
theorem counts_eq {n t : Nat} (ht : t ≤ 7) (hn : n ≤ t) {P : List Nat} (h : P ∈ piles n) : odL P n t 9 0 [t, t, t, t, t, t, t] = wyL t 9 P n := by
  have e : t = 0 ∨ t = 1 ∨ t = 2 ∨ t = 3 ∨ t = 4 ∨ t = 5 ∨ t = 6 ∨ t = 7 := by omega
  have h3 : ¬ t < n := by omega
  rcases e with rfl | rfl | rfl | rfl | rfl | rfl | rfl | rfl
  · have h1 := alB_at c_ok_0 n (by omega)
    simp only [h3, decide_false, Bool.false_or] at h1
    simpa using alP_at h1 P h
  · have h1 := alB_at c_ok_1 n (by omega)
    simp only [h3, decide_false, Bool.false_or] at h1
    simpa using alP_at h1 P h
  · have h1 := alB_at c_ok_2 n (by omega)
    simp only [h3, decide_false, Bool.false_or] at h1
    simpa using alP_at h1 P h
  · have h1 := alB_at c_ok_3 n (by omega)
    simp only [h3, decide_false, Bool.false_or] at h1
    simpa using alP_at h1 P h
  · have h1 := alB_at c_ok_4 n (by omega)
    simp only [h3, decide_false, Bool.false_or] at h1
    simpa using alP_at h1 P h
  · have h1 := alB_at c_ok_5 n (by omega)
    simp only [h3, decide_false, Bool.false_or] at h1
    simpa using alP_at h1 P h
  · have e : n = 0 ∨ n = 1 ∨ n = 2 ∨ n = 3 ∨ n = 4 ∨ n = 5 ∨ n = 6 := by omega
    rcases e with rfl | rfl | rfl | rfl | rfl | rfl | rfl
    · simpa using alP_at c_ok_6_0 P h
    · simpa using alP_at c_ok_6_1 P h
    · simpa using alP_at c_ok_6_2 P h
    · simpa using alP_at c_ok_6_3 P h
    · simpa using alP_at c_ok_6_4 P h
    · simpa using alP_at c_ok_6_5 P h
    · simpa using alP_at c_ok_6_6 P h
  · have e : n = 0 ∨ n = 1 ∨ n = 2 ∨ n = 3 ∨ n = 4 ∨ n = 5 ∨ n = 6 ∨ n = 7 := by omega
    rcases e with rfl | rfl | rfl | rfl | rfl | rfl | rfl | rfl
    · simpa using alP_at c_ok_7_0 P h
    · simpa using alP_at c_ok_7_1 P h
    · simpa using alP_at c_ok_7_2 P h
    · simpa using alP_at c_ok_7_3 P h
    · simpa using alP_at c_ok_7_4 P h
    · simpa using alP_at c_ok_7_5 P h
    · simpa using alP_at c_ok_7_6 P h
    · simpa using alP_at c_ok_7_7 P h
