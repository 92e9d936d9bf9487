/-! what the Statement gives of the start -/
set_option maxRecDepth 100000 in
theorem lm_t1 (i : Nat) {w : Cond} (h : tables_1_1[i]? = some w) : w ∈ lw_tbl := List.mem_append_right _ (List.mem_append_left _ (List.mem_of_getElem? h))
set_option maxRecDepth 100000 in
theorem lm_t2 (i : Nat) {w : Cond} (h : tables_1_2[i]? = some w) : w ∈ lw_tbl := List.mem_append_right _ (List.mem_append_right _ (List.mem_append_left _ (List.mem_of_getElem? h)))
set_option maxRecDepth 100000 in
theorem lm_t3 (i : Nat) {w : Cond} (h : tables_1_3[i]? = some w) : w ∈ lw_tbl := List.mem_append_right _ (List.mem_append_right _ (List.mem_append_right _ (List.mem_append_left _ (List.mem_of_getElem? h))))
set_option maxRecDepth 100000 in
theorem lm_t4 (i : Nat) {w : Cond} (h : tables_1_4[i]? = some w) : w ∈ lw_tbl := List.mem_append_right _ (List.mem_append_right _ (List.mem_append_right _ (List.mem_append_right _ (List.mem_append_left _ (List.mem_of_getElem? h)))))
set_option maxRecDepth 100000 in
theorem lm_t5 (i : Nat) {w : Cond} (h : tables_1_5[i]? = some w) : w ∈ lw_tbl := List.mem_append_right _ (List.mem_append_right _ (List.mem_append_right _ (List.mem_append_right _ (List.mem_append_right _ (List.mem_append_left _ (List.mem_of_getElem? h))))))
set_option maxRecDepth 100000 in
theorem lm_t6 (i : Nat) {w : Cond} (h : tables_1_6[i]? = some w) : w ∈ lw_tbl := List.mem_append_right _ (List.mem_append_right _ (List.mem_append_right _ (List.mem_append_right _ (List.mem_append_right _ (List.mem_append_right _ (List.mem_append_left _ (List.mem_of_getElem? h)))))))
set_option maxRecDepth 100000 in
theorem lm_t7 (i : Nat) {w : Cond} (h : tables_1_7[i]? = some w) : w ∈ lw_tbl := List.mem_append_right _ (List.mem_append_right _ (List.mem_append_right _ (List.mem_append_right _ (List.mem_append_right _ (List.mem_append_right _ (List.mem_append_right _ (List.mem_of_getElem? h)))))))
abbrev FLT : List Cond := flatC (Jvm.Cond.and given_1 narrow_1)
set_option maxRecDepth 100000 in
theorem fm_ (i : Nat) {w : Cond} (h : FLT[i]? = some w) : w ∈ FLT := List.mem_of_getElem? h
def SF1 (s : State) (A : Nat → Prop) (q : String × Nat × String × List Int32) (a t : Nat) : Prop := vk_R q.1 q.2.1 q.2.2.1 a s ∧ va_O "java/lang/String" a A s s.heap ∧ va_OF "java/lang/String" "coder" "B" (.int 0) a A s s.heap ∧ va_OF "java/lang/String" "value" "[B" (.ref t) a A s s.heap ∧ va_T .byte t q.2.2.2.length (fun j => .int (q.2.2.2.getD j 0)) A s s.heap
theorem sf1_of {args : Array Value} {s : State} {A : Nat → Prop} (o : String) (k : Nat) (tx : String) (l : List Int32) (h0 : (Cond.stringRef o k tx).before args s = true) (hex : (Cond.exactly (.string o k) "java/lang/String").before args s = true) (hco : (Cond.eq (.field (.string o k) "java/lang/String" "coder" "B") (.int 0)).before args s = true) (har : (Cond.arrayOf (.field (.string o k) "java/lang/String" "value" "[B") .byte).before args s = true) (hle : (Cond.eq (.length (.field (.string o k) "java/lang/String" "value" "[B")) (.int (Int32.ofNat l.length))).before args s = true) (hel : ∀ j, j < l.length → (Cond.eq (.elem (.field (.string o k) "java/lang/String" "value" "[B") (.int (Int32.ofNat j))) (.int (l.getD j 0))).before args s = true) (hl : l.length < 2 ^ 31) (hA : ∀ a : Nat, a < s.heap.size → ¬ A a) : ∃ a t, SF1 s A (o, k, tx, l) a t := by
  obtain ⟨a, c, cA, kA, q1, q2, q3, q4, q5, q6, -⟩ := Cond.exactly_spec (args := args) (first := s) (o := none) (s := s) (idx := []) (t := .string o k) (cls := "java/lang/String") hex
  obtain ⟨t, ht, hT⟩ := va_Tof (f := fun j => .int (l.getD j 0)) (A := A) hl har (va_eqt hle) (fun j hj => va_eqt (hel j hj)) hA
  exact ⟨a, t, vk_R.of h0 q1, ⟨cA, q3, q5, by rw [q6]; exact q2, hA a (Array.getElem?_eq_some_iff.mp q3).1⟩, vk_OFof q1 (va_eqt hco) hA, vk_OFof q1 ht hA, hT⟩
set_option maxRecDepth 100000 in
theorem sw_0 {args : Array Value} {s : State} {A : Nat → Prop} (hs : ∀ c ∈ FLT, c.before args s = true) (hts : ∀ w ∈ lw_tbl, w.before args s = true) (hA : ∀ a : Nat, a < s.heap.size → ¬ A a) : ∃ a t, SF1 s A ("FoldedArchiveLaw", 287, "pour ", [112, 111, 117, 114, 32]) a t :=
  sf1_of _ _ _ _ (hts _ (lm_t4 215 rfl)) (hs _ (fm_ 330 rfl)) (hs _ (fm_ 331 rfl)) (hs _ (fm_ 332 rfl)) (hs _ (fm_ 333 rfl)) (fun j hj => match j, hj with
    | 0, _ => hs _ (fm_ 334 rfl)
    | 1, _ => hs _ (fm_ 335 rfl)
    | 2, _ => hs _ (fm_ 336 rfl)
    | 3, _ => hs _ (fm_ 337 rfl)
    | 4, _ => hs _ (fm_ 338 rfl)
    | j + 5, h => absurd h (by show ¬ (j + 5 < 5); omega)) (by decide) hA
set_option maxRecDepth 100000 in
theorem sw_1 {args : Array Value} {s : State} {A : Nat → Prop} (hs : ∀ c ∈ FLT, c.before args s = true) (hts : ∀ w ∈ lw_tbl, w.before args s = true) (hA : ∀ a : Nat, a < s.heap.size → ¬ A a) : ∃ a t, SF1 s A ("FoldedArchiveLaw", 296, " ", [32]) a t :=
  sf1_of _ _ _ _ (hts _ (lm_t5 115 rfl)) (hs _ (fm_ 339 rfl)) (hs _ (fm_ 340 rfl)) (hs _ (fm_ 341 rfl)) (hs _ (fm_ 342 rfl)) (fun j hj => match j, hj with
    | 0, _ => hs _ (fm_ 343 rfl)
    | j + 1, h => absurd h (by show ¬ (j + 1 < 1); omega)) (by decide) hA
set_option maxRecDepth 100000 in
theorem sw_2 {args : Array Value} {s : State} {A : Nat → Prop} (hs : ∀ c ∈ FLT, c.before args s = true) (hts : ∀ w ∈ lw_tbl, w.before args s = true) (hA : ∀ a : Nat, a < s.heap.size → ¬ A a) : ∃ a t, SF1 s A ("FoldedArchiveLaw", 298, ";fold ", [59, 102, 111, 108, 100, 32]) a t :=
  sf1_of _ _ _ _ (hts _ (lm_t5 116 rfl)) (hs _ (fm_ 344 rfl)) (hs _ (fm_ 345 rfl)) (hs _ (fm_ 346 rfl)) (hs _ (fm_ 347 rfl)) (fun j hj => match j, hj with
    | 0, _ => hs _ (fm_ 348 rfl)
    | 1, _ => hs _ (fm_ 349 rfl)
    | 2, _ => hs _ (fm_ 350 rfl)
    | 3, _ => hs _ (fm_ 351 rfl)
    | 4, _ => hs _ (fm_ 352 rfl)
    | 5, _ => hs _ (fm_ 353 rfl)
    | j + 6, h => absurd h (by show ¬ (j + 6 < 6); omega)) (by decide) hA
set_option maxRecDepth 100000 in
theorem sw_3 {args : Array Value} {s : State} {A : Nat → Prop} (hs : ∀ c ∈ FLT, c.before args s = true) (hts : ∀ w ∈ lw_tbl, w.before args s = true) (hA : ∀ a : Nat, a < s.heap.size → ¬ A a) : ∃ a t, SF1 s A ("java/util/Arrays", 337, " > ", [32, 62, 32]) a t :=
  sf1_of _ _ _ _ (hts _ (lm_t5 156 rfl)) (hs _ (fm_ 354 rfl)) (hs _ (fm_ 355 rfl)) (hs _ (fm_ 356 rfl)) (hs _ (fm_ 357 rfl)) (fun j hj => match j, hj with
    | 0, _ => hs _ (fm_ 358 rfl)
    | 1, _ => hs _ (fm_ 359 rfl)
    | 2, _ => hs _ (fm_ 360 rfl)
    | j + 3, h => absurd h (by show ¬ (j + 3 < 3); omega)) (by decide) hA
set_option maxRecDepth 100000 in
theorem sw_4 {args : Array Value} {s : State} {A : Nat → Prop} (hs : ∀ c ∈ FLT, c.before args s = true) (hts : ∀ w ∈ lw_tbl, w.before args s = true) (hA : ∀ a : Nat, a < s.heap.size → ¬ A a) : ∃ a t, SF1 s A ("FoldedArchiveLaw", 304, ";tag ", [59, 116, 97, 103, 32]) a t :=
  sf1_of _ _ _ _ (hts _ (lm_t5 183 rfl)) (hs _ (fm_ 361 rfl)) (hs _ (fm_ 362 rfl)) (hs _ (fm_ 363 rfl)) (hs _ (fm_ 364 rfl)) (fun j hj => match j, hj with
    | 0, _ => hs _ (fm_ 365 rfl)
    | 1, _ => hs _ (fm_ 366 rfl)
    | 2, _ => hs _ (fm_ 367 rfl)
    | 3, _ => hs _ (fm_ 368 rfl)
    | 4, _ => hs _ (fm_ 369 rfl)
    | j + 5, h => absurd h (by show ¬ (j + 5 < 5); omega)) (by decide) hA
set_option maxRecDepth 100000 in
theorem sw_5 {args : Array Value} {s : State} {A : Nat → Prop} (hs : ∀ c ∈ FLT, c.before args s = true) (hts : ∀ w ∈ lw_tbl, w.before args s = true) (hA : ∀ a : Nat, a < s.heap.size → ¬ A a) : ∃ a t, SF1 s A ("FoldedArchiveLaw", 309, ";open", [59, 111, 112, 101, 110]) a t :=
  sf1_of _ _ _ _ (hts _ (lm_t5 206 rfl)) (hs _ (fm_ 370 rfl)) (hs _ (fm_ 371 rfl)) (hs _ (fm_ 372 rfl)) (hs _ (fm_ 373 rfl)) (fun j hj => match j, hj with
    | 0, _ => hs _ (fm_ 374 rfl)
    | 1, _ => hs _ (fm_ 375 rfl)
    | 2, _ => hs _ (fm_ 376 rfl)
    | 3, _ => hs _ (fm_ 377 rfl)
    | 4, _ => hs _ (fm_ 378 rfl)
    | j + 5, h => absurd h (by show ¬ (j + 5 < 5); omega)) (by decide) hA
set_option maxRecDepth 100000 in
theorem sw_6 {args : Array Value} {s : State} {A : Nat → Prop} (hs : ∀ c ∈ FLT, c.before args s = true) (hts : ∀ w ∈ lw_tbl, w.before args s = true) (hA : ∀ a : Nat, a < s.heap.size → ¬ A a) : ∃ a t, SF1 s A ("FoldedArchiveLaw", 311, ";", [59]) a t :=
  sf1_of _ _ _ _ (hts _ (lm_t5 207 rfl)) (hs _ (fm_ 379 rfl)) (hs _ (fm_ 380 rfl)) (hs _ (fm_ 381 rfl)) (hs _ (fm_ 382 rfl)) (fun j hj => match j, hj with
    | 0, _ => hs _ (fm_ 383 rfl)
    | j + 1, h => absurd h (by show ¬ (j + 1 < 1); omega)) (by decide) hA
set_option maxRecDepth 100000 in
theorem sw_7 {args : Array Value} {s : State} {A : Nat → Prop} (hs : ∀ c ∈ FLT, c.before args s = true) (hts : ∀ w ∈ lw_tbl, w.before args s = true) (hA : ∀ a : Nat, a < s.heap.size → ¬ A a) : ∃ a t, SF1 s A ("FoldedArchive$CommandReader", 59, "add", [97, 100, 100]) a t :=
  sf1_of _ _ _ _ (hts _ (lm_t6 39 rfl)) (hs _ (fm_ 384 rfl)) (hs _ (fm_ 385 rfl)) (hs _ (fm_ 386 rfl)) (hs _ (fm_ 387 rfl)) (fun j hj => match j, hj with
    | 0, _ => hs _ (fm_ 388 rfl)
    | 1, _ => hs _ (fm_ 389 rfl)
    | 2, _ => hs _ (fm_ 390 rfl)
    | j + 3, h => absurd h (by show ¬ (j + 3 < 3); omega)) (by decide) hA
set_option maxRecDepth 100000 in
theorem sw_8 {args : Array Value} {s : State} {A : Nat → Prop} (hs : ∀ c ∈ FLT, c.before args s = true) (hts : ∀ w ∈ lw_tbl, w.before args s = true) (hA : ∀ a : Nat, a < s.heap.size → ¬ A a) : ∃ a t, SF1 s A ("FoldedArchive$CommandReader", 61, "pour D N", [112, 111, 117, 114, 32, 68, 32, 78]) a t :=
  sf1_of _ _ _ _ (hts _ (lm_t6 40 rfl)) (hs _ (fm_ 391 rfl)) (hs _ (fm_ 392 rfl)) (hs _ (fm_ 393 rfl)) (hs _ (fm_ 394 rfl)) (fun j hj => match j, hj with
    | 0, _ => hs _ (fm_ 395 rfl)
    | 1, _ => hs _ (fm_ 396 rfl)
    | 2, _ => hs _ (fm_ 397 rfl)
    | 3, _ => hs _ (fm_ 398 rfl)
    | 4, _ => hs _ (fm_ 399 rfl)
    | 5, _ => hs _ (fm_ 400 rfl)
    | 6, _ => hs _ (fm_ 401 rfl)
    | 7, _ => hs _ (fm_ 402 rfl)
    | j + 8, h => absurd h (by show ¬ (j + 8 < 8); omega)) (by decide) hA
set_option maxRecDepth 100000 in
theorem sw_9 {args : Array Value} {s : State} {A : Nat → Prop} (hs : ∀ c ∈ FLT, c.before args s = true) (hts : ∀ w ∈ lw_tbl, w.before args s = true) (hA : ∀ a : Nat, a < s.heap.size → ¬ A a) : ∃ a t, SF1 s A ("FoldedArchive$CommandReader", 63, "tag DT", [116, 97, 103, 32, 68, 84]) a t :=
  sf1_of _ _ _ _ (hts _ (lm_t6 41 rfl)) (hs _ (fm_ 403 rfl)) (hs _ (fm_ 404 rfl)) (hs _ (fm_ 405 rfl)) (hs _ (fm_ 406 rfl)) (fun j hj => match j, hj with
    | 0, _ => hs _ (fm_ 407 rfl)
    | 1, _ => hs _ (fm_ 408 rfl)
    | 2, _ => hs _ (fm_ 409 rfl)
    | 3, _ => hs _ (fm_ 410 rfl)
    | 4, _ => hs _ (fm_ 411 rfl)
    | 5, _ => hs _ (fm_ 412 rfl)
    | j + 6, h => absurd h (by show ¬ (j + 6 < 6); omega)) (by decide) hA
set_option maxRecDepth 100000 in
theorem sw_10 {args : Array Value} {s : State} {A : Nat → Prop} (hs : ∀ c ∈ FLT, c.before args s = true) (hts : ∀ w ∈ lw_tbl, w.before args s = true) (hA : ∀ a : Nat, a < s.heap.size → ¬ A a) : ∃ a t, SF1 s A ("FoldedArchive$CommandReader", 65, "untag DT", [117, 110, 116, 97, 103, 32, 68, 84]) a t :=
  sf1_of _ _ _ _ (hts _ (lm_t6 42 rfl)) (hs _ (fm_ 413 rfl)) (hs _ (fm_ 414 rfl)) (hs _ (fm_ 415 rfl)) (hs _ (fm_ 416 rfl)) (fun j hj => match j, hj with
    | 0, _ => hs _ (fm_ 417 rfl)
    | 1, _ => hs _ (fm_ 418 rfl)
    | 2, _ => hs _ (fm_ 419 rfl)
    | 3, _ => hs _ (fm_ 420 rfl)
    | 4, _ => hs _ (fm_ 421 rfl)
    | 5, _ => hs _ (fm_ 422 rfl)
    | 6, _ => hs _ (fm_ 423 rfl)
    | 7, _ => hs _ (fm_ 424 rfl)
    | j + 8, h => absurd h (by show ¬ (j + 8 < 8); omega)) (by decide) hA
set_option maxRecDepth 100000 in
theorem sw_11 {args : Array Value} {s : State} {A : Nat → Prop} (hs : ∀ c ∈ FLT, c.before args s = true) (hts : ∀ w ∈ lw_tbl, w.before args s = true) (hA : ∀ a : Nat, a < s.heap.size → ¬ A a) : ∃ a t, SF1 s A ("FoldedArchive$CommandReader", 67, "fold D", [102, 111, 108, 100, 32, 68]) a t :=
  sf1_of _ _ _ _ (hts _ (lm_t6 43 rfl)) (hs _ (fm_ 425 rfl)) (hs _ (fm_ 426 rfl)) (hs _ (fm_ 427 rfl)) (hs _ (fm_ 428 rfl)) (fun j hj => match j, hj with
    | 0, _ => hs _ (fm_ 429 rfl)
    | 1, _ => hs _ (fm_ 430 rfl)
    | 2, _ => hs _ (fm_ 431 rfl)
    | 3, _ => hs _ (fm_ 432 rfl)
    | 4, _ => hs _ (fm_ 433 rfl)
    | 5, _ => hs _ (fm_ 434 rfl)
    | j + 6, h => absurd h (by show ¬ (j + 6 < 6); omega)) (by decide) hA
set_option maxRecDepth 100000 in
theorem sw_12 {args : Array Value} {s : State} {A : Nat → Prop} (hs : ∀ c ∈ FLT, c.before args s = true) (hts : ∀ w ∈ lw_tbl, w.before args s = true) (hA : ∀ a : Nat, a < s.heap.size → ¬ A a) : ∃ a t, SF1 s A ("FoldedArchive$CommandReader", 69, "open", [111, 112, 101, 110]) a t :=
  sf1_of _ _ _ _ (hts _ (lm_t6 44 rfl)) (hs _ (fm_ 435 rfl)) (hs _ (fm_ 436 rfl)) (hs _ (fm_ 437 rfl)) (hs _ (fm_ 438 rfl)) (fun j hj => match j, hj with
    | 0, _ => hs _ (fm_ 439 rfl)
    | 1, _ => hs _ (fm_ 440 rfl)
    | 2, _ => hs _ (fm_ 441 rfl)
    | 3, _ => hs _ (fm_ 442 rfl)
    | j + 4, h => absurd h (by show ¬ (j + 4 < 4); omega)) (by decide) hA
set_option maxRecDepth 100000 in
theorem sw_13 {args : Array Value} {s : State} {A : Nat → Prop} (hs : ∀ c ∈ FLT, c.before args s = true) (hts : ∀ w ∈ lw_tbl, w.before args s = true) (hA : ∀ a : Nat, a < s.heap.size → ¬ A a) : ∃ a t, SF1 s A ("FoldedArchive$CommandReader", 71, "pipe D>D N", [112, 105, 112, 101, 32, 68, 62, 68, 32, 78]) a t :=
  sf1_of _ _ _ _ (hts _ (lm_t6 45 rfl)) (hs _ (fm_ 443 rfl)) (hs _ (fm_ 444 rfl)) (hs _ (fm_ 445 rfl)) (hs _ (fm_ 446 rfl)) (fun j hj => match j, hj with
    | 0, _ => hs _ (fm_ 447 rfl)
    | 1, _ => hs _ (fm_ 448 rfl)
    | 2, _ => hs _ (fm_ 449 rfl)
    | 3, _ => hs _ (fm_ 450 rfl)
    | 4, _ => hs _ (fm_ 451 rfl)
    | 5, _ => hs _ (fm_ 452 rfl)
    | 6, _ => hs _ (fm_ 453 rfl)
    | 7, _ => hs _ (fm_ 454 rfl)
    | 8, _ => hs _ (fm_ 455 rfl)
    | 9, _ => hs _ (fm_ 456 rfl)
    | j + 10, h => absurd h (by show ¬ (j + 10 < 10); omega)) (by decide) hA
set_option maxRecDepth 100000 in
theorem sw_14 {args : Array Value} {s : State} {A : Nat → Prop} (hs : ∀ c ∈ FLT, c.before args s = true) (hts : ∀ w ∈ lw_tbl, w.before args s = true) (hA : ∀ a : Nat, a < s.heap.size → ¬ A a) : ∃ a t, SF1 s A ("FoldedArchive$CommandReader", 73, "cut D", [99, 117, 116, 32, 68]) a t :=
  sf1_of _ _ _ _ (hts _ (lm_t6 46 rfl)) (hs _ (fm_ 457 rfl)) (hs _ (fm_ 458 rfl)) (hs _ (fm_ 459 rfl)) (hs _ (fm_ 460 rfl)) (fun j hj => match j, hj with
    | 0, _ => hs _ (fm_ 461 rfl)
    | 1, _ => hs _ (fm_ 462 rfl)
    | 2, _ => hs _ (fm_ 463 rfl)
    | 3, _ => hs _ (fm_ 464 rfl)
    | 4, _ => hs _ (fm_ 465 rfl)
    | j + 5, h => absurd h (by show ¬ (j + 5 < 5); omega)) (by decide) hA
set_option maxRecDepth 100000 in
theorem sw_15 {args : Array Value} {s : State} {A : Nat → Prop} (hs : ∀ c ∈ FLT, c.before args s = true) (hts : ∀ w ∈ lw_tbl, w.before args s = true) (hA : ∀ a : Nat, a < s.heap.size → ¬ A a) : ∃ a t, SF1 s A ("FoldedArchive$CommandReader", 75, "break D", [98, 114, 101, 97, 107, 32, 68]) a t :=
  sf1_of _ _ _ _ (hts _ (lm_t6 47 rfl)) (hs _ (fm_ 466 rfl)) (hs _ (fm_ 467 rfl)) (hs _ (fm_ 468 rfl)) (hs _ (fm_ 469 rfl)) (fun j hj => match j, hj with
    | 0, _ => hs _ (fm_ 470 rfl)
    | 1, _ => hs _ (fm_ 471 rfl)
    | 2, _ => hs _ (fm_ 472 rfl)
    | 3, _ => hs _ (fm_ 473 rfl)
    | 4, _ => hs _ (fm_ 474 rfl)
    | 5, _ => hs _ (fm_ 475 rfl)
    | 6, _ => hs _ (fm_ 476 rfl)
    | j + 7, h => absurd h (by show ¬ (j + 7 < 7); omega)) (by decide) hA
set_option maxRecDepth 100000 in
theorem sw_16 {args : Array Value} {s : State} {A : Nat → Prop} (hs : ∀ c ∈ FLT, c.before args s = true) (hts : ∀ w ∈ lw_tbl, w.before args s = true) (hA : ∀ a : Nat, a < s.heap.size → ¬ A a) : ∃ a t, SF1 s A ("FoldedArchive$CommandReader", 77, "mend D", [109, 101, 110, 100, 32, 68]) a t :=
  sf1_of _ _ _ _ (hts _ (lm_t6 48 rfl)) (hs _ (fm_ 477 rfl)) (hs _ (fm_ 478 rfl)) (hs _ (fm_ 479 rfl)) (hs _ (fm_ 480 rfl)) (fun j hj => match j, hj with
    | 0, _ => hs _ (fm_ 481 rfl)
    | 1, _ => hs _ (fm_ 482 rfl)
    | 2, _ => hs _ (fm_ 483 rfl)
    | 3, _ => hs _ (fm_ 484 rfl)
    | 4, _ => hs _ (fm_ 485 rfl)
    | 5, _ => hs _ (fm_ 486 rfl)
    | j + 6, h => absurd h (by show ¬ (j + 6 < 6); omega)) (by decide) hA
set_option maxRecDepth 100000 in
theorem sw_17 {args : Array Value} {s : State} {A : Nat → Prop} (hs : ∀ c ∈ FLT, c.before args s = true) (hts : ∀ w ∈ lw_tbl, w.before args s = true) (hA : ∀ a : Nat, a < s.heap.size → ¬ A a) : ∃ a t, SF1 s A ("FoldedArchive$CommandReader", 79, "drain", [100, 114, 97, 105, 110]) a t :=
  sf1_of _ _ _ _ (hts _ (lm_t6 49 rfl)) (hs _ (fm_ 487 rfl)) (hs _ (fm_ 488 rfl)) (hs _ (fm_ 489 rfl)) (hs _ (fm_ 490 rfl)) (fun j hj => match j, hj with
    | 0, _ => hs _ (fm_ 491 rfl)
    | 1, _ => hs _ (fm_ 492 rfl)
    | 2, _ => hs _ (fm_ 493 rfl)
    | 3, _ => hs _ (fm_ 494 rfl)
    | 4, _ => hs _ (fm_ 495 rfl)
    | j + 5, h => absurd h (by show ¬ (j + 5 < 5); omega)) (by decide) hA
set_option maxRecDepth 100000 in
theorem sw_18 {args : Array Value} {s : State} {A : Nat → Prop} (hs : ∀ c ∈ FLT, c.before args s = true) (hts : ∀ w ∈ lw_tbl, w.before args s = true) (hA : ∀ a : Nat, a < s.heap.size → ¬ A a) : ∃ a t, SF1 s A ("FoldedArchive$CommandReader", 81, "seep", [115, 101, 101, 112]) a t :=
  sf1_of _ _ _ _ (hts _ (lm_t6 50 rfl)) (hs _ (fm_ 496 rfl)) (hs _ (fm_ 497 rfl)) (hs _ (fm_ 498 rfl)) (hs _ (fm_ 499 rfl)) (fun j hj => match j, hj with
    | 0, _ => hs _ (fm_ 500 rfl)
    | 1, _ => hs _ (fm_ 501 rfl)
    | 2, _ => hs _ (fm_ 502 rfl)
    | 3, _ => hs _ (fm_ 503 rfl)
    | j + 4, h => absurd h (by show ¬ (j + 4 < 4); omega)) (by decide) hA
set_option maxRecDepth 100000 in
theorem sw_19 {args : Array Value} {s : State} {A : Nat → Prop} (hs : ∀ c ∈ FLT, c.before args s = true) (hts : ∀ w ∈ lw_tbl, w.before args s = true) (hA : ∀ a : Nat, a < s.heap.size → ¬ A a) : ∃ a t, SF1 s A ("FoldedArchiveLaw", 342, "", []) a t :=
  sf1_of _ _ _ _ (hts _ (lm_t7 3 rfl)) (hs _ (fm_ 504 rfl)) (hs _ (fm_ 505 rfl)) (hs _ (fm_ 506 rfl)) (hs _ (fm_ 507 rfl)) (fun j hj => match j, hj with
    | j + 0, h => absurd h (by show ¬ (j + 0 < 0); omega)) (by decide) hA
set_option maxRecDepth 100000 in
theorem sw_20 {args : Array Value} {s : State} {A : Nat → Prop} (hs : ∀ c ∈ FLT, c.before args s = true) (hts : ∀ w ∈ lw_tbl, w.before args s = true) (hA : ∀ a : Nat, a < s.heap.size → ¬ A a) : ∃ a t, SF1 s A ("FoldedArchiveLaw", 349, "+", [43]) a t :=
  sf1_of _ _ _ _ (hts _ (lm_t7 65 rfl)) (hs _ (fm_ 508 rfl)) (hs _ (fm_ 509 rfl)) (hs _ (fm_ 510 rfl)) (hs _ (fm_ 511 rfl)) (fun j hj => match j, hj with
    | 0, _ => hs _ (fm_ 512 rfl)
    | j + 1, h => absurd h (by show ¬ (j + 1 < 1); omega)) (by decide) hA
set_option maxRecDepth 100000 in
theorem sw_21 {args : Array Value} {s : State} {A : Nat → Prop} (hs : ∀ c ∈ FLT, c.before args s = true) (hts : ∀ w ∈ lw_tbl, w.before args s = true) (hA : ∀ a : Nat, a < s.heap.size → ¬ A a) : ∃ a t, SF1 s A ("FoldedArchiveLaw", 351, "-", [45]) a t :=
  sf1_of _ _ _ _ (hts _ (lm_t7 66 rfl)) (hs _ (fm_ 513 rfl)) (hs _ (fm_ 514 rfl)) (hs _ (fm_ 515 rfl)) (hs _ (fm_ 516 rfl)) (fun j hj => match j, hj with
    | 0, _ => hs _ (fm_ 517 rfl)
    | j + 1, h => absurd h (by show ¬ (j + 1 < 1); omega)) (by decide) hA
set_option maxRecDepth 100000 in
theorem sw_22 {args : Array Value} {s : State} {A : Nat → Prop} (hs : ∀ c ∈ FLT, c.before args s = true) (hts : ∀ w ∈ lw_tbl, w.before args s = true) (hA : ∀ a : Nat, a < s.heap.size → ¬ A a) : ∃ a t, SF1 s A ("FoldedArchiveLaw", 353, "-(", [45, 40]) a t :=
  sf1_of _ _ _ _ (hts _ (lm_t7 67 rfl)) (hs _ (fm_ 518 rfl)) (hs _ (fm_ 519 rfl)) (hs _ (fm_ 520 rfl)) (hs _ (fm_ 521 rfl)) (fun j hj => match j, hj with
    | 0, _ => hs _ (fm_ 522 rfl)
    | 1, _ => hs _ (fm_ 523 rfl)
    | j + 2, h => absurd h (by show ¬ (j + 2 < 2); omega)) (by decide) hA
set_option maxRecDepth 100000 in
theorem sw_23 {args : Array Value} {s : State} {A : Nat → Prop} (hs : ∀ c ∈ FLT, c.before args s = true) (hts : ∀ w ∈ lw_tbl, w.before args s = true) (hA : ∀ a : Nat, a < s.heap.size → ¬ A a) : ∃ a t, SF1 s A ("FoldedArchiveLaw", 355, ")", [41]) a t :=
  sf1_of _ _ _ _ (hts _ (lm_t7 68 rfl)) (hs _ (fm_ 524 rfl)) (hs _ (fm_ 525 rfl)) (hs _ (fm_ 526 rfl)) (hs _ (fm_ 527 rfl)) (fun j hj => match j, hj with
    | 0, _ => hs _ (fm_ 528 rfl)
    | j + 1, h => absurd h (by show ¬ (j + 1 < 1); omega)) (by decide) hA
set_option maxRecDepth 100000 in
theorem sw_24 {args : Array Value} {s : State} {A : Nat → Prop} (hs : ∀ c ∈ FLT, c.before args s = true) (hts : ∀ w ∈ lw_tbl, w.before args s = true) (hA : ∀ a : Nat, a < s.heap.size → ¬ A a) : ∃ a t, SF1 s A ("FoldedArchiveLaw", 357, "(", [40]) a t :=
  sf1_of _ _ _ _ (hts _ (lm_t7 69 rfl)) (hs _ (fm_ 529 rfl)) (hs _ (fm_ 530 rfl)) (hs _ (fm_ 531 rfl)) (hs _ (fm_ 532 rfl)) (fun j hj => match j, hj with
    | 0, _ => hs _ (fm_ 533 rfl)
    | j + 1, h => absurd h (by show ¬ (j + 1 < 1); omega)) (by decide) hA
set_option maxRecDepth 100000 in
theorem sw_25 {args : Array Value} {s : State} {A : Nat → Prop} (hs : ∀ c ∈ FLT, c.before args s = true) (hts : ∀ w ∈ lw_tbl, w.before args s = true) (hA : ∀ a : Nat, a < s.heap.size → ¬ A a) : ∃ a t, SF1 s A ("FoldedArchiveLaw", 359, "+-", [43, 45]) a t :=
  sf1_of _ _ _ _ (hts _ (lm_t7 70 rfl)) (hs _ (fm_ 534 rfl)) (hs _ (fm_ 535 rfl)) (hs _ (fm_ 536 rfl)) (hs _ (fm_ 537 rfl)) (fun j hj => match j, hj with
    | 0, _ => hs _ (fm_ 538 rfl)
    | 1, _ => hs _ (fm_ 539 rfl)
    | j + 2, h => absurd h (by show ¬ (j + 2 < 2); omega)) (by decide) hA
set_option maxRecDepth 100000 in
theorem sw_all {args : Array Value} {s : State} {A : Nat → Prop} (hs : ∀ c ∈ FLT, c.before args s = true) (hts : ∀ w ∈ lw_tbl, w.before args s = true) (hA : ∀ a : Nat, a < s.heap.size → ¬ A a) : ∃ f : Nat → Nat × Nat, ∀ (i : Nat) (q : String × Nat × String × List Int32), strTab[i]? = some q → SF1 s A q (f i).1 (f i).2 := by
  have h0 : ∀ i : Nat, ∃ p : Nat × Nat, ∀ q : String × Nat × String × List Int32, strTab[i]? = some q → SF1 s A q p.1 p.2 := by
    intro i
    match i with
    | 0 => obtain ⟨a, t, h⟩ := sw_0 hs hts hA; exact ⟨(a, t), fun q hq => by obtain rfl : (("FoldedArchiveLaw", 287, "pour ", [112, 111, 117, 114, 32]) : String × Nat × String × List Int32) = q := Option.some.inj hq; exact h⟩
    | 1 => obtain ⟨a, t, h⟩ := sw_1 hs hts hA; exact ⟨(a, t), fun q hq => by obtain rfl : (("FoldedArchiveLaw", 296, " ", [32]) : String × Nat × String × List Int32) = q := Option.some.inj hq; exact h⟩
    | 2 => obtain ⟨a, t, h⟩ := sw_2 hs hts hA; exact ⟨(a, t), fun q hq => by obtain rfl : (("FoldedArchiveLaw", 298, ";fold ", [59, 102, 111, 108, 100, 32]) : String × Nat × String × List Int32) = q := Option.some.inj hq; exact h⟩
    | 3 => obtain ⟨a, t, h⟩ := sw_3 hs hts hA; exact ⟨(a, t), fun q hq => by obtain rfl : (("java/util/Arrays", 337, " > ", [32, 62, 32]) : String × Nat × String × List Int32) = q := Option.some.inj hq; exact h⟩
    | 4 => obtain ⟨a, t, h⟩ := sw_4 hs hts hA; exact ⟨(a, t), fun q hq => by obtain rfl : (("FoldedArchiveLaw", 304, ";tag ", [59, 116, 97, 103, 32]) : String × Nat × String × List Int32) = q := Option.some.inj hq; exact h⟩
    | 5 => obtain ⟨a, t, h⟩ := sw_5 hs hts hA; exact ⟨(a, t), fun q hq => by obtain rfl : (("FoldedArchiveLaw", 309, ";open", [59, 111, 112, 101, 110]) : String × Nat × String × List Int32) = q := Option.some.inj hq; exact h⟩
    | 6 => obtain ⟨a, t, h⟩ := sw_6 hs hts hA; exact ⟨(a, t), fun q hq => by obtain rfl : (("FoldedArchiveLaw", 311, ";", [59]) : String × Nat × String × List Int32) = q := Option.some.inj hq; exact h⟩
    | 7 => obtain ⟨a, t, h⟩ := sw_7 hs hts hA; exact ⟨(a, t), fun q hq => by obtain rfl : (("FoldedArchive$CommandReader", 59, "add", [97, 100, 100]) : String × Nat × String × List Int32) = q := Option.some.inj hq; exact h⟩
    | 8 => obtain ⟨a, t, h⟩ := sw_8 hs hts hA; exact ⟨(a, t), fun q hq => by obtain rfl : (("FoldedArchive$CommandReader", 61, "pour D N", [112, 111, 117, 114, 32, 68, 32, 78]) : String × Nat × String × List Int32) = q := Option.some.inj hq; exact h⟩
    | 9 => obtain ⟨a, t, h⟩ := sw_9 hs hts hA; exact ⟨(a, t), fun q hq => by obtain rfl : (("FoldedArchive$CommandReader", 63, "tag DT", [116, 97, 103, 32, 68, 84]) : String × Nat × String × List Int32) = q := Option.some.inj hq; exact h⟩
    | 10 => obtain ⟨a, t, h⟩ := sw_10 hs hts hA; exact ⟨(a, t), fun q hq => by obtain rfl : (("FoldedArchive$CommandReader", 65, "untag DT", [117, 110, 116, 97, 103, 32, 68, 84]) : String × Nat × String × List Int32) = q := Option.some.inj hq; exact h⟩
    | 11 => obtain ⟨a, t, h⟩ := sw_11 hs hts hA; exact ⟨(a, t), fun q hq => by obtain rfl : (("FoldedArchive$CommandReader", 67, "fold D", [102, 111, 108, 100, 32, 68]) : String × Nat × String × List Int32) = q := Option.some.inj hq; exact h⟩
    | 12 => obtain ⟨a, t, h⟩ := sw_12 hs hts hA; exact ⟨(a, t), fun q hq => by obtain rfl : (("FoldedArchive$CommandReader", 69, "open", [111, 112, 101, 110]) : String × Nat × String × List Int32) = q := Option.some.inj hq; exact h⟩
    | 13 => obtain ⟨a, t, h⟩ := sw_13 hs hts hA; exact ⟨(a, t), fun q hq => by obtain rfl : (("FoldedArchive$CommandReader", 71, "pipe D>D N", [112, 105, 112, 101, 32, 68, 62, 68, 32, 78]) : String × Nat × String × List Int32) = q := Option.some.inj hq; exact h⟩
    | 14 => obtain ⟨a, t, h⟩ := sw_14 hs hts hA; exact ⟨(a, t), fun q hq => by obtain rfl : (("FoldedArchive$CommandReader", 73, "cut D", [99, 117, 116, 32, 68]) : String × Nat × String × List Int32) = q := Option.some.inj hq; exact h⟩
    | 15 => obtain ⟨a, t, h⟩ := sw_15 hs hts hA; exact ⟨(a, t), fun q hq => by obtain rfl : (("FoldedArchive$CommandReader", 75, "break D", [98, 114, 101, 97, 107, 32, 68]) : String × Nat × String × List Int32) = q := Option.some.inj hq; exact h⟩
    | 16 => obtain ⟨a, t, h⟩ := sw_16 hs hts hA; exact ⟨(a, t), fun q hq => by obtain rfl : (("FoldedArchive$CommandReader", 77, "mend D", [109, 101, 110, 100, 32, 68]) : String × Nat × String × List Int32) = q := Option.some.inj hq; exact h⟩
    | 17 => obtain ⟨a, t, h⟩ := sw_17 hs hts hA; exact ⟨(a, t), fun q hq => by obtain rfl : (("FoldedArchive$CommandReader", 79, "drain", [100, 114, 97, 105, 110]) : String × Nat × String × List Int32) = q := Option.some.inj hq; exact h⟩
    | 18 => obtain ⟨a, t, h⟩ := sw_18 hs hts hA; exact ⟨(a, t), fun q hq => by obtain rfl : (("FoldedArchive$CommandReader", 81, "seep", [115, 101, 101, 112]) : String × Nat × String × List Int32) = q := Option.some.inj hq; exact h⟩
    | 19 => obtain ⟨a, t, h⟩ := sw_19 hs hts hA; exact ⟨(a, t), fun q hq => by obtain rfl : (("FoldedArchiveLaw", 342, "", []) : String × Nat × String × List Int32) = q := Option.some.inj hq; exact h⟩
    | 20 => obtain ⟨a, t, h⟩ := sw_20 hs hts hA; exact ⟨(a, t), fun q hq => by obtain rfl : (("FoldedArchiveLaw", 349, "+", [43]) : String × Nat × String × List Int32) = q := Option.some.inj hq; exact h⟩
    | 21 => obtain ⟨a, t, h⟩ := sw_21 hs hts hA; exact ⟨(a, t), fun q hq => by obtain rfl : (("FoldedArchiveLaw", 351, "-", [45]) : String × Nat × String × List Int32) = q := Option.some.inj hq; exact h⟩
    | 22 => obtain ⟨a, t, h⟩ := sw_22 hs hts hA; exact ⟨(a, t), fun q hq => by obtain rfl : (("FoldedArchiveLaw", 353, "-(", [45, 40]) : String × Nat × String × List Int32) = q := Option.some.inj hq; exact h⟩
    | 23 => obtain ⟨a, t, h⟩ := sw_23 hs hts hA; exact ⟨(a, t), fun q hq => by obtain rfl : (("FoldedArchiveLaw", 355, ")", [41]) : String × Nat × String × List Int32) = q := Option.some.inj hq; exact h⟩
    | 24 => obtain ⟨a, t, h⟩ := sw_24 hs hts hA; exact ⟨(a, t), fun q hq => by obtain rfl : (("FoldedArchiveLaw", 357, "(", [40]) : String × Nat × String × List Int32) = q := Option.some.inj hq; exact h⟩
    | 25 => obtain ⟨a, t, h⟩ := sw_25 hs hts hA; exact ⟨(a, t), fun q hq => by obtain rfl : (("FoldedArchiveLaw", 359, "+-", [43, 45]) : String × Nat × String × List Int32) = q := Option.some.inj hq; exact h⟩
    | i + 26 => exact ⟨(0, 0), fun q hq => absurd (List.getElem?_eq_some_iff.mp hq).1 (by rw [show strTab.length = 26 from rfl]; omega)⟩
  obtain ⟨f, hf⟩ := Classical.axiomOfChoice h0
  exact ⟨f, hf⟩
set_option maxRecDepth 100000 in
theorem st_cls {args : Array Value} {s : State} (hGW : ∀ w ∈ GW, w.before args s = true) : ∃ f : Nat → ClassId × (Nat → Nat), ∀ (c : Nat) (q : vw_C), vwCl[c]? = some q → u_Kn s q.1 q.2.1 q.2.2 (f c).1 (f c).2 := by
  have h0 : ∀ c : Nat, ∃ p : ClassId × (Nat → Nat), ∀ q : vw_C, vwCl[c]? = some q → u_Kn s q.1 q.2.1 q.2.2 p.1 p.2 := by
    intro c
    match c with
    | 0 => obtain ⟨cC, iS, h⟩ := u_known (C := RX0) (T := TX0) (N := 6) (n := 6) hGW inG_X0 (hGW _ (GW_s1 (lm_t1 223 rfl) rfl)); exact ⟨(cC, iS), fun q hq => by obtain rfl : ((RX0, TX0, 6) : vw_C) = q := Option.some.inj hq; exact h⟩
    | 1 => obtain ⟨cC, iS, h⟩ := u_known (C := RX1) (T := TX1) (N := 3) (n := 3) hGW inG_X1 (hGW _ (GW_s1 (lm_t1 152 rfl) rfl)); exact ⟨(cC, iS), fun q hq => by obtain rfl : ((RX1, TX1, 3) : vw_C) = q := Option.some.inj hq; exact h⟩
    | 2 => obtain ⟨cC, iS, h⟩ := u_known (C := RX2) (T := TX2) (N := 2) (n := 2) hGW inG_X2 (hGW _ (GW_s1 (lm_t1 168 rfl) rfl)); exact ⟨(cC, iS), fun q hq => by obtain rfl : ((RX2, TX2, 2) : vw_C) = q := Option.some.inj hq; exact h⟩
    | 3 => obtain ⟨cC, iS, h⟩ := u_known (C := RX3) (T := TX3) (N := 3) (n := 3) hGW inG_X3 (hGW _ (GW_s1 (lm_t1 132 rfl) rfl)); exact ⟨(cC, iS), fun q hq => by obtain rfl : ((RX3, TX3, 3) : vw_C) = q := Option.some.inj hq; exact h⟩
    | 4 => obtain ⟨cC, iS, h⟩ := u_known (C := RX4) (T := TX4) (N := 2) (n := 2) hGW inG_X4 (hGW _ (GW_s1 (lm_t1 77 rfl) rfl)); exact ⟨(cC, iS), fun q hq => by obtain rfl : ((RX4, TX4, 2) : vw_C) = q := Option.some.inj hq; exact h⟩
    | 5 => obtain ⟨cC, iS, h⟩ := u_known (C := RX5) (T := TX5) (N := 5) (n := 5) hGW inG_X5 (hGW _ (GW_s1 (lm_t1 93 rfl) rfl)); exact ⟨(cC, iS), fun q hq => by obtain rfl : ((RX5, TX5, 5) : vw_C) = q := Option.some.inj hq; exact h⟩
    | 6 => obtain ⟨cC, iS, h⟩ := u_known (C := RX6) (T := TX6) (N := 2) (n := 2) hGW inG_X6 (hGW _ (GW_s1 (lm_t1 183 rfl) rfl)); exact ⟨(cC, iS), fun q hq => by obtain rfl : ((RX6, TX6, 2) : vw_C) = q := Option.some.inj hq; exact h⟩
    | 7 => obtain ⟨cC, iS, h⟩ := u_known (C := RX7) (T := TX7) (N := 4) (n := 4) hGW inG_X7 (hGW _ (GW_s1 (lm_t1 203 rfl) rfl)); exact ⟨(cC, iS), fun q hq => by obtain rfl : ((RX7, TX7, 4) : vw_C) = q := Option.some.inj hq; exact h⟩
    | 8 => obtain ⟨cC, iS, h⟩ := u_known (C := RX8) (T := TX8) (N := 3) (n := 3) hGW inG_X8 (hGW _ (GW_s1 (lm_t1 43 rfl) rfl)); exact ⟨(cC, iS), fun q hq => by obtain rfl : ((RX8, TX8, 3) : vw_C) = q := Option.some.inj hq; exact h⟩
    | 9 => obtain ⟨cC, iS, h⟩ := u_known (C := RX9) (T := TX9) (N := 5) (n := 5) hGW inG_X9 (hGW _ (GW_s1 (lm_t1 49 rfl) rfl)); exact ⟨(cC, iS), fun q hq => by obtain rfl : ((RX9, TX9, 5) : vw_C) = q := Option.some.inj hq; exact h⟩
    | 10 => obtain ⟨cC, iS, h⟩ := u_known (C := RX10) (T := TX10) (N := 15) (n := 15) hGW inG_X10 (hGW _ (GW_s1 (lm_t1 35 rfl) rfl)); exact ⟨(cC, iS), fun q hq => by obtain rfl : ((RX10, TX10, 15) : vw_C) = q := Option.some.inj hq; exact h⟩
    | 11 => obtain ⟨cC, iS, h⟩ := u_known (C := RJ4) (T := TJ4) (N := 4) (n := 4) hGW inG_J4 (hGW _ (GW_s1 (lm_t4 185 rfl) rfl)); exact ⟨(cC, iS), fun q hq => by obtain rfl : ((RJ4, TJ4, 4) : vw_C) = q := Option.some.inj hq; exact h⟩
    | 12 => obtain ⟨cC, iS, h⟩ := u_known (C := RJ0) (T := TJ0) (N := 4) (n := 4) hGW inG_J0 (hGW _ (GW_s1 (lm_t2 159 rfl) rfl)); exact ⟨(cC, iS), fun q hq => by obtain rfl : ((RJ0, TJ0, 4) : vw_C) = q := Option.some.inj hq; exact h⟩
    | c + 13 => exact ⟨(0, fun _ => 0), fun q hq => absurd (List.getElem?_eq_some_iff.mp hq).1 (by rw [show vwCl.length = 13 from rfl]; omega)⟩
  obtain ⟨f, hf⟩ := Classical.axiomOfChoice h0
  exact ⟨f, hf⟩
set_option maxRecDepth 100000 in
theorem st_arr {args : Array Value} {s : State} {ty : FieldType} (h : (Cond.arrayClass ty).before args s = true) : ∃ cA : ClassId, ArrOfT s cA ty ∧ s.vm.findClass ("[" ++ ty.toString) = some cA := by
  obtain ⟨cA, k, comp, h1, h2, h3⟩ := Cond.arrayClass_spec h
  exact ⟨cA, fun n z => ⟨fun k h => (by cases h), k, h2, comp, h3⟩, h1⟩
theorem st_arrq {s : State} {C : String} (h : va_AO C s) : ∃ cA : ClassId, ArrOfT s cA (.object C) ∧ va_RA s cA (.object C) := by
  obtain ⟨comp, cA, k, h1, h2, h3, h4, h5⟩ := Cond.arrayOver_spec h
  exact ⟨cA, fun n z => ⟨fun k h => (by cases h), k, h3, comp, h4⟩, k, comp, h3, h4, h1, h5⟩
set_option maxRecDepth 100000 in
theorem st_ao {args : Array Value} {s : State} (hts : ∀ w ∈ lw_tbl, w.before args s = true) : va_AO "FoldedArchive$State" s := va_AO.of (A := args) (hts _ (lm_t1 138 rfl))
set_option maxRecDepth 100000 in
theorem st_arrs {args : Array Value} {s : State} (hts : ∀ w ∈ lw_tbl, w.before args s = true) : ∃ dA : Nat → ClassId, ∀ (k : Nat) (q : ClassId × FieldType), [(dA 0, FieldType.int), (dA 1, .boolean), (dA 2, .char), (dA 3, .long), (dA 4, .object "FoldedArchive$State"), (dA 5, .byte)][k]? = some q → ArrOfT s q.1 q.2 ∧ va_RA s q.1 q.2 := by
  obtain ⟨c0, h0⟩ := st_arr (ty := .int) (hts _ (lm_t1 75 rfl))
  obtain ⟨c1, h1⟩ := st_arr (ty := .boolean) (hts _ (lm_t1 117 rfl))
  obtain ⟨c2, h2⟩ := st_arr (ty := .char) (hts _ (lm_t1 201 rfl))
  obtain ⟨c3, h3⟩ := st_arr (ty := .long) (hts _ (lm_t7 166 rfl))
  obtain ⟨c5, h5⟩ := st_arr (ty := .byte) (hts _ (lm_t2 160 rfl))
  obtain ⟨c4, h4⟩ := st_arrq (st_ao hts)
  refine ⟨fun k => match k with | 0 => c0 | 1 => c1 | 2 => c2 | 3 => c3 | 4 => c4 | _ => c5, fun k q hq => ?_⟩
  match k, hq with
  | 0, hq => obtain rfl : ((c0, FieldType.int) : ClassId × FieldType) = q := Option.some.inj hq; exact h0
  | 1, hq => obtain rfl : ((c1, FieldType.boolean) : ClassId × FieldType) = q := Option.some.inj hq; exact h1
  | 2, hq => obtain rfl : ((c2, FieldType.char) : ClassId × FieldType) = q := Option.some.inj hq; exact h2
  | 3, hq => obtain rfl : ((c3, FieldType.long) : ClassId × FieldType) = q := Option.some.inj hq; exact h3
  | 4, hq => obtain rfl : ((c4, FieldType.object "FoldedArchive$State") : ClassId × FieldType) = q := Option.some.inj hq; exact h4
  | 5, hq => obtain rfl : ((c5, FieldType.byte) : ClassId × FieldType) = q := Option.some.inj hq; exact h5
  | k + 6, hq => exact absurd (List.getElem?_eq_some_iff.mp hq).1 (by show ¬ (k + 6 < 6); omega)
set_option maxRecDepth 100000 in
theorem st_ngw {args : Array Value} {s : State} (hts : ∀ w ∈ lw_tbl, w.before args s = true) : ∀ w ∈ NGW, w.before #[] s = true := by
  intro w hw
  refine ng_moved (u := s) (U := s) (Vm.Alike.refl s.vm) hw (hts w ?_)
  simp only [NGW, List.mem_cons, List.not_mem_nil, or_false] at hw
  rcases hw with rfl | rfl | rfl | rfl | rfl | rfl | rfl | rfl | rfl | rfl
  · exact lm_t5 12 rfl
  · exact lm_t2 179 rfl
  · exact lm_t3 80 rfl
  · exact lm_t3 99 rfl
  · exact lm_t2 217 rfl
  · exact lm_t6 217 rfl
  · exact lm_t6 4 rfl
  · exact lm_t2 143 rfl
  · exact lm_t2 145 rfl
  · exact lm_t2 147 rfl
set_option maxRecDepth 100000 in
theorem st_nc {args : Array Value} {s : State} (hs : ∀ c ∈ FLT, c.before args s = true) : ∀ q ∈ ncTab, va_Nc q.1 q.2 s := by
  intro q hq
  simp only [ncTab, List.mem_cons, List.not_mem_nil, or_false] at hq
  rcases hq with rfl | rfl | rfl | rfl
  · exact va_Nc.of (hs _ (fm_ 229 rfl))
  · exact va_Nc.of (hs _ (fm_ 230 rfl))
  · exact va_Nc.of (hs _ (fm_ 287 rfl))
  · exact va_Nc.of (hs _ (fm_ 228 rfl))
set_option maxRecDepth 100000 in
theorem st_zq1 {args : Array Value} {s : State} {A : Nat → Prop} (hs : ∀ c ∈ FLT, c.before args s = true) (hts : ∀ w ∈ lw_tbl, w.before args s = true) (hA : ∀ a : Nat, a < s.heap.size → ¬ A a) : vx_Zq Bundle.tN "UNASSIGNED_STACK" Bundle.steD A s s.heap := vx_Zqof (hts _ (lm_t2 103 rfl)) (hts _ (lm_t1 13 rfl)) (hs _ (fm_ 4 rfl)) hA
set_option maxRecDepth 100000 in
theorem st_zq2 {args : Array Value} {s : State} {A : Nat → Prop} (hs : ∀ c ∈ FLT, c.before args s = true) (hts : ∀ w ∈ lw_tbl, w.before args s = true) (hA : ∀ a : Nat, a < s.heap.size → ¬ A a) : vx_Zq Bundle.tN "SUPPRESSED_SENTINEL" Bundle.listD A s s.heap := vx_Zqof (hts _ (lm_t2 105 rfl)) (hts _ (lm_t1 13 rfl)) (hs _ (fm_ 5 rfl)) hA
set_option maxRecDepth 100000 in
theorem st_z3 {args : Array Value} {s : State} {A : Nat → Prop} (hs : ∀ c ∈ FLT, c.before args s = true) (hts : ∀ w ∈ lw_tbl, w.before args s = true) (hA : ∀ a : Nat, a < s.heap.size → ¬ A a) : va_Z "java/lang/String" "COMPACT_STRINGS" "Z" (.int 1) A s s.heap := va_Zof (hts _ (lm_t4 194 rfl)) (hts _ (lm_t1 18 rfl)) (va_eqt (hs _ (fm_ 6 rfl))) hA
set_option maxRecDepth 100000 in
theorem st_z4 {args : Array Value} {s : State} {A : Nat → Prop} (hs : ∀ c ∈ FLT, c.before args s = true) (hts : ∀ w ∈ lw_tbl, w.before args s = true) (hA : ∀ a : Nat, a < s.heap.size → ¬ A a) : va_Zq "jdk/internal/util/Preconditions" "SIOOBE_FORMATTER" "Ljava/util/function/BiFunction;" A s s.heap := va_Zqof (hts _ (lm_t5 34 rfl)) (hts _ (lm_t1 30 rfl)) (hs _ (fm_ 7 rfl)) hA
set_option maxRecDepth 100000 in
theorem st_dg1 {args : Array Value} {s : State} {A : Nat → Prop} (hs : ∀ c ∈ FLT, c.before args s = true) (hts : ∀ w ∈ lw_tbl, w.before args s = true) (hA : ∀ a : Nat, a < s.heap.size → ¬ A a) : ∃ d : Nat, va_Z "java/lang/Integer" "DigitOnes" "[B" (.ref d) A s s.heap ∧ va_T .byte d 100 (fun r => .int (Int32.ofNat (48 + r % 10))) A s s.heap := by
  obtain ⟨t, ht, hT⟩ := va_Tof (N := 100) (f := fun r => .int (Int32.ofNat (48 + r % 10))) (A := A) (by decide) (hs _ (fm_ 12 rfl)) (va_eqt (hs _ (fm_ 13 rfl))) (fun j hj => match j, hj with
    | 0, _ => va_eqt (hs _ (fm_ 14 rfl))
    | 1, _ => va_eqt (hs _ (fm_ 15 rfl))
    | 2, _ => va_eqt (hs _ (fm_ 16 rfl))
    | 3, _ => va_eqt (hs _ (fm_ 17 rfl))
    | 4, _ => va_eqt (hs _ (fm_ 18 rfl))
    | 5, _ => va_eqt (hs _ (fm_ 19 rfl))
    | 6, _ => va_eqt (hs _ (fm_ 20 rfl))
    | 7, _ => va_eqt (hs _ (fm_ 21 rfl))
    | 8, _ => va_eqt (hs _ (fm_ 22 rfl))
    | 9, _ => va_eqt (hs _ (fm_ 23 rfl))
    | 10, _ => va_eqt (hs _ (fm_ 24 rfl))
    | 11, _ => va_eqt (hs _ (fm_ 25 rfl))
    | 12, _ => va_eqt (hs _ (fm_ 26 rfl))
    | 13, _ => va_eqt (hs _ (fm_ 27 rfl))
    | 14, _ => va_eqt (hs _ (fm_ 28 rfl))
    | 15, _ => va_eqt (hs _ (fm_ 29 rfl))
    | 16, _ => va_eqt (hs _ (fm_ 30 rfl))
    | 17, _ => va_eqt (hs _ (fm_ 31 rfl))
    | 18, _ => va_eqt (hs _ (fm_ 32 rfl))
    | 19, _ => va_eqt (hs _ (fm_ 33 rfl))
    | 20, _ => va_eqt (hs _ (fm_ 34 rfl))
    | 21, _ => va_eqt (hs _ (fm_ 35 rfl))
    | 22, _ => va_eqt (hs _ (fm_ 36 rfl))
    | 23, _ => va_eqt (hs _ (fm_ 37 rfl))
    | 24, _ => va_eqt (hs _ (fm_ 38 rfl))
    | 25, _ => va_eqt (hs _ (fm_ 39 rfl))
    | 26, _ => va_eqt (hs _ (fm_ 40 rfl))
    | 27, _ => va_eqt (hs _ (fm_ 41 rfl))
    | 28, _ => va_eqt (hs _ (fm_ 42 rfl))
    | 29, _ => va_eqt (hs _ (fm_ 43 rfl))
    | 30, _ => va_eqt (hs _ (fm_ 44 rfl))
    | 31, _ => va_eqt (hs _ (fm_ 45 rfl))
    | 32, _ => va_eqt (hs _ (fm_ 46 rfl))
    | 33, _ => va_eqt (hs _ (fm_ 47 rfl))
    | 34, _ => va_eqt (hs _ (fm_ 48 rfl))
    | 35, _ => va_eqt (hs _ (fm_ 49 rfl))
    | 36, _ => va_eqt (hs _ (fm_ 50 rfl))
    | 37, _ => va_eqt (hs _ (fm_ 51 rfl))
    | 38, _ => va_eqt (hs _ (fm_ 52 rfl))
    | 39, _ => va_eqt (hs _ (fm_ 53 rfl))
    | 40, _ => va_eqt (hs _ (fm_ 54 rfl))
    | 41, _ => va_eqt (hs _ (fm_ 55 rfl))
    | 42, _ => va_eqt (hs _ (fm_ 56 rfl))
    | 43, _ => va_eqt (hs _ (fm_ 57 rfl))
    | 44, _ => va_eqt (hs _ (fm_ 58 rfl))
    | 45, _ => va_eqt (hs _ (fm_ 59 rfl))
    | 46, _ => va_eqt (hs _ (fm_ 60 rfl))
    | 47, _ => va_eqt (hs _ (fm_ 61 rfl))
    | 48, _ => va_eqt (hs _ (fm_ 62 rfl))
    | 49, _ => va_eqt (hs _ (fm_ 63 rfl))
    | 50, _ => va_eqt (hs _ (fm_ 64 rfl))
    | 51, _ => va_eqt (hs _ (fm_ 65 rfl))
    | 52, _ => va_eqt (hs _ (fm_ 66 rfl))
    | 53, _ => va_eqt (hs _ (fm_ 67 rfl))
    | 54, _ => va_eqt (hs _ (fm_ 68 rfl))
    | 55, _ => va_eqt (hs _ (fm_ 69 rfl))
    | 56, _ => va_eqt (hs _ (fm_ 70 rfl))
    | 57, _ => va_eqt (hs _ (fm_ 71 rfl))
    | 58, _ => va_eqt (hs _ (fm_ 72 rfl))
    | 59, _ => va_eqt (hs _ (fm_ 73 rfl))
    | 60, _ => va_eqt (hs _ (fm_ 74 rfl))
    | 61, _ => va_eqt (hs _ (fm_ 75 rfl))
    | 62, _ => va_eqt (hs _ (fm_ 76 rfl))
    | 63, _ => va_eqt (hs _ (fm_ 77 rfl))
    | 64, _ => va_eqt (hs _ (fm_ 78 rfl))
    | 65, _ => va_eqt (hs _ (fm_ 79 rfl))
    | 66, _ => va_eqt (hs _ (fm_ 80 rfl))
    | 67, _ => va_eqt (hs _ (fm_ 81 rfl))
    | 68, _ => va_eqt (hs _ (fm_ 82 rfl))
    | 69, _ => va_eqt (hs _ (fm_ 83 rfl))
    | 70, _ => va_eqt (hs _ (fm_ 84 rfl))
    | 71, _ => va_eqt (hs _ (fm_ 85 rfl))
    | 72, _ => va_eqt (hs _ (fm_ 86 rfl))
    | 73, _ => va_eqt (hs _ (fm_ 87 rfl))
    | 74, _ => va_eqt (hs _ (fm_ 88 rfl))
    | 75, _ => va_eqt (hs _ (fm_ 89 rfl))
    | 76, _ => va_eqt (hs _ (fm_ 90 rfl))
    | 77, _ => va_eqt (hs _ (fm_ 91 rfl))
    | 78, _ => va_eqt (hs _ (fm_ 92 rfl))
    | 79, _ => va_eqt (hs _ (fm_ 93 rfl))
    | 80, _ => va_eqt (hs _ (fm_ 94 rfl))
    | 81, _ => va_eqt (hs _ (fm_ 95 rfl))
    | 82, _ => va_eqt (hs _ (fm_ 96 rfl))
    | 83, _ => va_eqt (hs _ (fm_ 97 rfl))
    | 84, _ => va_eqt (hs _ (fm_ 98 rfl))
    | 85, _ => va_eqt (hs _ (fm_ 99 rfl))
    | 86, _ => va_eqt (hs _ (fm_ 100 rfl))
    | 87, _ => va_eqt (hs _ (fm_ 101 rfl))
    | 88, _ => va_eqt (hs _ (fm_ 102 rfl))
    | 89, _ => va_eqt (hs _ (fm_ 103 rfl))
    | 90, _ => va_eqt (hs _ (fm_ 104 rfl))
    | 91, _ => va_eqt (hs _ (fm_ 105 rfl))
    | 92, _ => va_eqt (hs _ (fm_ 106 rfl))
    | 93, _ => va_eqt (hs _ (fm_ 107 rfl))
    | 94, _ => va_eqt (hs _ (fm_ 108 rfl))
    | 95, _ => va_eqt (hs _ (fm_ 109 rfl))
    | 96, _ => va_eqt (hs _ (fm_ 110 rfl))
    | 97, _ => va_eqt (hs _ (fm_ 111 rfl))
    | 98, _ => va_eqt (hs _ (fm_ 112 rfl))
    | 99, _ => va_eqt (hs _ (fm_ 113 rfl))
    | j + 100, h => absurd h (by omega)) hA
  exact ⟨t, va_Zof (hts _ (lm_t5 104 rfl)) (hts _ (lm_t1 23 rfl)) ht hA, hT⟩
set_option maxRecDepth 100000 in
theorem st_dg2 {args : Array Value} {s : State} {A : Nat → Prop} (hs : ∀ c ∈ FLT, c.before args s = true) (hts : ∀ w ∈ lw_tbl, w.before args s = true) (hA : ∀ a : Nat, a < s.heap.size → ¬ A a) : ∃ d : Nat, va_Z "java/lang/Integer" "DigitTens" "[B" (.ref d) A s s.heap ∧ va_T .byte d 100 (fun r => .int (Int32.ofNat (48 + r / 10))) A s s.heap := by
  obtain ⟨t, ht, hT⟩ := va_Tof (N := 100) (f := fun r => .int (Int32.ofNat (48 + r / 10))) (A := A) (by decide) (hs _ (fm_ 115 rfl)) (va_eqt (hs _ (fm_ 116 rfl))) (fun j hj => match j, hj with
    | 0, _ => va_eqt (hs _ (fm_ 117 rfl))
    | 1, _ => va_eqt (hs _ (fm_ 118 rfl))
    | 2, _ => va_eqt (hs _ (fm_ 119 rfl))
    | 3, _ => va_eqt (hs _ (fm_ 120 rfl))
    | 4, _ => va_eqt (hs _ (fm_ 121 rfl))
    | 5, _ => va_eqt (hs _ (fm_ 122 rfl))
    | 6, _ => va_eqt (hs _ (fm_ 123 rfl))
    | 7, _ => va_eqt (hs _ (fm_ 124 rfl))
    | 8, _ => va_eqt (hs _ (fm_ 125 rfl))
    | 9, _ => va_eqt (hs _ (fm_ 126 rfl))
    | 10, _ => va_eqt (hs _ (fm_ 127 rfl))
    | 11, _ => va_eqt (hs _ (fm_ 128 rfl))
    | 12, _ => va_eqt (hs _ (fm_ 129 rfl))
    | 13, _ => va_eqt (hs _ (fm_ 130 rfl))
    | 14, _ => va_eqt (hs _ (fm_ 131 rfl))
    | 15, _ => va_eqt (hs _ (fm_ 132 rfl))
    | 16, _ => va_eqt (hs _ (fm_ 133 rfl))
    | 17, _ => va_eqt (hs _ (fm_ 134 rfl))
    | 18, _ => va_eqt (hs _ (fm_ 135 rfl))
    | 19, _ => va_eqt (hs _ (fm_ 136 rfl))
    | 20, _ => va_eqt (hs _ (fm_ 137 rfl))
    | 21, _ => va_eqt (hs _ (fm_ 138 rfl))
    | 22, _ => va_eqt (hs _ (fm_ 139 rfl))
    | 23, _ => va_eqt (hs _ (fm_ 140 rfl))
    | 24, _ => va_eqt (hs _ (fm_ 141 rfl))
    | 25, _ => va_eqt (hs _ (fm_ 142 rfl))
    | 26, _ => va_eqt (hs _ (fm_ 143 rfl))
    | 27, _ => va_eqt (hs _ (fm_ 144 rfl))
    | 28, _ => va_eqt (hs _ (fm_ 145 rfl))
    | 29, _ => va_eqt (hs _ (fm_ 146 rfl))
    | 30, _ => va_eqt (hs _ (fm_ 147 rfl))
    | 31, _ => va_eqt (hs _ (fm_ 148 rfl))
    | 32, _ => va_eqt (hs _ (fm_ 149 rfl))
    | 33, _ => va_eqt (hs _ (fm_ 150 rfl))
    | 34, _ => va_eqt (hs _ (fm_ 151 rfl))
    | 35, _ => va_eqt (hs _ (fm_ 152 rfl))
    | 36, _ => va_eqt (hs _ (fm_ 153 rfl))
    | 37, _ => va_eqt (hs _ (fm_ 154 rfl))
    | 38, _ => va_eqt (hs _ (fm_ 155 rfl))
    | 39, _ => va_eqt (hs _ (fm_ 156 rfl))
    | 40, _ => va_eqt (hs _ (fm_ 157 rfl))
    | 41, _ => va_eqt (hs _ (fm_ 158 rfl))
    | 42, _ => va_eqt (hs _ (fm_ 159 rfl))
    | 43, _ => va_eqt (hs _ (fm_ 160 rfl))
    | 44, _ => va_eqt (hs _ (fm_ 161 rfl))
    | 45, _ => va_eqt (hs _ (fm_ 162 rfl))
    | 46, _ => va_eqt (hs _ (fm_ 163 rfl))
    | 47, _ => va_eqt (hs _ (fm_ 164 rfl))
    | 48, _ => va_eqt (hs _ (fm_ 165 rfl))
    | 49, _ => va_eqt (hs _ (fm_ 166 rfl))
    | 50, _ => va_eqt (hs _ (fm_ 167 rfl))
    | 51, _ => va_eqt (hs _ (fm_ 168 rfl))
    | 52, _ => va_eqt (hs _ (fm_ 169 rfl))
    | 53, _ => va_eqt (hs _ (fm_ 170 rfl))
    | 54, _ => va_eqt (hs _ (fm_ 171 rfl))
    | 55, _ => va_eqt (hs _ (fm_ 172 rfl))
    | 56, _ => va_eqt (hs _ (fm_ 173 rfl))
    | 57, _ => va_eqt (hs _ (fm_ 174 rfl))
    | 58, _ => va_eqt (hs _ (fm_ 175 rfl))
    | 59, _ => va_eqt (hs _ (fm_ 176 rfl))
    | 60, _ => va_eqt (hs _ (fm_ 177 rfl))
    | 61, _ => va_eqt (hs _ (fm_ 178 rfl))
    | 62, _ => va_eqt (hs _ (fm_ 179 rfl))
    | 63, _ => va_eqt (hs _ (fm_ 180 rfl))
    | 64, _ => va_eqt (hs _ (fm_ 181 rfl))
    | 65, _ => va_eqt (hs _ (fm_ 182 rfl))
    | 66, _ => va_eqt (hs _ (fm_ 183 rfl))
    | 67, _ => va_eqt (hs _ (fm_ 184 rfl))
    | 68, _ => va_eqt (hs _ (fm_ 185 rfl))
    | 69, _ => va_eqt (hs _ (fm_ 186 rfl))
    | 70, _ => va_eqt (hs _ (fm_ 187 rfl))
    | 71, _ => va_eqt (hs _ (fm_ 188 rfl))
    | 72, _ => va_eqt (hs _ (fm_ 189 rfl))
    | 73, _ => va_eqt (hs _ (fm_ 190 rfl))
    | 74, _ => va_eqt (hs _ (fm_ 191 rfl))
    | 75, _ => va_eqt (hs _ (fm_ 192 rfl))
    | 76, _ => va_eqt (hs _ (fm_ 193 rfl))
    | 77, _ => va_eqt (hs _ (fm_ 194 rfl))
    | 78, _ => va_eqt (hs _ (fm_ 195 rfl))
    | 79, _ => va_eqt (hs _ (fm_ 196 rfl))
    | 80, _ => va_eqt (hs _ (fm_ 197 rfl))
    | 81, _ => va_eqt (hs _ (fm_ 198 rfl))
    | 82, _ => va_eqt (hs _ (fm_ 199 rfl))
    | 83, _ => va_eqt (hs _ (fm_ 200 rfl))
    | 84, _ => va_eqt (hs _ (fm_ 201 rfl))
    | 85, _ => va_eqt (hs _ (fm_ 202 rfl))
    | 86, _ => va_eqt (hs _ (fm_ 203 rfl))
    | 87, _ => va_eqt (hs _ (fm_ 204 rfl))
    | 88, _ => va_eqt (hs _ (fm_ 205 rfl))
    | 89, _ => va_eqt (hs _ (fm_ 206 rfl))
    | 90, _ => va_eqt (hs _ (fm_ 207 rfl))
    | 91, _ => va_eqt (hs _ (fm_ 208 rfl))
    | 92, _ => va_eqt (hs _ (fm_ 209 rfl))
    | 93, _ => va_eqt (hs _ (fm_ 210 rfl))
    | 94, _ => va_eqt (hs _ (fm_ 211 rfl))
    | 95, _ => va_eqt (hs _ (fm_ 212 rfl))
    | 96, _ => va_eqt (hs _ (fm_ 213 rfl))
    | 97, _ => va_eqt (hs _ (fm_ 214 rfl))
    | 98, _ => va_eqt (hs _ (fm_ 215 rfl))
    | 99, _ => va_eqt (hs _ (fm_ 216 rfl))
    | j + 100, h => absurd h (by omega)) hA
  exact ⟨t, va_Zof (hts _ (lm_t5 106 rfl)) (hts _ (lm_t1 23 rfl)) ht hA, hT⟩
set_option maxRecDepth 100000 in
theorem st_gw {args : Array Value} {s : State} (hts : ∀ w ∈ lw_tbl, w.before args s = true) : ∀ w ∈ GW, w.before args s = true := by
  intro w hw
  rcases List.mem_append.mp (List.mem_filter.mp hw).1 with h | h
  · exact hts w h
  · obtain ⟨y, hy, rfl⟩ := List.mem_map.mp h
    simp only [sbPv, List.mem_cons, List.not_mem_nil, or_false] at hy
    rcases hy with rfl | rfl | rfl
    · exact sel_priv (by decide +kernel) (hts _ (lm_t4 185 rfl)) (hts _ (lm_t7 170 rfl)) (hts _ (lm_t4 228 rfl)) (hts _ (lm_t4 229 rfl))
    · exact sel_priv (by decide +kernel) (hts _ (lm_t4 185 rfl)) (hts _ (lm_t7 172 rfl)) (hts _ (lm_t5 57 rfl)) (hts _ (lm_t5 58 rfl))
    · exact sel_priv (by decide +kernel) (hts _ (lm_t4 185 rfl)) (hts _ (lm_t7 173 rfl)) (hts _ (lm_t5 61 rfl)) (hts _ (lm_t5 62 rfl))
