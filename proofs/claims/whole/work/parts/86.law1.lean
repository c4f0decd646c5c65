theorem dL_law_491 : decode code 491 = .ok (.aload_n 1, 1) := by decide +kernel
theorem dL_law_492 : decode code 492 = .ok (.aload_n 0, 1) := by decide +kernel
theorem dL_law_493 : decode code 493 = .ok (.iload 4, 2) := by decide +kernel
theorem dL_law_495 : decode code 495 = .ok (.iconst 1, 1) := by decide +kernel
theorem dL_law_496 : decode code 496 = .ok (.iadd, 1) := by decide +kernel
theorem dL_law_497 : decode code 497 = .ok (.iaload, 1) := by decide +kernel
theorem dL_law_498 : decode code 498 = .ok (.invokevirtual 58, 3) := by decide +kernel
theorem dL_law_501 : decode code 501 = .ok (.aload_n 2, 1) := by decide +kernel
theorem dL_law_502 : decode code 502 = .ok (.aload_n 0, 1) := by decide +kernel
theorem dL_law_503 : decode code 503 = .ok (.iload 4, 2) := by decide +kernel
theorem dL_law_505 : decode code 505 = .ok (.iconst 1, 1) := by decide +kernel
theorem dL_law_506 : decode code 506 = .ok (.iadd, 1) := by decide +kernel
theorem dL_law_507 : decode code 507 = .ok (.iaload, 1) := by decide +kernel
theorem dL_law_508 : decode code 508 = .ok (.invokevirtual 62, 3) := by decide +kernel
theorem dL_law_511 : decode code 511 = .ok (.if_icmp .eq 1232, 3) := by decide +kernel
set_option maxHeartbeats 4000000 in
set_option maxRecDepth 100000 in
/-- remove -/
theorem law_7 {p : Program} {l : Launch} {e : Env} {s : State} {m : MethodId} {below : List Frame} {meth : Method} {c : Code} {b L : Nat} {xs : Nat → Int32} {D : va_G} {cy : Nat → ClassId} {aC aM : Nat → Nat} {AC AM : Nat → Prop} {o : Nat} (F : LwF p l s m meth c b L xs D cy aC aM AC AM o) {i : Nat} (hi : i + 5 ≤ L) {cells slots : Nat} (hcs : cells + 1 ≤ room_1.cells ∧ slots + 6 ≤ room_1.slots) (hgo : LwGo p l e s m below meth c b D cy aC aM o i (cells + 1) (slots + 6)) {I : Nat → Int32} {Lg : Nat → Int64} {A : Nat → Nat → Int32} {B : Nat → Nat → Int64} {J : Nat → Int32} {E : Nat → Nat → Int32} {f : Nat → Int64} {H : Heap} {locs : List Loc} {ls : Array Slot} (hP : LwP D cy aC aM o I Lg A B J E f H) (hS : va_S (sNew s) s.heap H locs) (hst : LSt I Lg A B J E) (hl : lv_has ls 7 [(0, .ref b), (1, .ref (aC 0)), (2, .ref (aM 0)), (3, .ref o), (4, .int (nI i))]) : WL p l e s m b below meth c H locs cells slots (F0 m 491 ls []) := by
  obtain ⟨S, hC, hM, hW⟩ := hst
  have hx := F.1.1
  have hb := F.1.2.1
  refine lv_aload_n hx hb dL_law_491 rfl (lv_at hl 1 rfl) ?_
  refine law_arg F (k := 1) 0 4 hl rfl rfl (by omega) (by decide) hS dL_law_492 dL_law_493 dL_law_495 dL_law_496 dL_law_497 ?_
  have hk := t_remove hC hM hW (xs (i + 1)) (K := fun r r' I1 Lg1 A1 B1 J1 E1 => r = r' ∧ LSt I1 Lg1 A1 B1 J1 E1) (by intros; exact ⟨rfl, _, by assumption, by assumption, by assumption⟩)
  refine lawCi F (As := [.int (xs (i + 1))]) (rest := []) (n := 1) (c_X9_remove F.2.2.2.2.2.1 I Lg A B (xs (i + 1)) _ hk) hP hS mw_2_205 wd_X9_remove rfl (by decide +kernel) ⟨rfl, rfl⟩ ⟨Nat.le_of_ble_eq_true rfl, Nat.le_of_ble_eq_true rfl⟩ rfl hl.1 rfl (Nat.le_of_ble_eq_true rfl) dL_law_498 ⟨Nat.le_of_succ_le hcs.1, Nat.le_trans (Nat.le_add_right _ 6) hcs.2⟩ (fun r u H locs h hP hS => ?_)
  obtain ⟨I1, L1, A1, B1⟩ := u
  dsimp only at h hP
  try dsimp only at h
  refine lv_aload_n hx hb dL_law_501 rfl (lv_at hl 2 rfl) ?_
  refine law_arg F (k := 1) 0 4 hl rfl rfl (by omega) (by decide) hS dL_law_502 dL_law_503 dL_law_505 dL_law_506 dL_law_507 ?_
  refine lawMi F (As := [.int (xs (i + 1))]) (rest := [.int r]) (n := 1) (c_X10_remove F.2.2.2.2.2.2.1 J E (xs (i + 1)) _ h) hP hS mw_5_40 wd_X10_remove rfl (by decide +kernel) ⟨rfl, rfl⟩ ⟨Nat.le_of_ble_eq_true rfl, Nat.le_of_ble_eq_true rfl⟩ rfl hl.1 rfl (Nat.le_of_ble_eq_true rfl) dL_law_508 ⟨Nat.le_of_succ_le hcs.1, Nat.le_trans (Nat.le_add_right _ 6) hcs.2⟩ (fun r' u H locs h hP hS => ?_)
  obtain ⟨J1, E1⟩ := u
  dsimp only at h hP
  obtain ⟨hrr, hst⟩ := h
  refine lv_icmp_eq (tgt := 1743) hx hb dL_law_511 (by decide) (fun _ => ?_) (fun hc => absurd hrr hc)
  exact W.widen (k := cells + 1) (n := slots + 6) (Nat.le_succ _) (Nat.le_add_right _ _) (hgo _ _ _ _ _ _ _ _ _ _ hP hS hst hl)
theorem dL_law_516 : decode code 516 = .ok (.aload_n 1, 1) := by decide +kernel
theorem dL_law_517 : decode code 517 = .ok (.aload_n 0, 1) := by decide +kernel
theorem dL_law_518 : decode code 518 = .ok (.iload 4, 2) := by decide +kernel
theorem dL_law_520 : decode code 520 = .ok (.iconst 1, 1) := by decide +kernel
theorem dL_law_521 : decode code 521 = .ok (.iadd, 1) := by decide +kernel
theorem dL_law_522 : decode code 522 = .ok (.iaload, 1) := by decide +kernel
theorem dL_law_523 : decode code 523 = .ok (.aload_n 0, 1) := by decide +kernel
theorem dL_law_524 : decode code 524 = .ok (.iload 4, 2) := by decide +kernel
theorem dL_law_526 : decode code 526 = .ok (.iconst 2, 1) := by decide +kernel
theorem dL_law_527 : decode code 527 = .ok (.iadd, 1) := by decide +kernel
theorem dL_law_528 : decode code 528 = .ok (.iaload, 1) := by decide +kernel
theorem dL_law_529 : decode code 529 = .ok (.ifCond .eq 7, 3) := by decide +kernel
theorem dL_law_532 : decode code 532 = .ok (.iconst 1, 1) := by decide +kernel
theorem dL_law_533 : decode code 533 = .ok (.goto 4, 3) := by decide +kernel
theorem dL_law_536 : decode code 536 = .ok (.iconst 0, 1) := by decide +kernel
theorem dL_law_537 : decode code 537 = .ok (.invokevirtual 63, 3) := by decide +kernel
theorem dL_law_540 : decode code 540 = .ok (.aload_n 2, 1) := by decide +kernel
theorem dL_law_541 : decode code 541 = .ok (.aload_n 0, 1) := by decide +kernel
theorem dL_law_542 : decode code 542 = .ok (.iload 4, 2) := by decide +kernel
theorem dL_law_544 : decode code 544 = .ok (.iconst 1, 1) := by decide +kernel
theorem dL_law_545 : decode code 545 = .ok (.iadd, 1) := by decide +kernel
theorem dL_law_546 : decode code 546 = .ok (.iaload, 1) := by decide +kernel
theorem dL_law_547 : decode code 547 = .ok (.aload_n 0, 1) := by decide +kernel
theorem dL_law_548 : decode code 548 = .ok (.iload 4, 2) := by decide +kernel
theorem dL_law_550 : decode code 550 = .ok (.iconst 2, 1) := by decide +kernel
theorem dL_law_551 : decode code 551 = .ok (.iadd, 1) := by decide +kernel
theorem dL_law_552 : decode code 552 = .ok (.iaload, 1) := by decide +kernel
theorem dL_law_553 : decode code 553 = .ok (.ifCond .eq 7, 3) := by decide +kernel
theorem dL_law_556 : decode code 556 = .ok (.iconst 1, 1) := by decide +kernel
theorem dL_law_557 : decode code 557 = .ok (.goto 4, 3) := by decide +kernel
theorem dL_law_560 : decode code 560 = .ok (.iconst 0, 1) := by decide +kernel
theorem dL_law_561 : decode code 561 = .ok (.invokevirtual 67, 3) := by decide +kernel
theorem dL_law_564 : decode code 564 = .ok (.if_icmp .eq 1179, 3) := by decide +kernel
set_option maxHeartbeats 4000000 in
set_option maxRecDepth 100000 in
/-- select -/
theorem law_8 {p : Program} {l : Launch} {e : Env} {s : State} {m : MethodId} {below : List Frame} {meth : Method} {c : Code} {b L : Nat} {xs : Nat → Int32} {D : va_G} {cy : Nat → ClassId} {aC aM : Nat → Nat} {AC AM : Nat → Prop} {o : Nat} (F : LwF p l s m meth c b L xs D cy aC aM AC AM o) {i : Nat} (hi : i + 5 ≤ L) {cells slots : Nat} (hcs : cells + 1 ≤ room_1.cells ∧ slots + 6 ≤ room_1.slots) (hgo : LwGo p l e s m below meth c b D cy aC aM o i (cells + 1) (slots + 6)) {I : Nat → Int32} {Lg : Nat → Int64} {A : Nat → Nat → Int32} {B : Nat → Nat → Int64} {J : Nat → Int32} {E : Nat → Nat → Int32} {f : Nat → Int64} {H : Heap} {locs : List Loc} {ls : Array Slot} (hP : LwP D cy aC aM o I Lg A B J E f H) (hS : va_S (sNew s) s.heap H locs) (hst : LSt I Lg A B J E) (hl : lv_has ls 7 [(0, .ref b), (1, .ref (aC 0)), (2, .ref (aM 0)), (3, .ref o), (4, .int (nI i))]) : WL p l e s m b below meth c H locs cells slots (F0 m 516 ls []) := by
  obtain ⟨S, hC, hM, hW⟩ := hst
  have hx := F.1.1
  have hb := F.1.2.1
  by_cases hz : xs (i + 2) = 0
  · refine lv_aload_n hx hb dL_law_516 rfl (lv_at hl 1 rfl) ?_
    refine law_arg F (k := 1) 0 4 hl rfl rfl (by omega) (by decide) hS dL_law_517 dL_law_518 dL_law_520 dL_law_521 dL_law_522 ?_
    refine law_arg F (k := 2) 0 4 hl rfl rfl (by omega) (by decide) hS dL_law_523 dL_law_524 dL_law_526 dL_law_527 dL_law_528 ?_
    refine lv_if_eq (tgt := 536) hx hb dL_law_529 (by decide) (fun _ => ?_) (fun hc => absurd hz hc)
    refine lv_iconst (v := 0) hx hb dL_law_536 (by decide) ?_
    have hk := t_select hC hM hW (xs (i + 1)) false (K := fun r r' I1 Lg1 A1 B1 J1 E1 => r = r' ∧ LSt I1 Lg1 A1 B1 J1 E1) (by intros; exact ⟨rfl, _, by assumption, by assumption, by assumption⟩)
    rw [bi_f] at hk
    refine lawCi F (As := [.int (xs (i + 1)), .int (0)]) (rest := []) (n := 2) (c_X9_select F.2.2.2.2.2.1 I Lg A B (xs (i + 1)) 0 _ hk) hP hS mw_2_222 wd_X9_select rfl (by decide +kernel) ⟨rfl, rfl⟩ ⟨Nat.le_of_ble_eq_true rfl, Nat.le_of_ble_eq_true rfl⟩ rfl hl.1 rfl (Nat.le_of_ble_eq_true rfl) dL_law_537 ⟨Nat.le_of_succ_le hcs.1, Nat.le_trans (Nat.le_add_right _ 6) hcs.2⟩ (fun r u H locs h hP hS => ?_)
    obtain ⟨I1, L1, A1, B1⟩ := u
    dsimp only at h hP
    try dsimp only at h
    refine lv_aload_n hx hb dL_law_540 rfl (lv_at hl 2 rfl) ?_
    refine law_arg F (k := 1) 0 4 hl rfl rfl (by omega) (by decide) hS dL_law_541 dL_law_542 dL_law_544 dL_law_545 dL_law_546 ?_
    refine law_arg F (k := 2) 0 4 hl rfl rfl (by omega) (by decide) hS dL_law_547 dL_law_548 dL_law_550 dL_law_551 dL_law_552 ?_
    refine lv_if_eq (tgt := 560) hx hb dL_law_553 (by decide) (fun _ => ?_) (fun hc => absurd hz hc)
    refine lv_iconst (v := 0) hx hb dL_law_560 (by decide) ?_
    refine lawMi F (As := [.int (xs (i + 1)), .int (0)]) (rest := [.int r]) (n := 2) (c_X10_select F.2.2.2.2.2.2.1 J E (xs (i + 1)) 0 _ h) hP hS mw_5_44 wd_X10_select rfl (by decide +kernel) ⟨rfl, rfl⟩ ⟨Nat.le_of_ble_eq_true rfl, Nat.le_of_ble_eq_true rfl⟩ rfl hl.1 rfl (Nat.le_of_ble_eq_true rfl) dL_law_561 ⟨Nat.le_of_succ_le hcs.1, Nat.le_trans (Nat.le_add_right _ 6) hcs.2⟩ (fun r' u H locs h hP hS => ?_)
    obtain ⟨J1, E1⟩ := u
    dsimp only at h hP
    obtain ⟨hrr, hst⟩ := h
    refine lv_icmp_eq (tgt := 1743) hx hb dL_law_564 (by decide) (fun _ => ?_) (fun hc => absurd hrr hc)
    exact W.widen (k := cells + 1) (n := slots + 6) (Nat.le_succ _) (Nat.le_add_right _ _) (hgo _ _ _ _ _ _ _ _ _ _ hP hS hst hl)
  · refine lv_aload_n hx hb dL_law_516 rfl (lv_at hl 1 rfl) ?_
    refine law_arg F (k := 1) 0 4 hl rfl rfl (by omega) (by decide) hS dL_law_517 dL_law_518 dL_law_520 dL_law_521 dL_law_522 ?_
    refine law_arg F (k := 2) 0 4 hl rfl rfl (by omega) (by decide) hS dL_law_523 dL_law_524 dL_law_526 dL_law_527 dL_law_528 ?_
    refine lv_if_eq (tgt := 536) hx hb dL_law_529 (by decide) (fun hc => absurd hc hz) (fun _ => ?_)
    refine lv_iconst (v := 1) hx hb dL_law_532 (by decide) ?_
    refine lv_goto (tgt := 537) hx hb dL_law_533 (by decide) ?_
    have hk := t_select hC hM hW (xs (i + 1)) true (K := fun r r' I1 Lg1 A1 B1 J1 E1 => r = r' ∧ LSt I1 Lg1 A1 B1 J1 E1) (by intros; exact ⟨rfl, _, by assumption, by assumption, by assumption⟩)
    rw [bi_t] at hk
    refine lawCi F (As := [.int (xs (i + 1)), .int (1)]) (rest := []) (n := 2) (c_X9_select F.2.2.2.2.2.1 I Lg A B (xs (i + 1)) 1 _ hk) hP hS mw_2_222 wd_X9_select rfl (by decide +kernel) ⟨rfl, rfl⟩ ⟨Nat.le_of_ble_eq_true rfl, Nat.le_of_ble_eq_true rfl⟩ rfl hl.1 rfl (Nat.le_of_ble_eq_true rfl) dL_law_537 ⟨Nat.le_of_succ_le hcs.1, Nat.le_trans (Nat.le_add_right _ 6) hcs.2⟩ (fun r u H locs h hP hS => ?_)
    obtain ⟨I1, L1, A1, B1⟩ := u
    dsimp only at h hP
    try dsimp only at h
    refine lv_aload_n hx hb dL_law_540 rfl (lv_at hl 2 rfl) ?_
    refine law_arg F (k := 1) 0 4 hl rfl rfl (by omega) (by decide) hS dL_law_541 dL_law_542 dL_law_544 dL_law_545 dL_law_546 ?_
    refine law_arg F (k := 2) 0 4 hl rfl rfl (by omega) (by decide) hS dL_law_547 dL_law_548 dL_law_550 dL_law_551 dL_law_552 ?_
    refine lv_if_eq (tgt := 560) hx hb dL_law_553 (by decide) (fun hc => absurd hc hz) (fun _ => ?_)
    refine lv_iconst (v := 1) hx hb dL_law_556 (by decide) ?_
    refine lv_goto (tgt := 561) hx hb dL_law_557 (by decide) ?_
    refine lawMi F (As := [.int (xs (i + 1)), .int (1)]) (rest := [.int r]) (n := 2) (c_X10_select F.2.2.2.2.2.2.1 J E (xs (i + 1)) 1 _ h) hP hS mw_5_44 wd_X10_select rfl (by decide +kernel) ⟨rfl, rfl⟩ ⟨Nat.le_of_ble_eq_true rfl, Nat.le_of_ble_eq_true rfl⟩ rfl hl.1 rfl (Nat.le_of_ble_eq_true rfl) dL_law_561 ⟨Nat.le_of_succ_le hcs.1, Nat.le_trans (Nat.le_add_right _ 6) hcs.2⟩ (fun r' u H locs h hP hS => ?_)
    obtain ⟨J1, E1⟩ := u
    dsimp only at h hP
    obtain ⟨hrr, hst⟩ := h
    refine lv_icmp_eq (tgt := 1743) hx hb dL_law_564 (by decide) (fun _ => ?_) (fun hc => absurd hrr hc)
    exact W.widen (k := cells + 1) (n := slots + 6) (Nat.le_succ _) (Nat.le_add_right _ _) (hgo _ _ _ _ _ _ _ _ _ _ hP hS hst hl)
theorem dL_law_569 : decode code 569 = .ok (.aload_n 1, 1) := by decide +kernel
theorem dL_law_570 : decode code 570 = .ok (.aload_n 0, 1) := by decide +kernel
theorem dL_law_571 : decode code 571 = .ok (.iload 4, 2) := by decide +kernel
theorem dL_law_573 : decode code 573 = .ok (.iconst 1, 1) := by decide +kernel
theorem dL_law_574 : decode code 574 = .ok (.iadd, 1) := by decide +kernel
theorem dL_law_575 : decode code 575 = .ok (.iaload, 1) := by decide +kernel
theorem dL_law_576 : decode code 576 = .ok (.aload_n 0, 1) := by decide +kernel
theorem dL_law_577 : decode code 577 = .ok (.iload 4, 2) := by decide +kernel
theorem dL_law_579 : decode code 579 = .ok (.iconst 2, 1) := by decide +kernel
theorem dL_law_580 : decode code 580 = .ok (.iadd, 1) := by decide +kernel
theorem dL_law_581 : decode code 581 = .ok (.iaload, 1) := by decide +kernel
theorem dL_law_582 : decode code 582 = .ok (.aload_n 0, 1) := by decide +kernel
theorem dL_law_583 : decode code 583 = .ok (.iload 4, 2) := by decide +kernel
theorem dL_law_585 : decode code 585 = .ok (.iconst 3, 1) := by decide +kernel
theorem dL_law_586 : decode code 586 = .ok (.iadd, 1) := by decide +kernel
theorem dL_law_587 : decode code 587 = .ok (.iaload, 1) := by decide +kernel
theorem dL_law_588 : decode code 588 = .ok (.invokevirtual 68, 3) := by decide +kernel
theorem dL_law_591 : decode code 591 = .ok (.aload_n 2, 1) := by decide +kernel
theorem dL_law_592 : decode code 592 = .ok (.aload_n 0, 1) := by decide +kernel
theorem dL_law_593 : decode code 593 = .ok (.iload 4, 2) := by decide +kernel
theorem dL_law_595 : decode code 595 = .ok (.iconst 1, 1) := by decide +kernel
theorem dL_law_596 : decode code 596 = .ok (.iadd, 1) := by decide +kernel
theorem dL_law_597 : decode code 597 = .ok (.iaload, 1) := by decide +kernel
theorem dL_law_598 : decode code 598 = .ok (.aload_n 0, 1) := by decide +kernel
theorem dL_law_599 : decode code 599 = .ok (.iload 4, 2) := by decide +kernel
theorem dL_law_601 : decode code 601 = .ok (.iconst 2, 1) := by decide +kernel
theorem dL_law_602 : decode code 602 = .ok (.iadd, 1) := by decide +kernel
theorem dL_law_603 : decode code 603 = .ok (.iaload, 1) := by decide +kernel
theorem dL_law_604 : decode code 604 = .ok (.aload_n 0, 1) := by decide +kernel
theorem dL_law_605 : decode code 605 = .ok (.iload 4, 2) := by decide +kernel
theorem dL_law_607 : decode code 607 = .ok (.iconst 3, 1) := by decide +kernel
theorem dL_law_608 : decode code 608 = .ok (.iadd, 1) := by decide +kernel
theorem dL_law_609 : decode code 609 = .ok (.iaload, 1) := by decide +kernel
theorem dL_law_610 : decode code 610 = .ok (.invokevirtual 72, 3) := by decide +kernel
theorem dL_law_613 : decode code 613 = .ok (.if_icmp .eq 1130, 3) := by decide +kernel
set_option maxHeartbeats 4000000 in
set_option maxRecDepth 100000 in
/-- range -/
theorem law_9 {p : Program} {l : Launch} {e : Env} {s : State} {m : MethodId} {below : List Frame} {meth : Method} {c : Code} {b L : Nat} {xs : Nat → Int32} {D : va_G} {cy : Nat → ClassId} {aC aM : Nat → Nat} {AC AM : Nat → Prop} {o : Nat} (F : LwF p l s m meth c b L xs D cy aC aM AC AM o) {i : Nat} (hi : i + 5 ≤ L) {cells slots : Nat} (hcs : cells + 1 ≤ room_1.cells ∧ slots + 6 ≤ room_1.slots) (hgo : LwGo p l e s m below meth c b D cy aC aM o i (cells + 1) (slots + 6)) {I : Nat → Int32} {Lg : Nat → Int64} {A : Nat → Nat → Int32} {B : Nat → Nat → Int64} {J : Nat → Int32} {E : Nat → Nat → Int32} {f : Nat → Int64} {H : Heap} {locs : List Loc} {ls : Array Slot} (hP : LwP D cy aC aM o I Lg A B J E f H) (hS : va_S (sNew s) s.heap H locs) (hst : LSt I Lg A B J E) (hl : lv_has ls 7 [(0, .ref b), (1, .ref (aC 0)), (2, .ref (aM 0)), (3, .ref o), (4, .int (nI i))]) : WL p l e s m b below meth c H locs cells slots (F0 m 569 ls []) := by
  obtain ⟨S, hC, hM, hW⟩ := hst
  have hx := F.1.1
  have hb := F.1.2.1
  refine lv_aload_n hx hb dL_law_569 rfl (lv_at hl 1 rfl) ?_
  refine law_arg F (k := 1) 0 4 hl rfl rfl (by omega) (by decide) hS dL_law_570 dL_law_571 dL_law_573 dL_law_574 dL_law_575 ?_
  refine law_arg F (k := 2) 0 4 hl rfl rfl (by omega) (by decide) hS dL_law_576 dL_law_577 dL_law_579 dL_law_580 dL_law_581 ?_
  refine law_arg F (k := 3) 0 4 hl rfl rfl (by omega) (by decide) hS dL_law_582 dL_law_583 dL_law_585 dL_law_586 dL_law_587 ?_
  have hk := t_range hC hM hW (xs (i + 1)) (xs (i + 2)) (xs (i + 3)) (K := fun r r' I1 Lg1 A1 B1 J1 E1 => r = r' ∧ LSt I1 Lg1 A1 B1 J1 E1) (by intros; exact ⟨rfl, _, by assumption, by assumption, by assumption⟩)
  refine lawCi F (As := [.int (xs (i + 1)), .int (xs (i + 2)), .int (xs (i + 3))]) (rest := []) (n := 3) (c_X9_range F.2.2.2.2.2.1 I Lg A B (xs (i + 1)) (xs (i + 2)) (xs (i + 3)) _ hk) hP hS mw_2_237 wd_X9_range rfl (by decide +kernel) ⟨rfl, rfl⟩ ⟨Nat.le_of_ble_eq_true rfl, Nat.le_of_ble_eq_true rfl⟩ rfl hl.1 rfl (Nat.le_of_ble_eq_true rfl) dL_law_588 ⟨Nat.le_of_succ_le hcs.1, Nat.le_trans (Nat.le_add_right _ 6) hcs.2⟩ (fun r u H locs h hP hS => ?_)
  obtain ⟨I1, L1, A1, B1⟩ := u
  dsimp only at h hP
  try dsimp only at h
  refine lv_aload_n hx hb dL_law_591 rfl (lv_at hl 2 rfl) ?_
  refine law_arg F (k := 1) 0 4 hl rfl rfl (by omega) (by decide) hS dL_law_592 dL_law_593 dL_law_595 dL_law_596 dL_law_597 ?_
  refine law_arg F (k := 2) 0 4 hl rfl rfl (by omega) (by decide) hS dL_law_598 dL_law_599 dL_law_601 dL_law_602 dL_law_603 ?_
  refine law_arg F (k := 3) 0 4 hl rfl rfl (by omega) (by decide) hS dL_law_604 dL_law_605 dL_law_607 dL_law_608 dL_law_609 ?_
  refine lawMi F (As := [.int (xs (i + 1)), .int (xs (i + 2)), .int (xs (i + 3))]) (rest := [.int r]) (n := 3) (c_X10_range F.2.2.2.2.2.2.1 J E (xs (i + 1)) (xs (i + 2)) (xs (i + 3)) _ h) hP hS mw_5_56 wd_X10_range rfl (by decide +kernel) ⟨rfl, rfl⟩ ⟨Nat.le_of_ble_eq_true rfl, Nat.le_of_ble_eq_true rfl⟩ rfl hl.1 rfl (Nat.le_of_ble_eq_true rfl) dL_law_610 ⟨Nat.le_of_succ_le hcs.1, Nat.le_trans (Nat.le_add_right _ 6) hcs.2⟩ (fun r' u H locs h hP hS => ?_)
  obtain ⟨J1, E1⟩ := u
  dsimp only at h hP
  obtain ⟨hrr, hst⟩ := h
  refine lv_icmp_eq (tgt := 1743) hx hb dL_law_613 (by decide) (fun _ => ?_) (fun hc => absurd hrr hc)
  exact W.widen (k := cells + 1) (n := slots + 6) (Nat.le_succ _) (Nat.le_add_right _ _) (hgo _ _ _ _ _ _ _ _ _ _ hP hS hst hl)
theorem dL_law_618 : decode code 618 = .ok (.aload_n 1, 1) := by decide +kernel
theorem dL_law_619 : decode code 619 = .ok (.aload_n 0, 1) := by decide +kernel
theorem dL_law_620 : decode code 620 = .ok (.iload 4, 2) := by decide +kernel
theorem dL_law_622 : decode code 622 = .ok (.iconst 1, 1) := by decide +kernel
theorem dL_law_623 : decode code 623 = .ok (.iadd, 1) := by decide +kernel
theorem dL_law_624 : decode code 624 = .ok (.iaload, 1) := by decide +kernel
theorem dL_law_625 : decode code 625 = .ok (.aload_n 0, 1) := by decide +kernel
theorem dL_law_626 : decode code 626 = .ok (.iload 4, 2) := by decide +kernel
theorem dL_law_628 : decode code 628 = .ok (.iconst 2, 1) := by decide +kernel
theorem dL_law_629 : decode code 629 = .ok (.iadd, 1) := by decide +kernel
theorem dL_law_630 : decode code 630 = .ok (.iaload, 1) := by decide +kernel
theorem dL_law_631 : decode code 631 = .ok (.invokevirtual 73, 3) := by decide +kernel
theorem dL_law_634 : decode code 634 = .ok (.aload_n 2, 1) := by decide +kernel
theorem dL_law_635 : decode code 635 = .ok (.aload_n 0, 1) := by decide +kernel
theorem dL_law_636 : decode code 636 = .ok (.iload 4, 2) := by decide +kernel
theorem dL_law_638 : decode code 638 = .ok (.iconst 1, 1) := by decide +kernel
theorem dL_law_639 : decode code 639 = .ok (.iadd, 1) := by decide +kernel
theorem dL_law_640 : decode code 640 = .ok (.iaload, 1) := by decide +kernel
theorem dL_law_641 : decode code 641 = .ok (.aload_n 0, 1) := by decide +kernel
theorem dL_law_642 : decode code 642 = .ok (.iload 4, 2) := by decide +kernel
theorem dL_law_644 : decode code 644 = .ok (.iconst 2, 1) := by decide +kernel
theorem dL_law_645 : decode code 645 = .ok (.iadd, 1) := by decide +kernel
theorem dL_law_646 : decode code 646 = .ok (.iaload, 1) := by decide +kernel
theorem dL_law_647 : decode code 647 = .ok (.invokevirtual 76, 3) := by decide +kernel
theorem dL_law_650 : decode code 650 = .ok (.if_icmp .eq 1093, 3) := by decide +kernel
set_option maxHeartbeats 4000000 in
set_option maxRecDepth 100000 in
/-- drop -/
theorem law_10 {p : Program} {l : Launch} {e : Env} {s : State} {m : MethodId} {below : List Frame} {meth : Method} {c : Code} {b L : Nat} {xs : Nat → Int32} {D : va_G} {cy : Nat → ClassId} {aC aM : Nat → Nat} {AC AM : Nat → Prop} {o : Nat} (F : LwF p l s m meth c b L xs D cy aC aM AC AM o) {i : Nat} (hi : i + 5 ≤ L) {cells slots : Nat} (hcs : cells + 1 ≤ room_1.cells ∧ slots + 6 ≤ room_1.slots) (hgo : LwGo p l e s m below meth c b D cy aC aM o i (cells + 1) (slots + 6)) {I : Nat → Int32} {Lg : Nat → Int64} {A : Nat → Nat → Int32} {B : Nat → Nat → Int64} {J : Nat → Int32} {E : Nat → Nat → Int32} {f : Nat → Int64} {H : Heap} {locs : List Loc} {ls : Array Slot} (hP : LwP D cy aC aM o I Lg A B J E f H) (hS : va_S (sNew s) s.heap H locs) (hst : LSt I Lg A B J E) (hl : lv_has ls 7 [(0, .ref b), (1, .ref (aC 0)), (2, .ref (aM 0)), (3, .ref o), (4, .int (nI i))]) : WL p l e s m b below meth c H locs cells slots (F0 m 618 ls []) := by
  obtain ⟨S, hC, hM, hW⟩ := hst
  have hx := F.1.1
  have hb := F.1.2.1
  refine lv_aload_n hx hb dL_law_618 rfl (lv_at hl 1 rfl) ?_
  refine law_arg F (k := 1) 0 4 hl rfl rfl (by omega) (by decide) hS dL_law_619 dL_law_620 dL_law_622 dL_law_623 dL_law_624 ?_
  refine law_arg F (k := 2) 0 4 hl rfl rfl (by omega) (by decide) hS dL_law_625 dL_law_626 dL_law_628 dL_law_629 dL_law_630 ?_
  have hk := t_drop hC hM hW (xs (i + 1)) (xs (i + 2)) (K := fun r r' I1 Lg1 A1 B1 J1 E1 => r = r' ∧ LSt I1 Lg1 A1 B1 J1 E1) (by intros; exact ⟨rfl, _, by assumption, by assumption, by assumption⟩)
  refine lawCi F (As := [.int (xs (i + 1)), .int (xs (i + 2))]) (rest := []) (n := 2) (c_X9_drop F.2.2.2.2.2.1 I Lg A B (xs (i + 1)) (xs (i + 2)) _ hk) hP hS mw_3_5 wd_X9_drop rfl (by decide +kernel) ⟨rfl, rfl⟩ ⟨Nat.le_of_ble_eq_true rfl, Nat.le_of_ble_eq_true rfl⟩ rfl hl.1 rfl (Nat.le_of_ble_eq_true rfl) dL_law_631 ⟨Nat.le_of_succ_le hcs.1, Nat.le_trans (Nat.le_add_right _ 6) hcs.2⟩ (fun r u H locs h hP hS => ?_)
  obtain ⟨I1, L1, A1, B1⟩ := u
  dsimp only at h hP
  try dsimp only at h
  refine lv_aload_n hx hb dL_law_634 rfl (lv_at hl 2 rfl) ?_
  refine law_arg F (k := 1) 0 4 hl rfl rfl (by omega) (by decide) hS dL_law_635 dL_law_636 dL_law_638 dL_law_639 dL_law_640 ?_
  refine law_arg F (k := 2) 0 4 hl rfl rfl (by omega) (by decide) hS dL_law_641 dL_law_642 dL_law_644 dL_law_645 dL_law_646 ?_
  refine lawMi F (As := [.int (xs (i + 1)), .int (xs (i + 2))]) (rest := [.int r]) (n := 2) (c_X10_drop F.2.2.2.2.2.2.1 J E (xs (i + 1)) (xs (i + 2)) _ h) hP hS mw_5_60 wd_X10_drop rfl (by decide +kernel) ⟨rfl, rfl⟩ ⟨Nat.le_of_ble_eq_true rfl, Nat.le_of_ble_eq_true rfl⟩ rfl hl.1 rfl (Nat.le_of_ble_eq_true rfl) dL_law_647 ⟨Nat.le_of_succ_le hcs.1, Nat.le_trans (Nat.le_add_right _ 6) hcs.2⟩ (fun r' u H locs h hP hS => ?_)
  obtain ⟨J1, E1⟩ := u
  dsimp only at h hP
  obtain ⟨hrr, hst⟩ := h
  refine lv_icmp_eq (tgt := 1743) hx hb dL_law_650 (by decide) (fun _ => ?_) (fun hc => absurd hrr hc)
  exact W.widen (k := cells + 1) (n := slots + 6) (Nat.le_succ _) (Nat.le_add_right _ _) (hgo _ _ _ _ _ _ _ _ _ _ hP hS hst hl)
theorem dL_law_655 : decode code 655 = .ok (.aload_n 1, 1) := by decide +kernel
theorem dL_law_656 : decode code 656 = .ok (.aload_n 0, 1) := by decide +kernel
theorem dL_law_657 : decode code 657 = .ok (.iload 4, 2) := by decide +kernel
theorem dL_law_659 : decode code 659 = .ok (.iconst 1, 1) := by decide +kernel
theorem dL_law_660 : decode code 660 = .ok (.iadd, 1) := by decide +kernel
theorem dL_law_661 : decode code 661 = .ok (.iaload, 1) := by decide +kernel
theorem dL_law_662 : decode code 662 = .ok (.aload_n 0, 1) := by decide +kernel
theorem dL_law_663 : decode code 663 = .ok (.iload 4, 2) := by decide +kernel
theorem dL_law_665 : decode code 665 = .ok (.iconst 2, 1) := by decide +kernel
theorem dL_law_666 : decode code 666 = .ok (.iadd, 1) := by decide +kernel
theorem dL_law_667 : decode code 667 = .ok (.iaload, 1) := by decide +kernel
theorem dL_law_668 : decode code 668 = .ok (.ifCond .eq 7, 3) := by decide +kernel
theorem dL_law_671 : decode code 671 = .ok (.iconst 1, 1) := by decide +kernel
theorem dL_law_672 : decode code 672 = .ok (.goto 4, 3) := by decide +kernel
theorem dL_law_675 : decode code 675 = .ok (.iconst 0, 1) := by decide +kernel
theorem dL_law_676 : decode code 676 = .ok (.invokevirtual 77, 3) := by decide +kernel
theorem dL_law_679 : decode code 679 = .ok (.aload_n 2, 1) := by decide +kernel
theorem dL_law_680 : decode code 680 = .ok (.aload_n 0, 1) := by decide +kernel
theorem dL_law_681 : decode code 681 = .ok (.iload 4, 2) := by decide +kernel
theorem dL_law_683 : decode code 683 = .ok (.iconst 1, 1) := by decide +kernel
theorem dL_law_684 : decode code 684 = .ok (.iadd, 1) := by decide +kernel
theorem dL_law_685 : decode code 685 = .ok (.iaload, 1) := by decide +kernel
theorem dL_law_686 : decode code 686 = .ok (.aload_n 0, 1) := by decide +kernel
theorem dL_law_687 : decode code 687 = .ok (.iload 4, 2) := by decide +kernel
theorem dL_law_689 : decode code 689 = .ok (.iconst 2, 1) := by decide +kernel
theorem dL_law_690 : decode code 690 = .ok (.iadd, 1) := by decide +kernel
theorem dL_law_691 : decode code 691 = .ok (.iaload, 1) := by decide +kernel
theorem dL_law_692 : decode code 692 = .ok (.ifCond .eq 7, 3) := by decide +kernel
theorem dL_law_695 : decode code 695 = .ok (.iconst 1, 1) := by decide +kernel
theorem dL_law_696 : decode code 696 = .ok (.goto 4, 3) := by decide +kernel
theorem dL_law_699 : decode code 699 = .ok (.iconst 0, 1) := by decide +kernel
theorem dL_law_700 : decode code 700 = .ok (.invokevirtual 80, 3) := by decide +kernel
theorem dL_law_703 : decode code 703 = .ok (.if_icmp .eq 1040, 3) := by decide +kernel
set_option maxHeartbeats 4000000 in
set_option maxRecDepth 100000 in
/-- missing -/
theorem law_11 {p : Program} {l : Launch} {e : Env} {s : State} {m : MethodId} {below : List Frame} {meth : Method} {c : Code} {b L : Nat} {xs : Nat → Int32} {D : va_G} {cy : Nat → ClassId} {aC aM : Nat → Nat} {AC AM : Nat → Prop} {o : Nat} (F : LwF p l s m meth c b L xs D cy aC aM AC AM o) {i : Nat} (hi : i + 5 ≤ L) {cells slots : Nat} (hcs : cells + 1 ≤ room_1.cells ∧ slots + 6 ≤ room_1.slots) (hgo : LwGo p l e s m below meth c b D cy aC aM o i (cells + 1) (slots + 6)) {I : Nat → Int32} {Lg : Nat → Int64} {A : Nat → Nat → Int32} {B : Nat → Nat → Int64} {J : Nat → Int32} {E : Nat → Nat → Int32} {f : Nat → Int64} {H : Heap} {locs : List Loc} {ls : Array Slot} (hP : LwP D cy aC aM o I Lg A B J E f H) (hS : va_S (sNew s) s.heap H locs) (hst : LSt I Lg A B J E) (hl : lv_has ls 7 [(0, .ref b), (1, .ref (aC 0)), (2, .ref (aM 0)), (3, .ref o), (4, .int (nI i))]) : WL p l e s m b below meth c H locs cells slots (F0 m 655 ls []) := by
  obtain ⟨S, hC, hM, hW⟩ := hst
  have hx := F.1.1
  have hb := F.1.2.1
  by_cases hz : xs (i + 2) = 0
  · refine lv_aload_n hx hb dL_law_655 rfl (lv_at hl 1 rfl) ?_
    refine law_arg F (k := 1) 0 4 hl rfl rfl (by omega) (by decide) hS dL_law_656 dL_law_657 dL_law_659 dL_law_660 dL_law_661 ?_
    refine law_arg F (k := 2) 0 4 hl rfl rfl (by omega) (by decide) hS dL_law_662 dL_law_663 dL_law_665 dL_law_666 dL_law_667 ?_
    refine lv_if_eq (tgt := 675) hx hb dL_law_668 (by decide) (fun _ => ?_) (fun hc => absurd hz hc)
    refine lv_iconst (v := 0) hx hb dL_law_675 (by decide) ?_
    have hk := t_missing hC hM hW (xs (i + 1)) false (K := fun r r' I1 Lg1 A1 B1 J1 E1 => r = r' ∧ LSt I1 Lg1 A1 B1 J1 E1) (by intros; exact ⟨rfl, _, by assumption, by assumption, by assumption⟩)
    rw [bi_f] at hk
    refine lawCi F (As := [.int (xs (i + 1)), .int (0)]) (rest := []) (n := 2) (c_X9_missing F.2.2.2.2.2.1 I Lg A B (xs (i + 1)) 0 _ hk) hP hS mw_3_13 wd_X9_missing rfl (by decide +kernel) ⟨rfl, rfl⟩ ⟨Nat.le_of_ble_eq_true rfl, Nat.le_of_ble_eq_true rfl⟩ rfl hl.1 rfl (Nat.le_of_ble_eq_true rfl) dL_law_676 ⟨Nat.le_of_succ_le hcs.1, Nat.le_trans (Nat.le_add_right _ 6) hcs.2⟩ (fun r u H locs h hP hS => ?_)
    obtain ⟨I1, L1, A1, B1⟩ := u
    dsimp only at h hP
    try dsimp only at h
    refine lv_aload_n hx hb dL_law_679 rfl (lv_at hl 2 rfl) ?_
    refine law_arg F (k := 1) 0 4 hl rfl rfl (by omega) (by decide) hS dL_law_680 dL_law_681 dL_law_683 dL_law_684 dL_law_685 ?_
    refine law_arg F (k := 2) 0 4 hl rfl rfl (by omega) (by decide) hS dL_law_686 dL_law_687 dL_law_689 dL_law_690 dL_law_691 ?_
    refine lv_if_eq (tgt := 699) hx hb dL_law_692 (by decide) (fun _ => ?_) (fun hc => absurd hz hc)
    refine lv_iconst (v := 0) hx hb dL_law_699 (by decide) ?_
    refine lawMi F (As := [.int (xs (i + 1)), .int (0)]) (rest := [.int r]) (n := 2) (c_X10_missing F.2.2.2.2.2.2.1 J E (xs (i + 1)) 0 _ h) hP hS mw_5_64 wd_X10_missing rfl (by decide +kernel) ⟨rfl, rfl⟩ ⟨Nat.le_of_ble_eq_true rfl, Nat.le_of_ble_eq_true rfl⟩ rfl hl.1 rfl (Nat.le_of_ble_eq_true rfl) dL_law_700 ⟨Nat.le_of_succ_le hcs.1, Nat.le_trans (Nat.le_add_right _ 6) hcs.2⟩ (fun r' u H locs h hP hS => ?_)
    obtain ⟨J1, E1⟩ := u
    dsimp only at h hP
    obtain ⟨hrr, hst⟩ := h
    refine lv_icmp_eq (tgt := 1743) hx hb dL_law_703 (by decide) (fun _ => ?_) (fun hc => absurd hrr hc)
    exact W.widen (k := cells + 1) (n := slots + 6) (Nat.le_succ _) (Nat.le_add_right _ _) (hgo _ _ _ _ _ _ _ _ _ _ hP hS hst hl)
  · refine lv_aload_n hx hb dL_law_655 rfl (lv_at hl 1 rfl) ?_
    refine law_arg F (k := 1) 0 4 hl rfl rfl (by omega) (by decide) hS dL_law_656 dL_law_657 dL_law_659 dL_law_660 dL_law_661 ?_
    refine law_arg F (k := 2) 0 4 hl rfl rfl (by omega) (by decide) hS dL_law_662 dL_law_663 dL_law_665 dL_law_666 dL_law_667 ?_
    refine lv_if_eq (tgt := 675) hx hb dL_law_668 (by decide) (fun hc => absurd hc hz) (fun _ => ?_)
    refine lv_iconst (v := 1) hx hb dL_law_671 (by decide) ?_
    refine lv_goto (tgt := 676) hx hb dL_law_672 (by decide) ?_
    have hk := t_missing hC hM hW (xs (i + 1)) true (K := fun r r' I1 Lg1 A1 B1 J1 E1 => r = r' ∧ LSt I1 Lg1 A1 B1 J1 E1) (by intros; exact ⟨rfl, _, by assumption, by assumption, by assumption⟩)
    rw [bi_t] at hk
    refine lawCi F (As := [.int (xs (i + 1)), .int (1)]) (rest := []) (n := 2) (c_X9_missing F.2.2.2.2.2.1 I Lg A B (xs (i + 1)) 1 _ hk) hP hS mw_3_13 wd_X9_missing rfl (by decide +kernel) ⟨rfl, rfl⟩ ⟨Nat.le_of_ble_eq_true rfl, Nat.le_of_ble_eq_true rfl⟩ rfl hl.1 rfl (Nat.le_of_ble_eq_true rfl) dL_law_676 ⟨Nat.le_of_succ_le hcs.1, Nat.le_trans (Nat.le_add_right _ 6) hcs.2⟩ (fun r u H locs h hP hS => ?_)
    obtain ⟨I1, L1, A1, B1⟩ := u
    dsimp only at h hP
    try dsimp only at h
    refine lv_aload_n hx hb dL_law_679 rfl (lv_at hl 2 rfl) ?_
    refine law_arg F (k := 1) 0 4 hl rfl rfl (by omega) (by decide) hS dL_law_680 dL_law_681 dL_law_683 dL_law_684 dL_law_685 ?_
    refine law_arg F (k := 2) 0 4 hl rfl rfl (by omega) (by decide) hS dL_law_686 dL_law_687 dL_law_689 dL_law_690 dL_law_691 ?_
    refine lv_if_eq (tgt := 699) hx hb dL_law_692 (by decide) (fun hc => absurd hc hz) (fun _ => ?_)
    refine lv_iconst (v := 1) hx hb dL_law_695 (by decide) ?_
    refine lv_goto (tgt := 700) hx hb dL_law_696 (by decide) ?_
    refine lawMi F (As := [.int (xs (i + 1)), .int (1)]) (rest := [.int r]) (n := 2) (c_X10_missing F.2.2.2.2.2.2.1 J E (xs (i + 1)) 1 _ h) hP hS mw_5_64 wd_X10_missing rfl (by decide +kernel) ⟨rfl, rfl⟩ ⟨Nat.le_of_ble_eq_true rfl, Nat.le_of_ble_eq_true rfl⟩ rfl hl.1 rfl (Nat.le_of_ble_eq_true rfl) dL_law_700 ⟨Nat.le_of_succ_le hcs.1, Nat.le_trans (Nat.le_add_right _ 6) hcs.2⟩ (fun r' u H locs h hP hS => ?_)
    obtain ⟨J1, E1⟩ := u
    dsimp only at h hP
    obtain ⟨hrr, hst⟩ := h
    refine lv_icmp_eq (tgt := 1743) hx hb dL_law_703 (by decide) (fun _ => ?_) (fun hc => absurd hrr hc)
    exact W.widen (k := cells + 1) (n := slots + 6) (Nat.le_succ _) (Nat.le_add_right _ _) (hgo _ _ _ _ _ _ _ _ _ _ hP hS hst hl)
theorem dL_law_708 : decode code 708 = .ok (.aload_n 1, 1) := by decide +kernel
theorem dL_law_709 : decode code 709 = .ok (.aload_n 0, 1) := by decide +kernel
theorem dL_law_710 : decode code 710 = .ok (.iload 4, 2) := by decide +kernel
theorem dL_law_712 : decode code 712 = .ok (.iconst 1, 1) := by decide +kernel
theorem dL_law_713 : decode code 713 = .ok (.iadd, 1) := by decide +kernel
theorem dL_law_714 : decode code 714 = .ok (.iaload, 1) := by decide +kernel
theorem dL_law_715 : decode code 715 = .ok (.invokevirtual 81, 3) := by decide +kernel
theorem dL_law_718 : decode code 718 = .ok (.aload_n 2, 1) := by decide +kernel
theorem dL_law_719 : decode code 719 = .ok (.aload_n 0, 1) := by decide +kernel
theorem dL_law_720 : decode code 720 = .ok (.iload 4, 2) := by decide +kernel
theorem dL_law_722 : decode code 722 = .ok (.iconst 1, 1) := by decide +kernel
theorem dL_law_723 : decode code 723 = .ok (.iadd, 1) := by decide +kernel
theorem dL_law_724 : decode code 724 = .ok (.iaload, 1) := by decide +kernel
theorem dL_law_725 : decode code 725 = .ok (.invokevirtual 84, 3) := by decide +kernel
theorem dL_law_728 : decode code 728 = .ok (.if_icmp .eq 1015, 3) := by decide +kernel
set_option maxHeartbeats 4000000 in
set_option maxRecDepth 100000 in
/-- open -/
theorem law_12 {p : Program} {l : Launch} {e : Env} {s : State} {m : MethodId} {below : List Frame} {meth : Method} {c : Code} {b L : Nat} {xs : Nat → Int32} {D : va_G} {cy : Nat → ClassId} {aC aM : Nat → Nat} {AC AM : Nat → Prop} {o : Nat} (F : LwF p l s m meth c b L xs D cy aC aM AC AM o) {i : Nat} (hi : i + 5 ≤ L) {cells slots : Nat} (hcs : cells + 1 ≤ room_1.cells ∧ slots + 6 ≤ room_1.slots) (hgo : LwGo p l e s m below meth c b D cy aC aM o i (cells + 1) (slots + 6)) {I : Nat → Int32} {Lg : Nat → Int64} {A : Nat → Nat → Int32} {B : Nat → Nat → Int64} {J : Nat → Int32} {E : Nat → Nat → Int32} {f : Nat → Int64} {H : Heap} {locs : List Loc} {ls : Array Slot} (hP : LwP D cy aC aM o I Lg A B J E f H) (hS : va_S (sNew s) s.heap H locs) (hst : LSt I Lg A B J E) (hl : lv_has ls 7 [(0, .ref b), (1, .ref (aC 0)), (2, .ref (aM 0)), (3, .ref o), (4, .int (nI i))]) : WL p l e s m b below meth c H locs cells slots (F0 m 708 ls []) := by
  obtain ⟨S, hC, hM, hW⟩ := hst
  have hx := F.1.1
  have hb := F.1.2.1
  refine lv_aload_n hx hb dL_law_708 rfl (lv_at hl 1 rfl) ?_
  refine law_arg F (k := 1) 0 4 hl rfl rfl (by omega) (by decide) hS dL_law_709 dL_law_710 dL_law_712 dL_law_713 dL_law_714 ?_
  have hk := t_open hC hM hW (xs (i + 1)) (K := fun r r' I1 Lg1 A1 B1 J1 E1 => r = r' ∧ LSt I1 Lg1 A1 B1 J1 E1) (by intros; exact ⟨rfl, _, by assumption, by assumption, by assumption⟩)
  refine lawCi F (As := [.int (xs (i + 1))]) (rest := []) (n := 1) (c_X9_open F.2.2.2.2.2.1 I Lg A B (xs (i + 1)) _ hk) hP hS mw_3_18 wd_X9_open rfl (by decide +kernel) ⟨rfl, rfl⟩ ⟨Nat.le_of_ble_eq_true rfl, Nat.le_of_ble_eq_true rfl⟩ rfl hl.1 rfl (Nat.le_of_ble_eq_true rfl) dL_law_715 ⟨Nat.le_of_succ_le hcs.1, Nat.le_trans (Nat.le_add_right _ 6) hcs.2⟩ (fun r u H locs h hP hS => ?_)
  obtain ⟨I1, L1, A1, B1⟩ := u
  dsimp only at h hP
  try dsimp only at h
  refine lv_aload_n hx hb dL_law_718 rfl (lv_at hl 2 rfl) ?_
  refine law_arg F (k := 1) 0 4 hl rfl rfl (by omega) (by decide) hS dL_law_719 dL_law_720 dL_law_722 dL_law_723 dL_law_724 ?_
  refine lawMi F (As := [.int (xs (i + 1))]) (rest := [.int r]) (n := 1) (c_X10_open F.2.2.2.2.2.2.1 J E (xs (i + 1)) _ h) hP hS mw_5_68 wd_X10_open rfl (by decide +kernel) ⟨rfl, rfl⟩ ⟨Nat.le_of_ble_eq_true rfl, Nat.le_of_ble_eq_true rfl⟩ rfl hl.1 rfl (Nat.le_of_ble_eq_true rfl) dL_law_725 ⟨Nat.le_of_succ_le hcs.1, Nat.le_trans (Nat.le_add_right _ 6) hcs.2⟩ (fun r' u H locs h hP hS => ?_)
  obtain ⟨J1, E1⟩ := u
  dsimp only at h hP
  obtain ⟨hrr, hst⟩ := h
  refine lv_icmp_eq (tgt := 1743) hx hb dL_law_728 (by decide) (fun _ => ?_) (fun hc => absurd hrr hc)
  exact W.widen (k := cells + 1) (n := slots + 6) (Nat.le_succ _) (Nat.le_add_right _ _) (hgo _ _ _ _ _ _ _ _ _ _ hP hS hst hl)
theorem dL_law_733 : decode code 733 = .ok (.aload_n 1, 1) := by decide +kernel
theorem dL_law_734 : decode code 734 = .ok (.invokevirtual 85, 3) := by decide +kernel
theorem dL_law_737 : decode code 737 = .ok (.aload_n 2, 1) := by decide +kernel
theorem dL_law_738 : decode code 738 = .ok (.invokevirtual 89, 3) := by decide +kernel
theorem dL_law_741 : decode code 741 = .ok (.if_icmp .eq 1002, 3) := by decide +kernel
set_option maxHeartbeats 4000000 in
set_option maxRecDepth 100000 in
/-- back -/
theorem law_13 {p : Program} {l : Launch} {e : Env} {s : State} {m : MethodId} {below : List Frame} {meth : Method} {c : Code} {b L : Nat} {xs : Nat → Int32} {D : va_G} {cy : Nat → ClassId} {aC aM : Nat → Nat} {AC AM : Nat → Prop} {o : Nat} (F : LwF p l s m meth c b L xs D cy aC aM AC AM o) {i : Nat} (hi : i + 5 ≤ L) {cells slots : Nat} (hcs : cells + 1 ≤ room_1.cells ∧ slots + 6 ≤ room_1.slots) (hgo : LwGo p l e s m below meth c b D cy aC aM o i (cells + 1) (slots + 6)) {I : Nat → Int32} {Lg : Nat → Int64} {A : Nat → Nat → Int32} {B : Nat → Nat → Int64} {J : Nat → Int32} {E : Nat → Nat → Int32} {f : Nat → Int64} {H : Heap} {locs : List Loc} {ls : Array Slot} (hP : LwP D cy aC aM o I Lg A B J E f H) (hS : va_S (sNew s) s.heap H locs) (hst : LSt I Lg A B J E) (hl : lv_has ls 7 [(0, .ref b), (1, .ref (aC 0)), (2, .ref (aM 0)), (3, .ref o), (4, .int (nI i))]) : WL p l e s m b below meth c H locs cells slots (F0 m 733 ls []) := by
  obtain ⟨S, hC, hM, hW⟩ := hst
  have hx := F.1.1
  have hb := F.1.2.1
  refine lv_aload_n hx hb dL_law_733 rfl (lv_at hl 1 rfl) ?_
  have hk := t_back hC hM hW  (K := fun r r' I1 Lg1 A1 B1 J1 E1 => r = r' ∧ LSt I1 Lg1 A1 B1 J1 E1) (by intros; exact ⟨rfl, _, by assumption, by assumption, by assumption⟩)
  refine lawCi F (As := []) (rest := []) (n := 0) (c_X9_back F.2.2.2.2.2.1 I Lg A B  _ hk) hP hS mw_3_27 wd_X9_back rfl (by decide +kernel) ⟨rfl, rfl⟩ ⟨Nat.le_of_ble_eq_true rfl, Nat.le_of_ble_eq_true rfl⟩ rfl hl.1 rfl (Nat.le_of_ble_eq_true rfl) dL_law_734 ⟨Nat.le_of_succ_le hcs.1, Nat.le_trans (Nat.le_add_right _ 6) hcs.2⟩ (fun r u H locs h hP hS => ?_)
  obtain ⟨I1, L1, A1, B1⟩ := u
  dsimp only at h hP
  try dsimp only at h
  refine lv_aload_n hx hb dL_law_737 rfl (lv_at hl 2 rfl) ?_
  refine lawMi F (As := []) (rest := [.int r]) (n := 0) (c_X10_back F.2.2.2.2.2.2.1 J E  _ h) hP hS mw_5_80 wd_X10_back rfl (by decide +kernel) ⟨rfl, rfl⟩ ⟨Nat.le_of_ble_eq_true rfl, Nat.le_of_ble_eq_true rfl⟩ rfl hl.1 rfl (Nat.le_of_ble_eq_true rfl) dL_law_738 ⟨Nat.le_of_succ_le hcs.1, Nat.le_trans (Nat.le_add_right _ 6) hcs.2⟩ (fun r' u H locs h hP hS => ?_)
  obtain ⟨J1, E1⟩ := u
  dsimp only at h hP
  obtain ⟨hrr, hst⟩ := h
  refine lv_icmp_eq (tgt := 1743) hx hb dL_law_741 (by decide) (fun _ => ?_) (fun hc => absurd hrr hc)
  exact W.widen (k := cells + 1) (n := slots + 6) (Nat.le_succ _) (Nat.le_add_right _ _) (hgo _ _ _ _ _ _ _ _ _ _ hP hS hst hl)
