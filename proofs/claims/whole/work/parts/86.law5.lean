theorem dL_law_1550 : decode code 1550 = .ok (.aload_n 1, 1) := by decide +kernel
theorem dL_law_1551 : decode code 1551 = .ok (.aload_n 0, 1) := by decide +kernel
theorem dL_law_1552 : decode code 1552 = .ok (.iload 4, 2) := by decide +kernel
theorem dL_law_1554 : decode code 1554 = .ok (.iconst 1, 1) := by decide +kernel
theorem dL_law_1555 : decode code 1555 = .ok (.iadd, 1) := by decide +kernel
theorem dL_law_1556 : decode code 1556 = .ok (.iaload, 1) := by decide +kernel
theorem dL_law_1557 : decode code 1557 = .ok (.aload_n 0, 1) := by decide +kernel
theorem dL_law_1558 : decode code 1558 = .ok (.iload 4, 2) := by decide +kernel
theorem dL_law_1560 : decode code 1560 = .ok (.iconst 2, 1) := by decide +kernel
theorem dL_law_1561 : decode code 1561 = .ok (.iadd, 1) := by decide +kernel
theorem dL_law_1562 : decode code 1562 = .ok (.iaload, 1) := by decide +kernel
theorem dL_law_1563 : decode code 1563 = .ok (.invokevirtual 181, 3) := by decide +kernel
theorem dL_law_1566 : decode code 1566 = .ok (.aload_n 2, 1) := by decide +kernel
theorem dL_law_1567 : decode code 1567 = .ok (.aload_n 0, 1) := by decide +kernel
theorem dL_law_1568 : decode code 1568 = .ok (.iload 4, 2) := by decide +kernel
theorem dL_law_1570 : decode code 1570 = .ok (.iconst 1, 1) := by decide +kernel
theorem dL_law_1571 : decode code 1571 = .ok (.iadd, 1) := by decide +kernel
theorem dL_law_1572 : decode code 1572 = .ok (.iaload, 1) := by decide +kernel
theorem dL_law_1573 : decode code 1573 = .ok (.aload_n 0, 1) := by decide +kernel
theorem dL_law_1574 : decode code 1574 = .ok (.iload 4, 2) := by decide +kernel
theorem dL_law_1576 : decode code 1576 = .ok (.iconst 2, 1) := by decide +kernel
theorem dL_law_1577 : decode code 1577 = .ok (.iadd, 1) := by decide +kernel
theorem dL_law_1578 : decode code 1578 = .ok (.iaload, 1) := by decide +kernel
theorem dL_law_1579 : decode code 1579 = .ok (.invokevirtual 184, 3) := by decide +kernel
theorem dL_law_1582 : decode code 1582 = .ok (.if_icmp .eq 161, 3) := by decide +kernel
set_option maxHeartbeats 4000000 in
set_option maxRecDepth 100000 in
/-- alike -/
theorem law_35 {p : Program} {l : Launch} {e : Env} {s : State} {m : MethodId} {below : List Frame} {meth : Method} {c : Code} {b L : Nat} {xs : Nat → Int32} {D : va_G} {cy : Nat → ClassId} {aC aM : Nat → Nat} {AC AM : Nat → Prop} {o : Nat} (F : LwF p l s m meth c b L xs D cy aC aM AC AM o) {i : Nat} (hi : i + 5 ≤ L) {cells slots : Nat} (hcs : cells + 1 ≤ room_1.cells ∧ slots + 6 ≤ room_1.slots) (hgo : LwGo p l e s m below meth c b D cy aC aM o i (cells + 1) (slots + 6)) {I : Nat → Int32} {Lg : Nat → Int64} {A : Nat → Nat → Int32} {B : Nat → Nat → Int64} {J : Nat → Int32} {E : Nat → Nat → Int32} {f : Nat → Int64} {H : Heap} {locs : List Loc} {ls : Array Slot} (hP : LwP D cy aC aM o I Lg A B J E f H) (hS : va_S (sNew s) s.heap H locs) (hst : LSt I Lg A B J E) (hl : lv_has ls 7 [(0, .ref b), (1, .ref (aC 0)), (2, .ref (aM 0)), (3, .ref o), (4, .int (nI i))]) : WL p l e s m b below meth c H locs cells slots (F0 m 1550 ls []) := by
  obtain ⟨S, hC, hM, hW⟩ := hst
  have hx := F.1.1
  have hb := F.1.2.1
  refine lv_aload_n hx hb dL_law_1550 rfl (lv_at hl 1 rfl) ?_
  refine law_arg F (k := 1) 0 4 hl rfl rfl (by omega) (by decide) hS dL_law_1551 dL_law_1552 dL_law_1554 dL_law_1555 dL_law_1556 ?_
  refine law_arg F (k := 2) 0 4 hl rfl rfl (by omega) (by decide) hS dL_law_1557 dL_law_1558 dL_law_1560 dL_law_1561 dL_law_1562 ?_
  have hk := t_alike hC hM hW (xs (i + 1)) (xs (i + 2)) (K := fun r r' J1 => r = r' ∧ LSt I Lg A B J1 E) (by intros; exact ⟨rfl, _, by assumption, by assumption, by assumption⟩)
  refine lawCi F (As := [.int (xs (i + 1)), .int (xs (i + 2))]) (rest := []) (n := 2) (c_X9_alike F.2.2.2.2.2.1 I Lg A B (xs (i + 1)) (xs (i + 2)) _ hk) hP hS mw_3_233 wd_X9_alike rfl (by decide +kernel) ⟨rfl, rfl⟩ ⟨Nat.le_of_ble_eq_true rfl, Nat.le_of_ble_eq_true rfl⟩ rfl hl.1 rfl (Nat.le_of_ble_eq_true rfl) dL_law_1563 ⟨Nat.le_of_succ_le hcs.1, Nat.le_trans (Nat.le_add_right _ 6) hcs.2⟩ (fun r u H locs h hP hS => ?_)
  obtain ⟨I1, L1, A1, B1⟩ := u
  dsimp only at h hP
  obtain ⟨h, rfl, rfl, rfl, rfl⟩ := h
  try dsimp only at h
  refine lv_aload_n hx hb dL_law_1566 rfl (lv_at hl 2 rfl) ?_
  refine law_arg F (k := 1) 0 4 hl rfl rfl (by omega) (by decide) hS dL_law_1567 dL_law_1568 dL_law_1570 dL_law_1571 dL_law_1572 ?_
  refine law_arg F (k := 2) 0 4 hl rfl rfl (by omega) (by decide) hS dL_law_1573 dL_law_1574 dL_law_1576 dL_law_1577 dL_law_1578 ?_
  refine lawMi F (As := [.int (xs (i + 1)), .int (xs (i + 2))]) (rest := [.int r]) (n := 2) (c_X10_alike F.2.2.2.2.2.2.1 J E (xs (i + 1)) (xs (i + 2)) _ h) hP hS mw_6_44 wd_X10_alike rfl (by decide +kernel) ⟨rfl, rfl⟩ ⟨Nat.le_of_ble_eq_true rfl, Nat.le_of_ble_eq_true rfl⟩ rfl hl.1 rfl (Nat.le_of_ble_eq_true rfl) dL_law_1579 ⟨Nat.le_of_succ_le hcs.1, Nat.le_trans (Nat.le_add_right _ 6) hcs.2⟩ (fun r' u H locs h hP hS => ?_)
  obtain ⟨J1, E1⟩ := u
  dsimp only at h hP
  obtain ⟨⟨hrr, hst⟩, rfl⟩ := h
  refine lv_icmp_eq (tgt := 1743) hx hb dL_law_1582 (by decide) (fun _ => ?_) (fun hc => absurd hrr hc)
  exact W.widen (k := cells + 1) (n := slots + 6) (Nat.le_succ _) (Nat.le_add_right _ _) (hgo _ _ _ _ _ _ _ _ _ _ hP hS hst hl)
theorem dL_law_1587 : decode code 1587 = .ok (.aload_n 1, 1) := by decide +kernel
theorem dL_law_1588 : decode code 1588 = .ok (.aload_n 0, 1) := by decide +kernel
theorem dL_law_1589 : decode code 1589 = .ok (.iload 4, 2) := by decide +kernel
theorem dL_law_1591 : decode code 1591 = .ok (.iconst 1, 1) := by decide +kernel
theorem dL_law_1592 : decode code 1592 = .ok (.iadd, 1) := by decide +kernel
theorem dL_law_1593 : decode code 1593 = .ok (.iaload, 1) := by decide +kernel
theorem dL_law_1594 : decode code 1594 = .ok (.invokevirtual 185, 3) := by decide +kernel
theorem dL_law_1597 : decode code 1597 = .ok (.aload_n 2, 1) := by decide +kernel
theorem dL_law_1598 : decode code 1598 = .ok (.aload_n 0, 1) := by decide +kernel
theorem dL_law_1599 : decode code 1599 = .ok (.iload 4, 2) := by decide +kernel
theorem dL_law_1601 : decode code 1601 = .ok (.iconst 1, 1) := by decide +kernel
theorem dL_law_1602 : decode code 1602 = .ok (.iadd, 1) := by decide +kernel
theorem dL_law_1603 : decode code 1603 = .ok (.iaload, 1) := by decide +kernel
theorem dL_law_1604 : decode code 1604 = .ok (.invokevirtual 188, 3) := by decide +kernel
theorem dL_law_1607 : decode code 1607 = .ok (.if_icmp .eq 136, 3) := by decide +kernel
set_option maxHeartbeats 4000000 in
set_option maxRecDepth 100000 in
/-- nearest -/
theorem law_36 {p : Program} {l : Launch} {e : Env} {s : State} {m : MethodId} {below : List Frame} {meth : Method} {c : Code} {b L : Nat} {xs : Nat → Int32} {D : va_G} {cy : Nat → ClassId} {aC aM : Nat → Nat} {AC AM : Nat → Prop} {o : Nat} (F : LwF p l s m meth c b L xs D cy aC aM AC AM o) {i : Nat} (hi : i + 5 ≤ L) {cells slots : Nat} (hcs : cells + 1 ≤ room_1.cells ∧ slots + 6 ≤ room_1.slots) (hgo : LwGo p l e s m below meth c b D cy aC aM o i (cells + 1) (slots + 6)) {I : Nat → Int32} {Lg : Nat → Int64} {A : Nat → Nat → Int32} {B : Nat → Nat → Int64} {J : Nat → Int32} {E : Nat → Nat → Int32} {f : Nat → Int64} {H : Heap} {locs : List Loc} {ls : Array Slot} (hP : LwP D cy aC aM o I Lg A B J E f H) (hS : va_S (sNew s) s.heap H locs) (hst : LSt I Lg A B J E) (hl : lv_has ls 7 [(0, .ref b), (1, .ref (aC 0)), (2, .ref (aM 0)), (3, .ref o), (4, .int (nI i))]) : WL p l e s m b below meth c H locs cells slots (F0 m 1587 ls []) := by
  obtain ⟨S, hC, hM, hW⟩ := hst
  have hx := F.1.1
  have hb := F.1.2.1
  refine lv_aload_n hx hb dL_law_1587 rfl (lv_at hl 1 rfl) ?_
  refine law_arg F (k := 1) 0 4 hl rfl rfl (by omega) (by decide) hS dL_law_1588 dL_law_1589 dL_law_1591 dL_law_1592 dL_law_1593 ?_
  have hk := t_nearest hC hM hW (xs (i + 1)) (K := fun r r' J1 E1 => r = r' ∧ LSt I Lg A B J1 E1) (by intros; exact ⟨rfl, _, by assumption, by assumption, by assumption⟩)
  refine lawCi F (As := [.int (xs (i + 1))]) (rest := []) (n := 1) (c_X9_nearest F.2.2.2.2.2.1 I Lg A B (xs (i + 1)) _ hk) hP hS mw_4_1 wd_X9_nearest rfl (by decide +kernel) ⟨rfl, rfl⟩ ⟨Nat.le_of_ble_eq_true rfl, Nat.le_of_ble_eq_true rfl⟩ rfl hl.1 rfl (Nat.le_of_ble_eq_true rfl) dL_law_1594 ⟨Nat.le_of_succ_le hcs.1, Nat.le_trans (Nat.le_add_right _ 6) hcs.2⟩ (fun r u H locs h hP hS => ?_)
  obtain ⟨I1, L1, A1, B1⟩ := u
  dsimp only at h hP
  obtain ⟨h, rfl, rfl, rfl, rfl⟩ := h
  try dsimp only at h
  refine lv_aload_n hx hb dL_law_1597 rfl (lv_at hl 2 rfl) ?_
  refine law_arg F (k := 1) 0 4 hl rfl rfl (by omega) (by decide) hS dL_law_1598 dL_law_1599 dL_law_1601 dL_law_1602 dL_law_1603 ?_
  refine lawMi F (As := [.int (xs (i + 1))]) (rest := [.int r]) (n := 1) (c_X10_nearest F.2.2.2.2.2.2.1 J E (xs (i + 1)) _ h) hP hS mw_6_52 wd_X10_nearest rfl (by decide +kernel) ⟨rfl, rfl⟩ ⟨Nat.le_of_ble_eq_true rfl, Nat.le_of_ble_eq_true rfl⟩ rfl hl.1 rfl (Nat.le_of_ble_eq_true rfl) dL_law_1604 ⟨Nat.le_of_succ_le hcs.1, Nat.le_trans (Nat.le_add_right _ 6) hcs.2⟩ (fun r' u H locs h hP hS => ?_)
  obtain ⟨J1, E1⟩ := u
  dsimp only at h hP
  obtain ⟨hrr, hst⟩ := h
  refine lv_icmp_eq (tgt := 1743) hx hb dL_law_1607 (by decide) (fun _ => ?_) (fun hc => absurd hrr hc)
  exact W.widen (k := cells + 1) (n := slots + 6) (Nat.le_succ _) (Nat.le_add_right _ _) (hgo _ _ _ _ _ _ _ _ _ _ hP hS hst hl)
theorem dL_law_1612 : decode code 1612 = .ok (.aload_n 1, 1) := by decide +kernel
theorem dL_law_1613 : decode code 1613 = .ok (.aload_n 0, 1) := by decide +kernel
theorem dL_law_1614 : decode code 1614 = .ok (.iload 4, 2) := by decide +kernel
theorem dL_law_1616 : decode code 1616 = .ok (.iconst 1, 1) := by decide +kernel
theorem dL_law_1617 : decode code 1617 = .ok (.iadd, 1) := by decide +kernel
theorem dL_law_1618 : decode code 1618 = .ok (.iaload, 1) := by decide +kernel
theorem dL_law_1619 : decode code 1619 = .ok (.invokevirtual 189, 3) := by decide +kernel
theorem dL_law_1622 : decode code 1622 = .ok (.aload_n 2, 1) := by decide +kernel
theorem dL_law_1623 : decode code 1623 = .ok (.aload_n 0, 1) := by decide +kernel
theorem dL_law_1624 : decode code 1624 = .ok (.iload 4, 2) := by decide +kernel
theorem dL_law_1626 : decode code 1626 = .ok (.iconst 1, 1) := by decide +kernel
theorem dL_law_1627 : decode code 1627 = .ok (.iadd, 1) := by decide +kernel
theorem dL_law_1628 : decode code 1628 = .ok (.iaload, 1) := by decide +kernel
theorem dL_law_1629 : decode code 1629 = .ok (.invokevirtual 192, 3) := by decide +kernel
theorem dL_law_1632 : decode code 1632 = .ok (.if_icmp .eq 111, 3) := by decide +kernel
set_option maxHeartbeats 4000000 in
set_option maxRecDepth 100000 in
/-- miss -/
theorem law_37 {p : Program} {l : Launch} {e : Env} {s : State} {m : MethodId} {below : List Frame} {meth : Method} {c : Code} {b L : Nat} {xs : Nat → Int32} {D : va_G} {cy : Nat → ClassId} {aC aM : Nat → Nat} {AC AM : Nat → Prop} {o : Nat} (F : LwF p l s m meth c b L xs D cy aC aM AC AM o) {i : Nat} (hi : i + 5 ≤ L) {cells slots : Nat} (hcs : cells + 1 ≤ room_1.cells ∧ slots + 6 ≤ room_1.slots) (hgo : LwGo p l e s m below meth c b D cy aC aM o i (cells + 1) (slots + 6)) {I : Nat → Int32} {Lg : Nat → Int64} {A : Nat → Nat → Int32} {B : Nat → Nat → Int64} {J : Nat → Int32} {E : Nat → Nat → Int32} {f : Nat → Int64} {H : Heap} {locs : List Loc} {ls : Array Slot} (hP : LwP D cy aC aM o I Lg A B J E f H) (hS : va_S (sNew s) s.heap H locs) (hst : LSt I Lg A B J E) (hl : lv_has ls 7 [(0, .ref b), (1, .ref (aC 0)), (2, .ref (aM 0)), (3, .ref o), (4, .int (nI i))]) : WL p l e s m b below meth c H locs cells slots (F0 m 1612 ls []) := by
  obtain ⟨S, hC, hM, hW⟩ := hst
  have hx := F.1.1
  have hb := F.1.2.1
  refine lv_aload_n hx hb dL_law_1612 rfl (lv_at hl 1 rfl) ?_
  refine law_arg F (k := 1) 0 4 hl rfl rfl (by omega) (by decide) hS dL_law_1613 dL_law_1614 dL_law_1616 dL_law_1617 dL_law_1618 ?_
  have hk := t_miss hC hM hW (xs (i + 1)) (K := fun r r' J1 => r = r' ∧ LSt I Lg A B J1 E) (by intros; exact ⟨rfl, _, by assumption, by assumption, by assumption⟩)
  refine lawCi F (As := [.int (xs (i + 1))]) (rest := []) (n := 1) (c_X9_miss F.2.2.2.2.2.1 I Lg A B (xs (i + 1)) _ hk) hP hS mw_4_5 wd_X9_miss rfl (by decide +kernel) ⟨rfl, rfl⟩ ⟨Nat.le_of_ble_eq_true rfl, Nat.le_of_ble_eq_true rfl⟩ rfl hl.1 rfl (Nat.le_of_ble_eq_true rfl) dL_law_1619 ⟨Nat.le_of_succ_le hcs.1, Nat.le_trans (Nat.le_add_right _ 6) hcs.2⟩ (fun r u H locs h hP hS => ?_)
  obtain ⟨I1, L1, A1, B1⟩ := u
  dsimp only at h hP
  obtain ⟨h, rfl, rfl, rfl, rfl⟩ := h
  try dsimp only at h
  refine lv_aload_n hx hb dL_law_1622 rfl (lv_at hl 2 rfl) ?_
  refine law_arg F (k := 1) 0 4 hl rfl rfl (by omega) (by decide) hS dL_law_1623 dL_law_1624 dL_law_1626 dL_law_1627 dL_law_1628 ?_
  refine lawMi F (As := [.int (xs (i + 1))]) (rest := [.int r]) (n := 1) (c_X10_miss F.2.2.2.2.2.2.1 J E (xs (i + 1)) _ h) hP hS mw_6_56 wd_X10_miss rfl (by decide +kernel) ⟨rfl, rfl⟩ ⟨Nat.le_of_ble_eq_true rfl, Nat.le_of_ble_eq_true rfl⟩ rfl hl.1 rfl (Nat.le_of_ble_eq_true rfl) dL_law_1629 ⟨Nat.le_of_succ_le hcs.1, Nat.le_trans (Nat.le_add_right _ 6) hcs.2⟩ (fun r' u H locs h hP hS => ?_)
  obtain ⟨J1, E1⟩ := u
  dsimp only at h hP
  obtain ⟨⟨hrr, hst⟩, rfl⟩ := h
  refine lv_icmp_eq (tgt := 1743) hx hb dL_law_1632 (by decide) (fun _ => ?_) (fun hc => absurd hrr hc)
  exact W.widen (k := cells + 1) (n := slots + 6) (Nat.le_succ _) (Nat.le_add_right _ _) (hgo _ _ _ _ _ _ _ _ _ _ hP hS hst hl)
theorem dL_law_1637 : decode code 1637 = .ok (.aload_n 1, 1) := by decide +kernel
theorem dL_law_1638 : decode code 1638 = .ok (.invokevirtual 193, 3) := by decide +kernel
theorem dL_law_1641 : decode code 1641 = .ok (.aload_n 2, 1) := by decide +kernel
theorem dL_law_1642 : decode code 1642 = .ok (.invokevirtual 196, 3) := by decide +kernel
theorem dL_law_1645 : decode code 1645 = .ok (.if_icmp .eq 98, 3) := by decide +kernel
set_option maxHeartbeats 4000000 in
set_option maxRecDepth 100000 in
/-- most -/
theorem law_38 {p : Program} {l : Launch} {e : Env} {s : State} {m : MethodId} {below : List Frame} {meth : Method} {c : Code} {b L : Nat} {xs : Nat → Int32} {D : va_G} {cy : Nat → ClassId} {aC aM : Nat → Nat} {AC AM : Nat → Prop} {o : Nat} (F : LwF p l s m meth c b L xs D cy aC aM AC AM o) {i : Nat} (hi : i + 5 ≤ L) {cells slots : Nat} (hcs : cells + 1 ≤ room_1.cells ∧ slots + 6 ≤ room_1.slots) (hgo : LwGo p l e s m below meth c b D cy aC aM o i (cells + 1) (slots + 6)) {I : Nat → Int32} {Lg : Nat → Int64} {A : Nat → Nat → Int32} {B : Nat → Nat → Int64} {J : Nat → Int32} {E : Nat → Nat → Int32} {f : Nat → Int64} {H : Heap} {locs : List Loc} {ls : Array Slot} (hP : LwP D cy aC aM o I Lg A B J E f H) (hS : va_S (sNew s) s.heap H locs) (hst : LSt I Lg A B J E) (hl : lv_has ls 7 [(0, .ref b), (1, .ref (aC 0)), (2, .ref (aM 0)), (3, .ref o), (4, .int (nI i))]) : WL p l e s m b below meth c H locs cells slots (F0 m 1637 ls []) := by
  obtain ⟨S, hC, hM, hW⟩ := hst
  have hx := F.1.1
  have hb := F.1.2.1
  refine lv_aload_n hx hb dL_law_1637 rfl (lv_at hl 1 rfl) ?_
  have hk := t_most hC hM hW  (K := fun r r' J1 E1 => r = r' ∧ LSt I Lg A B J1 E1) (by intros; exact ⟨rfl, _, by assumption, by assumption, by assumption⟩)
  refine lawCi F (As := []) (rest := []) (n := 0) (c_X9_most F.2.2.2.2.2.1 I Lg A B  _ hk) hP hS mw_4_15 wd_X9_most rfl (by decide +kernel) ⟨rfl, rfl⟩ ⟨Nat.le_of_ble_eq_true rfl, Nat.le_of_ble_eq_true rfl⟩ rfl hl.1 rfl (Nat.le_of_ble_eq_true rfl) dL_law_1638 ⟨Nat.le_of_succ_le hcs.1, Nat.le_trans (Nat.le_add_right _ 6) hcs.2⟩ (fun r u H locs h hP hS => ?_)
  obtain ⟨I1, L1, A1, B1⟩ := u
  dsimp only at h hP
  obtain ⟨h, rfl, rfl, rfl, rfl⟩ := h
  try dsimp only at h
  refine lv_aload_n hx hb dL_law_1641 rfl (lv_at hl 2 rfl) ?_
  refine lawMi F (As := []) (rest := [.int r]) (n := 0) (c_X10_most F.2.2.2.2.2.2.1 J E  _ h) hP hS mw_6_60 wd_X10_most rfl (by decide +kernel) ⟨rfl, rfl⟩ ⟨Nat.le_of_ble_eq_true rfl, Nat.le_of_ble_eq_true rfl⟩ rfl hl.1 rfl (Nat.le_of_ble_eq_true rfl) dL_law_1642 ⟨Nat.le_of_succ_le hcs.1, Nat.le_trans (Nat.le_add_right _ 6) hcs.2⟩ (fun r' u H locs h hP hS => ?_)
  obtain ⟨J1, E1⟩ := u
  dsimp only at h hP
  obtain ⟨hrr, hst⟩ := h
  refine lv_icmp_eq (tgt := 1743) hx hb dL_law_1645 (by decide) (fun _ => ?_) (fun hc => absurd hrr hc)
  exact W.widen (k := cells + 1) (n := slots + 6) (Nat.le_succ _) (Nat.le_add_right _ _) (hgo _ _ _ _ _ _ _ _ _ _ hP hS hst hl)
theorem dL_law_1650 : decode code 1650 = .ok (.aload_n 1, 1) := by decide +kernel
theorem dL_law_1651 : decode code 1651 = .ok (.aload_n 0, 1) := by decide +kernel
theorem dL_law_1652 : decode code 1652 = .ok (.iload 4, 2) := by decide +kernel
theorem dL_law_1654 : decode code 1654 = .ok (.iconst 1, 1) := by decide +kernel
theorem dL_law_1655 : decode code 1655 = .ok (.iadd, 1) := by decide +kernel
theorem dL_law_1656 : decode code 1656 = .ok (.iaload, 1) := by decide +kernel
theorem dL_law_1657 : decode code 1657 = .ok (.aload_n 0, 1) := by decide +kernel
theorem dL_law_1658 : decode code 1658 = .ok (.iload 4, 2) := by decide +kernel
theorem dL_law_1660 : decode code 1660 = .ok (.iconst 2, 1) := by decide +kernel
theorem dL_law_1661 : decode code 1661 = .ok (.iadd, 1) := by decide +kernel
theorem dL_law_1662 : decode code 1662 = .ok (.iaload, 1) := by decide +kernel
theorem dL_law_1663 : decode code 1663 = .ok (.aload_n 3, 1) := by decide +kernel
theorem dL_law_1664 : decode code 1664 = .ok (.invokestatic 197, 3) := by decide +kernel
theorem dL_law_1667 : decode code 1667 = .ok (.istore 5, 2) := by decide +kernel
theorem dL_law_1669 : decode code 1669 = .ok (.aload_n 2, 1) := by decide +kernel
theorem dL_law_1670 : decode code 1670 = .ok (.aload_n 0, 1) := by decide +kernel
theorem dL_law_1671 : decode code 1671 = .ok (.iload 4, 2) := by decide +kernel
theorem dL_law_1673 : decode code 1673 = .ok (.iconst 1, 1) := by decide +kernel
theorem dL_law_1674 : decode code 1674 = .ok (.iadd, 1) := by decide +kernel
theorem dL_law_1675 : decode code 1675 = .ok (.iaload, 1) := by decide +kernel
theorem dL_law_1676 : decode code 1676 = .ok (.aload_n 0, 1) := by decide +kernel
theorem dL_law_1677 : decode code 1677 = .ok (.iload 4, 2) := by decide +kernel
theorem dL_law_1679 : decode code 1679 = .ok (.iconst 2, 1) := by decide +kernel
theorem dL_law_1680 : decode code 1680 = .ok (.iadd, 1) := by decide +kernel
theorem dL_law_1681 : decode code 1681 = .ok (.iaload, 1) := by decide +kernel
theorem dL_law_1682 : decode code 1682 = .ok (.invokevirtual 199, 3) := by decide +kernel
theorem dL_law_1685 : decode code 1685 = .ok (.istore 6, 2) := by decide +kernel
theorem dL_law_1687 : decode code 1687 = .ok (.aload_n 2, 1) := by decide +kernel
theorem dL_law_1688 : decode code 1688 = .ok (.invokevirtual 108, 3) := by decide +kernel
theorem dL_law_1691 : decode code 1691 = .ok (.iload 5, 2) := by decide +kernel
theorem dL_law_1693 : decode code 1693 = .ok (.if_icmp .eq 5, 3) := by decide +kernel
theorem dL_law_1698 : decode code 1698 = .ok (.iload 5, 2) := by decide +kernel
theorem dL_law_1700 : decode code 1700 = .ok (.ifCond .ne 15, 3) := by decide +kernel
theorem dL_law_1703 : decode code 1703 = .ok (.aload_n 3, 1) := by decide +kernel
theorem dL_law_1704 : decode code 1704 = .ok (.iconst 0, 1) := by decide +kernel
theorem dL_law_1705 : decode code 1705 = .ok (.laload, 1) := by decide +kernel
theorem dL_law_1706 : decode code 1706 = .ok (.iload 6, 2) := by decide +kernel
theorem dL_law_1708 : decode code 1708 = .ok (.i2l, 1) := by decide +kernel
theorem dL_law_1709 : decode code 1709 = .ok (.lcmp, 1) := by decide +kernel
theorem dL_law_1710 : decode code 1710 = .ok (.ifCond .eq 5, 3) := by decide +kernel
theorem dL_law_1715 : decode code 1715 = .ok (.goto 28, 3) := by decide +kernel
set_option maxHeartbeats 4000000 in
set_option maxRecDepth 100000 in
/-- middle -/
theorem law_39 {p : Program} {l : Launch} {e : Env} {s : State} {m : MethodId} {below : List Frame} {meth : Method} {c : Code} {b L : Nat} {xs : Nat → Int32} {D : va_G} {cy : Nat → ClassId} {aC aM : Nat → Nat} {AC AM : Nat → Prop} {o : Nat} (F : LwF p l s m meth c b L xs D cy aC aM AC AM o) {i : Nat} (hi : i + 5 ≤ L) {cells slots : Nat} (hcs : cells + 1 ≤ room_1.cells ∧ slots + 6 ≤ room_1.slots) (hgo : LwGo p l e s m below meth c b D cy aC aM o i (cells + 1) (slots + 6)) {I : Nat → Int32} {Lg : Nat → Int64} {A : Nat → Nat → Int32} {B : Nat → Nat → Int64} {J : Nat → Int32} {E : Nat → Nat → Int32} {f : Nat → Int64} {H : Heap} {locs : List Loc} {ls : Array Slot} (hP : LwP D cy aC aM o I Lg A B J E f H) (hS : va_S (sNew s) s.heap H locs) (hst : LSt I Lg A B J E) (hl : lv_has ls 7 [(0, .ref b), (1, .ref (aC 0)), (2, .ref (aM 0)), (3, .ref o), (4, .int (nI i))]) : WL p l e s m b below meth c H locs cells slots (F0 m 1650 ls []) := by
  obtain ⟨S, hC, hM, hW⟩ := hst
  have hx := F.1.1
  have hb := F.1.2.1
  refine lv_aload_n hx hb dL_law_1650 rfl (lv_at hl 1 rfl) ?_
  refine law_arg F (k := 1) 0 4 hl rfl rfl (by omega) (by decide) hS dL_law_1651 dL_law_1652 dL_law_1654 dL_law_1655 dL_law_1656 ?_
  refine law_arg F (k := 2) 0 4 hl rfl rfl (by omega) (by decide) hS dL_law_1657 dL_law_1658 dL_law_1660 dL_law_1661 dL_law_1662 ?_
  refine lv_aload_n hx hb dL_law_1663 rfl (lv_at hl 3 rfl) ?_
  have hk : wX9_middle I Lg A B (xs (i + 1)) (xs (i + 2)) (fun r I' A' => (fun k g I' A' => wX10_middle J E (xs (i + 1)) (xs (i + 2)) (fun r' J' E' => J' 0 = k ∧ (k = 0 → g 0 = r'.toInt64) ∧ LSt I' Lg A' B J' E')) 0 (vp_updL f 0 r.toInt64) I' A') (fun I' A' => (fun k g I' A' => wX10_middle J E (xs (i + 1)) (xs (i + 2)) (fun r' J' E' => J' 0 = k ∧ (k = 0 → g 0 = r'.toInt64) ∧ LSt I' Lg A' B J' E')) 1 f I' A') := t_middle hC hM hW (xs (i + 1)) (xs (i + 2)) (K := fun r r' I' A' J' E' => J' 0 = 0 ∧ ((0 : Int32) = 0 → vp_updL f 0 r.toInt64 0 = r'.toInt64) ∧ LSt I' Lg A' B J' E') (KX := fun r' I' A' J' E' => J' 0 = 1 ∧ ((1 : Int32) = 0 → f 0 = r'.toInt64) ∧ LSt I' Lg A' B J' E') (fun r I' A' J' E' h7 h8 h9 => ⟨h9, fun _ => ul_s _ _ _, S, h7, h8, hW⟩) (fun r I' A' J' E' h7 h8 h9 => ⟨h9, fun q => absurd q (by decide), S, h7, h8, hW⟩)
  refine lawW F (As := [.ref (aC 0), .int (xs (i + 1)), .int (xs (i + 2)), .ref o]) (rest := []) (n := 4) (c_L_middle F.2.2.2.2.2.1 F.2.2.1 F.2.2.2.2.2.2.2.2.1 I Lg A B (xs (i + 1)) (xs (i + 2)) f (fun k g I' A' => wX10_middle J E (xs (i + 1)) (xs (i + 2)) (fun r' J' E' => J' 0 = k ∧ (k = 0 → g 0 = r'.toInt64) ∧ LSt I' Lg A' B J' E')) hk) hP hS mw_4_122 ⟨mw_4_123, mw_1_0, xl_code_middle⟩ (by decide +kernel) ⟨rfl, rfl⟩ ⟨Nat.le_of_ble_eq_true rfl, Nat.le_of_ble_eq_true rfl⟩ rfl hl.1 rfl (Nat.le_of_ble_eq_true rfl) dL_law_1664 hcs (fun r u H locs h hP hS => ?_)
  obtain ⟨⟨I1, L1, A1, B1⟩, f1⟩ := u
  dsimp only at h hP
  obtain ⟨h, rfl, rfl⟩ := h
  try dsimp only at h
  refine lv_istore (lv' := [(5, .int r), (0, .ref b), (1, .ref (aC 0)), (2, .ref (aM 0)), (3, .ref o), (4, .int (nI i))]) hx hb dL_law_1667 hl (by decide) rfl (fun ls hl => ?_)
  refine lv_aload_n hx hb dL_law_1669 rfl (lv_at hl 3 rfl) ?_
  refine law_arg F (k := 1) 1 5 hl rfl rfl (by omega) (by decide) hS dL_law_1670 dL_law_1671 dL_law_1673 dL_law_1674 dL_law_1675 ?_
  refine law_arg F (k := 2) 1 5 hl rfl rfl (by omega) (by decide) hS dL_law_1676 dL_law_1677 dL_law_1679 dL_law_1680 dL_law_1681 ?_
  refine lawMi F (As := [.int (xs (i + 1)), .int (xs (i + 2))]) (rest := []) (n := 2) (c_X10_middle F.2.2.2.2.2.2.1 J E (xs (i + 1)) (xs (i + 2)) _ h) hP hS mw_6_64 wd_X10_middle rfl (by decide +kernel) ⟨rfl, rfl⟩ ⟨Nat.le_of_ble_eq_true rfl, Nat.le_of_ble_eq_true rfl⟩ rfl hl.1 rfl (Nat.le_of_ble_eq_true rfl) dL_law_1682 hcs (fun r' u H locs h hP hS => ?_)
  obtain ⟨J1, E1⟩ := u
  dsimp only at h hP
  obtain ⟨hj0, hf0, hst⟩ := h
  refine lv_istore (lv' := [(6, .int r'), (5, .int r), (0, .ref b), (1, .ref (aC 0)), (2, .ref (aM 0)), (3, .ref o), (4, .int (nI i))]) hx hb dL_law_1685 hl (by decide) rfl (fun ls hl => ?_)
  refine lv_aload_n hx hb dL_law_1687 rfl (lv_at hl 4 rfl) ?_
  have hth : wX10_thrown J1 E1 (fun v => v = r) := hj0
  refine lawMi F (As := []) (rest := []) (n := 0) (c_X10_thrown F.2.2.2.2.2.2.1 J1 E1 _ hth) hP hS mw_4_205 wd_X10_thrown rfl (by decide +kernel) ⟨rfl, rfl⟩ ⟨Nat.le_of_ble_eq_true rfl, Nat.le_of_ble_eq_true rfl⟩ rfl hl.1 rfl (Nat.le_of_ble_eq_true rfl) dL_law_1688 hcs (fun r2 u H locs h hP hS => ?_)
  obtain ⟨J2, E2⟩ := u
  dsimp only at h hP
  obtain ⟨hr2, rfl, rfl⟩ := h
  refine lv_iload hx hb dL_law_1691 (lv_at hl 1 rfl) ?_
  refine lv_icmp_eq (tgt := 1698) hx hb dL_law_1693 (by decide) (fun _ => ?_) (fun hc => absurd hr2 hc)
  refine lv_iload hx hb dL_law_1698 (lv_at hl 1 rfl) ?_
  refine lv_if_ne (tgt := 1715) hx hb dL_law_1700 (by decide) (fun hc => ?_) (fun hc => ?_)
  · refine lv_goto (tgt := 1743) hx hb dL_law_1715 (by decide) ?_
    exact hgo _ _ _ _ _ _ _ _ _ _ hP hS hst (lv_sub hl [2, 3, 4, 5, 6] rfl)
  · refine lv_aload_n hx hb dL_law_1703 rfl (lv_at hl 5 rfl) ?_
    refine lv_iconst (v := 0) hx hb dL_law_1704 (by decide) ?_
    refine va_lald hx hb F.2.2.2.1.1 hP.2.2 0 1 rfl rfl (vp_in_nI (n := 0) (by decide) (by decide)) dL_law_1705 ?_
    refine lv_iload hx hb dL_law_1706 (lv_at hl 0 rfl) ?_
    refine lv_i2l hx hb dL_law_1708 rfl ?_
    refine W.lcmp hx hb dL_law_1709 ?_
    refine lv_if_eq (tgt := 1715) hx hb dL_law_1710 (by decide) (fun _ => ?_) (fun hq => absurd (by rw [lc_0]; exact hf0 hc) hq)
    refine lv_goto (tgt := 1743) hx hb dL_law_1715 (by decide) ?_
    exact hgo _ _ _ _ _ _ _ _ _ _ hP hS hst (lv_sub hl [2, 3, 4, 5, 6] rfl)
theorem dL_law_1718 : decode code 1718 = .ok (.aload_n 1, 1) := by decide +kernel
theorem dL_law_1719 : decode code 1719 = .ok (.aload_n 0, 1) := by decide +kernel
theorem dL_law_1720 : decode code 1720 = .ok (.iload 4, 2) := by decide +kernel
theorem dL_law_1722 : decode code 1722 = .ok (.iconst 1, 1) := by decide +kernel
theorem dL_law_1723 : decode code 1723 = .ok (.iadd, 1) := by decide +kernel
theorem dL_law_1724 : decode code 1724 = .ok (.iaload, 1) := by decide +kernel
theorem dL_law_1725 : decode code 1725 = .ok (.invokevirtual 200, 3) := by decide +kernel
theorem dL_law_1728 : decode code 1728 = .ok (.aload_n 2, 1) := by decide +kernel
theorem dL_law_1729 : decode code 1729 = .ok (.aload_n 0, 1) := by decide +kernel
theorem dL_law_1730 : decode code 1730 = .ok (.iload 4, 2) := by decide +kernel
theorem dL_law_1732 : decode code 1732 = .ok (.iconst 1, 1) := by decide +kernel
theorem dL_law_1733 : decode code 1733 = .ok (.iadd, 1) := by decide +kernel
theorem dL_law_1734 : decode code 1734 = .ok (.iaload, 1) := by decide +kernel
theorem dL_law_1735 : decode code 1735 = .ok (.invokevirtual 203, 3) := by decide +kernel
theorem dL_law_1738 : decode code 1738 = .ok (.if_icmp .eq 5, 3) := by decide +kernel
set_option maxHeartbeats 4000000 in
set_option maxRecDepth 100000 in
/-- count -/
theorem law_40 {p : Program} {l : Launch} {e : Env} {s : State} {m : MethodId} {below : List Frame} {meth : Method} {c : Code} {b L : Nat} {xs : Nat → Int32} {D : va_G} {cy : Nat → ClassId} {aC aM : Nat → Nat} {AC AM : Nat → Prop} {o : Nat} (F : LwF p l s m meth c b L xs D cy aC aM AC AM o) {i : Nat} (hi : i + 5 ≤ L) {cells slots : Nat} (hcs : cells + 1 ≤ room_1.cells ∧ slots + 6 ≤ room_1.slots) (hgo : LwGo p l e s m below meth c b D cy aC aM o i (cells + 1) (slots + 6)) {I : Nat → Int32} {Lg : Nat → Int64} {A : Nat → Nat → Int32} {B : Nat → Nat → Int64} {J : Nat → Int32} {E : Nat → Nat → Int32} {f : Nat → Int64} {H : Heap} {locs : List Loc} {ls : Array Slot} (hP : LwP D cy aC aM o I Lg A B J E f H) (hS : va_S (sNew s) s.heap H locs) (hst : LSt I Lg A B J E) (hl : lv_has ls 7 [(0, .ref b), (1, .ref (aC 0)), (2, .ref (aM 0)), (3, .ref o), (4, .int (nI i))]) : WL p l e s m b below meth c H locs cells slots (F0 m 1718 ls []) := by
  obtain ⟨S, hC, hM, hW⟩ := hst
  have hx := F.1.1
  have hb := F.1.2.1
  refine lv_aload_n hx hb dL_law_1718 rfl (lv_at hl 1 rfl) ?_
  refine law_arg F (k := 1) 0 4 hl rfl rfl (by omega) (by decide) hS dL_law_1719 dL_law_1720 dL_law_1722 dL_law_1723 dL_law_1724 ?_
  have hk := t_count hC hM hW (xs (i + 1)) (K := fun r r' J1 E1 => r = r' ∧ LSt I Lg A B J1 E1) (by intros; exact ⟨rfl, _, by assumption, by assumption, by assumption⟩)
  refine lawCi F (As := [.int (xs (i + 1))]) (rest := []) (n := 1) (c_X9_count F.2.2.2.2.2.1 I Lg A B (xs (i + 1)) _ hk) hP hS mw_4_19 wd_X9_count rfl (by decide +kernel) ⟨rfl, rfl⟩ ⟨Nat.le_of_ble_eq_true rfl, Nat.le_of_ble_eq_true rfl⟩ rfl hl.1 rfl (Nat.le_of_ble_eq_true rfl) dL_law_1725 ⟨Nat.le_of_succ_le hcs.1, Nat.le_trans (Nat.le_add_right _ 6) hcs.2⟩ (fun r u H locs h hP hS => ?_)
  obtain ⟨I1, L1, A1, B1⟩ := u
  dsimp only at h hP
  obtain ⟨h, rfl, rfl, rfl, rfl⟩ := h
  try dsimp only at h
  refine lv_aload_n hx hb dL_law_1728 rfl (lv_at hl 2 rfl) ?_
  refine law_arg F (k := 1) 0 4 hl rfl rfl (by omega) (by decide) hS dL_law_1729 dL_law_1730 dL_law_1732 dL_law_1733 dL_law_1734 ?_
  refine lawMi F (As := [.int (xs (i + 1))]) (rest := [.int r]) (n := 1) (c_X10_count F.2.2.2.2.2.2.1 J E (xs (i + 1)) _ h) hP hS mw_6_72 wd_X10_count rfl (by decide +kernel) ⟨rfl, rfl⟩ ⟨Nat.le_of_ble_eq_true rfl, Nat.le_of_ble_eq_true rfl⟩ rfl hl.1 rfl (Nat.le_of_ble_eq_true rfl) dL_law_1735 ⟨Nat.le_of_succ_le hcs.1, Nat.le_trans (Nat.le_add_right _ 6) hcs.2⟩ (fun r' u H locs h hP hS => ?_)
  obtain ⟨J1, E1⟩ := u
  dsimp only at h hP
  obtain ⟨hrr, hst⟩ := h
  refine lv_icmp_eq (tgt := 1743) hx hb dL_law_1738 (by decide) (fun _ => ?_) (fun hc => absurd hrr hc)
  exact W.widen (k := cells + 1) (n := slots + 6) (Nat.le_succ _) (Nat.le_add_right _ _) (hgo _ _ _ _ _ _ _ _ _ _ hP hS hst hl)
