theorem dL_law_23 : decode code 23 = .ok (.iload 4, 2) := by decide +kernel
theorem dL_law_25 : decode code 25 = .ok (.aload_n 0, 1) := by decide +kernel
theorem dL_law_26 : decode code 26 = .ok (.arraylength, 1) := by decide +kernel
theorem dL_law_27 : decode code 27 = .ok (.iconst 5, 1) := by decide +kernel
theorem dL_law_28 : decode code 28 = .ok (.isub, 1) := by decide +kernel
theorem dL_law_29 : decode code 29 = .ok (.if_icmp .gt 1720, 3) := by decide +kernel
theorem dL_law_32 : decode code 32 = .ok (.aload_n 0, 1) := by decide +kernel
theorem dL_law_33 : decode code 33 = .ok (.iload 4, 2) := by decide +kernel
theorem dL_law_35 : decode code 35 = .ok (.iaload, 1) := by decide +kernel
theorem dL_law_36 : decode code 36 = .ok (.bipush 63, 2) := by decide +kernel
theorem dL_law_38 : decode code 38 = .ok (.iand, 1) := by decide +kernel
theorem dL_law_39 : decode code 39 = .ok (.tableswitch 1704 0 40 #[177, 202, 239, 276, 301, 366, 415, 452, 477, 530, 579, 616, 669, 694, 707, 744, 781, 818, 886, 911, 936, 961, 986, 1023, 1060, 1097, 1135, 1227, 1264, 1301, 1350, 1387, 1424, 1437, 1474, 1511, 1548, 1573, 1598, 1611, 1679], 177) := by decide +kernel
theorem dL_law_1743 : decode code 1743 = .ok (.iinc 4 5, 3) := by decide +kernel
theorem dL_law_1746 : decode code 1746 = .ok (.goto (-1723), 3) := by decide +kernel
theorem dL_law_1749 : decode code 1749 = .ok (.iconst 1, 1) := by decide +kernel
theorem dL_law_1750 : decode code 1750 = .ok (.ireturn, 1) := by decide +kernel
theorem law_lim {L i : Nat} (hL : L ≤ 2560) (hi : i ≤ 2560) (h : ¬ nI L - 5 < nI i) : i + 5 ≤ L := by
  have e : (nI L - 5).toInt = (L : Int) - 5 := by
    rw [Int32.toInt_sub, nI_toInt (by omega), show (5 : Int32).toInt = 5 by decide, bmod32 (by omega) (by omega)]
  rw [lt_i, e, nI_toInt (by omega)] at h
  omega
set_option maxHeartbeats 8000000 in
set_option maxRecDepth 100000 in
theorem law_loop {p : Program} {l : Launch} {e : Env} {s : State} {m : MethodId} {below : List Frame} {meth : Method} {c : Code} {b L : Nat} {xs : Nat → Int32} {D : va_G} {cy : Nat → ClassId} {aC aM : Nat → Nat} {AC AM : Nat → Prop} {o : Nat} (F : LwF p l s m meth c b L xs D cy aC aM AC AM o) :
    ∀ (n i : Nat), i ≤ L → L + 1 ≤ i + n → ∀ {I : Nat → Int32} {Lg : Nat → Int64} {A : Nat → Nat → Int32} {B : Nat → Nat → Int64} {J : Nat → Int32} {E : Nat → Nat → Int32} {f : Nat → Int64} {H : Heap} {locs : List Loc} {ls : Array Slot}, LwP D cy aC aM o I Lg A B J E f H → va_S (sNew s) s.heap H locs → LSt I Lg A B J E → lv_has ls 7 [(0, .ref b), (1, .ref (aC 0)), (2, .ref (aM 0)), (3, .ref o), (4, .int (nI i))] → WL p l e s m b below meth c H locs (300 + i) (20000 + 6 * i) (F0 m 23 ls []) := by
  have hL := F.2.1
  intro n
  induction n with
  | zero => intro i h1 h2; exact absurd h2 (by omega)
  | succ n ih =>
    intro i hi0 hin I Lg A B J E f H locs ls hP hS hst hl
    obtain ⟨hx, hb, hr, hml, hown, hts, hX, hbl, hlocks, hgv⟩ := F.1
    refine lv_iload hx hb dL_law_23 (lv_at hl 4 rfl) ?_
    refine lv_aload_n hx hb dL_law_25 rfl (lv_at hl 0 rfl) ?_
    refine va_slen hx hb hX hbl F.nb hS dL_law_26 ?_
    refine lv_iconst (v := 5) hx hb dL_law_27 (by decide) ?_
    refine lv_isub hx hb dL_law_28 ?_
    refine lv_icmp_gt (tgt := 1749) hx hb dL_law_29 (by decide) (fun _ => ?_) (fun hc => ?_)
    · refine lv_iconst (v := 1) hx hb dL_law_1749 (by decide) ?_
      refine va_forget (fun q hq => hS.2.2 q hq) ?_
      refine W.widen (k := 601024) (n := 7293034) (by omega) (by omega) ?_
      exact lw_ret hx hb hr hlocks dL_law_1750
    · have hi : i + 5 ≤ L := law_lim hL (by omega) hc
      have hcs : 300 + i + 1 ≤ room_1.cells ∧ 20000 + 6 * i + 6 ≤ room_1.slots := ⟨by show 300 + i + 1 ≤ 601024; omega, by show 20000 + 6 * i + 6 ≤ 7293034; omega⟩
      have hgo : LwGo p l e s m below meth c b D cy aC aM o i (300 + i + 1) (20000 + 6 * i + 6) := by
        intro I Lg A B J E f H locs ls hP hS hst hl
        refine lv_iinc (v := nI (i + 5)) (lv' := [(4, .int (nI (i + 5))), (0, .ref b), (1, .ref (aC 0)), (2, .ref (aM 0)), (3, .ref o)]) hx hb dL_law_1743 hl (k := 4) rfl (n_add i 5) (by decide) rfl (fun ls hl => ?_)
        refine lv_goto (tgt := 23) hx hb dL_law_1746 (by decide) ?_
        refine W.widen (k := 300 + (i + 5)) (n := 20000 + 6 * (i + 5)) (by omega) (by omega) ?_
        exact ih (i + 5) hi (by omega) hP hS hst (lv_sub hl [1, 2, 3, 4, 0] rfl)
      refine lv_aload_n hx hb dL_law_32 rfl (lv_at hl 0 rfl) ?_
      refine lv_iload hx hb dL_law_33 (lv_at hl 4 rfl) ?_
      refine va_sld hx hb hX hbl F.nb hS (vp_in_nI (by omega) (by omega)) dL_law_35 ?_
      refine lv_bipush (v := 63) hx hb dL_law_36 (by decide) ?_
      refine lv_iand hx hb dL_law_38 ?_
      refine lv_topi (fun v ev => ?_)
      by_cases c0 : v = 0
      · refine lv_tableIn (tgt := 216) hx hb dL_law_39 (by rw [c0]; decide) (by rw [c0]; decide) (by rw [c0]; rfl) (by decide) ?_
        exact law_0 F hi hcs hgo hP hS hst hl
      by_cases c1 : v = 1
      · refine lv_tableIn (tgt := 241) hx hb dL_law_39 (by rw [c1]; decide) (by rw [c1]; decide) (by rw [c1]; rfl) (by decide) ?_
        exact law_1 F hi hcs hgo hP hS hst hl
      by_cases c2 : v = 2
      · refine lv_tableIn (tgt := 278) hx hb dL_law_39 (by rw [c2]; decide) (by rw [c2]; decide) (by rw [c2]; rfl) (by decide) ?_
        exact law_2 F hi hcs hgo hP hS hst hl
      by_cases c3 : v = 3
      · refine lv_tableIn (tgt := 315) hx hb dL_law_39 (by rw [c3]; decide) (by rw [c3]; decide) (by rw [c3]; rfl) (by decide) ?_
        exact law_3 F hi hcs hgo hP hS hst hl
      by_cases c4 : v = 4
      · refine lv_tableIn (tgt := 340) hx hb dL_law_39 (by rw [c4]; decide) (by rw [c4]; decide) (by rw [c4]; rfl) (by decide) ?_
        exact law_4 F hi hcs hgo hP hS hst hl
      by_cases c5 : v = 5
      · refine lv_tableIn (tgt := 405) hx hb dL_law_39 (by rw [c5]; decide) (by rw [c5]; decide) (by rw [c5]; rfl) (by decide) ?_
        exact law_5 F hi hcs hgo hP hS hst hl
      by_cases c6 : v = 6
      · refine lv_tableIn (tgt := 454) hx hb dL_law_39 (by rw [c6]; decide) (by rw [c6]; decide) (by rw [c6]; rfl) (by decide) ?_
        exact law_6 F hi hcs hgo hP hS hst hl
      by_cases c7 : v = 7
      · refine lv_tableIn (tgt := 491) hx hb dL_law_39 (by rw [c7]; decide) (by rw [c7]; decide) (by rw [c7]; rfl) (by decide) ?_
        exact law_7 F hi hcs hgo hP hS hst hl
      by_cases c8 : v = 8
      · refine lv_tableIn (tgt := 516) hx hb dL_law_39 (by rw [c8]; decide) (by rw [c8]; decide) (by rw [c8]; rfl) (by decide) ?_
        exact law_8 F hi hcs hgo hP hS hst hl
      by_cases c9 : v = 9
      · refine lv_tableIn (tgt := 569) hx hb dL_law_39 (by rw [c9]; decide) (by rw [c9]; decide) (by rw [c9]; rfl) (by decide) ?_
        exact law_9 F hi hcs hgo hP hS hst hl
      by_cases c10 : v = 10
      · refine lv_tableIn (tgt := 618) hx hb dL_law_39 (by rw [c10]; decide) (by rw [c10]; decide) (by rw [c10]; rfl) (by decide) ?_
        exact law_10 F hi hcs hgo hP hS hst hl
      by_cases c11 : v = 11
      · refine lv_tableIn (tgt := 655) hx hb dL_law_39 (by rw [c11]; decide) (by rw [c11]; decide) (by rw [c11]; rfl) (by decide) ?_
        exact law_11 F hi hcs hgo hP hS hst hl
      by_cases c12 : v = 12
      · refine lv_tableIn (tgt := 708) hx hb dL_law_39 (by rw [c12]; decide) (by rw [c12]; decide) (by rw [c12]; rfl) (by decide) ?_
        exact law_12 F hi hcs hgo hP hS hst hl
      by_cases c13 : v = 13
      · refine lv_tableIn (tgt := 733) hx hb dL_law_39 (by rw [c13]; decide) (by rw [c13]; decide) (by rw [c13]; rfl) (by decide) ?_
        exact law_13 F hi hcs hgo hP hS hst hl
      by_cases c14 : v = 14
      · refine lv_tableIn (tgt := 746) hx hb dL_law_39 (by rw [c14]; decide) (by rw [c14]; decide) (by rw [c14]; rfl) (by decide) ?_
        exact law_14 F hi hcs hgo hP hS hst hl
      by_cases c15 : v = 15
      · refine lv_tableIn (tgt := 783) hx hb dL_law_39 (by rw [c15]; decide) (by rw [c15]; decide) (by rw [c15]; rfl) (by decide) ?_
        exact law_15 F hi hcs hgo hP hS hst hl
      by_cases c16 : v = 16
      · refine lv_tableIn (tgt := 820) hx hb dL_law_39 (by rw [c16]; decide) (by rw [c16]; decide) (by rw [c16]; rfl) (by decide) ?_
        exact law_16 F hi hcs hgo hP hS hst hl
      by_cases c17 : v = 17
      · refine lv_tableIn (tgt := 857) hx hb dL_law_39 (by rw [c17]; decide) (by rw [c17]; decide) (by rw [c17]; rfl) (by decide) ?_
        exact law_17 F hi hcs hgo hP hS hst hl
      by_cases c18 : v = 18
      · refine lv_tableIn (tgt := 925) hx hb dL_law_39 (by rw [c18]; decide) (by rw [c18]; decide) (by rw [c18]; rfl) (by decide) ?_
        exact law_18 F hi hcs hgo hP hS hst hl
      by_cases c19 : v = 19
      · refine lv_tableIn (tgt := 950) hx hb dL_law_39 (by rw [c19]; decide) (by rw [c19]; decide) (by rw [c19]; rfl) (by decide) ?_
        exact law_19 F hi hcs hgo hP hS hst hl
      by_cases c20 : v = 20
      · refine lv_tableIn (tgt := 975) hx hb dL_law_39 (by rw [c20]; decide) (by rw [c20]; decide) (by rw [c20]; rfl) (by decide) ?_
        exact law_20 F hi hcs hgo hP hS hst hl
      by_cases c21 : v = 21
      · refine lv_tableIn (tgt := 1000) hx hb dL_law_39 (by rw [c21]; decide) (by rw [c21]; decide) (by rw [c21]; rfl) (by decide) ?_
        exact law_21 F hi hcs hgo hP hS hst hl
      by_cases c22 : v = 22
      · refine lv_tableIn (tgt := 1025) hx hb dL_law_39 (by rw [c22]; decide) (by rw [c22]; decide) (by rw [c22]; rfl) (by decide) ?_
        exact law_22 F hi hcs hgo hP hS hst hl
      by_cases c23 : v = 23
      · refine lv_tableIn (tgt := 1062) hx hb dL_law_39 (by rw [c23]; decide) (by rw [c23]; decide) (by rw [c23]; rfl) (by decide) ?_
        exact law_23 F hi hcs hgo hP hS hst hl
      by_cases c24 : v = 24
      · refine lv_tableIn (tgt := 1099) hx hb dL_law_39 (by rw [c24]; decide) (by rw [c24]; decide) (by rw [c24]; rfl) (by decide) ?_
        exact law_24 F hi hcs hgo hP hS hst hl
      by_cases c25 : v = 25
      · refine lv_tableIn (tgt := 1136) hx hb dL_law_39 (by rw [c25]; decide) (by rw [c25]; decide) (by rw [c25]; rfl) (by decide) ?_
        exact law_25 F hi hcs hgo hP hS hst hl
      by_cases c26 : v = 26
      · refine lv_tableIn (tgt := 1174) hx hb dL_law_39 (by rw [c26]; decide) (by rw [c26]; decide) (by rw [c26]; rfl) (by decide) ?_
        exact law_26 F hi hcs hgo hP hS hst hl
      by_cases c27 : v = 27
      · refine lv_tableIn (tgt := 1266) hx hb dL_law_39 (by rw [c27]; decide) (by rw [c27]; decide) (by rw [c27]; rfl) (by decide) ?_
        exact law_27 F hi hcs hgo hP hS hst hl
      by_cases c28 : v = 28
      · refine lv_tableIn (tgt := 1303) hx hb dL_law_39 (by rw [c28]; decide) (by rw [c28]; decide) (by rw [c28]; rfl) (by decide) ?_
        exact law_28 F hi hcs hgo hP hS hst hl
      by_cases c29 : v = 29
      · refine lv_tableIn (tgt := 1340) hx hb dL_law_39 (by rw [c29]; decide) (by rw [c29]; decide) (by rw [c29]; rfl) (by decide) ?_
        exact law_29 F hi hcs hgo hP hS hst hl
      by_cases c30 : v = 30
      · refine lv_tableIn (tgt := 1389) hx hb dL_law_39 (by rw [c30]; decide) (by rw [c30]; decide) (by rw [c30]; rfl) (by decide) ?_
        exact law_30 F hi hcs hgo hP hS hst hl
      by_cases c31 : v = 31
      · refine lv_tableIn (tgt := 1426) hx hb dL_law_39 (by rw [c31]; decide) (by rw [c31]; decide) (by rw [c31]; rfl) (by decide) ?_
        exact law_31 F hi hcs hgo hP hS hst hl
      by_cases c32 : v = 32
      · refine lv_tableIn (tgt := 1463) hx hb dL_law_39 (by rw [c32]; decide) (by rw [c32]; decide) (by rw [c32]; rfl) (by decide) ?_
        exact law_32 F hi hcs hgo hP hS hst hl
      by_cases c33 : v = 33
      · refine lv_tableIn (tgt := 1476) hx hb dL_law_39 (by rw [c33]; decide) (by rw [c33]; decide) (by rw [c33]; rfl) (by decide) ?_
        exact law_33 F hi hcs hgo hP hS hst hl
      by_cases c34 : v = 34
      · refine lv_tableIn (tgt := 1513) hx hb dL_law_39 (by rw [c34]; decide) (by rw [c34]; decide) (by rw [c34]; rfl) (by decide) ?_
        exact law_34 F hi hcs hgo hP hS hst hl
      by_cases c35 : v = 35
      · refine lv_tableIn (tgt := 1550) hx hb dL_law_39 (by rw [c35]; decide) (by rw [c35]; decide) (by rw [c35]; rfl) (by decide) ?_
        exact law_35 F hi hcs hgo hP hS hst hl
      by_cases c36 : v = 36
      · refine lv_tableIn (tgt := 1587) hx hb dL_law_39 (by rw [c36]; decide) (by rw [c36]; decide) (by rw [c36]; rfl) (by decide) ?_
        exact law_36 F hi hcs hgo hP hS hst hl
      by_cases c37 : v = 37
      · refine lv_tableIn (tgt := 1612) hx hb dL_law_39 (by rw [c37]; decide) (by rw [c37]; decide) (by rw [c37]; rfl) (by decide) ?_
        exact law_37 F hi hcs hgo hP hS hst hl
      by_cases c38 : v = 38
      · refine lv_tableIn (tgt := 1637) hx hb dL_law_39 (by rw [c38]; decide) (by rw [c38]; decide) (by rw [c38]; rfl) (by decide) ?_
        exact law_38 F hi hcs hgo hP hS hst hl
      by_cases c39 : v = 39
      · refine lv_tableIn (tgt := 1650) hx hb dL_law_39 (by rw [c39]; decide) (by rw [c39]; decide) (by rw [c39]; rfl) (by decide) ?_
        exact law_39 F hi hcs hgo hP hS hst hl
      by_cases c40 : v = 40
      · refine lv_tableIn (tgt := 1718) hx hb dL_law_39 (by rw [c40]; decide) (by rw [c40]; decide) (by rw [c40]; rfl) (by decide) ?_
        exact law_40 F hi hcs hgo hP hS hst hl
      refine lv_tableOut (tgt := 1743) hx hb dL_law_39 (sw_out_40 c0 c1 c2 c3 c4 c5 c6 c7 c8 c9 c10 c11 c12 c13 c14 c15 c16 c17 c18 c19 c20 c21 c22 c23 c24 c25 c26 c27 c28 c29 c30 c31 c32 c33 c34 c35 c36 c37 c38 c39 c40) (by decide) ?_
      exact W.widen (k := 300 + i + 1) (n := 20000 + 6 * i + 6) (Nat.le_succ _) (Nat.le_add_right _ _) (hgo _ _ _ _ _ _ _ _ _ _ hP hS hst hl)
