theorem dX9_numberOf_0 : decode cX9_numberOf 0 = .ok (.aload_n 0, 1) := by decide +kernel
theorem dX9_numberOf_1 : decode cX9_numberOf 1 = .ok (.iload_n 1, 1) := by decide +kernel
theorem dX9_numberOf_2 : decode cX9_numberOf 2 = .ok (.iload_n 2, 1) := by decide +kernel
theorem dX9_numberOf_3 : decode cX9_numberOf 3 = .ok (.invokevirtual 151, 3) := by decide +kernel
theorem dX9_numberOf_6 : decode cX9_numberOf 6 = .ok (.ifCond .ne 13, 3) := by decide +kernel
theorem dX9_numberOf_9 : decode cX9_numberOf 9 = .ok (.new 227, 3) := by decide +kernel
theorem dX9_numberOf_12 : decode cX9_numberOf 12 = .ok (.dup, 1) := by decide +kernel
theorem dX9_numberOf_13 : decode cX9_numberOf 13 = .ok (.ldc 229, 2) := by decide +kernel
theorem dX9_numberOf_15 : decode cX9_numberOf 15 = .ok (.invokespecial 231, 3) := by decide +kernel
theorem dX9_numberOf_18 : decode cX9_numberOf 18 = .ok (.athrow, 1) := by decide +kernel
theorem dX9_numberOf_19 : decode cX9_numberOf 19 = .ok (.aload_n 0, 1) := by decide +kernel
theorem dX9_numberOf_20 : decode cX9_numberOf 20 = .ok (.getfield 28, 3) := by decide +kernel
theorem dX9_numberOf_23 : decode cX9_numberOf 23 = .ok (.getfield 134, 3) := by decide +kernel
theorem dX9_numberOf_26 : decode cX9_numberOf 26 = .ok (.iload_n 2, 1) := by decide +kernel
theorem dX9_numberOf_27 : decode cX9_numberOf 27 = .ok (.aaload, 1) := by decide +kernel
theorem dX9_numberOf_28 : decode cX9_numberOf 28 = .ok (.getfield 138, 3) := by decide +kernel
theorem dX9_numberOf_31 : decode cX9_numberOf 31 = .ok (.iload_n 1, 1) := by decide +kernel
theorem dX9_numberOf_32 : decode cX9_numberOf 32 = .ok (.iaload, 1) := by decide +kernel
theorem dX9_numberOf_33 : decode cX9_numberOf 33 = .ok (.ireturn, 1) := by decide +kernel
def wX9_numberOf (I : Nat → Int32) (L : Nat → Int64) (A : Nat → Nat → Int32) (B : Nat → Nat → Int64) (x1 : Int32) (x2 : Int32) (post : Int32 → Prop) (postX : Prop) : Prop := wX9_hasNumber I L A B x1 x2 (fun r3 => if r3 = 0 then (postX) else (vp_in x2 5 ∧ (vp_in x1 40 ∧ (post (A (9 + x2.toNatClampNeg + 45) x1.toNatClampNeg)))))
abbrev rmX9_numberOf : Room := { frames := 6, cells := 1, slots := 6, locals := 82 }
theorem wd_X9_numberOf : Cond.instanceMethod yX9_numberOf ∈ BW ∧ Cond.selects yX9_numberOf.cls yX9_numberOf yX9_numberOf ∈ BW ∧ Cond.initialized yX9_numberOf.cls ∈ BW ∧ Cond.code yX9_numberOf cX9_numberOf 3 (some .int) ∈ BW := ⟨mw_4_40, mw_4_41, mw_1_1, mw_4_42⟩
set_option maxHeartbeats 4000000 in
set_option maxRecDepth 100000 in
theorem c_X9_numberOf {l : Launch} {D : va_G} {cy : Nat → ClassId} {ad : Nat → Nat} {Ad : Nat → Prop} (hAd : adok 103 Ad ad) (hlt : l.stackTraces = false) (I : Nat → Int32) (L : Nat → Int64) (A : Nat → Nat → Int32) (B : Nat → Nat → Int64) (x1 : Int32) (x2 : Int32)  (post : Int32 → Prop) (postX : Prop) (h : wX9_numberOf I L A B x1 x2 post postX) : vx_Met l yX9_numberOf (.code yX9_numberOf cX9_numberOf 3 (some .int) :: BW) rmX9_numberOf (va_Pc [.ref (ad 0), .int x1, .int x2] (fun U => kC D cy U ∧ va_P D vwCl (wC cy ad I L A B) U.heap ∧ kX Ad U)) (qCi D cy ad Ad (fun r u => post r  ∧ I = u.1 ∧ L = u.2.1 ∧ A = u.2.2.1 ∧ B = u.2.2.2)) (xC D cy ad Ad (fun u => postX ∧ I = u.1 ∧ L = u.2.1 ∧ A = u.2.2.1 ∧ B = u.2.2.2)) 1 6 Ad := by
  refine startCx hlt (by decide) rfl (Nat.le_of_ble_eq_true rfl) (Nat.le_of_ble_eq_true rfl) (Nat.le_of_ble_eq_true rfl) (Nat.le_of_ble_eq_true rfl) (Nat.le_of_ble_eq_true rfl) (lv := [(0, .ref (ad 0)), (1, .int x1), (2, .int x2)]) rfl (fun p e s m args below meth c Q ls hx hb hml hT hown hK hret hthS hthW hXs hl hP hS => ?_)
  unfold wX9_numberOf at h
  refine lv_aload_n hx hb dX9_numberOf_0 rfl (lv_at hl 0 rfl) ?_
  refine lv_iload_n hx hb dX9_numberOf_1 rfl (lv_at hl 1 rfl) ?_
  refine lv_iload_n hx hb dX9_numberOf_2 rfl (lv_at hl 2 rfl) ?_
  refine callCi (k := 0) (As := [.int x1, .int x2]) (rest := []) (n := 2) (c_X9_hasNumber hAd I L A B x1 x2 _ h) hx hb hT hown hK hP hS mw_2_200 wd_X9_hasNumber (by decide +kernel) ⟨rfl, rfl⟩ (by decide) rfl rfl he_X9 rfl hl.1 hml rfl (Nat.le_of_ble_eq_true rfl) dX9_numberOf_3 ⟨Nat.zero_le _, Nat.zero_le _⟩ (fun r3 u H locs h hP hS => ?_)
  obtain ⟨Iu, Lu, Au, Bu⟩ := u
  dsimp only at h hP
  obtain ⟨h, rfl, rfl, rfl, rfl⟩ := h
  try dsimp only at h
  refine lv_if_ne (tgt := 19) hx hb dX9_numberOf_6 (by decide) (fun hc => ?_) (fun hc => ?_)
  · rw [if_neg hc] at h
    refine lv_aload_n hx hb dX9_numberOf_19 rfl (lv_at hl 0 rfl) ?_
    refine va_get (T := TX9) hx hb hT inlX9 hown hK.1 hP 0 he_X9 rfl 2 (by decide) (hT _ mw_2_9) (fun _ h9 => h9) rfl dX9_numberOf_20 ?_
    refine va_get (T := TX7) hx hb hT inlX7 hown hK.1 hP 3 he_X7 rfl 2 (by decide) (hT _ mw_1_166) (fun _ h9 => h9) rfl dX9_numberOf_23 ?_
    refine lv_iload_n hx hb dX9_numberOf_26 rfl (lv_at hl 2 rfl) ?_
    obtain ⟨hi, h⟩ := h
    have hj := vp_lt hi
    refine lC_X hx hb hK.1 hP hi dX9_numberOf_27 ?_
    refine va_get (T := TX0) hx hb hT inlX0 hown hK.1 hP (9 + x2.toNatClampNeg) (he_X0 (by omega)) rfl 2 (by decide) (hT _ mw_1_150) (fun _ h9 => h9) rfl dX9_numberOf_28 ?_
    refine lv_iload_n hx hb dX9_numberOf_31 rfl (lv_at hl 1 rfl) ?_
    obtain ⟨hi_1, h⟩ := h
    refine lC_I hx hb hK.1 hP (by omega) (eC_R40 (Or.inr (by omega))) hi_1 dX9_numberOf_32 ?_
    exact hret _ (I, L, A, B) dX9_numberOf_33 ⟨h, rfl, rfl, rfl, rfl⟩ hP hS
  · rw [if_pos hc] at h
    exact hthS (I, L, A, B) dX9_numberOf_9 dX9_numberOf_12 dX9_numberOf_13 dX9_numberOf_15 dX9_numberOf_18 hXs.1 hl.1 ⟨h, rfl, rfl, rfl, rfl⟩ hP hS
theorem dX9_bin_0 : decode cX9_bin 0 = .ok (.aload_n 0, 1) := by decide +kernel
theorem dX9_bin_1 : decode cX9_bin 1 = .ok (.iload_n 1, 1) := by decide +kernel
theorem dX9_bin_2 : decode cX9_bin 2 = .ok (.iload_n 2, 1) := by decide +kernel
theorem dX9_bin_3 : decode cX9_bin 3 = .ok (.invokevirtual 262, 3) := by decide +kernel
theorem dX9_bin_6 : decode cX9_bin 6 = .ok (.ifCond .eq 18, 3) := by decide +kernel
theorem dX9_bin_9 : decode cX9_bin 9 = .ok (.iload_n 3, 1) := by decide +kernel
theorem dX9_bin_10 : decode cX9_bin 10 = .ok (.ifCond .lt 14, 3) := by decide +kernel
theorem dX9_bin_13 : decode cX9_bin 13 = .ok (.iload 4, 2) := by decide +kernel
theorem dX9_bin_15 : decode cX9_bin 15 = .ok (.ifCond .lt 9, 3) := by decide +kernel
theorem dX9_bin_18 : decode cX9_bin 18 = .ok (.iload 4, 2) := by decide +kernel
theorem dX9_bin_20 : decode cX9_bin 20 = .ok (.iconst 2, 1) := by decide +kernel
theorem dX9_bin_21 : decode cX9_bin 21 = .ok (.if_icmp .le 14, 3) := by decide +kernel
theorem dX9_bin_24 : decode cX9_bin 24 = .ok (.new 227, 3) := by decide +kernel
theorem dX9_bin_27 : decode cX9_bin 27 = .ok (.dup, 1) := by decide +kernel
theorem dX9_bin_28 : decode cX9_bin 28 = .ok (.ldc_w 265, 3) := by decide +kernel
theorem dX9_bin_31 : decode cX9_bin 31 = .ok (.invokespecial 231, 3) := by decide +kernel
theorem dX9_bin_34 : decode cX9_bin 34 = .ok (.athrow, 1) := by decide +kernel
theorem dX9_bin_35 : decode cX9_bin 35 = .ok (.aload_n 0, 1) := by decide +kernel
theorem dX9_bin_36 : decode cX9_bin 36 = .ok (.iload_n 1, 1) := by decide +kernel
theorem dX9_bin_37 : decode cX9_bin 37 = .ok (.aload_n 0, 1) := by decide +kernel
theorem dX9_bin_38 : decode cX9_bin 38 = .ok (.getfield 28, 3) := by decide +kernel
theorem dX9_bin_41 : decode cX9_bin 41 = .ok (.iload_n 1, 1) := by decide +kernel
theorem dX9_bin_42 : decode cX9_bin 42 = .ok (.iload_n 1, 1) := by decide +kernel
theorem dX9_bin_43 : decode cX9_bin 43 = .ok (.invokevirtual 238, 3) := by decide +kernel
theorem dX9_bin_46 : decode cX9_bin 46 = .ok (.invokevirtual 267, 3) := by decide +kernel
theorem dX9_bin_49 : decode cX9_bin 49 = .ok (.aload_n 0, 1) := by decide +kernel
theorem dX9_bin_50 : decode cX9_bin 50 = .ok (.getfield 51, 3) := by decide +kernel
theorem dX9_bin_53 : decode cX9_bin 53 = .ok (.iload_n 2, 1) := by decide +kernel
theorem dX9_bin_54 : decode cX9_bin 54 = .ok (.iload_n 3, 1) := by decide +kernel
theorem dX9_bin_55 : decode cX9_bin 55 = .ok (.invokevirtual 271, 3) := by decide +kernel
theorem dX9_bin_58 : decode cX9_bin 58 = .ok (.istore 5, 2) := by decide +kernel
theorem dX9_bin_60 : decode cX9_bin 60 = .ok (.iload 5, 2) := by decide +kernel
theorem dX9_bin_62 : decode cX9_bin 62 = .ok (.aload_n 0, 1) := by decide +kernel
theorem dX9_bin_63 : decode cX9_bin 63 = .ok (.getfield 51, 3) := by decide +kernel
theorem dX9_bin_66 : decode cX9_bin 66 = .ok (.getfield 274, 3) := by decide +kernel
theorem dX9_bin_69 : decode cX9_bin 69 = .ok (.if_icmp .lt 14, 3) := by decide +kernel
theorem dX9_bin_72 : decode cX9_bin 72 = .ok (.new 227, 3) := by decide +kernel
theorem dX9_bin_75 : decode cX9_bin 75 = .ok (.dup, 1) := by decide +kernel
theorem dX9_bin_76 : decode cX9_bin 76 = .ok (.ldc_w 265, 3) := by decide +kernel
theorem dX9_bin_79 : decode cX9_bin 79 = .ok (.invokespecial 231, 3) := by decide +kernel
theorem dX9_bin_82 : decode cX9_bin 82 = .ok (.athrow, 1) := by decide +kernel
theorem dX9_bin_83 : decode cX9_bin 83 = .ok (.aload_n 0, 1) := by decide +kernel
theorem dX9_bin_84 : decode cX9_bin 84 = .ok (.getfield 51, 3) := by decide +kernel
theorem dX9_bin_87 : decode cX9_bin 87 = .ok (.iload 5, 2) := by decide +kernel
theorem dX9_bin_89 : decode cX9_bin 89 = .ok (.iload_n 2, 1) := by decide +kernel
theorem dX9_bin_90 : decode cX9_bin 90 = .ok (.iload_n 3, 1) := by decide +kernel
theorem dX9_bin_91 : decode cX9_bin 91 = .ok (.isub, 1) := by decide +kernel
theorem dX9_bin_92 : decode cX9_bin 92 = .ok (.invokevirtual 275, 3) := by decide +kernel
theorem dX9_bin_95 : decode cX9_bin 95 = .ok (.istore 6, 2) := by decide +kernel
theorem dX9_bin_97 : decode cX9_bin 97 = .ok (.iload 4, 2) := by decide +kernel
theorem dX9_bin_99 : decode cX9_bin 99 = .ok (.iconst 2, 1) := by decide +kernel
theorem dX9_bin_100 : decode cX9_bin 100 = .ok (.if_icmp .ne 9, 3) := by decide +kernel
theorem dX9_bin_103 : decode cX9_bin 103 = .ok (.iload 6, 2) := by decide +kernel
theorem dX9_bin_105 : decode cX9_bin 105 = .ok (.iload 5, 2) := by decide +kernel
theorem dX9_bin_107 : decode cX9_bin 107 = .ok (.isub, 1) := by decide +kernel
theorem dX9_bin_108 : decode cX9_bin 108 = .ok (.ireturn, 1) := by decide +kernel
theorem dX9_bin_109 : decode cX9_bin 109 = .ok (.iload 4, 2) := by decide +kernel
theorem dX9_bin_111 : decode cX9_bin 111 = .ok (.ifCond .ne 16, 3) := by decide +kernel
theorem dX9_bin_114 : decode cX9_bin 114 = .ok (.aload_n 0, 1) := by decide +kernel
theorem dX9_bin_115 : decode cX9_bin 115 = .ok (.getfield 51, 3) := by decide +kernel
theorem dX9_bin_118 : decode cX9_bin 118 = .ok (.getfield 278, 3) := by decide +kernel
theorem dX9_bin_121 : decode cX9_bin 121 = .ok (.iload 5, 2) := by decide +kernel
theorem dX9_bin_123 : decode cX9_bin 123 = .ok (.iaload, 1) := by decide +kernel
theorem dX9_bin_124 : decode cX9_bin 124 = .ok (.goto 15, 3) := by decide +kernel
theorem dX9_bin_127 : decode cX9_bin 127 = .ok (.aload_n 0, 1) := by decide +kernel
theorem dX9_bin_128 : decode cX9_bin 128 = .ok (.getfield 51, 3) := by decide +kernel
theorem dX9_bin_131 : decode cX9_bin 131 = .ok (.getfield 278, 3) := by decide +kernel
theorem dX9_bin_134 : decode cX9_bin 134 = .ok (.iload 6, 2) := by decide +kernel
theorem dX9_bin_136 : decode cX9_bin 136 = .ok (.iconst 1, 1) := by decide +kernel
theorem dX9_bin_137 : decode cX9_bin 137 = .ok (.isub, 1) := by decide +kernel
theorem dX9_bin_138 : decode cX9_bin 138 = .ok (.iaload, 1) := by decide +kernel
theorem dX9_bin_139 : decode cX9_bin 139 = .ok (.ireturn, 1) := by decide +kernel
def wX9_bin (I : Nat → Int32) (L : Nat → Int64) (A : Nat → Nat → Int32) (B : Nat → Nat → Int64) (x1 : Int32) (x2 : Int32) (x3 : Int32) (x4 : Int32) (post : Int32 → (Nat → Int32) → (Nat → Nat → Int32) → Prop) (postX : (Nat → Int32) → (Nat → Nat → Int32) → Prop) : Prop := wX9_canBin I L A B x1 x2 (fun r3 => jn (fun (_ : Unit) => postX I A) (fun k => if r3 = 0 then (k ()) else (if x3 < 0 then (k ()) else (if x4 < 0 then (k ()) else (if x4 ≤ 2 then (wX7_lifted I L A B x1 x1 (fun r43 => wX9_fillRow I L A B x1 r43 (fun I_1 A_1 => wX4_startOfBin I_1 L A_1 B x2 x3 (fun r55 => if r55 < (I_1 5) then (wX4_endOfBin I_1 L A_1 B r55 (x2 - x3) (fun r92 => if x4 = 2 then (post (r92 - r55) I_1 A_1) else (if x4 = 0 then (vp_in r55 40 ∧ (post (A_1 49 r55.toNatClampNeg) I_1 A_1)) else (vp_in (r92 - 1) 40 ∧ (post (A_1 49 (r92 - 1).toNatClampNeg) I_1 A_1))))) else (postX I_1 A_1))))) else (k ()))))))
abbrev rmX9_bin : Room := { frames := 6, cells := 1, slots := 6, locals := 82 }
theorem wd_X9_bin : Cond.instanceMethod yX9_bin ∈ BW ∧ Cond.selects yX9_bin.cls yX9_bin yX9_bin ∈ BW ∧ Cond.initialized yX9_bin.cls ∈ BW ∧ Cond.code yX9_bin cX9_bin 7 (some .int) ∈ BW := ⟨mw_4_113, mw_4_114, mw_1_1, mw_4_115⟩
set_option maxHeartbeats 4000000 in
set_option maxRecDepth 100000 in
theorem c_X9_bin {l : Launch} {D : va_G} {cy : Nat → ClassId} {ad : Nat → Nat} {Ad : Nat → Prop} (hAd : adok 103 Ad ad) (hlt : l.stackTraces = false) (I : Nat → Int32) (L : Nat → Int64) (A : Nat → Nat → Int32) (B : Nat → Nat → Int64) (x1 : Int32) (x2 : Int32) (x3 : Int32) (x4 : Int32)  (post : Int32 → (Nat → Int32) → (Nat → Nat → Int32) → Prop) (postX : (Nat → Int32) → (Nat → Nat → Int32) → Prop) (h : wX9_bin I L A B x1 x2 x3 x4 post postX) : vx_Met l yX9_bin (.code yX9_bin cX9_bin 7 (some .int) :: BW) rmX9_bin (va_Pc [.ref (ad 0), .int x1, .int x2, .int x3, .int x4] (fun U => kC D cy U ∧ va_P D vwCl (wC cy ad I L A B) U.heap ∧ kX Ad U)) (qCi D cy ad Ad (fun r u => post r u.1 u.2.2.1 ∧ L = u.2.1 ∧ B = u.2.2.2)) (xC D cy ad Ad (fun u => postX u.1 u.2.2.1 ∧ L = u.2.1 ∧ B = u.2.2.2)) 1 6 Ad := by
  refine startCx hlt (by decide) rfl (Nat.le_of_ble_eq_true rfl) (Nat.le_of_ble_eq_true rfl) (Nat.le_of_ble_eq_true rfl) (Nat.le_of_ble_eq_true rfl) (Nat.le_of_ble_eq_true rfl) (lv := [(0, .ref (ad 0)), (1, .int x1), (2, .int x2), (3, .int x3), (4, .int x4)]) rfl (fun p e s m args below meth c Q ls hx hb hml hT hown hK hret hthS hthW hXs hl hP hS => ?_)
  unfold wX9_bin at h
  refine lv_aload_n hx hb dX9_bin_0 rfl (lv_at hl 0 rfl) ?_
  refine lv_iload_n hx hb dX9_bin_1 rfl (lv_at hl 1 rfl) ?_
  refine lv_iload_n hx hb dX9_bin_2 rfl (lv_at hl 2 rfl) ?_
  refine callCi (k := 0) (As := [.int x1, .int x2]) (rest := []) (n := 2) (c_X9_canBin hAd I L A B x1 x2 _ h) hx hb hT hown hK hP hS mw_3_119 wd_X9_canBin (by decide +kernel) ⟨rfl, rfl⟩ (by decide) rfl rfl he_X9 rfl hl.1 hml rfl (Nat.le_of_ble_eq_true rfl) dX9_bin_3 ⟨Nat.zero_le _, Nat.zero_le _⟩ (fun r3 u H locs h hP hS => ?_)
  obtain ⟨Iu, Lu, Au, Bu⟩ := u
  dsimp only at h hP
  obtain ⟨h, rfl, rfl, rfl, rfl⟩ := h
  try dsimp only at h
  obtain ⟨k, hk, h⟩ := jn_ex h
  try dsimp only at h
  have J : k () → ∀ (ls : Array Slot) (H : Heap) (locs : List Loc), lv_has ls 7 [] → va_P D vwCl (wC cy ad I L A B) H → va_S Ad s.heap H locs → W p l e rmX9_bin s m args below meth c H locs 0 0 Q (F0 m 24 ls []) := by
    intro  h ls H locs hl hP hS
    replace h := hk _ h
    try dsimp only at h
    exact hthW (I, L, A, B) dX9_bin_24 dX9_bin_27 dX9_bin_28 dX9_bin_31 dX9_bin_34 hXs.2.1 hl.1 ⟨h, rfl, rfl⟩ hP hS
  refine lv_if_eq (tgt := 24) hx hb dX9_bin_6 (by decide) (fun hc => ?_) (fun hc => ?_)
  · rw [if_pos hc] at h
    exact J  h _ _ _ (lv_sub hl [] rfl) hP hS
  · rw [if_neg hc] at h
    refine lv_iload_n hx hb dX9_bin_9 rfl (lv_at hl 3 rfl) ?_
    refine lv_if_lt (tgt := 24) hx hb dX9_bin_10 (by decide) (fun hc_1 => ?_) (fun hc_1 => ?_)
    · rw [if_pos hc_1] at h
      exact J  h _ _ _ (lv_sub hl [] rfl) hP hS
    · rw [if_neg hc_1] at h
      refine lv_iload hx hb dX9_bin_13 (lv_at hl 4 rfl) ?_
      refine lv_if_lt (tgt := 24) hx hb dX9_bin_15 (by decide) (fun hc_2 => ?_) (fun hc_2 => ?_)
      · rw [if_pos hc_2] at h
        exact J  h _ _ _ (lv_sub hl [] rfl) hP hS
      · rw [if_neg hc_2] at h
        refine lv_iload hx hb dX9_bin_18 (lv_at hl 4 rfl) ?_
        refine lv_iconst (v := 2) hx hb dX9_bin_20 (by decide) ?_
        refine lv_icmp_le (tgt := 35) hx hb dX9_bin_21 (by decide) (fun hc_3 => ?_) (fun hc_3 => ?_)
        · rw [if_pos hc_3] at h
          refine lv_aload_n hx hb dX9_bin_35 rfl (lv_at hl 0 rfl) ?_
          refine lv_iload_n hx hb dX9_bin_36 rfl (lv_at hl 1 rfl) ?_
          refine lv_aload_n hx hb dX9_bin_37 rfl (lv_at hl 0 rfl) ?_
          refine va_get (T := TX9) hx hb hT inlX9 hown hK.1 hP 0 he_X9 rfl 2 (by decide) (hT _ mw_2_9) (fun _ h9 => h9) rfl dX9_bin_38 ?_
          refine lv_iload_n hx hb dX9_bin_41 rfl (lv_at hl 1 rfl) ?_
          refine lv_iload_n hx hb dX9_bin_42 rfl (lv_at hl 1 rfl) ?_
          refine callCl (k := 3) (As := [.int x1, .int x1]) (rest := [.int x1, .ref (ad 0)]) (n := 2) (c_X7_lifted hAd I L A B x1 x1 _ h) hx hb hT hown hK hP hS mw_3_76 wd_X7_lifted (by decide +kernel) ⟨rfl, rfl⟩ (by decide) rfl rfl he_X7 rfl hl.1 hml rfl (Nat.le_of_ble_eq_true rfl) dX9_bin_43 ⟨Nat.zero_le _, Nat.zero_le _⟩ (fun r43 u H locs h hP hS => ?_)
          obtain ⟨Iu_1, Lu_1, Au_1, Bu_1⟩ := u
          dsimp only at h hP
          obtain ⟨h, rfl, rfl, rfl, rfl⟩ := h
          try dsimp only at h
          refine callCv (k := 0) (As := [.int x1, .long r43]) (rest := []) (n := 2) (c_X9_fillRow hAd I L A B x1 r43 _ h) hx hb hT hown hK hP hS mw_3_123 wd_X9_fillRow (by decide +kernel) ⟨rfl, rfl⟩ (by decide) rfl rfl he_X9 rfl hl.1 hml rfl (Nat.le_of_ble_eq_true rfl) dX9_bin_46 ⟨Nat.zero_le _, Nat.zero_le _⟩ (fun u H locs h hP hS => ?_)
          obtain ⟨I_1, Lu_2, A_1, Bu_2⟩ := u
          dsimp only at h hP
          obtain ⟨h, rfl, rfl⟩ := h
          try dsimp only at h
          refine lv_aload_n hx hb dX9_bin_49 rfl (lv_at hl 0 rfl) ?_
          refine va_get (T := TX9) hx hb hT inlX9 hown hK.1 hP 0 he_X9 rfl 5 (by decide) (hT _ mw_2_12) (fun _ h9 => h9) rfl dX9_bin_50 ?_
          refine lv_iload_n hx hb dX9_bin_53 rfl (lv_at hl 2 rfl) ?_
          refine lv_iload_n hx hb dX9_bin_54 rfl (lv_at hl 3 rfl) ?_
          refine callCi (k := 5) (As := [.int x2, .int x3]) (rest := []) (n := 2) (c_X4_startOfBin hAd I_1 L A_1 B x2 x3 _ h) hx hb hT hown hK hP hS mw_4_117 wd_X4_startOfBin (by decide +kernel) ⟨rfl, rfl⟩ (by decide) rfl rfl he_X4 rfl hl.1 hml rfl (Nat.le_of_ble_eq_true rfl) dX9_bin_55 ⟨Nat.zero_le _, Nat.zero_le _⟩ (fun r55 u H locs h hP hS => ?_)
          obtain ⟨Iu_2, Lu_3, Au_2, Bu_3⟩ := u
          dsimp only at h hP
          obtain ⟨h, rfl, rfl, rfl, rfl⟩ := h
          try dsimp only at h
          refine lv_istore (lv' := [(5, .int r55), (0, .ref (ad 0)), (1, .int x1), (2, .int x2), (3, .int x3), (4, .int x4)]) hx hb dX9_bin_58 hl (by decide) rfl (fun ls hl => ?_)
          refine lv_iload hx hb dX9_bin_60 (lv_at hl 0 rfl) ?_
          refine lv_aload_n hx hb dX9_bin_62 rfl (lv_at hl 1 rfl) ?_
          refine va_get (T := TX9) hx hb hT inlX9 hown hK.1 hP 0 he_X9 rfl 5 (by decide) (hT _ mw_2_12) (fun _ h9 => h9) rfl dX9_bin_63 ?_
          refine va_get (T := TX4) hx hb hT inlX4 hown hK.1 hP 5 he_X4 rfl 1 (by decide) (hT _ mw_1_215) (fun _ h9 => h9) rfl dX9_bin_66 ?_
          refine lv_icmp_lt (tgt := 83) hx hb dX9_bin_69 (by decide) (fun hc_4 => ?_) (fun hc_4 => ?_)
          · rw [if_pos hc_4] at h
            refine lv_aload_n hx hb dX9_bin_83 rfl (lv_at hl 1 rfl) ?_
            refine va_get (T := TX9) hx hb hT inlX9 hown hK.1 hP 0 he_X9 rfl 5 (by decide) (hT _ mw_2_12) (fun _ h9 => h9) rfl dX9_bin_84 ?_
            refine lv_iload hx hb dX9_bin_87 (lv_at hl 0 rfl) ?_
            refine lv_iload_n hx hb dX9_bin_89 rfl (lv_at hl 3 rfl) ?_
            refine lv_iload_n hx hb dX9_bin_90 rfl (lv_at hl 4 rfl) ?_
            refine lv_isub hx hb dX9_bin_91 ?_
            refine callCi (k := 5) (As := [.int r55, .int (x2 - x3)]) (rest := []) (n := 2) (c_X4_endOfBin hAd I_1 L A_1 B r55 (x2 - x3) _ h) hx hb hT hown hK hP hS mw_4_121 wd_X4_endOfBin (by decide +kernel) ⟨rfl, rfl⟩ (by decide) rfl rfl he_X4 rfl hl.1 hml rfl (Nat.le_of_ble_eq_true rfl) dX9_bin_92 ⟨Nat.zero_le _, Nat.zero_le _⟩ (fun r92 u H locs h hP hS => ?_)
            obtain ⟨Iu_3, Lu_4, Au_3, Bu_4⟩ := u
            dsimp only at h hP
            obtain ⟨h, rfl, rfl, rfl, rfl⟩ := h
            try dsimp only at h
            refine lv_istore (lv' := [(6, .int r92), (5, .int r55), (0, .ref (ad 0)), (1, .int x1), (2, .int x2), (3, .int x3), (4, .int x4)]) hx hb dX9_bin_95 hl (by decide) rfl (fun ls hl => ?_)
            refine lv_iload hx hb dX9_bin_97 (lv_at hl 6 rfl) ?_
            refine lv_iconst (v := 2) hx hb dX9_bin_99 (by decide) ?_
            refine lv_icmp_ne (tgt := 109) hx hb dX9_bin_100 (by decide) (fun hc_5 => ?_) (fun hc_5 => ?_)
            · rw [if_neg hc_5] at h
              refine lv_iload hx hb dX9_bin_109 (lv_at hl 6 rfl) ?_
              refine lv_if_ne (tgt := 127) hx hb dX9_bin_111 (by decide) (fun hc_6 => ?_) (fun hc_6 => ?_)
              · rw [if_neg hc_6] at h
                refine lv_aload_n hx hb dX9_bin_127 rfl (lv_at hl 2 rfl) ?_
                refine va_get (T := TX9) hx hb hT inlX9 hown hK.1 hP 0 he_X9 rfl 5 (by decide) (hT _ mw_2_12) (fun _ h9 => h9) rfl dX9_bin_128 ?_
                refine va_get (T := TX4) hx hb hT inlX4 hown hK.1 hP 5 he_X4 rfl 0 (by decide) (hT _ mw_1_213) (fun _ h9 => h9) rfl dX9_bin_131 ?_
                refine lv_iload hx hb dX9_bin_134 (lv_at hl 0 rfl) ?_
                refine lv_iconst (v := 1) hx hb dX9_bin_136 (by decide) ?_
                refine lv_isub hx hb dX9_bin_137 ?_
                obtain ⟨hi, h⟩ := h
                refine lC_I hx hb hK.1 hP (by decide) rfl hi dX9_bin_138 ?_
                exact hret _ (I_1, L, A_1, B) dX9_bin_139 ⟨h, rfl, rfl⟩ hP hS
              · rw [if_pos hc_6] at h
                refine lv_aload_n hx hb dX9_bin_114 rfl (lv_at hl 2 rfl) ?_
                refine va_get (T := TX9) hx hb hT inlX9 hown hK.1 hP 0 he_X9 rfl 5 (by decide) (hT _ mw_2_12) (fun _ h9 => h9) rfl dX9_bin_115 ?_
                refine va_get (T := TX4) hx hb hT inlX4 hown hK.1 hP 5 he_X4 rfl 0 (by decide) (hT _ mw_1_213) (fun _ h9 => h9) rfl dX9_bin_118 ?_
                refine lv_iload hx hb dX9_bin_121 (lv_at hl 1 rfl) ?_
                obtain ⟨hi_1, h⟩ := h
                refine lC_I hx hb hK.1 hP (by decide) rfl hi_1 dX9_bin_123 ?_
                refine lv_goto (tgt := 139) hx hb dX9_bin_124 (by decide) ?_
                exact hret _ (I_1, L, A_1, B) dX9_bin_139 ⟨h, rfl, rfl⟩ hP hS
            · rw [if_pos hc_5] at h
              refine lv_iload hx hb dX9_bin_103 (lv_at hl 0 rfl) ?_
              refine lv_iload hx hb dX9_bin_105 (lv_at hl 1 rfl) ?_
              refine lv_isub hx hb dX9_bin_107 ?_
              exact hret _ (I_1, L, A_1, B) dX9_bin_108 ⟨h, rfl, rfl⟩ hP hS
          · rw [if_neg hc_4] at h
            exact hthW (I_1, L, A_1, B) dX9_bin_72 dX9_bin_75 dX9_bin_76 dX9_bin_79 dX9_bin_82 hXs.2.1 hl.1 ⟨h, rfl, rfl⟩ hP hS
        · rw [if_neg hc_3] at h
          exact J  h _ _ _ (lv_sub hl [] rfl) hP hS
theorem dX9_middle_0 : decode cX9_middle 0 = .ok (.aload_n 0, 1) := by decide +kernel
theorem dX9_middle_1 : decode cX9_middle 1 = .ok (.getfield 28, 3) := by decide +kernel
theorem dX9_middle_4 : decode cX9_middle 4 = .ok (.iload_n 1, 1) := by decide +kernel
theorem dX9_middle_5 : decode cX9_middle 5 = .ok (.invokevirtual 131, 3) := by decide +kernel
theorem dX9_middle_8 : decode cX9_middle 8 = .ok (.ifCond .eq 12, 3) := by decide +kernel
theorem dX9_middle_11 : decode cX9_middle 11 = .ok (.iload_n 2, 1) := by decide +kernel
theorem dX9_middle_12 : decode cX9_middle 12 = .ok (.ifCond .lt 8, 3) := by decide +kernel
theorem dX9_middle_15 : decode cX9_middle 15 = .ok (.iload_n 2, 1) := by decide +kernel
theorem dX9_middle_16 : decode cX9_middle 16 = .ok (.iconst 1, 1) := by decide +kernel
theorem dX9_middle_17 : decode cX9_middle 17 = .ok (.if_icmp .le 14, 3) := by decide +kernel
theorem dX9_middle_20 : decode cX9_middle 20 = .ok (.new 227, 3) := by decide +kernel
theorem dX9_middle_23 : decode cX9_middle 23 = .ok (.dup, 1) := by decide +kernel
theorem dX9_middle_24 : decode cX9_middle 24 = .ok (.ldc_w 287, 3) := by decide +kernel
theorem dX9_middle_27 : decode cX9_middle 27 = .ok (.invokespecial 231, 3) := by decide +kernel
theorem dX9_middle_30 : decode cX9_middle 30 = .ok (.athrow, 1) := by decide +kernel
theorem dX9_middle_31 : decode cX9_middle 31 = .ok (.aload_n 0, 1) := by decide +kernel
theorem dX9_middle_32 : decode cX9_middle 32 = .ok (.iload_n 1, 1) := by decide +kernel
theorem dX9_middle_33 : decode cX9_middle 33 = .ok (.aload_n 0, 1) := by decide +kernel
theorem dX9_middle_34 : decode cX9_middle 34 = .ok (.getfield 28, 3) := by decide +kernel
theorem dX9_middle_37 : decode cX9_middle 37 = .ok (.invokevirtual 214, 3) := by decide +kernel
theorem dX9_middle_40 : decode cX9_middle 40 = .ok (.invokevirtual 267, 3) := by decide +kernel
theorem dX9_middle_43 : decode cX9_middle 43 = .ok (.aload_n 0, 1) := by decide +kernel
theorem dX9_middle_44 : decode cX9_middle 44 = .ok (.getfield 51, 3) := by decide +kernel
theorem dX9_middle_47 : decode cX9_middle 47 = .ok (.getfield 274, 3) := by decide +kernel
theorem dX9_middle_50 : decode cX9_middle 50 = .ok (.ifCond .ne 14, 3) := by decide +kernel
theorem dX9_middle_53 : decode cX9_middle 53 = .ok (.new 227, 3) := by decide +kernel
theorem dX9_middle_56 : decode cX9_middle 56 = .ok (.dup, 1) := by decide +kernel
theorem dX9_middle_57 : decode cX9_middle 57 = .ok (.ldc_w 289, 3) := by decide +kernel
theorem dX9_middle_60 : decode cX9_middle 60 = .ok (.invokespecial 231, 3) := by decide +kernel
theorem dX9_middle_63 : decode cX9_middle 63 = .ok (.athrow, 1) := by decide +kernel
theorem dX9_middle_64 : decode cX9_middle 64 = .ok (.iload_n 2, 1) := by decide +kernel
theorem dX9_middle_65 : decode cX9_middle 65 = .ok (.ifCond .ne 23, 3) := by decide +kernel
theorem dX9_middle_68 : decode cX9_middle 68 = .ok (.aload_n 0, 1) := by decide +kernel
theorem dX9_middle_69 : decode cX9_middle 69 = .ok (.getfield 51, 3) := by decide +kernel
theorem dX9_middle_72 : decode cX9_middle 72 = .ok (.getfield 278, 3) := by decide +kernel
theorem dX9_middle_75 : decode cX9_middle 75 = .ok (.aload_n 0, 1) := by decide +kernel
theorem dX9_middle_76 : decode cX9_middle 76 = .ok (.getfield 51, 3) := by decide +kernel
theorem dX9_middle_79 : decode cX9_middle 79 = .ok (.getfield 274, 3) := by decide +kernel
theorem dX9_middle_82 : decode cX9_middle 82 = .ok (.iconst 1, 1) := by decide +kernel
theorem dX9_middle_83 : decode cX9_middle 83 = .ok (.isub, 1) := by decide +kernel
theorem dX9_middle_84 : decode cX9_middle 84 = .ok (.iconst 2, 1) := by decide +kernel
theorem dX9_middle_85 : decode cX9_middle 85 = .ok (.idiv, 1) := by decide +kernel
theorem dX9_middle_86 : decode cX9_middle 86 = .ok (.iaload, 1) := by decide +kernel
theorem dX9_middle_87 : decode cX9_middle 87 = .ok (.ireturn, 1) := by decide +kernel
theorem dX9_middle_88 : decode cX9_middle 88 = .ok (.aload_n 0, 1) := by decide +kernel
theorem dX9_middle_89 : decode cX9_middle 89 = .ok (.getfield 51, 3) := by decide +kernel
theorem dX9_middle_92 : decode cX9_middle 92 = .ok (.getfield 278, 3) := by decide +kernel
theorem dX9_middle_95 : decode cX9_middle 95 = .ok (.aload_n 0, 1) := by decide +kernel
theorem dX9_middle_96 : decode cX9_middle 96 = .ok (.getfield 51, 3) := by decide +kernel
theorem dX9_middle_99 : decode cX9_middle 99 = .ok (.getfield 274, 3) := by decide +kernel
theorem dX9_middle_102 : decode cX9_middle 102 = .ok (.iconst 1, 1) := by decide +kernel
theorem dX9_middle_103 : decode cX9_middle 103 = .ok (.isub, 1) := by decide +kernel
theorem dX9_middle_104 : decode cX9_middle 104 = .ok (.iaload, 1) := by decide +kernel
theorem dX9_middle_105 : decode cX9_middle 105 = .ok (.aload_n 0, 1) := by decide +kernel
theorem dX9_middle_106 : decode cX9_middle 106 = .ok (.getfield 51, 3) := by decide +kernel
theorem dX9_middle_109 : decode cX9_middle 109 = .ok (.getfield 278, 3) := by decide +kernel
theorem dX9_middle_112 : decode cX9_middle 112 = .ok (.iconst 0, 1) := by decide +kernel
theorem dX9_middle_113 : decode cX9_middle 113 = .ok (.iaload, 1) := by decide +kernel
theorem dX9_middle_114 : decode cX9_middle 114 = .ok (.isub, 1) := by decide +kernel
theorem dX9_middle_115 : decode cX9_middle 115 = .ok (.ireturn, 1) := by decide +kernel
def wX9_middle (I : Nat → Int32) (L : Nat → Int64) (A : Nat → Nat → Int32) (B : Nat → Nat → Int64) (x1 : Int32) (x2 : Int32) (post : Int32 → (Nat → Int32) → (Nat → Nat → Int32) → Prop) (postX : (Nat → Int32) → (Nat → Nat → Int32) → Prop) : Prop := wX7_isNumeric I L A B x1 (fun r5 => jn (fun (_ : Unit) => postX I A) (fun k => if r5 = 0 then (k ()) else (if x2 < 0 then (k ()) else (if x2 ≤ 1 then (wX7_hits I L A B  (fun r37 => wX9_fillRow I L A B x1 r37 (fun I_1 A_1 => if (I_1 5) = 0 then (postX I_1 A_1) else (if x2 = 0 then (¬ (2 : Int32) = 0 ∧ (vp_in (((I_1 5) - 1) / 2) 40 ∧ (post (A_1 49 (((I_1 5) - 1) / 2).toNatClampNeg) I_1 A_1))) else (vp_in ((I_1 5) - 1) 40 ∧ (vp_in 0 40 ∧ (post ((A_1 49 ((I_1 5) - 1).toNatClampNeg) - (A_1 49 (0 : Int32).toNatClampNeg)) I_1 A_1))))))) else (k ())))))
abbrev rmX9_middle : Room := { frames := 6, cells := 1, slots := 6, locals := 82 }
theorem wd_X9_middle : Cond.instanceMethod yX9_middle ∈ BW ∧ Cond.selects yX9_middle.cls yX9_middle yX9_middle ∈ BW ∧ Cond.initialized yX9_middle.cls ∈ BW ∧ Cond.code yX9_middle cX9_middle 3 (some .int) ∈ BW := ⟨mw_4_126, mw_4_127, mw_1_1, mw_4_128⟩
set_option maxHeartbeats 4000000 in
set_option maxRecDepth 100000 in
theorem c_X9_middle {l : Launch} {D : va_G} {cy : Nat → ClassId} {ad : Nat → Nat} {Ad : Nat → Prop} (hAd : adok 103 Ad ad) (hlt : l.stackTraces = false) (I : Nat → Int32) (L : Nat → Int64) (A : Nat → Nat → Int32) (B : Nat → Nat → Int64) (x1 : Int32) (x2 : Int32)  (post : Int32 → (Nat → Int32) → (Nat → Nat → Int32) → Prop) (postX : (Nat → Int32) → (Nat → Nat → Int32) → Prop) (h : wX9_middle I L A B x1 x2 post postX) : vx_Met l yX9_middle (.code yX9_middle cX9_middle 3 (some .int) :: BW) rmX9_middle (va_Pc [.ref (ad 0), .int x1, .int x2] (fun U => kC D cy U ∧ va_P D vwCl (wC cy ad I L A B) U.heap ∧ kX Ad U)) (qCi D cy ad Ad (fun r u => post r u.1 u.2.2.1 ∧ L = u.2.1 ∧ B = u.2.2.2)) (xC D cy ad Ad (fun u => postX u.1 u.2.2.1 ∧ L = u.2.1 ∧ B = u.2.2.2)) 1 6 Ad := by
  refine startCx hlt (by decide) rfl (Nat.le_of_ble_eq_true rfl) (Nat.le_of_ble_eq_true rfl) (Nat.le_of_ble_eq_true rfl) (Nat.le_of_ble_eq_true rfl) (Nat.le_of_ble_eq_true rfl) (lv := [(0, .ref (ad 0)), (1, .int x1), (2, .int x2)]) rfl (fun p e s m args below meth c Q ls hx hb hml hT hown hK hret hthS hthW hXs hl hP hS => ?_)
  unfold wX9_middle at h
  refine lv_aload_n hx hb dX9_middle_0 rfl (lv_at hl 0 rfl) ?_
  refine va_get (T := TX9) hx hb hT inlX9 hown hK.1 hP 0 he_X9 rfl 2 (by decide) (hT _ mw_2_9) (fun _ h9 => h9) rfl dX9_middle_1 ?_
  refine lv_iload_n hx hb dX9_middle_4 rfl (lv_at hl 1 rfl) ?_
  refine callCi (k := 3) (As := [.int x1]) (rest := []) (n := 1) (c_X7_isNumeric hAd I L A B x1 _ h) hx hb hT hown hK hP hS mw_2_191 wd_X7_isNumeric (by decide +kernel) ⟨rfl, rfl⟩ (by decide) rfl rfl he_X7 rfl hl.1 hml rfl (Nat.le_of_ble_eq_true rfl) dX9_middle_5 ⟨Nat.zero_le _, Nat.zero_le _⟩ (fun r5 u H locs h hP hS => ?_)
  obtain ⟨Iu, Lu, Au, Bu⟩ := u
  dsimp only at h hP
  obtain ⟨h, rfl, rfl, rfl, rfl⟩ := h
  try dsimp only at h
  obtain ⟨k, hk, h⟩ := jn_ex h
  try dsimp only at h
  have J : k () → ∀ (ls : Array Slot) (H : Heap) (locs : List Loc), lv_has ls 3 [] → va_P D vwCl (wC cy ad I L A B) H → va_S Ad s.heap H locs → W p l e rmX9_middle s m args below meth c H locs 0 0 Q (F0 m 20 ls []) := by
    intro  h ls H locs hl hP hS
    replace h := hk _ h
    try dsimp only at h
    exact hthW (I, L, A, B) dX9_middle_20 dX9_middle_23 dX9_middle_24 dX9_middle_27 dX9_middle_30 hXs.2.2.1 hl.1 ⟨h, rfl, rfl⟩ hP hS
  refine lv_if_eq (tgt := 20) hx hb dX9_middle_8 (by decide) (fun hc => ?_) (fun hc => ?_)
  · rw [if_pos hc] at h
    exact J  h _ _ _ (lv_sub hl [] rfl) hP hS
  · rw [if_neg hc] at h
    refine lv_iload_n hx hb dX9_middle_11 rfl (lv_at hl 2 rfl) ?_
    refine lv_if_lt (tgt := 20) hx hb dX9_middle_12 (by decide) (fun hc_1 => ?_) (fun hc_1 => ?_)
    · rw [if_pos hc_1] at h
      exact J  h _ _ _ (lv_sub hl [] rfl) hP hS
    · rw [if_neg hc_1] at h
      refine lv_iload_n hx hb dX9_middle_15 rfl (lv_at hl 2 rfl) ?_
      refine lv_iconst (v := 1) hx hb dX9_middle_16 (by decide) ?_
      refine lv_icmp_le (tgt := 31) hx hb dX9_middle_17 (by decide) (fun hc_2 => ?_) (fun hc_2 => ?_)
      · rw [if_pos hc_2] at h
        refine lv_aload_n hx hb dX9_middle_31 rfl (lv_at hl 0 rfl) ?_
        refine lv_iload_n hx hb dX9_middle_32 rfl (lv_at hl 1 rfl) ?_
        refine lv_aload_n hx hb dX9_middle_33 rfl (lv_at hl 0 rfl) ?_
        refine va_get (T := TX9) hx hb hT inlX9 hown hK.1 hP 0 he_X9 rfl 2 (by decide) (hT _ mw_2_9) (fun _ h9 => h9) rfl dX9_middle_34 ?_
        refine callCl (k := 3) (As := []) (rest := [.int x1, .ref (ad 0)]) (n := 0) (c_X7_hits hAd I L A B  _ h) hx hb hT hown hK hP hS mw_3_51 wd_X7_hits (by decide +kernel) ⟨rfl, rfl⟩ (by decide) rfl rfl he_X7 rfl hl.1 hml rfl (Nat.le_of_ble_eq_true rfl) dX9_middle_37 ⟨Nat.zero_le _, Nat.zero_le _⟩ (fun r37 u H locs h hP hS => ?_)
        obtain ⟨Iu_1, Lu_1, Au_1, Bu_1⟩ := u
        dsimp only at h hP
        obtain ⟨h, rfl, rfl, rfl, rfl⟩ := h
        try dsimp only at h
        refine callCv (k := 0) (As := [.int x1, .long r37]) (rest := []) (n := 2) (c_X9_fillRow hAd I L A B x1 r37 _ h) hx hb hT hown hK hP hS mw_3_123 wd_X9_fillRow (by decide +kernel) ⟨rfl, rfl⟩ (by decide) rfl rfl he_X9 rfl hl.1 hml rfl (Nat.le_of_ble_eq_true rfl) dX9_middle_40 ⟨Nat.zero_le _, Nat.zero_le _⟩ (fun u H locs h hP hS => ?_)
        obtain ⟨I_1, Lu_2, A_1, Bu_2⟩ := u
        dsimp only at h hP
        obtain ⟨h, rfl, rfl⟩ := h
        try dsimp only at h
        refine lv_aload_n hx hb dX9_middle_43 rfl (lv_at hl 0 rfl) ?_
        refine va_get (T := TX9) hx hb hT inlX9 hown hK.1 hP 0 he_X9 rfl 5 (by decide) (hT _ mw_2_12) (fun _ h9 => h9) rfl dX9_middle_44 ?_
        refine va_get (T := TX4) hx hb hT inlX4 hown hK.1 hP 5 he_X4 rfl 1 (by decide) (hT _ mw_1_215) (fun _ h9 => h9) rfl dX9_middle_47 ?_
        refine lv_if_ne (tgt := 64) hx hb dX9_middle_50 (by decide) (fun hc_3 => ?_) (fun hc_3 => ?_)
        · rw [if_neg hc_3] at h
          refine lv_iload_n hx hb dX9_middle_64 rfl (lv_at hl 2 rfl) ?_
          refine lv_if_ne (tgt := 88) hx hb dX9_middle_65 (by decide) (fun hc_4 => ?_) (fun hc_4 => ?_)
          · rw [if_neg hc_4] at h
            refine lv_aload_n hx hb dX9_middle_88 rfl (lv_at hl 0 rfl) ?_
            refine va_get (T := TX9) hx hb hT inlX9 hown hK.1 hP 0 he_X9 rfl 5 (by decide) (hT _ mw_2_12) (fun _ h9 => h9) rfl dX9_middle_89 ?_
            refine va_get (T := TX4) hx hb hT inlX4 hown hK.1 hP 5 he_X4 rfl 0 (by decide) (hT _ mw_1_213) (fun _ h9 => h9) rfl dX9_middle_92 ?_
            refine lv_aload_n hx hb dX9_middle_95 rfl (lv_at hl 0 rfl) ?_
            refine va_get (T := TX9) hx hb hT inlX9 hown hK.1 hP 0 he_X9 rfl 5 (by decide) (hT _ mw_2_12) (fun _ h9 => h9) rfl dX9_middle_96 ?_
            refine va_get (T := TX4) hx hb hT inlX4 hown hK.1 hP 5 he_X4 rfl 1 (by decide) (hT _ mw_1_215) (fun _ h9 => h9) rfl dX9_middle_99 ?_
            refine lv_iconst (v := 1) hx hb dX9_middle_102 (by decide) ?_
            refine lv_isub hx hb dX9_middle_103 ?_
            obtain ⟨hi, h⟩ := h
            refine lC_I hx hb hK.1 hP (by decide) rfl hi dX9_middle_104 ?_
            refine lv_aload_n hx hb dX9_middle_105 rfl (lv_at hl 0 rfl) ?_
            refine va_get (T := TX9) hx hb hT inlX9 hown hK.1 hP 0 he_X9 rfl 5 (by decide) (hT _ mw_2_12) (fun _ h9 => h9) rfl dX9_middle_106 ?_
            refine va_get (T := TX4) hx hb hT inlX4 hown hK.1 hP 5 he_X4 rfl 0 (by decide) (hT _ mw_1_213) (fun _ h9 => h9) rfl dX9_middle_109 ?_
            refine lv_iconst (v := 0) hx hb dX9_middle_112 (by decide) ?_
            obtain ⟨hi_1, h⟩ := h
            refine lC_I hx hb hK.1 hP (by decide) rfl hi_1 dX9_middle_113 ?_
            refine lv_isub hx hb dX9_middle_114 ?_
            exact hret _ (I_1, L, A_1, B) dX9_middle_115 ⟨h, rfl, rfl⟩ hP hS
          · rw [if_pos hc_4] at h
            refine lv_aload_n hx hb dX9_middle_68 rfl (lv_at hl 0 rfl) ?_
            refine va_get (T := TX9) hx hb hT inlX9 hown hK.1 hP 0 he_X9 rfl 5 (by decide) (hT _ mw_2_12) (fun _ h9 => h9) rfl dX9_middle_69 ?_
            refine va_get (T := TX4) hx hb hT inlX4 hown hK.1 hP 5 he_X4 rfl 0 (by decide) (hT _ mw_1_213) (fun _ h9 => h9) rfl dX9_middle_72 ?_
            refine lv_aload_n hx hb dX9_middle_75 rfl (lv_at hl 0 rfl) ?_
            refine va_get (T := TX9) hx hb hT inlX9 hown hK.1 hP 0 he_X9 rfl 5 (by decide) (hT _ mw_2_12) (fun _ h9 => h9) rfl dX9_middle_76 ?_
            refine va_get (T := TX4) hx hb hT inlX4 hown hK.1 hP 5 he_X4 rfl 1 (by decide) (hT _ mw_1_215) (fun _ h9 => h9) rfl dX9_middle_79 ?_
            refine lv_iconst (v := 1) hx hb dX9_middle_82 (by decide) ?_
            refine lv_isub hx hb dX9_middle_83 ?_
            refine lv_iconst (v := 2) hx hb dX9_middle_84 (by decide) ?_
            obtain ⟨hn, h⟩ := h
            refine lv_idiv hx hb dX9_middle_85 hn ?_
            obtain ⟨hi_2, h⟩ := h
            refine lC_I hx hb hK.1 hP (by decide) rfl hi_2 dX9_middle_86 ?_
            exact hret _ (I_1, L, A_1, B) dX9_middle_87 ⟨h, rfl, rfl⟩ hP hS
        · rw [if_pos hc_3] at h
          exact hthW (I_1, L, A_1, B) dX9_middle_53 dX9_middle_56 dX9_middle_57 dX9_middle_60 dX9_middle_63 hXs.2.2.2 hl.1 ⟨h, rfl, rfl⟩ hP hS
      · rw [if_neg hc_2] at h
        exact J  h _ _ _ (lv_sub hl [] rfl) hP hS
