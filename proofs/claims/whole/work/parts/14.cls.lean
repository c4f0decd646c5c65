theorem dX9_bins_0 : decode cX9_bins 0 = .ok (.aload_n 0, 1) := by decide +kernel
theorem dX9_bins_1 : decode cX9_bins 1 = .ok (.iload_n 1, 1) := by decide +kernel
theorem dX9_bins_2 : decode cX9_bins 2 = .ok (.iload_n 2, 1) := by decide +kernel
theorem dX9_bins_3 : decode cX9_bins 3 = .ok (.invokevirtual 262, 3) := by decide +kernel
theorem dX9_bins_6 : decode cX9_bins 6 = .ok (.ifCond .ne 5, 3) := by decide +kernel
theorem dX9_bins_9 : decode cX9_bins 9 = .ok (.iconst (-1), 1) := by decide +kernel
theorem dX9_bins_10 : decode cX9_bins 10 = .ok (.ireturn, 1) := by decide +kernel
theorem dX9_bins_11 : decode cX9_bins 11 = .ok (.aload_n 0, 1) := by decide +kernel
theorem dX9_bins_12 : decode cX9_bins 12 = .ok (.iload_n 1, 1) := by decide +kernel
theorem dX9_bins_13 : decode cX9_bins 13 = .ok (.aload_n 0, 1) := by decide +kernel
theorem dX9_bins_14 : decode cX9_bins 14 = .ok (.getfield 28, 3) := by decide +kernel
theorem dX9_bins_17 : decode cX9_bins 17 = .ok (.iload_n 1, 1) := by decide +kernel
theorem dX9_bins_18 : decode cX9_bins 18 = .ok (.iload_n 1, 1) := by decide +kernel
theorem dX9_bins_19 : decode cX9_bins 19 = .ok (.invokevirtual 238, 3) := by decide +kernel
theorem dX9_bins_22 : decode cX9_bins 22 = .ok (.invokevirtual 267, 3) := by decide +kernel
theorem dX9_bins_25 : decode cX9_bins 25 = .ok (.aload_n 0, 1) := by decide +kernel
theorem dX9_bins_26 : decode cX9_bins 26 = .ok (.getfield 51, 3) := by decide +kernel
theorem dX9_bins_29 : decode cX9_bins 29 = .ok (.iload_n 2, 1) := by decide +kernel
theorem dX9_bins_30 : decode cX9_bins 30 = .ok (.invokevirtual 281, 3) := by decide +kernel
theorem dX9_bins_33 : decode cX9_bins 33 = .ok (.ireturn, 1) := by decide +kernel
def wX9_bins (I : Nat → Int32) (L : Nat → Int64) (A : Nat → Nat → Int32) (B : Nat → Nat → Int64) (x1 : Int32) (x2 : Int32) (post : Int32 → (Nat → Int32) → (Nat → Nat → Int32) → Prop) : Prop := wX9_canBin I L A B x1 x2 (fun r3 => if r3 = 0 then (post (-1) I A) else (wX7_lifted I L A B x1 x1 (fun r19 => wX9_fillRow I L A B x1 r19 (fun I_1 A_1 => wX4_howManyBins I_1 L A_1 B x2 (fun r30 => post r30 I_1 A_1)))))
abbrev rmX9_bins : Room := { frames := 3, cells := 0, slots := 0, locals := 68 }
theorem wd_X9_bins : Cond.instanceMethod yX9_bins ∈ BW ∧ Cond.selects yX9_bins.cls yX9_bins yX9_bins ∈ BW ∧ Cond.initialized yX9_bins.cls ∈ BW ∧ Cond.code yX9_bins cX9_bins 3 (some .int) ∈ BW := ⟨mw_3_116, mw_3_117, mw_1_1, mw_3_118⟩
set_option maxHeartbeats 4000000 in
set_option maxRecDepth 100000 in
theorem c_X9_bins {l : Launch} {D : va_G} {cy : Nat → ClassId} {ad : Nat → Nat} {Ad : Nat → Prop} (hAd : adok 103 Ad ad) (I : Nat → Int32) (L : Nat → Int64) (A : Nat → Nat → Int32) (B : Nat → Nat → Int64) (x1 : Int32) (x2 : Int32)  (post : Int32 → (Nat → Int32) → (Nat → Nat → Int32) → Prop) (h : wX9_bins I L A B x1 x2 post) : Met l yX9_bins (.code yX9_bins cX9_bins 3 (some .int) :: BW) rmX9_bins (va_Pc [.ref (ad 0), .int x1, .int x2] (fun U => kC D cy U ∧ va_P D vwCl (wC cy ad I L A B) U.heap)) (qCi D cy ad Ad (fun r u => post r u.1 u.2.2.1 ∧ L = u.2.1 ∧ B = u.2.2.2)) 0 0 Ad := by
  refine startCi (by decide) (Nat.le_of_ble_eq_true rfl) (lv := [(0, .ref (ad 0)), (1, .int x1), (2, .int x2)]) rfl (fun p e s m args below meth c Q ls hx hb hml hT hown hK hret hl hP hS => ?_)
  unfold wX9_bins at h
  refine lv_aload_n hx hb dX9_bins_0 rfl (lv_at hl 0 rfl) ?_
  refine lv_iload_n hx hb dX9_bins_1 rfl (lv_at hl 1 rfl) ?_
  refine lv_iload_n hx hb dX9_bins_2 rfl (lv_at hl 2 rfl) ?_
  refine callCi (k := 0) (As := [.int x1, .int x2]) (rest := []) (n := 2) (c_X9_canBin hAd I L A B x1 x2 _ h) hx hb hT hown hK hP hS mw_3_119 wd_X9_canBin (by decide +kernel) ⟨rfl, rfl⟩ (by decide) rfl rfl he_X9 rfl hl.1 hml rfl (Nat.le_of_ble_eq_true rfl) dX9_bins_3 ⟨Nat.zero_le _, Nat.zero_le _⟩ (fun r3 u H locs h hP hS => ?_)
  obtain ⟨Iu, Lu, Au, Bu⟩ := u
  dsimp only at h hP
  obtain ⟨h, rfl, rfl, rfl, rfl⟩ := h
  try dsimp only at h
  refine lv_if_ne (tgt := 11) hx hb dX9_bins_6 (by decide) (fun hc => ?_) (fun hc => ?_)
  · rw [if_neg hc] at h
    refine lv_aload_n hx hb dX9_bins_11 rfl (lv_at hl 0 rfl) ?_
    refine lv_iload_n hx hb dX9_bins_12 rfl (lv_at hl 1 rfl) ?_
    refine lv_aload_n hx hb dX9_bins_13 rfl (lv_at hl 0 rfl) ?_
    refine va_get (T := TX9) hx hb hT inlX9 hown hK.1 hP 0 he_X9 rfl 2 (by decide) (hT _ mw_2_9) (fun _ h9 => h9) rfl dX9_bins_14 ?_
    refine lv_iload_n hx hb dX9_bins_17 rfl (lv_at hl 1 rfl) ?_
    refine lv_iload_n hx hb dX9_bins_18 rfl (lv_at hl 1 rfl) ?_
    refine callCl (k := 3) (As := [.int x1, .int x1]) (rest := [.int x1, .ref (ad 0)]) (n := 2) (c_X7_lifted hAd I L A B x1 x1 _ h) hx hb hT hown hK hP hS mw_3_76 wd_X7_lifted (by decide +kernel) ⟨rfl, rfl⟩ (by decide) rfl rfl he_X7 rfl hl.1 hml rfl (Nat.le_of_ble_eq_true rfl) dX9_bins_19 ⟨Nat.zero_le _, Nat.zero_le _⟩ (fun r19 u H locs h hP hS => ?_)
    obtain ⟨Iu_1, Lu_1, Au_1, Bu_1⟩ := u
    dsimp only at h hP
    obtain ⟨h, rfl, rfl, rfl, rfl⟩ := h
    try dsimp only at h
    refine callCv (k := 0) (As := [.int x1, .long r19]) (rest := []) (n := 2) (c_X9_fillRow hAd I L A B x1 r19 _ h) hx hb hT hown hK hP hS mw_3_123 wd_X9_fillRow (by decide +kernel) ⟨rfl, rfl⟩ (by decide) rfl rfl he_X9 rfl hl.1 hml rfl (Nat.le_of_ble_eq_true rfl) dX9_bins_22 ⟨Nat.zero_le _, Nat.zero_le _⟩ (fun u H locs h hP hS => ?_)
    obtain ⟨I_1, Lu_2, A_1, Bu_2⟩ := u
    dsimp only at h hP
    obtain ⟨h, rfl, rfl⟩ := h
    try dsimp only at h
    refine lv_aload_n hx hb dX9_bins_25 rfl (lv_at hl 0 rfl) ?_
    refine va_get (T := TX9) hx hb hT inlX9 hown hK.1 hP 0 he_X9 rfl 5 (by decide) (hT _ mw_2_12) (fun _ h9 => h9) rfl dX9_bins_26 ?_
    refine lv_iload_n hx hb dX9_bins_29 rfl (lv_at hl 2 rfl) ?_
    refine callCi (k := 5) (As := [.int x2]) (rest := []) (n := 1) (c_X4_howManyBins hAd I_1 L A_1 B x2 _ h) hx hb hT hown hK hP hS mw_3_135 wd_X4_howManyBins (by decide +kernel) ⟨rfl, rfl⟩ (by decide) rfl rfl he_X4 rfl hl.1 hml rfl (Nat.le_of_ble_eq_true rfl) dX9_bins_30 ⟨Nat.zero_le _, Nat.zero_le _⟩ (fun r30 u H locs h hP hS => ?_)
    obtain ⟨Iu_2, Lu_3, Au_2, Bu_3⟩ := u
    dsimp only at h hP
    obtain ⟨h, rfl, rfl, rfl, rfl⟩ := h
    try dsimp only at h
    exact hret _ (I_1, L, A_1, B) dX9_bins_33 ⟨h, rfl, rfl⟩ hP hS
  · rw [if_pos hc] at h
    refine lv_iconst (v := (-1)) hx hb dX9_bins_9 (by decide) ?_
    exact hret _ (I, L, A, B) dX9_bins_10 ⟨h, rfl, rfl⟩ hP hS
theorem dX9_even_0 : decode cX9_even 0 = .ok (.aload_n 0, 1) := by decide +kernel
theorem dX9_even_1 : decode cX9_even 1 = .ok (.iload_n 1, 1) := by decide +kernel
theorem dX9_even_2 : decode cX9_even 2 = .ok (.iload_n 2, 1) := by decide +kernel
theorem dX9_even_3 : decode cX9_even 3 = .ok (.invokevirtual 262, 3) := by decide +kernel
theorem dX9_even_6 : decode cX9_even 6 = .ok (.ifCond .ne 5, 3) := by decide +kernel
theorem dX9_even_9 : decode cX9_even 9 = .ok (.iconst (-1), 1) := by decide +kernel
theorem dX9_even_10 : decode cX9_even 10 = .ok (.ireturn, 1) := by decide +kernel
theorem dX9_even_11 : decode cX9_even 11 = .ok (.aload_n 0, 1) := by decide +kernel
theorem dX9_even_12 : decode cX9_even 12 = .ok (.iload_n 1, 1) := by decide +kernel
theorem dX9_even_13 : decode cX9_even 13 = .ok (.aload_n 0, 1) := by decide +kernel
theorem dX9_even_14 : decode cX9_even 14 = .ok (.getfield 28, 3) := by decide +kernel
theorem dX9_even_17 : decode cX9_even 17 = .ok (.iload_n 1, 1) := by decide +kernel
theorem dX9_even_18 : decode cX9_even 18 = .ok (.iload_n 1, 1) := by decide +kernel
theorem dX9_even_19 : decode cX9_even 19 = .ok (.invokevirtual 238, 3) := by decide +kernel
theorem dX9_even_22 : decode cX9_even 22 = .ok (.invokevirtual 267, 3) := by decide +kernel
theorem dX9_even_25 : decode cX9_even 25 = .ok (.aload_n 0, 1) := by decide +kernel
theorem dX9_even_26 : decode cX9_even 26 = .ok (.getfield 51, 3) := by decide +kernel
theorem dX9_even_29 : decode cX9_even 29 = .ok (.iload_n 2, 1) := by decide +kernel
theorem dX9_even_30 : decode cX9_even 30 = .ok (.invokevirtual 284, 3) := by decide +kernel
theorem dX9_even_33 : decode cX9_even 33 = .ok (.ireturn, 1) := by decide +kernel
def wX9_even (I : Nat → Int32) (L : Nat → Int64) (A : Nat → Nat → Int32) (B : Nat → Nat → Int64) (x1 : Int32) (x2 : Int32) (post : Int32 → (Nat → Int32) → (Nat → Nat → Int32) → Prop) : Prop := wX9_canBin I L A B x1 x2 (fun r3 => if r3 = 0 then (post (-1) I A) else (wX7_lifted I L A B x1 x1 (fun r19 => wX9_fillRow I L A B x1 r19 (fun I_1 A_1 => wX4_flattest I_1 L A_1 B x2 (fun r30 => post r30 I_1 A_1)))))
abbrev rmX9_even : Room := { frames := 4, cells := 0, slots := 0, locals := 90 }
theorem wd_X9_even : Cond.instanceMethod yX9_even ∈ BW ∧ Cond.selects yX9_even.cls yX9_even yX9_even ∈ BW ∧ Cond.initialized yX9_even.cls ∈ BW ∧ Cond.code yX9_even cX9_even 3 (some .int) ∈ BW := ⟨mw_3_145, mw_3_146, mw_1_1, mw_3_147⟩
set_option maxHeartbeats 4000000 in
set_option maxRecDepth 100000 in
theorem c_X9_even {l : Launch} {D : va_G} {cy : Nat → ClassId} {ad : Nat → Nat} {Ad : Nat → Prop} (hAd : adok 103 Ad ad) (I : Nat → Int32) (L : Nat → Int64) (A : Nat → Nat → Int32) (B : Nat → Nat → Int64) (x1 : Int32) (x2 : Int32)  (post : Int32 → (Nat → Int32) → (Nat → Nat → Int32) → Prop) (h : wX9_even I L A B x1 x2 post) : Met l yX9_even (.code yX9_even cX9_even 3 (some .int) :: BW) rmX9_even (va_Pc [.ref (ad 0), .int x1, .int x2] (fun U => kC D cy U ∧ va_P D vwCl (wC cy ad I L A B) U.heap)) (qCi D cy ad Ad (fun r u => post r u.1 u.2.2.1 ∧ L = u.2.1 ∧ B = u.2.2.2)) 0 0 Ad := by
  refine startCi (by decide) (Nat.le_of_ble_eq_true rfl) (lv := [(0, .ref (ad 0)), (1, .int x1), (2, .int x2)]) rfl (fun p e s m args below meth c Q ls hx hb hml hT hown hK hret hl hP hS => ?_)
  unfold wX9_even at h
  refine lv_aload_n hx hb dX9_even_0 rfl (lv_at hl 0 rfl) ?_
  refine lv_iload_n hx hb dX9_even_1 rfl (lv_at hl 1 rfl) ?_
  refine lv_iload_n hx hb dX9_even_2 rfl (lv_at hl 2 rfl) ?_
  refine callCi (k := 0) (As := [.int x1, .int x2]) (rest := []) (n := 2) (c_X9_canBin hAd I L A B x1 x2 _ h) hx hb hT hown hK hP hS mw_3_119 wd_X9_canBin (by decide +kernel) ⟨rfl, rfl⟩ (by decide) rfl rfl he_X9 rfl hl.1 hml rfl (Nat.le_of_ble_eq_true rfl) dX9_even_3 ⟨Nat.zero_le _, Nat.zero_le _⟩ (fun r3 u H locs h hP hS => ?_)
  obtain ⟨Iu, Lu, Au, Bu⟩ := u
  dsimp only at h hP
  obtain ⟨h, rfl, rfl, rfl, rfl⟩ := h
  try dsimp only at h
  refine lv_if_ne (tgt := 11) hx hb dX9_even_6 (by decide) (fun hc => ?_) (fun hc => ?_)
  · rw [if_neg hc] at h
    refine lv_aload_n hx hb dX9_even_11 rfl (lv_at hl 0 rfl) ?_
    refine lv_iload_n hx hb dX9_even_12 rfl (lv_at hl 1 rfl) ?_
    refine lv_aload_n hx hb dX9_even_13 rfl (lv_at hl 0 rfl) ?_
    refine va_get (T := TX9) hx hb hT inlX9 hown hK.1 hP 0 he_X9 rfl 2 (by decide) (hT _ mw_2_9) (fun _ h9 => h9) rfl dX9_even_14 ?_
    refine lv_iload_n hx hb dX9_even_17 rfl (lv_at hl 1 rfl) ?_
    refine lv_iload_n hx hb dX9_even_18 rfl (lv_at hl 1 rfl) ?_
    refine callCl (k := 3) (As := [.int x1, .int x1]) (rest := [.int x1, .ref (ad 0)]) (n := 2) (c_X7_lifted hAd I L A B x1 x1 _ h) hx hb hT hown hK hP hS mw_3_76 wd_X7_lifted (by decide +kernel) ⟨rfl, rfl⟩ (by decide) rfl rfl he_X7 rfl hl.1 hml rfl (Nat.le_of_ble_eq_true rfl) dX9_even_19 ⟨Nat.zero_le _, Nat.zero_le _⟩ (fun r19 u H locs h hP hS => ?_)
    obtain ⟨Iu_1, Lu_1, Au_1, Bu_1⟩ := u
    dsimp only at h hP
    obtain ⟨h, rfl, rfl, rfl, rfl⟩ := h
    try dsimp only at h
    refine callCv (k := 0) (As := [.int x1, .long r19]) (rest := []) (n := 2) (c_X9_fillRow hAd I L A B x1 r19 _ h) hx hb hT hown hK hP hS mw_3_123 wd_X9_fillRow (by decide +kernel) ⟨rfl, rfl⟩ (by decide) rfl rfl he_X9 rfl hl.1 hml rfl (Nat.le_of_ble_eq_true rfl) dX9_even_22 ⟨Nat.zero_le _, Nat.zero_le _⟩ (fun u H locs h hP hS => ?_)
    obtain ⟨I_1, Lu_2, A_1, Bu_2⟩ := u
    dsimp only at h hP
    obtain ⟨h, rfl, rfl⟩ := h
    try dsimp only at h
    refine lv_aload_n hx hb dX9_even_25 rfl (lv_at hl 0 rfl) ?_
    refine va_get (T := TX9) hx hb hT inlX9 hown hK.1 hP 0 he_X9 rfl 5 (by decide) (hT _ mw_2_12) (fun _ h9 => h9) rfl dX9_even_26 ?_
    refine lv_iload_n hx hb dX9_even_29 rfl (lv_at hl 2 rfl) ?_
    refine callCi (k := 5) (As := [.int x2]) (rest := []) (n := 1) (c_X4_flattest hAd I_1 L A_1 B x2 _ h) hx hb hT hown hK hP hS mw_3_148 wd_X4_flattest (by decide +kernel) ⟨rfl, rfl⟩ (by decide) rfl rfl he_X4 rfl hl.1 hml rfl (Nat.le_of_ble_eq_true rfl) dX9_even_30 ⟨Nat.zero_le _, Nat.zero_le _⟩ (fun r30 u H locs h hP hS => ?_)
    obtain ⟨Iu_2, Lu_3, Au_2, Bu_3⟩ := u
    dsimp only at h hP
    obtain ⟨h, rfl, rfl, rfl, rfl⟩ := h
    try dsimp only at h
    exact hret _ (I_1, L, A_1, B) dX9_even_33 ⟨h, rfl, rfl⟩ hP hS
  · rw [if_pos hc] at h
    refine lv_iconst (v := (-1)) hx hb dX9_even_9 (by decide) ?_
    exact hret _ (I, L, A, B) dX9_even_10 ⟨h, rfl, rfl⟩ hP hS
theorem dX9_top_0 : decode cX9_top 0 = .ok (.aload_n 0, 1) := by decide +kernel
theorem dX9_top_1 : decode cX9_top 1 = .ok (.getfield 28, 3) := by decide +kernel
theorem dX9_top_4 : decode cX9_top 4 = .ok (.iload_n 1, 1) := by decide +kernel
theorem dX9_top_5 : decode cX9_top 5 = .ok (.invokevirtual 77, 3) := by decide +kernel
theorem dX9_top_8 : decode cX9_top 8 = .ok (.ifCond .eq 17, 3) := by decide +kernel
theorem dX9_top_11 : decode cX9_top 11 = .ok (.iload_n 2, 1) := by decide +kernel
theorem dX9_top_12 : decode cX9_top 12 = .ok (.ifCond .lt 13, 3) := by decide +kernel
theorem dX9_top_15 : decode cX9_top 15 = .ok (.iload_n 2, 1) := by decide +kernel
theorem dX9_top_16 : decode cX9_top 16 = .ok (.bipush 40, 2) := by decide +kernel
theorem dX9_top_18 : decode cX9_top 18 = .ok (.if_icmp .gt 7, 3) := by decide +kernel
theorem dX9_top_21 : decode cX9_top 21 = .ok (.iload_n 3, 1) := by decide +kernel
theorem dX9_top_22 : decode cX9_top 22 = .ok (.ifCond .ge 5, 3) := by decide +kernel
theorem dX9_top_25 : decode cX9_top 25 = .ok (.iconst (-1), 1) := by decide +kernel
theorem dX9_top_26 : decode cX9_top 26 = .ok (.ireturn, 1) := by decide +kernel
theorem dX9_top_27 : decode cX9_top 27 = .ok (.aload_n 0, 1) := by decide +kernel
theorem dX9_top_28 : decode cX9_top 28 = .ok (.getfield 28, 3) := by decide +kernel
theorem dX9_top_31 : decode cX9_top 31 = .ok (.iload_n 1, 1) := by decide +kernel
theorem dX9_top_32 : decode cX9_top 32 = .ok (.invokevirtual 245, 3) := by decide +kernel
theorem dX9_top_35 : decode cX9_top 35 = .ok (.lstore 4, 2) := by decide +kernel
theorem dX9_top_37 : decode cX9_top 37 = .ok (.aload_n 0, 1) := by decide +kernel
theorem dX9_top_38 : decode cX9_top 38 = .ok (.getfield 44, 3) := by decide +kernel
theorem dX9_top_41 : decode cX9_top 41 = .ok (.invokevirtual 291, 3) := by decide +kernel
theorem dX9_top_44 : decode cX9_top 44 = .ok (.iconst 0, 1) := by decide +kernel
theorem dX9_top_45 : decode cX9_top 45 = .ok (.istore 6, 2) := by decide +kernel
theorem dX9_top_47 : decode cX9_top 47 = .ok (.iload 6, 2) := by decide +kernel
theorem dX9_top_49 : decode cX9_top 49 = .ok (.aload_n 0, 1) := by decide +kernel
theorem dX9_top_50 : decode cX9_top 50 = .ok (.getfield 10, 3) := by decide +kernel
theorem dX9_top_53 : decode cX9_top 53 = .ok (.getfield 81, 3) := by decide +kernel
theorem dX9_top_56 : decode cX9_top 56 = .ok (.if_icmp .ge 58, 3) := by decide +kernel
theorem dX9_top_59 : decode cX9_top 59 = .ok (.lload 4, 2) := by decide +kernel
theorem dX9_top_61 : decode cX9_top 61 = .ok (.aload_n 0, 1) := by decide +kernel
theorem dX9_top_62 : decode cX9_top 62 = .ok (.getfield 10, 3) := by decide +kernel
theorem dX9_top_65 : decode cX9_top 65 = .ok (.getfield 224, 3) := by decide +kernel
theorem dX9_top_68 : decode cX9_top 68 = .ok (.iload 6, 2) := by decide +kernel
theorem dX9_top_70 : decode cX9_top 70 = .ok (.laload, 1) := by decide +kernel
theorem dX9_top_71 : decode cX9_top 71 = .ok (.land, 1) := by decide +kernel
theorem dX9_top_72 : decode cX9_top 72 = .ok (.invokestatic 201, 3) := by decide +kernel
theorem dX9_top_75 : decode cX9_top 75 = .ok (.istore 7, 2) := by decide +kernel
theorem dX9_top_77 : decode cX9_top 77 = .ok (.aload_n 0, 1) := by decide +kernel
theorem dX9_top_78 : decode cX9_top 78 = .ok (.getfield 10, 3) := by decide +kernel
theorem dX9_top_81 : decode cX9_top 81 = .ok (.getfield 96, 3) := by decide +kernel
theorem dX9_top_84 : decode cX9_top 84 = .ok (.iload 6, 2) := by decide +kernel
theorem dX9_top_86 : decode cX9_top 86 = .ok (.iaload, 1) := by decide +kernel
theorem dX9_top_87 : decode cX9_top 87 = .ok (.iload_n 1, 1) := by decide +kernel
theorem dX9_top_88 : decode cX9_top 88 = .ok (.if_icmp .ne 20, 3) := by decide +kernel
theorem dX9_top_91 : decode cX9_top 91 = .ok (.iload 7, 2) := by decide +kernel
theorem dX9_top_93 : decode cX9_top 93 = .ok (.iload_n 2, 1) := by decide +kernel
theorem dX9_top_94 : decode cX9_top 94 = .ok (.if_icmp .le 14, 3) := by decide +kernel
theorem dX9_top_97 : decode cX9_top 97 = .ok (.aload_n 0, 1) := by decide +kernel
theorem dX9_top_98 : decode cX9_top 98 = .ok (.getfield 44, 3) := by decide +kernel
theorem dX9_top_101 : decode cX9_top 101 = .ok (.iload 6, 2) := by decide +kernel
theorem dX9_top_103 : decode cX9_top 103 = .ok (.iload 7, 2) := by decide +kernel
theorem dX9_top_105 : decode cX9_top 105 = .ok (.invokevirtual 292, 3) := by decide +kernel
theorem dX9_top_108 : decode cX9_top 108 = .ok (.iinc 6 1, 3) := by decide +kernel
theorem dX9_top_111 : decode cX9_top 111 = .ok (.goto (-64), 3) := by decide +kernel
theorem dX9_top_114 : decode cX9_top 114 = .ok (.iload_n 3, 1) := by decide +kernel
theorem dX9_top_115 : decode cX9_top 115 = .ok (.aload_n 0, 1) := by decide +kernel
theorem dX9_top_116 : decode cX9_top 116 = .ok (.getfield 44, 3) := by decide +kernel
theorem dX9_top_119 : decode cX9_top 119 = .ok (.getfield 234, 3) := by decide +kernel
theorem dX9_top_122 : decode cX9_top 122 = .ok (.if_icmp .ge 15, 3) := by decide +kernel
theorem dX9_top_125 : decode cX9_top 125 = .ok (.aload_n 0, 1) := by decide +kernel
theorem dX9_top_126 : decode cX9_top 126 = .ok (.getfield 44, 3) := by decide +kernel
theorem dX9_top_129 : decode cX9_top 129 = .ok (.getfield 235, 3) := by decide +kernel
theorem dX9_top_132 : decode cX9_top 132 = .ok (.iload_n 3, 1) := by decide +kernel
theorem dX9_top_133 : decode cX9_top 133 = .ok (.iaload, 1) := by decide +kernel
theorem dX9_top_134 : decode cX9_top 134 = .ok (.goto 4, 3) := by decide +kernel
theorem dX9_top_137 : decode cX9_top 137 = .ok (.iconst (-1), 1) := by decide +kernel
theorem dX9_top_138 : decode cX9_top 138 = .ok (.ireturn, 1) := by decide +kernel
def wX9_top (I : Nat → Int32) (L : Nat → Int64) (A : Nat → Nat → Int32) (B : Nat → Nat → Int64) (x1 : Int32) (x2 : Int32) (x3 : Int32) (post : Int32 → (Nat → Int32) → (Nat → Nat → Int32) → Prop) : Prop := wX7_isTree I L A B x1 (fun r5 => if r5 = 0 then (post (-1) I A) else (if x2 < 0 then (post (-1) I A) else (if 40 < x2 then (post (-1) I A) else (if 0 ≤ x3 then (wX7_audience I L A B x1 (fun r32 => wX3_clear I L A B 8  (fun I_1 => ∃ n, lfix (fun (r : (Int32 × (Nat → Int32) × (Nat → Nat → Int32)) → Prop) (v6, I_2, A_1) => if (I_2 1) ≤ v6 then (if (I_2 8) ≤ x3 then (post (-1) I_2 A_1) else (vp_in x3 40 ∧ (post (A_1 42 x3.toNatClampNeg) I_2 A_1))) else (vp_in v6 40 ∧ (wJ13_bitCount_95d88 (r32 &&& (B 40 v6.toNatClampNeg)) (fun r72 => vp_in v6 40 ∧ (if (A_1 36 v6.toNatClampNeg) = x1 then (if r72 ≤ x2 then (∀ v6_2 : Int32, v6_2 = v6 + 1 → r (v6_2, I_2, A_1)) else (wX3_put I_2 L A_1 B 8 v6 r72 (fun I_3 A_2 => ∀ v6_3 : Int32, v6_3 = v6 + 1 → r (v6_3, I_3, A_2)))) else (∀ v6_1 : Int32, v6_1 = v6 + 1 → r (v6_1, I_2, A_1))))))) n (0, I_1, A)))) else (post (-1) I A)))))
abbrev rmX9_top : Room := { frames := 3, cells := 0, slots := 0, locals := 67 }
theorem wd_X9_top : Cond.instanceMethod yX9_top ∈ BW ∧ Cond.selects yX9_top.cls yX9_top yX9_top ∈ BW ∧ Cond.initialized yX9_top.cls ∈ BW ∧ Cond.code yX9_top cX9_top 8 (some .int) ∈ BW := ⟨mw_3_161, mw_3_162, mw_1_1, mw_3_163⟩
set_option maxHeartbeats 4000000 in
set_option maxRecDepth 100000 in
theorem c_X9_top {l : Launch} {D : va_G} {cy : Nat → ClassId} {ad : Nat → Nat} {Ad : Nat → Prop} (hAd : adok 103 Ad ad) (I : Nat → Int32) (L : Nat → Int64) (A : Nat → Nat → Int32) (B : Nat → Nat → Int64) (x1 : Int32) (x2 : Int32) (x3 : Int32)  (post : Int32 → (Nat → Int32) → (Nat → Nat → Int32) → Prop) (h : wX9_top I L A B x1 x2 x3 post) : Met l yX9_top (.code yX9_top cX9_top 8 (some .int) :: BW) rmX9_top (va_Pc [.ref (ad 0), .int x1, .int x2, .int x3] (fun U => kC D cy U ∧ va_P D vwCl (wC cy ad I L A B) U.heap)) (qCi D cy ad Ad (fun r u => post r u.1 u.2.2.1 ∧ L = u.2.1 ∧ B = u.2.2.2)) 0 0 Ad := by
  refine startCi (by decide) (Nat.le_of_ble_eq_true rfl) (lv := [(0, .ref (ad 0)), (1, .int x1), (2, .int x2), (3, .int x3)]) rfl (fun p e s m args below meth c Q ls hx hb hml hT hown hK hret hl hP hS => ?_)
  unfold wX9_top at h
  refine lv_aload_n hx hb dX9_top_0 rfl (lv_at hl 0 rfl) ?_
  refine va_get (T := TX9) hx hb hT inlX9 hown hK.1 hP 0 he_X9 rfl 2 (by decide) (hT _ mw_2_9) (fun _ h9 => h9) rfl dX9_top_1 ?_
  refine lv_iload_n hx hb dX9_top_4 rfl (lv_at hl 1 rfl) ?_
  refine callCi (k := 3) (As := [.int x1]) (rest := []) (n := 1) (c_X7_isTree hAd I L A B x1 _ h) hx hb hT hown hK hP hS mw_2_89 wd_X7_isTree (by decide +kernel) ⟨rfl, rfl⟩ (by decide) rfl rfl he_X7 rfl hl.1 hml rfl (Nat.le_of_ble_eq_true rfl) dX9_top_5 ⟨Nat.zero_le _, Nat.zero_le _⟩ (fun r5 u H locs h hP hS => ?_)
  obtain ⟨Iu, Lu, Au, Bu⟩ := u
  dsimp only at h hP
  obtain ⟨h, rfl, rfl, rfl, rfl⟩ := h
  try dsimp only at h
  refine lv_if_eq (tgt := 25) hx hb dX9_top_8 (by decide) (fun hc => ?_) (fun hc => ?_)
  · rw [if_pos hc] at h
    refine lv_iconst (v := (-1)) hx hb dX9_top_25 (by decide) ?_
    exact hret _ (I, L, A, B) dX9_top_26 ⟨h, rfl, rfl⟩ hP hS
  · rw [if_neg hc] at h
    refine lv_iload_n hx hb dX9_top_11 rfl (lv_at hl 2 rfl) ?_
    refine lv_if_lt (tgt := 25) hx hb dX9_top_12 (by decide) (fun hc_1 => ?_) (fun hc_1 => ?_)
    · rw [if_pos hc_1] at h
      refine lv_iconst (v := (-1)) hx hb dX9_top_25 (by decide) ?_
      exact hret _ (I, L, A, B) dX9_top_26 ⟨h, rfl, rfl⟩ hP hS
    · rw [if_neg hc_1] at h
      refine lv_iload_n hx hb dX9_top_15 rfl (lv_at hl 2 rfl) ?_
      refine lv_bipush (v := 40) hx hb dX9_top_16 (by decide) ?_
      refine lv_icmp_gt (tgt := 25) hx hb dX9_top_18 (by decide) (fun hc_2 => ?_) (fun hc_2 => ?_)
      · rw [if_pos hc_2] at h
        refine lv_iconst (v := (-1)) hx hb dX9_top_25 (by decide) ?_
        exact hret _ (I, L, A, B) dX9_top_26 ⟨h, rfl, rfl⟩ hP hS
      · rw [if_neg hc_2] at h
        refine lv_iload_n hx hb dX9_top_21 rfl (lv_at hl 3 rfl) ?_
        refine lv_if_ge (tgt := 27) hx hb dX9_top_22 (by decide) (fun hc_3 => ?_) (fun hc_3 => ?_)
        · rw [if_pos hc_3] at h
          refine lv_aload_n hx hb dX9_top_27 rfl (lv_at hl 0 rfl) ?_
          refine va_get (T := TX9) hx hb hT inlX9 hown hK.1 hP 0 he_X9 rfl 2 (by decide) (hT _ mw_2_9) (fun _ h9 => h9) rfl dX9_top_28 ?_
          refine lv_iload_n hx hb dX9_top_31 rfl (lv_at hl 1 rfl) ?_
          refine callCl (k := 3) (As := [.int x1]) (rest := []) (n := 1) (c_X7_audience hAd I L A B x1 _ h) hx hb hT hown hK hP hS mw_3_95 wd_X7_audience (by decide +kernel) ⟨rfl, rfl⟩ (by decide) rfl rfl he_X7 rfl hl.1 hml rfl (Nat.le_of_ble_eq_true rfl) dX9_top_32 ⟨Nat.zero_le _, Nat.zero_le _⟩ (fun r32 u H locs h hP hS => ?_)
          obtain ⟨Iu_1, Lu_1, Au_1, Bu_1⟩ := u
          dsimp only at h hP
          obtain ⟨h, rfl, rfl, rfl, rfl⟩ := h
          try dsimp only at h
          refine lv_lstore (lv' := [(4, .long r32), (0, .ref (ad 0)), (1, .int x1), (2, .int x2), (3, .int x3)]) hx hb dX9_top_35 hl (by decide) rfl (fun ls hl => ?_)
          refine lv_aload_n hx hb dX9_top_37 rfl (lv_at hl 1 rfl) ?_
          refine va_get (T := TX9) hx hb hT inlX9 hown hK.1 hP 0 he_X9 rfl 4 (by decide) (hT _ mw_2_11) (fun _ h9 => h9) rfl dX9_top_38 ?_
          refine callCv (k := 8) (As := []) (rest := []) (n := 0) (c_X3_clear hAd I L A B 8  (by decide) _ h) hx hb hT hown hK hP hS mw_3_164 wd_X3_clear (by decide +kernel) ⟨rfl, rfl⟩ (by decide) rfl rfl (he_X3 (by decide)) rfl hl.1 hml rfl (Nat.le_of_ble_eq_true rfl) dX9_top_41 ⟨Nat.zero_le _, Nat.zero_le _⟩ (fun u H locs h hP hS => ?_)
          obtain ⟨I_1, Lu_2, Au_2, Bu_2⟩ := u
          dsimp only at h hP
          obtain ⟨h, rfl, rfl, rfl⟩ := h
          try dsimp only at h
          refine lv_iconst (v := 0) hx hb dX9_top_44 (by decide) ?_
          refine lv_istore (lv' := [(6, .int 0), (4, .long r32), (0, .ref (ad 0)), (1, .int x1), (2, .int x2), (3, .int x3)]) hx hb dX9_top_45 hl (by decide) rfl (fun ls hl => ?_)
          obtain ⟨F, n, h, hF, hG⟩ := lfix_ex h
          have LP : ∀ (n : Nat) (v6 : Int32) (I_2 : Nat → Int32) (A_1 : Nat → Nat → Int32) (ls : Array Slot) (H : Heap) (locs : List Loc), F n (v6, I_2, A_1) → lv_has ls 8 [(6, .int v6), (4, .long r32), (0, .ref (ad 0)), (1, .int x1), (2, .int x2), (3, .int x3)] → va_P D vwCl (wC cy ad I_2 L A_1 B) H → va_S Ad s.heap H locs → W p l e rmX9_top s m args below meth c H locs 0 0 Q (F0 m 47 ls []) := by
            intro n
            induction n with
            | zero => intro v6 I_2 A_1 ls H locs h _ _ _; exact absurd h (hF _)
            | succ n ih =>
              intro v6 I_2 A_1 ls H locs h hl hP hS
              replace h := hG _ _ h
              try dsimp only at h
              refine lv_iload hx hb dX9_top_47 (lv_at hl 0 rfl) ?_
              refine lv_aload_n hx hb dX9_top_49 rfl (lv_at hl 2 rfl) ?_
              refine va_get (T := TX9) hx hb hT inlX9 hown hK.1 hP 0 he_X9 rfl 0 (by decide) (hT _ mw_2_7) (fun _ h9 => h9) rfl dX9_top_50 ?_
              refine va_get (T := TX2) hx hb hT inlX2 hown hK.1 hP 1 he_X2 rfl 5 (by decide) (hT _ mw_1_46) (fun _ h9 => h9) rfl dX9_top_53 ?_
              refine lv_icmp_ge (tgt := 114) hx hb dX9_top_56 (by decide) (fun hc_4 => ?_) (fun hc_4 => ?_)
              · rw [if_pos hc_4] at h
                refine lv_iload_n hx hb dX9_top_114 rfl (lv_at hl 5 rfl) ?_
                refine lv_aload_n hx hb dX9_top_115 rfl (lv_at hl 2 rfl) ?_
                refine va_get (T := TX9) hx hb hT inlX9 hown hK.1 hP 0 he_X9 rfl 4 (by decide) (hT _ mw_2_11) (fun _ h9 => h9) rfl dX9_top_116 ?_
                refine va_get (T := TX3) hx hb hT inlX3 hown hK.1 hP 8 (he_X3 (by decide)) rfl 2 (by decide) (hT _ mw_1_79) (fun _ h9 => h9) rfl dX9_top_119 ?_
                refine lv_icmp_ge (tgt := 137) hx hb dX9_top_122 (by decide) (fun hc_5 => ?_) (fun hc_5 => ?_)
                · rw [if_pos hc_5] at h
                  refine lv_iconst (v := (-1)) hx hb dX9_top_137 (by decide) ?_
                  exact hret _ (I_2, L, A_1, B) dX9_top_138 ⟨h, rfl, rfl⟩ hP hS
                · rw [if_neg hc_5] at h
                  refine lv_aload_n hx hb dX9_top_125 rfl (lv_at hl 2 rfl) ?_
                  refine va_get (T := TX9) hx hb hT inlX9 hown hK.1 hP 0 he_X9 rfl 4 (by decide) (hT _ mw_2_11) (fun _ h9 => h9) rfl dX9_top_126 ?_
                  refine va_get (T := TX3) hx hb hT inlX3 hown hK.1 hP 8 (he_X3 (by decide)) rfl 0 (by decide) (hT _ mw_1_75) (fun _ h9 => h9) rfl dX9_top_129 ?_
                  refine lv_iload_n hx hb dX9_top_132 rfl (lv_at hl 5 rfl) ?_
                  obtain ⟨hi, h⟩ := h
                  refine lC_I hx hb hK.1 hP (by decide) rfl hi dX9_top_133 ?_
                  refine lv_goto (tgt := 138) hx hb dX9_top_134 (by decide) ?_
                  exact hret _ (I_2, L, A_1, B) dX9_top_138 ⟨h, rfl, rfl⟩ hP hS
              · rw [if_neg hc_4] at h
                refine lv_lload hx hb dX9_top_59 (lv_at hl 1 rfl) ?_
                refine lv_aload_n hx hb dX9_top_61 rfl (lv_at hl 2 rfl) ?_
                refine va_get (T := TX9) hx hb hT inlX9 hown hK.1 hP 0 he_X9 rfl 0 (by decide) (hT _ mw_2_7) (fun _ h9 => h9) rfl dX9_top_62 ?_
                refine va_get (T := TX2) hx hb hT inlX2 hown hK.1 hP 1 he_X2 rfl 4 (by decide) (hT _ mw_1_44) (fun _ h9 => h9) rfl dX9_top_65 ?_
                refine lv_iload hx hb dX9_top_68 (lv_at hl 0 rfl) ?_
                obtain ⟨hi_1, h⟩ := h
                refine lC_J hx hb hK.1 hP (by decide) rfl hi_1 dX9_top_70 ?_
                refine lv_land hx hb dX9_top_71 ?_
                refine callSCi (As := [.long (r32 &&& (B 40 v6.toNatClampNeg))]) (rest := []) (n := 1) (c_J13_bitCount_95d88 (r32 &&& (B 40 v6.toNatClampNeg)) _ h) hx hb hT hown hP hS mw_3_40 wd_J13_bitCount_95d88 (by decide +kernel) ⟨rfl, rfl⟩ (by decide) rfl hl.1 hml rfl (Nat.le_of_ble_eq_true rfl) dX9_top_72 ⟨Nat.zero_le _, Nat.zero_le _⟩ (fun r72 H locs h hP hS => ?_)
                try dsimp only at h
                refine lv_istore (lv' := [(7, .int r72), (6, .int v6), (4, .long r32), (0, .ref (ad 0)), (1, .int x1), (2, .int x2), (3, .int x3)]) hx hb dX9_top_75 hl (by decide) rfl (fun ls hl => ?_)
                refine lv_aload_n hx hb dX9_top_77 rfl (lv_at hl 3 rfl) ?_
                refine va_get (T := TX9) hx hb hT inlX9 hown hK.1 hP 0 he_X9 rfl 0 (by decide) (hT _ mw_2_7) (fun _ h9 => h9) rfl dX9_top_78 ?_
                refine va_get (T := TX2) hx hb hT inlX2 hown hK.1 hP 1 he_X2 rfl 0 (by decide) (hT _ mw_1_34) (fun _ h9 => h9) rfl dX9_top_81 ?_
                refine lv_iload hx hb dX9_top_84 (lv_at hl 1 rfl) ?_
                obtain ⟨hi_2, h⟩ := h
                refine lC_I hx hb hK.1 hP (by decide) rfl hi_2 dX9_top_86 ?_
                refine lv_iload_n hx hb dX9_top_87 rfl (lv_at hl 4 rfl) ?_
                refine lv_icmp_ne (tgt := 108) hx hb dX9_top_88 (by decide) (fun hc_6 => ?_) (fun hc_6 => ?_)
                · rw [if_neg hc_6] at h
                  obtain ⟨v6_1, ev6_1⟩ : ∃ z : Int32, z = v6 + 1 := ⟨_, rfl⟩
                  replace h := h v6_1 ev6_1
                  refine lv_iinc (v := v6_1) (lv' := [(6, .int v6_1), (7, .int r72), (4, .long r32), (0, .ref (ad 0)), (1, .int x1), (2, .int x2), (3, .int x3)]) hx hb dX9_top_108 hl (k := 1) rfl (by rw [ev6_1]; rfl) (by decide) rfl (fun ls hl => ?_)
                  refine lv_goto (tgt := 47) hx hb dX9_top_111 (by decide) ?_
                  exact ih v6_1 I_2 A_1 _ _ _ h (lv_sub hl [0, 2, 3, 4, 5, 6] rfl) hP hS
                · rw [if_pos hc_6] at h
                  refine lv_iload hx hb dX9_top_91 (lv_at hl 0 rfl) ?_
                  refine lv_iload_n hx hb dX9_top_93 rfl (lv_at hl 5 rfl) ?_
                  refine lv_icmp_le (tgt := 108) hx hb dX9_top_94 (by decide) (fun hc_7 => ?_) (fun hc_7 => ?_)
                  · rw [if_pos hc_7] at h
                    obtain ⟨v6_2, ev6_2⟩ : ∃ z : Int32, z = v6 + 1 := ⟨_, rfl⟩
                    replace h := h v6_2 ev6_2
                    refine lv_iinc (v := v6_2) (lv' := [(6, .int v6_2), (7, .int r72), (4, .long r32), (0, .ref (ad 0)), (1, .int x1), (2, .int x2), (3, .int x3)]) hx hb dX9_top_108 hl (k := 1) rfl (by rw [ev6_2]; rfl) (by decide) rfl (fun ls hl => ?_)
                    refine lv_goto (tgt := 47) hx hb dX9_top_111 (by decide) ?_
                    exact ih v6_2 I_2 A_1 _ _ _ h (lv_sub hl [0, 2, 3, 4, 5, 6] rfl) hP hS
                  · rw [if_neg hc_7] at h
                    refine lv_aload_n hx hb dX9_top_97 rfl (lv_at hl 3 rfl) ?_
                    refine va_get (T := TX9) hx hb hT inlX9 hown hK.1 hP 0 he_X9 rfl 4 (by decide) (hT _ mw_2_11) (fun _ h9 => h9) rfl dX9_top_98 ?_
                    refine lv_iload hx hb dX9_top_101 (lv_at hl 1 rfl) ?_
                    refine lv_iload hx hb dX9_top_103 (lv_at hl 0 rfl) ?_
                    refine callCv (k := 8) (As := [.int v6, .int r72]) (rest := []) (n := 2) (c_X3_put hAd I_2 L A_1 B 8 v6 r72 (by decide) _ h) hx hb hT hown hK hP hS mw_3_168 wd_X3_put (by decide +kernel) ⟨rfl, rfl⟩ (by decide) rfl rfl (he_X3 (by decide)) rfl hl.1 hml rfl (Nat.le_of_ble_eq_true rfl) dX9_top_105 ⟨Nat.zero_le _, Nat.zero_le _⟩ (fun u H locs h hP hS => ?_)
                    obtain ⟨I_3, Lu_3, A_2, Bu_3⟩ := u
                    dsimp only at h hP
                    obtain ⟨h, rfl, rfl⟩ := h
                    try dsimp only at h
                    obtain ⟨v6_3, ev6_3⟩ : ∃ z : Int32, z = v6 + 1 := ⟨_, rfl⟩
                    replace h := h v6_3 ev6_3
                    refine lv_iinc (v := v6_3) (lv' := [(6, .int v6_3), (7, .int r72), (4, .long r32), (0, .ref (ad 0)), (1, .int x1), (2, .int x2), (3, .int x3)]) hx hb dX9_top_108 hl (k := 1) rfl (by rw [ev6_3]; rfl) (by decide) rfl (fun ls hl => ?_)
                    refine lv_goto (tgt := 47) hx hb dX9_top_111 (by decide) ?_
                    exact ih v6_3 I_3 A_2 _ _ _ h (lv_sub hl [0, 2, 3, 4, 5, 6] rfl) hP hS
          exact LP _ 0 I_1 A _ _ _ h (lv_sub hl [0, 1, 2, 3, 4, 5] rfl) hP hS
        · rw [if_neg hc_3] at h
          refine lv_iconst (v := (-1)) hx hb dX9_top_25 (by decide) ?_
          exact hret _ (I, L, A, B) dX9_top_26 ⟨h, rfl, rfl⟩ hP hS
theorem dX9_startReading_0 : decode cX9_startReading 0 = .ok (.aload_n 0, 1) := by decide +kernel
theorem dX9_startReading_1 : decode cX9_startReading 1 = .ok (.getfield 44, 3) := by decide +kernel
theorem dX9_startReading_4 : decode cX9_startReading 4 = .ok (.invokevirtual 291, 3) := by decide +kernel
theorem dX9_startReading_7 : decode cX9_startReading 7 = .ok (.iconst 0, 1) := by decide +kernel
theorem dX9_startReading_8 : decode cX9_startReading 8 = .ok (.istore_n 2, 1) := by decide +kernel
theorem dX9_startReading_9 : decode cX9_startReading 9 = .ok (.iload_n 2, 1) := by decide +kernel
theorem dX9_startReading_10 : decode cX9_startReading 10 = .ok (.aload_n 0, 1) := by decide +kernel
theorem dX9_startReading_11 : decode cX9_startReading 11 = .ok (.getfield 10, 3) := by decide +kernel
theorem dX9_startReading_14 : decode cX9_startReading 14 = .ok (.getfield 81, 3) := by decide +kernel
theorem dX9_startReading_17 : decode cX9_startReading 17 = .ok (.if_icmp .ge 31, 3) := by decide +kernel
theorem dX9_startReading_20 : decode cX9_startReading 20 = .ok (.aload_n 0, 1) := by decide +kernel
theorem dX9_startReading_21 : decode cX9_startReading 21 = .ok (.getfield 10, 3) := by decide +kernel
theorem dX9_startReading_24 : decode cX9_startReading 24 = .ok (.getfield 96, 3) := by decide +kernel
theorem dX9_startReading_27 : decode cX9_startReading 27 = .ok (.iload_n 2, 1) := by decide +kernel
theorem dX9_startReading_28 : decode cX9_startReading 28 = .ok (.iaload, 1) := by decide +kernel
theorem dX9_startReading_29 : decode cX9_startReading 29 = .ok (.iload_n 1, 1) := by decide +kernel
theorem dX9_startReading_30 : decode cX9_startReading 30 = .ok (.if_icmp .ne 12, 3) := by decide +kernel
theorem dX9_startReading_33 : decode cX9_startReading 33 = .ok (.aload_n 0, 1) := by decide +kernel
theorem dX9_startReading_34 : decode cX9_startReading 34 = .ok (.getfield 44, 3) := by decide +kernel
theorem dX9_startReading_37 : decode cX9_startReading 37 = .ok (.iload_n 2, 1) := by decide +kernel
theorem dX9_startReading_38 : decode cX9_startReading 38 = .ok (.iconst 0, 1) := by decide +kernel
theorem dX9_startReading_39 : decode cX9_startReading 39 = .ok (.invokevirtual 292, 3) := by decide +kernel
theorem dX9_startReading_42 : decode cX9_startReading 42 = .ok (.iinc 2 1, 3) := by decide +kernel
theorem dX9_startReading_45 : decode cX9_startReading 45 = .ok (.goto (-36), 3) := by decide +kernel
theorem dX9_startReading_48 : decode cX9_startReading 48 = .ok (.return_, 1) := by decide +kernel
def wX9_startReading (I : Nat → Int32) (L : Nat → Int64) (A : Nat → Nat → Int32) (B : Nat → Nat → Int64) (x1 : Int32) (post : (Nat → Int32) → (Nat → Nat → Int32) → Prop) : Prop := wX3_clear I L A B 8  (fun I_1 => ∃ n, lfix (fun (r : (Int32 × (Nat → Int32) × (Nat → Nat → Int32)) → Prop) (v2, I_2, A_1) => if (I_2 1) ≤ v2 then (post I_2 A_1) else (vp_in v2 40 ∧ (if (A_1 36 v2.toNatClampNeg) = x1 then (wX3_put I_2 L A_1 B 8 v2 0 (fun I_3 A_2 => ∀ v2_2 : Int32, v2_2 = v2 + 1 → r (v2_2, I_3, A_2))) else (∀ v2_1 : Int32, v2_1 = v2 + 1 → r (v2_1, I_2, A_1))))) n (0, I_1, A))
abbrev rmX9_startReading : Room := { frames := 3, cells := 0, slots := 0, locals := 67 }
theorem wd_X9_startReading : Cond.instanceMethod yX9_startReading ∈ BW ∧ Cond.selects yX9_startReading.cls yX9_startReading yX9_startReading ∈ BW ∧ Cond.initialized yX9_startReading.cls ∈ BW ∧ Cond.code yX9_startReading cX9_startReading 3 (none : Option Jvm.ClassFile.FieldType) ∈ BW := ⟨mw_3_175, mp_12, mw_1_1, mw_3_176⟩
set_option maxHeartbeats 4000000 in
set_option maxRecDepth 100000 in
theorem c_X9_startReading {l : Launch} {D : va_G} {cy : Nat → ClassId} {ad : Nat → Nat} {Ad : Nat → Prop} (hAd : adok 103 Ad ad) (I : Nat → Int32) (L : Nat → Int64) (A : Nat → Nat → Int32) (B : Nat → Nat → Int64) (x1 : Int32)  (post : (Nat → Int32) → (Nat → Nat → Int32) → Prop) (h : wX9_startReading I L A B x1 post) : Met l yX9_startReading (.code yX9_startReading cX9_startReading 3 (none : Option Jvm.ClassFile.FieldType) :: BW) rmX9_startReading (va_Pc [.ref (ad 0), .int x1] (fun U => kC D cy U ∧ va_P D vwCl (wC cy ad I L A B) U.heap)) (qCv D cy ad Ad (fun u => post u.1 u.2.2.1 ∧ L = u.2.1 ∧ B = u.2.2.2)) 0 0 Ad := by
  refine startCv (by decide) (Nat.le_of_ble_eq_true rfl) (lv := [(0, .ref (ad 0)), (1, .int x1)]) rfl (fun p e s m args below meth c Q ls hx hb hml hT hown hK hret hl hP hS => ?_)
  unfold wX9_startReading at h
  refine lv_aload_n hx hb dX9_startReading_0 rfl (lv_at hl 0 rfl) ?_
  refine va_get (T := TX9) hx hb hT inlX9 hown hK.1 hP 0 he_X9 rfl 4 (by decide) (hT _ mw_2_11) (fun _ h9 => h9) rfl dX9_startReading_1 ?_
  refine callCv (k := 8) (As := []) (rest := []) (n := 0) (c_X3_clear hAd I L A B 8  (by decide) _ h) hx hb hT hown hK hP hS mw_3_164 wd_X3_clear (by decide +kernel) ⟨rfl, rfl⟩ (by decide) rfl rfl (he_X3 (by decide)) rfl hl.1 hml rfl (Nat.le_of_ble_eq_true rfl) dX9_startReading_4 ⟨Nat.zero_le _, Nat.zero_le _⟩ (fun u H locs h hP hS => ?_)
  obtain ⟨I_1, Lu, Au, Bu⟩ := u
  dsimp only at h hP
  obtain ⟨h, rfl, rfl, rfl⟩ := h
  try dsimp only at h
  refine lv_iconst (v := 0) hx hb dX9_startReading_7 (by decide) ?_
  refine lv_istore_n (lv' := [(2, .int 0), (0, .ref (ad 0)), (1, .int x1)]) hx hb dX9_startReading_8 rfl hl (by decide) rfl (fun ls hl => ?_)
  obtain ⟨F, n, h, hF, hG⟩ := lfix_ex h
  have LP : ∀ (n : Nat) (v2 : Int32) (I_2 : Nat → Int32) (A_1 : Nat → Nat → Int32) (ls : Array Slot) (H : Heap) (locs : List Loc), F n (v2, I_2, A_1) → lv_has ls 3 [(2, .int v2), (0, .ref (ad 0)), (1, .int x1)] → va_P D vwCl (wC cy ad I_2 L A_1 B) H → va_S Ad s.heap H locs → W p l e rmX9_startReading s m args below meth c H locs 0 0 Q (F0 m 9 ls []) := by
    intro n
    induction n with
    | zero => intro v2 I_2 A_1 ls H locs h _ _ _; exact absurd h (hF _)
    | succ n ih =>
      intro v2 I_2 A_1 ls H locs h hl hP hS
      replace h := hG _ _ h
      try dsimp only at h
      refine lv_iload_n hx hb dX9_startReading_9 rfl (lv_at hl 0 rfl) ?_
      refine lv_aload_n hx hb dX9_startReading_10 rfl (lv_at hl 1 rfl) ?_
      refine va_get (T := TX9) hx hb hT inlX9 hown hK.1 hP 0 he_X9 rfl 0 (by decide) (hT _ mw_2_7) (fun _ h9 => h9) rfl dX9_startReading_11 ?_
      refine va_get (T := TX2) hx hb hT inlX2 hown hK.1 hP 1 he_X2 rfl 5 (by decide) (hT _ mw_1_46) (fun _ h9 => h9) rfl dX9_startReading_14 ?_
      refine lv_icmp_ge (tgt := 48) hx hb dX9_startReading_17 (by decide) (fun hc => ?_) (fun hc => ?_)
      · rw [if_pos hc] at h
        exact hret (I_2, L, A_1, B) dX9_startReading_48 ⟨h, rfl, rfl⟩ hP hS
      · rw [if_neg hc] at h
        refine lv_aload_n hx hb dX9_startReading_20 rfl (lv_at hl 1 rfl) ?_
        refine va_get (T := TX9) hx hb hT inlX9 hown hK.1 hP 0 he_X9 rfl 0 (by decide) (hT _ mw_2_7) (fun _ h9 => h9) rfl dX9_startReading_21 ?_
        refine va_get (T := TX2) hx hb hT inlX2 hown hK.1 hP 1 he_X2 rfl 0 (by decide) (hT _ mw_1_34) (fun _ h9 => h9) rfl dX9_startReading_24 ?_
        refine lv_iload_n hx hb dX9_startReading_27 rfl (lv_at hl 0 rfl) ?_
        obtain ⟨hi, h⟩ := h
        refine lC_I hx hb hK.1 hP (by decide) rfl hi dX9_startReading_28 ?_
        refine lv_iload_n hx hb dX9_startReading_29 rfl (lv_at hl 2 rfl) ?_
        refine lv_icmp_ne (tgt := 42) hx hb dX9_startReading_30 (by decide) (fun hc_1 => ?_) (fun hc_1 => ?_)
        · rw [if_neg hc_1] at h
          obtain ⟨v2_1, ev2_1⟩ : ∃ z : Int32, z = v2 + 1 := ⟨_, rfl⟩
          replace h := h v2_1 ev2_1
          refine lv_iinc (v := v2_1) (lv' := [(2, .int v2_1), (0, .ref (ad 0)), (1, .int x1)]) hx hb dX9_startReading_42 hl (k := 0) rfl (by rw [ev2_1]; rfl) (by decide) rfl (fun ls hl => ?_)
          refine lv_goto (tgt := 9) hx hb dX9_startReading_45 (by decide) ?_
          exact ih v2_1 I_2 A_1 _ _ _ h (lv_sub hl [0, 1, 2] rfl) hP hS
        · rw [if_pos hc_1] at h
          refine lv_aload_n hx hb dX9_startReading_33 rfl (lv_at hl 1 rfl) ?_
          refine va_get (T := TX9) hx hb hT inlX9 hown hK.1 hP 0 he_X9 rfl 4 (by decide) (hT _ mw_2_11) (fun _ h9 => h9) rfl dX9_startReading_34 ?_
          refine lv_iload_n hx hb dX9_startReading_37 rfl (lv_at hl 0 rfl) ?_
          refine lv_iconst (v := 0) hx hb dX9_startReading_38 (by decide) ?_
          refine callCv (k := 8) (As := [.int v2, .int 0]) (rest := []) (n := 2) (c_X3_put hAd I_2 L A_1 B 8 v2 0 (by decide) _ h) hx hb hT hown hK hP hS mw_3_168 wd_X3_put (by decide +kernel) ⟨rfl, rfl⟩ (by decide) rfl rfl (he_X3 (by decide)) rfl hl.1 hml rfl (Nat.le_of_ble_eq_true rfl) dX9_startReading_39 ⟨Nat.zero_le _, Nat.zero_le _⟩ (fun u H locs h hP hS => ?_)
          obtain ⟨I_3, Lu_1, A_2, Bu_1⟩ := u
          dsimp only at h hP
          obtain ⟨h, rfl, rfl⟩ := h
          try dsimp only at h
          obtain ⟨v2_2, ev2_2⟩ : ∃ z : Int32, z = v2 + 1 := ⟨_, rfl⟩
          replace h := h v2_2 ev2_2
          refine lv_iinc (v := v2_2) (lv' := [(2, .int v2_2), (0, .ref (ad 0)), (1, .int x1)]) hx hb dX9_startReading_42 hl (k := 0) rfl (by rw [ev2_2]; rfl) (by decide) rfl (fun ls hl => ?_)
          refine lv_goto (tgt := 9) hx hb dX9_startReading_45 (by decide) ?_
          exact ih v2_2 I_3 A_2 _ _ _ h (lv_sub hl [0, 1, 2] rfl) hP hS
  exact LP _ 0 I_1 A _ _ _ h (lv_sub hl [0, 1, 2] rfl) hP hS
theorem dX9_readOne_0 : decode cX9_readOne 0 = .ok (.iconst 0, 1) := by decide +kernel
theorem dX9_readOne_1 : decode cX9_readOne 1 = .ok (.istore_n 2, 1) := by decide +kernel
theorem dX9_readOne_2 : decode cX9_readOne 2 = .ok (.iload_n 2, 1) := by decide +kernel
theorem dX9_readOne_3 : decode cX9_readOne 3 = .ok (.aload_n 0, 1) := by decide +kernel
theorem dX9_readOne_4 : decode cX9_readOne 4 = .ok (.getfield 44, 3) := by decide +kernel
theorem dX9_readOne_7 : decode cX9_readOne 7 = .ok (.getfield 234, 3) := by decide +kernel
theorem dX9_readOne_10 : decode cX9_readOne 10 = .ok (.if_icmp .ge 48, 3) := by decide +kernel
theorem dX9_readOne_13 : decode cX9_readOne 13 = .ok (.aload_n 0, 1) := by decide +kernel
theorem dX9_readOne_14 : decode cX9_readOne 14 = .ok (.getfield 44, 3) := by decide +kernel
theorem dX9_readOne_17 : decode cX9_readOne 17 = .ok (.getfield 235, 3) := by decide +kernel
theorem dX9_readOne_20 : decode cX9_readOne 20 = .ok (.iload_n 2, 1) := by decide +kernel
theorem dX9_readOne_21 : decode cX9_readOne 21 = .ok (.iaload, 1) := by decide +kernel
theorem dX9_readOne_22 : decode cX9_readOne 22 = .ok (.istore_n 3, 1) := by decide +kernel
theorem dX9_readOne_23 : decode cX9_readOne 23 = .ok (.aload_n 0, 1) := by decide +kernel
theorem dX9_readOne_24 : decode cX9_readOne 24 = .ok (.getfield 10, 3) := by decide +kernel
theorem dX9_readOne_27 : decode cX9_readOne 27 = .ok (.getfield 224, 3) := by decide +kernel
theorem dX9_readOne_30 : decode cX9_readOne 30 = .ok (.iload_n 3, 1) := by decide +kernel
theorem dX9_readOne_31 : decode cX9_readOne 31 = .ok (.laload, 1) := by decide +kernel
theorem dX9_readOne_32 : decode cX9_readOne 32 = .ok (.iload_n 1, 1) := by decide +kernel
theorem dX9_readOne_33 : decode cX9_readOne 33 = .ok (.invokestatic 104, 3) := by decide +kernel
theorem dX9_readOne_36 : decode cX9_readOne 36 = .ok (.ifCond .eq 16, 3) := by decide +kernel
theorem dX9_readOne_39 : decode cX9_readOne 39 = .ok (.aload_n 0, 1) := by decide +kernel
theorem dX9_readOne_40 : decode cX9_readOne 40 = .ok (.getfield 44, 3) := by decide +kernel
theorem dX9_readOne_43 : decode cX9_readOne 43 = .ok (.getfield 211, 3) := by decide +kernel
theorem dX9_readOne_46 : decode cX9_readOne 46 = .ok (.iload_n 3, 1) := by decide +kernel
theorem dX9_readOne_47 : decode cX9_readOne 47 = .ok (.dup2, 1) := by decide +kernel
theorem dX9_readOne_48 : decode cX9_readOne 48 = .ok (.iaload, 1) := by decide +kernel
theorem dX9_readOne_49 : decode cX9_readOne 49 = .ok (.iconst 1, 1) := by decide +kernel
theorem dX9_readOne_50 : decode cX9_readOne 50 = .ok (.iadd, 1) := by decide +kernel
theorem dX9_readOne_51 : decode cX9_readOne 51 = .ok (.iastore, 1) := by decide +kernel
theorem dX9_readOne_52 : decode cX9_readOne 52 = .ok (.iinc 2 1, 3) := by decide +kernel
theorem dX9_readOne_55 : decode cX9_readOne 55 = .ok (.goto (-53), 3) := by decide +kernel
theorem dX9_readOne_58 : decode cX9_readOne 58 = .ok (.aload_n 0, 1) := by decide +kernel
theorem dX9_readOne_59 : decode cX9_readOne 59 = .ok (.getfield 44, 3) := by decide +kernel
theorem dX9_readOne_62 : decode cX9_readOne 62 = .ok (.invokevirtual 341, 3) := by decide +kernel
theorem dX9_readOne_65 : decode cX9_readOne 65 = .ok (.return_, 1) := by decide +kernel
def wX9_readOne (I : Nat → Int32) (L : Nat → Int64) (A : Nat → Nat → Int32) (B : Nat → Nat → Int64) (x1 : Int32) (post : (Nat → Nat → Int32) → Prop) : Prop := ∃ n, lfix (fun (r : (Int32 × (Nat → Nat → Int32)) → Prop) (v2, A_1) => if (I 8) ≤ v2 then (wX3_settle I L A_1 B 8  (fun A_2 => post A_2)) else (vp_in v2 40 ∧ (∀ v3 : Int32, v3 = A_1 42 v2.toNatClampNeg → vp_in v3 40 ∧ (wX9_inSet (B 40 v3.toNatClampNeg) x1 (fun r33 => if r33 = 0 then (∀ v2_1 : Int32, v2_1 = v2 + 1 → r (v2_1, A_1)) else (vp_in v3 40 ∧ (vp_in v3 40 ∧ (∀ A_3, A_3 = va_up A_1 44 (upd (A_1 44) v3.toNatClampNeg ((A_1 44 v3.toNatClampNeg) + 1)) → ∀ v2_2 : Int32, v2_2 = v2 + 1 → r (v2_2, A_3))))))))) n (0, A)
abbrev rmX9_readOne : Room := { frames := 3, cells := 0, slots := 0, locals := 66 }
theorem wd_X9_readOne : Cond.instanceMethod yX9_readOne ∈ BW ∧ Cond.selects yX9_readOne.cls yX9_readOne yX9_readOne ∈ BW ∧ Cond.initialized yX9_readOne.cls ∈ BW ∧ Cond.code yX9_readOne cX9_readOne 4 (none : Option Jvm.ClassFile.FieldType) ∈ BW := ⟨mw_3_183, mp_13, mw_1_1, mw_3_184⟩
set_option maxHeartbeats 4000000 in
set_option maxRecDepth 100000 in
theorem c_X9_readOne {l : Launch} {D : va_G} {cy : Nat → ClassId} {ad : Nat → Nat} {Ad : Nat → Prop} (hAd : adok 103 Ad ad) (I : Nat → Int32) (L : Nat → Int64) (A : Nat → Nat → Int32) (B : Nat → Nat → Int64) (x1 : Int32)  (post : (Nat → Nat → Int32) → Prop) (h : wX9_readOne I L A B x1 post) : Met l yX9_readOne (.code yX9_readOne cX9_readOne 4 (none : Option Jvm.ClassFile.FieldType) :: BW) rmX9_readOne (va_Pc [.ref (ad 0), .int x1] (fun U => kC D cy U ∧ va_P D vwCl (wC cy ad I L A B) U.heap)) (qCv D cy ad Ad (fun u => post u.2.2.1 ∧ I = u.1 ∧ L = u.2.1 ∧ B = u.2.2.2)) 0 0 Ad := by
  refine startCv (by decide) (Nat.le_of_ble_eq_true rfl) (lv := [(0, .ref (ad 0)), (1, .int x1)]) rfl (fun p e s m args below meth c Q ls hx hb hml hT hown hK hret hl hP hS => ?_)
  unfold wX9_readOne at h
  refine lv_iconst (v := 0) hx hb dX9_readOne_0 (by decide) ?_
  refine lv_istore_n (lv' := [(2, .int 0), (0, .ref (ad 0)), (1, .int x1)]) hx hb dX9_readOne_1 rfl hl (by decide) rfl (fun ls hl => ?_)
  obtain ⟨F, n, h, hF, hG⟩ := lfix_ex h
  have LP : ∀ (n : Nat) (v2 : Int32) (A_1 : Nat → Nat → Int32) (ls : Array Slot) (H : Heap) (locs : List Loc), F n (v2, A_1) → lv_has ls 4 [(2, .int v2), (0, .ref (ad 0)), (1, .int x1)] → va_P D vwCl (wC cy ad I L A_1 B) H → va_S Ad s.heap H locs → W p l e rmX9_readOne s m args below meth c H locs 0 0 Q (F0 m 2 ls []) := by
    intro n
    induction n with
    | zero => intro v2 A_1 ls H locs h _ _ _; exact absurd h (hF _)
    | succ n ih =>
      intro v2 A_1 ls H locs h hl hP hS
      replace h := hG _ _ h
      try dsimp only at h
      refine lv_iload_n hx hb dX9_readOne_2 rfl (lv_at hl 0 rfl) ?_
      refine lv_aload_n hx hb dX9_readOne_3 rfl (lv_at hl 1 rfl) ?_
      refine va_get (T := TX9) hx hb hT inlX9 hown hK.1 hP 0 he_X9 rfl 4 (by decide) (hT _ mw_2_11) (fun _ h9 => h9) rfl dX9_readOne_4 ?_
      refine va_get (T := TX3) hx hb hT inlX3 hown hK.1 hP 8 (he_X3 (by decide)) rfl 2 (by decide) (hT _ mw_1_79) (fun _ h9 => h9) rfl dX9_readOne_7 ?_
      refine lv_icmp_ge (tgt := 58) hx hb dX9_readOne_10 (by decide) (fun hc => ?_) (fun hc => ?_)
      · rw [if_pos hc] at h
        refine lv_aload_n hx hb dX9_readOne_58 rfl (lv_at hl 1 rfl) ?_
        refine va_get (T := TX9) hx hb hT inlX9 hown hK.1 hP 0 he_X9 rfl 4 (by decide) (hT _ mw_2_11) (fun _ h9 => h9) rfl dX9_readOne_59 ?_
        refine callCv (k := 8) (As := []) (rest := []) (n := 0) (c_X3_settle hAd I L A_1 B 8  (by decide) _ h) hx hb hT hown hK hP hS mw_3_185 wd_X3_settle (by decide +kernel) ⟨rfl, rfl⟩ (by decide) rfl rfl (he_X3 (by decide)) rfl hl.1 hml rfl (Nat.le_of_ble_eq_true rfl) dX9_readOne_62 ⟨Nat.zero_le _, Nat.zero_le _⟩ (fun u H locs h hP hS => ?_)
        obtain ⟨Iu, Lu, A_2, Bu⟩ := u
        dsimp only at h hP
        obtain ⟨h, rfl, rfl, rfl⟩ := h
        try dsimp only at h
        exact hret (I, L, A_2, B) dX9_readOne_65 ⟨h, rfl, rfl, rfl⟩ hP hS
      · rw [if_neg hc] at h
        refine lv_aload_n hx hb dX9_readOne_13 rfl (lv_at hl 1 rfl) ?_
        refine va_get (T := TX9) hx hb hT inlX9 hown hK.1 hP 0 he_X9 rfl 4 (by decide) (hT _ mw_2_11) (fun _ h9 => h9) rfl dX9_readOne_14 ?_
        refine va_get (T := TX3) hx hb hT inlX3 hown hK.1 hP 8 (he_X3 (by decide)) rfl 0 (by decide) (hT _ mw_1_75) (fun _ h9 => h9) rfl dX9_readOne_17 ?_
        refine lv_iload_n hx hb dX9_readOne_20 rfl (lv_at hl 0 rfl) ?_
        obtain ⟨hi, h⟩ := h
        refine lC_I hx hb hK.1 hP (by decide) rfl hi dX9_readOne_21 ?_
        refine lv_topi (fun v3 ev3 => ?_)
        replace h := h v3 ev3
        refine lv_istore_n (lv' := [(3, .int v3), (2, .int v2), (0, .ref (ad 0)), (1, .int x1)]) hx hb dX9_readOne_22 rfl hl (by decide) rfl (fun ls hl => ?_)
        refine lv_aload_n hx hb dX9_readOne_23 rfl (lv_at hl 2 rfl) ?_
        refine va_get (T := TX9) hx hb hT inlX9 hown hK.1 hP 0 he_X9 rfl 0 (by decide) (hT _ mw_2_7) (fun _ h9 => h9) rfl dX9_readOne_24 ?_
        refine va_get (T := TX2) hx hb hT inlX2 hown hK.1 hP 1 he_X2 rfl 4 (by decide) (hT _ mw_1_44) (fun _ h9 => h9) rfl dX9_readOne_27 ?_
        refine lv_iload_n hx hb dX9_readOne_30 rfl (lv_at hl 0 rfl) ?_
        obtain ⟨hi_1, h⟩ := h
        refine lC_J hx hb hK.1 hP (by decide) rfl hi_1 dX9_readOne_31 ?_
        refine lv_iload_n hx hb dX9_readOne_32 rfl (lv_at hl 3 rfl) ?_
        refine callSCi (As := [.long (B 40 v3.toNatClampNeg), .int x1]) (rest := []) (n := 2) (c_X9_inSet (B 40 v3.toNatClampNeg) x1 _ h) hx hb hT hown hP hS mw_2_123 wd_X9_inSet (by decide +kernel) ⟨rfl, rfl⟩ (by decide) rfl hl.1 hml rfl (Nat.le_of_ble_eq_true rfl) dX9_readOne_33 ⟨Nat.zero_le _, Nat.zero_le _⟩ (fun r33 H locs h hP hS => ?_)
        try dsimp only at h
        refine lv_if_eq (tgt := 52) hx hb dX9_readOne_36 (by decide) (fun hc_1 => ?_) (fun hc_1 => ?_)
        · rw [if_pos hc_1] at h
          obtain ⟨v2_1, ev2_1⟩ : ∃ z : Int32, z = v2 + 1 := ⟨_, rfl⟩
          replace h := h v2_1 ev2_1
          refine lv_iinc (v := v2_1) (lv' := [(2, .int v2_1), (3, .int v3), (0, .ref (ad 0)), (1, .int x1)]) hx hb dX9_readOne_52 hl (k := 1) rfl (by rw [ev2_1]; rfl) (by decide) rfl (fun ls hl => ?_)
          refine lv_goto (tgt := 2) hx hb dX9_readOne_55 (by decide) ?_
          exact ih v2_1 A_1 _ _ _ h (lv_sub hl [0, 2, 3] rfl) hP hS
        · rw [if_neg hc_1] at h
          refine lv_aload_n hx hb dX9_readOne_39 rfl (lv_at hl 2 rfl) ?_
          refine va_get (T := TX9) hx hb hT inlX9 hown hK.1 hP 0 he_X9 rfl 4 (by decide) (hT _ mw_2_11) (fun _ h9 => h9) rfl dX9_readOne_40 ?_
          refine va_get (T := TX3) hx hb hT inlX3 hown hK.1 hP 8 (he_X3 (by decide)) rfl 1 (by decide) (hT _ mw_1_77) (fun _ h9 => h9) rfl dX9_readOne_43 ?_
          refine lv_iload_n hx hb dX9_readOne_46 rfl (lv_at hl 0 rfl) ?_
          refine lv_dup2_11 hx hb dX9_readOne_47 rfl rfl ?_
          obtain ⟨hi_2, h⟩ := h
          refine lC_I hx hb hK.1 hP (by decide) rfl hi_2 dX9_readOne_48 ?_
          refine lv_iconst (v := 1) hx hb dX9_readOne_49 (by decide) ?_
          refine lv_iadd hx hb dX9_readOne_50 ?_
          obtain ⟨hi_3, h⟩ := h
          refine sC_I hAd hx hb hK.1 hP hS (by decide) (fun _ => rfl) hi_3 dX9_readOne_51 (fun H locs hP hS => ?_)
          obtain ⟨A_3, eA_3⟩ : ∃ z, z = va_up A_1 44 (upd (A_1 44) v3.toNatClampNeg ((A_1 44 v3.toNatClampNeg) + 1)) := ⟨_, rfl⟩
          rw [← eA_3] at hP
          replace h := h A_3 eA_3
          obtain ⟨v2_2, ev2_2⟩ : ∃ z : Int32, z = v2 + 1 := ⟨_, rfl⟩
          replace h := h v2_2 ev2_2
          refine lv_iinc (v := v2_2) (lv' := [(2, .int v2_2), (3, .int v3), (0, .ref (ad 0)), (1, .int x1)]) hx hb dX9_readOne_52 hl (k := 1) rfl (by rw [ev2_2]; rfl) (by decide) rfl (fun ls hl => ?_)
          refine lv_goto (tgt := 2) hx hb dX9_readOne_55 (by decide) ?_
          exact ih v2_2 A_3 _ _ _ h (lv_sub hl [0, 2, 3] rfl) hP hS
  exact LP _ 0 A _ _ _ h (lv_sub hl [0, 1, 2] rfl) hP hS
theorem dX9_read_0 : decode cX9_read 0 = .ok (.aload_n 0, 1) := by decide +kernel
theorem dX9_read_1 : decode cX9_read 1 = .ok (.getfield 28, 3) := by decide +kernel
theorem dX9_read_4 : decode cX9_read 4 = .ok (.iload_n 1, 1) := by decide +kernel
theorem dX9_read_5 : decode cX9_read 5 = .ok (.invokevirtual 77, 3) := by decide +kernel
theorem dX9_read_8 : decode cX9_read 8 = .ok (.ifCond .eq 14, 3) := by decide +kernel
theorem dX9_read_11 : decode cX9_read 11 = .ok (.iload_n 2, 1) := by decide +kernel
theorem dX9_read_12 : decode cX9_read 12 = .ok (.iconst 1, 1) := by decide +kernel
theorem dX9_read_13 : decode cX9_read 13 = .ok (.if_icmp .lt 9, 3) := by decide +kernel
theorem dX9_read_16 : decode cX9_read 16 = .ok (.iload_n 2, 1) := by decide +kernel
theorem dX9_read_17 : decode cX9_read 17 = .ok (.bipush 9, 2) := by decide +kernel
theorem dX9_read_19 : decode cX9_read 19 = .ok (.if_icmp .le 5, 3) := by decide +kernel
theorem dX9_read_22 : decode cX9_read 22 = .ok (.iconst (-1), 1) := by decide +kernel
theorem dX9_read_23 : decode cX9_read 23 = .ok (.ireturn, 1) := by decide +kernel
theorem dX9_read_24 : decode cX9_read 24 = .ok (.aload_n 0, 1) := by decide +kernel
theorem dX9_read_25 : decode cX9_read 25 = .ok (.iload_n 1, 1) := by decide +kernel
theorem dX9_read_26 : decode cX9_read 26 = .ok (.invokevirtual 295, 3) := by decide +kernel
theorem dX9_read_29 : decode cX9_read 29 = .ok (.aload_n 0, 1) := by decide +kernel
theorem dX9_read_30 : decode cX9_read 30 = .ok (.getfield 28, 3) := by decide +kernel
theorem dX9_read_33 : decode cX9_read 33 = .ok (.iload_n 1, 1) := by decide +kernel
theorem dX9_read_34 : decode cX9_read 34 = .ok (.invokevirtual 245, 3) := by decide +kernel
theorem dX9_read_37 : decode cX9_read 37 = .ok (.lstore_n 3, 1) := by decide +kernel
theorem dX9_read_38 : decode cX9_read 38 = .ok (.aload_n 0, 1) := by decide +kernel
theorem dX9_read_39 : decode cX9_read 39 = .ok (.getfield 19, 3) := by decide +kernel
theorem dX9_read_42 : decode cX9_read 42 = .ok (.getfield 208, 3) := by decide +kernel
theorem dX9_read_45 : decode cX9_read 45 = .ok (.getfield 234, 3) := by decide +kernel
theorem dX9_read_48 : decode cX9_read 48 = .ok (.istore 5, 2) := by decide +kernel
theorem dX9_read_50 : decode cX9_read 50 = .ok (.iconst 0, 1) := by decide +kernel
theorem dX9_read_51 : decode cX9_read 51 = .ok (.istore 6, 2) := by decide +kernel
theorem dX9_read_53 : decode cX9_read 53 = .ok (.iload 6, 2) := by decide +kernel
theorem dX9_read_55 : decode cX9_read 55 = .ok (.iload 5, 2) := by decide +kernel
theorem dX9_read_57 : decode cX9_read 57 = .ok (.if_icmp .ge 58, 3) := by decide +kernel
theorem dX9_read_60 : decode cX9_read 60 = .ok (.aload_n 0, 1) := by decide +kernel
theorem dX9_read_61 : decode cX9_read 61 = .ok (.getfield 44, 3) := by decide +kernel
theorem dX9_read_64 : decode cX9_read 64 = .ok (.iload_n 2, 1) := by decide +kernel
theorem dX9_read_65 : decode cX9_read 65 = .ok (.iload 5, 2) := by decide +kernel
theorem dX9_read_67 : decode cX9_read 67 = .ok (.iload 6, 2) := by decide +kernel
theorem dX9_read_69 : decode cX9_read 69 = .ok (.isub, 1) := by decide +kernel
theorem dX9_read_70 : decode cX9_read 70 = .ok (.invokevirtual 298, 3) := by decide +kernel
theorem dX9_read_73 : decode cX9_read 73 = .ok (.ifCond .eq 6, 3) := by decide +kernel
theorem dX9_read_76 : decode cX9_read 76 = .ok (.iload 6, 2) := by decide +kernel
theorem dX9_read_78 : decode cX9_read 78 = .ok (.ireturn, 1) := by decide +kernel
theorem dX9_read_79 : decode cX9_read 79 = .ok (.aload_n 0, 1) := by decide +kernel
theorem dX9_read_80 : decode cX9_read 80 = .ok (.getfield 19, 3) := by decide +kernel
theorem dX9_read_83 : decode cX9_read 83 = .ok (.getfield 208, 3) := by decide +kernel
theorem dX9_read_86 : decode cX9_read 86 = .ok (.getfield 235, 3) := by decide +kernel
theorem dX9_read_89 : decode cX9_read 89 = .ok (.iload 6, 2) := by decide +kernel
theorem dX9_read_91 : decode cX9_read 91 = .ok (.iaload, 1) := by decide +kernel
theorem dX9_read_92 : decode cX9_read 92 = .ok (.istore 7, 2) := by decide +kernel
theorem dX9_read_94 : decode cX9_read 94 = .ok (.lload_n 3, 1) := by decide +kernel
theorem dX9_read_95 : decode cX9_read 95 = .ok (.iload 7, 2) := by decide +kernel
theorem dX9_read_97 : decode cX9_read 97 = .ok (.invokestatic 104, 3) := by decide +kernel
theorem dX9_read_100 : decode cX9_read 100 = .ok (.ifCond .eq 9, 3) := by decide +kernel
theorem dX9_read_103 : decode cX9_read 103 = .ok (.aload_n 0, 1) := by decide +kernel
theorem dX9_read_104 : decode cX9_read 104 = .ok (.iload 7, 2) := by decide +kernel
theorem dX9_read_106 : decode cX9_read 106 = .ok (.invokevirtual 301, 3) := by decide +kernel
theorem dX9_read_109 : decode cX9_read 109 = .ok (.iinc 6 1, 3) := by decide +kernel
theorem dX9_read_112 : decode cX9_read 112 = .ok (.goto (-59), 3) := by decide +kernel
theorem dX9_read_115 : decode cX9_read 115 = .ok (.iload 5, 2) := by decide +kernel
theorem dX9_read_117 : decode cX9_read 117 = .ok (.ireturn, 1) := by decide +kernel
def wX9_read (I : Nat → Int32) (L : Nat → Int64) (A : Nat → Nat → Int32) (B : Nat → Nat → Int64) (x1 : Int32) (x2 : Int32) (post : Int32 → (Nat → Int32) → (Nat → Nat → Int32) → Prop) : Prop := wX7_isTree I L A B x1 (fun r5 => if r5 = 0 then (post (-1) I A) else (if x2 < 1 then (post (-1) I A) else (if x2 ≤ 9 then (wX9_startReading I L A B x1 (fun I_1 A_1 => wX7_audience I_1 L A_1 B x1 (fun r34 => ∀ v5 : Int32, v5 = I_1 7 → ∃ n, lfix (fun (r : (Int32 × (Nat → Nat → Int32)) → Prop) (v6, A_2) => if v5 ≤ v6 then (post v5 I_1 A_2) else (wX3_isCertain I_1 L A_2 B 8 x2 (v5 - v6) (fun r70 => if r70 = 0 then (vp_in v6 40 ∧ (∀ v7 : Int32, v7 = A_2 41 v6.toNatClampNeg → wX9_inSet r34 v7 (fun r97 => if r97 = 0 then (∀ v6_1 : Int32, v6_1 = v6 + 1 → r (v6_1, A_2)) else (wX9_readOne I_1 L A_2 B v7 (fun A_3 => ∀ v6_2 : Int32, v6_2 = v6 + 1 → r (v6_2, A_3)))))) else (post v6 I_1 A_2)))) n (0, A_1)))) else (post (-1) I A))))
abbrev rmX9_read : Room := { frames := 4, cells := 0, slots := 0, locals := 89 }
theorem wd_X9_read : Cond.instanceMethod yX9_read ∈ BW ∧ Cond.selects yX9_read.cls yX9_read yX9_read ∈ BW ∧ Cond.initialized yX9_read.cls ∈ BW ∧ Cond.code yX9_read cX9_read 8 (some .int) ∈ BW := ⟨mw_3_170, mw_3_171, mw_1_1, mw_3_172⟩
set_option maxHeartbeats 4000000 in
set_option maxRecDepth 100000 in
theorem c_X9_read {l : Launch} {D : va_G} {cy : Nat → ClassId} {ad : Nat → Nat} {Ad : Nat → Prop} (hAd : adok 103 Ad ad) (I : Nat → Int32) (L : Nat → Int64) (A : Nat → Nat → Int32) (B : Nat → Nat → Int64) (x1 : Int32) (x2 : Int32)  (post : Int32 → (Nat → Int32) → (Nat → Nat → Int32) → Prop) (h : wX9_read I L A B x1 x2 post) : Met l yX9_read (.code yX9_read cX9_read 8 (some .int) :: BW) rmX9_read (va_Pc [.ref (ad 0), .int x1, .int x2] (fun U => kC D cy U ∧ va_P D vwCl (wC cy ad I L A B) U.heap)) (qCi D cy ad Ad (fun r u => post r u.1 u.2.2.1 ∧ L = u.2.1 ∧ B = u.2.2.2)) 0 0 Ad := by
  refine startCi (by decide) (Nat.le_of_ble_eq_true rfl) (lv := [(0, .ref (ad 0)), (1, .int x1), (2, .int x2)]) rfl (fun p e s m args below meth c Q ls hx hb hml hT hown hK hret hl hP hS => ?_)
  unfold wX9_read at h
  refine lv_aload_n hx hb dX9_read_0 rfl (lv_at hl 0 rfl) ?_
  refine va_get (T := TX9) hx hb hT inlX9 hown hK.1 hP 0 he_X9 rfl 2 (by decide) (hT _ mw_2_9) (fun _ h9 => h9) rfl dX9_read_1 ?_
  refine lv_iload_n hx hb dX9_read_4 rfl (lv_at hl 1 rfl) ?_
  refine callCi (k := 3) (As := [.int x1]) (rest := []) (n := 1) (c_X7_isTree hAd I L A B x1 _ h) hx hb hT hown hK hP hS mw_2_89 wd_X7_isTree (by decide +kernel) ⟨rfl, rfl⟩ (by decide) rfl rfl he_X7 rfl hl.1 hml rfl (Nat.le_of_ble_eq_true rfl) dX9_read_5 ⟨Nat.zero_le _, Nat.zero_le _⟩ (fun r5 u H locs h hP hS => ?_)
  obtain ⟨Iu, Lu, Au, Bu⟩ := u
  dsimp only at h hP
  obtain ⟨h, rfl, rfl, rfl, rfl⟩ := h
  try dsimp only at h
  refine lv_if_eq (tgt := 22) hx hb dX9_read_8 (by decide) (fun hc => ?_) (fun hc => ?_)
  · rw [if_pos hc] at h
    refine lv_iconst (v := (-1)) hx hb dX9_read_22 (by decide) ?_
    exact hret _ (I, L, A, B) dX9_read_23 ⟨h, rfl, rfl⟩ hP hS
  · rw [if_neg hc] at h
    refine lv_iload_n hx hb dX9_read_11 rfl (lv_at hl 2 rfl) ?_
    refine lv_iconst (v := 1) hx hb dX9_read_12 (by decide) ?_
    refine lv_icmp_lt (tgt := 22) hx hb dX9_read_13 (by decide) (fun hc_1 => ?_) (fun hc_1 => ?_)
    · rw [if_pos hc_1] at h
      refine lv_iconst (v := (-1)) hx hb dX9_read_22 (by decide) ?_
      exact hret _ (I, L, A, B) dX9_read_23 ⟨h, rfl, rfl⟩ hP hS
    · rw [if_neg hc_1] at h
      refine lv_iload_n hx hb dX9_read_16 rfl (lv_at hl 2 rfl) ?_
      refine lv_bipush (v := 9) hx hb dX9_read_17 (by decide) ?_
      refine lv_icmp_le (tgt := 24) hx hb dX9_read_19 (by decide) (fun hc_2 => ?_) (fun hc_2 => ?_)
      · rw [if_pos hc_2] at h
        refine lv_aload_n hx hb dX9_read_24 rfl (lv_at hl 0 rfl) ?_
        refine lv_iload_n hx hb dX9_read_25 rfl (lv_at hl 1 rfl) ?_
        refine callCv (k := 0) (As := [.int x1]) (rest := []) (n := 1) (c_X9_startReading hAd I L A B x1 _ h) hx hb hT hown hK hP hS mw_3_173 wd_X9_startReading (by decide +kernel) ⟨rfl, rfl⟩ (by decide) rfl rfl he_X9 rfl hl.1 hml rfl (Nat.le_of_ble_eq_true rfl) dX9_read_26 ⟨Nat.zero_le _, Nat.zero_le _⟩ (fun u H locs h hP hS => ?_)
        obtain ⟨I_1, Lu_1, A_1, Bu_1⟩ := u
        dsimp only at h hP
        obtain ⟨h, rfl, rfl⟩ := h
        try dsimp only at h
        refine lv_aload_n hx hb dX9_read_29 rfl (lv_at hl 0 rfl) ?_
        refine va_get (T := TX9) hx hb hT inlX9 hown hK.1 hP 0 he_X9 rfl 2 (by decide) (hT _ mw_2_9) (fun _ h9 => h9) rfl dX9_read_30 ?_
        refine lv_iload_n hx hb dX9_read_33 rfl (lv_at hl 1 rfl) ?_
        refine callCl (k := 3) (As := [.int x1]) (rest := []) (n := 1) (c_X7_audience hAd I_1 L A_1 B x1 _ h) hx hb hT hown hK hP hS mw_3_95 wd_X7_audience (by decide +kernel) ⟨rfl, rfl⟩ (by decide) rfl rfl he_X7 rfl hl.1 hml rfl (Nat.le_of_ble_eq_true rfl) dX9_read_34 ⟨Nat.zero_le _, Nat.zero_le _⟩ (fun r34 u H locs h hP hS => ?_)
        obtain ⟨Iu_1, Lu_2, Au_1, Bu_2⟩ := u
        dsimp only at h hP
        obtain ⟨h, rfl, rfl, rfl, rfl⟩ := h
        try dsimp only at h
        refine lv_lstore_n (lv' := [(3, .long r34), (0, .ref (ad 0)), (1, .int x1), (2, .int x2)]) hx hb dX9_read_37 rfl hl (by decide) rfl (fun ls hl => ?_)
        refine lv_aload_n hx hb dX9_read_38 rfl (lv_at hl 1 rfl) ?_
        refine va_get (T := TX9) hx hb hT inlX9 hown hK.1 hP 0 he_X9 rfl 1 (by decide) (hT _ mw_2_8) (fun _ h9 => h9) rfl dX9_read_39 ?_
        refine va_get (T := TX6) hx hb hT inlX6 hown hK.1 hP 2 he_X6 rfl 0 (by decide) (hT _ mw_1_88) (fun _ h9 => h9) rfl dX9_read_42 ?_
        refine va_get (T := TX3) hx hb hT inlX3 hown hK.1 hP 7 (he_X3 (by decide)) rfl 2 (by decide) (hT _ mw_1_79) (fun _ h9 => h9) rfl dX9_read_45 ?_
        refine lv_topi (fun v5 ev5 => ?_)
        replace h := h v5 ev5
        refine lv_istore (lv' := [(5, .int v5), (3, .long r34), (0, .ref (ad 0)), (1, .int x1), (2, .int x2)]) hx hb dX9_read_48 hl (by decide) rfl (fun ls hl => ?_)
        refine lv_iconst (v := 0) hx hb dX9_read_50 (by decide) ?_
        refine lv_istore (lv' := [(6, .int 0), (5, .int v5), (3, .long r34), (0, .ref (ad 0)), (1, .int x1), (2, .int x2)]) hx hb dX9_read_51 hl (by decide) rfl (fun ls hl => ?_)
        obtain ⟨F, n, h, hF, hG⟩ := lfix_ex h
        have LP : ∀ (n : Nat) (v6 : Int32) (A_2 : Nat → Nat → Int32) (ls : Array Slot) (H : Heap) (locs : List Loc), F n (v6, A_2) → lv_has ls 8 [(6, .int v6), (5, .int v5), (3, .long r34), (0, .ref (ad 0)), (2, .int x2)] → va_P D vwCl (wC cy ad I_1 L A_2 B) H → va_S Ad s.heap H locs → W p l e rmX9_read s m args below meth c H locs 0 0 Q (F0 m 53 ls []) := by
          intro n
          induction n with
          | zero => intro v6 A_2 ls H locs h _ _ _; exact absurd h (hF _)
          | succ n ih =>
            intro v6 A_2 ls H locs h hl hP hS
            replace h := hG _ _ h
            try dsimp only at h
            refine lv_iload hx hb dX9_read_53 (lv_at hl 0 rfl) ?_
            refine lv_iload hx hb dX9_read_55 (lv_at hl 1 rfl) ?_
            refine lv_icmp_ge (tgt := 115) hx hb dX9_read_57 (by decide) (fun hc_3 => ?_) (fun hc_3 => ?_)
            · rw [if_pos hc_3] at h
              refine lv_iload hx hb dX9_read_115 (lv_at hl 1 rfl) ?_
              exact hret _ (I_1, L, A_2, B) dX9_read_117 ⟨h, rfl, rfl⟩ hP hS
            · rw [if_neg hc_3] at h
              refine lv_aload_n hx hb dX9_read_60 rfl (lv_at hl 3 rfl) ?_
              refine va_get (T := TX9) hx hb hT inlX9 hown hK.1 hP 0 he_X9 rfl 4 (by decide) (hT _ mw_2_11) (fun _ h9 => h9) rfl dX9_read_61 ?_
              refine lv_iload_n hx hb dX9_read_64 rfl (lv_at hl 4 rfl) ?_
              refine lv_iload hx hb dX9_read_65 (lv_at hl 1 rfl) ?_
              refine lv_iload hx hb dX9_read_67 (lv_at hl 0 rfl) ?_
              refine lv_isub hx hb dX9_read_69 ?_
              refine callCi (k := 8) (As := [.int x2, .int (v5 - v6)]) (rest := []) (n := 2) (c_X3_isCertain hAd I_1 L A_2 B 8 x2 (v5 - v6) (by decide) _ h) hx hb hT hown hK hP hS mw_3_177 wd_X3_isCertain (by decide +kernel) ⟨rfl, rfl⟩ (by decide) rfl rfl (he_X3 (by decide)) rfl hl.1 hml rfl (Nat.le_of_ble_eq_true rfl) dX9_read_70 ⟨Nat.zero_le _, Nat.zero_le _⟩ (fun r70 u H locs h hP hS => ?_)
              obtain ⟨Iu_2, Lu_3, Au_2, Bu_3⟩ := u
              dsimp only at h hP
              obtain ⟨h, rfl, rfl, rfl, rfl⟩ := h
              try dsimp only at h
              refine lv_if_eq (tgt := 79) hx hb dX9_read_73 (by decide) (fun hc_4 => ?_) (fun hc_4 => ?_)
              · rw [if_pos hc_4] at h
                refine lv_aload_n hx hb dX9_read_79 rfl (lv_at hl 3 rfl) ?_
                refine va_get (T := TX9) hx hb hT inlX9 hown hK.1 hP 0 he_X9 rfl 1 (by decide) (hT _ mw_2_8) (fun _ h9 => h9) rfl dX9_read_80 ?_
                refine va_get (T := TX6) hx hb hT inlX6 hown hK.1 hP 2 he_X6 rfl 0 (by decide) (hT _ mw_1_88) (fun _ h9 => h9) rfl dX9_read_83 ?_
                refine va_get (T := TX3) hx hb hT inlX3 hown hK.1 hP 7 (he_X3 (by decide)) rfl 0 (by decide) (hT _ mw_1_75) (fun _ h9 => h9) rfl dX9_read_86 ?_
                refine lv_iload hx hb dX9_read_89 (lv_at hl 0 rfl) ?_
                obtain ⟨hi, h⟩ := h
                refine lC_I hx hb hK.1 hP (by decide) rfl hi dX9_read_91 ?_
                refine lv_topi (fun v7 ev7 => ?_)
                replace h := h v7 ev7
                refine lv_istore (lv' := [(7, .int v7), (6, .int v6), (5, .int v5), (3, .long r34), (0, .ref (ad 0)), (2, .int x2)]) hx hb dX9_read_92 hl (by decide) rfl (fun ls hl => ?_)
                refine lv_lload_n hx hb dX9_read_94 rfl (lv_at hl 3 rfl) ?_
                refine lv_iload hx hb dX9_read_95 (lv_at hl 0 rfl) ?_
                refine callSCi (As := [.long r34, .int v7]) (rest := []) (n := 2) (c_X9_inSet r34 v7 _ h) hx hb hT hown hP hS mw_2_123 wd_X9_inSet (by decide +kernel) ⟨rfl, rfl⟩ (by decide) rfl hl.1 hml rfl (Nat.le_of_ble_eq_true rfl) dX9_read_97 ⟨Nat.zero_le _, Nat.zero_le _⟩ (fun r97 H locs h hP hS => ?_)
                try dsimp only at h
                refine lv_if_eq (tgt := 109) hx hb dX9_read_100 (by decide) (fun hc_5 => ?_) (fun hc_5 => ?_)
                · rw [if_pos hc_5] at h
                  obtain ⟨v6_1, ev6_1⟩ : ∃ z : Int32, z = v6 + 1 := ⟨_, rfl⟩
                  replace h := h v6_1 ev6_1
                  refine lv_iinc (v := v6_1) (lv' := [(6, .int v6_1), (7, .int v7), (5, .int v5), (3, .long r34), (0, .ref (ad 0)), (2, .int x2)]) hx hb dX9_read_109 hl (k := 1) rfl (by rw [ev6_1]; rfl) (by decide) rfl (fun ls hl => ?_)
                  refine lv_goto (tgt := 53) hx hb dX9_read_112 (by decide) ?_
                  exact ih v6_1 A_2 _ _ _ h (lv_sub hl [0, 2, 3, 4, 5] rfl) hP hS
                · rw [if_neg hc_5] at h
                  refine lv_aload_n hx hb dX9_read_103 rfl (lv_at hl 4 rfl) ?_
                  refine lv_iload hx hb dX9_read_104 (lv_at hl 0 rfl) ?_
                  refine callCv (k := 0) (As := [.int v7]) (rest := []) (n := 1) (c_X9_readOne hAd I_1 L A_2 B v7 _ h) hx hb hT hown hK hP hS mw_3_181 wd_X9_readOne (by decide +kernel) ⟨rfl, rfl⟩ (by decide) rfl rfl he_X9 rfl hl.1 hml rfl (Nat.le_of_ble_eq_true rfl) dX9_read_106 ⟨Nat.zero_le _, Nat.zero_le _⟩ (fun u H locs h hP hS => ?_)
                  obtain ⟨Iu_3, Lu_4, A_3, Bu_4⟩ := u
                  dsimp only at h hP
                  obtain ⟨h, rfl, rfl, rfl⟩ := h
                  try dsimp only at h
                  obtain ⟨v6_2, ev6_2⟩ : ∃ z : Int32, z = v6 + 1 := ⟨_, rfl⟩
                  replace h := h v6_2 ev6_2
                  refine lv_iinc (v := v6_2) (lv' := [(6, .int v6_2), (7, .int v7), (5, .int v5), (3, .long r34), (0, .ref (ad 0)), (2, .int x2)]) hx hb dX9_read_109 hl (k := 1) rfl (by rw [ev6_2]; rfl) (by decide) rfl (fun ls hl => ?_)
                  refine lv_goto (tgt := 53) hx hb dX9_read_112 (by decide) ?_
                  exact ih v6_2 A_3 _ _ _ h (lv_sub hl [0, 2, 3, 4, 5] rfl) hP hS
              · rw [if_neg hc_4] at h
                refine lv_iload hx hb dX9_read_76 (lv_at hl 0 rfl) ?_
                exact hret _ (I_1, L, A_2, B) dX9_read_78 ⟨h, rfl, rfl⟩ hP hS
        exact LP _ 0 A_1 _ _ _ h (lv_sub hl [0, 1, 2, 3, 5] rfl) hP hS
      · rw [if_neg hc_2] at h
        refine lv_iconst (v := (-1)) hx hb dX9_read_22 (by decide) ?_
        exact hret _ (I, L, A, B) dX9_read_23 ⟨h, rfl, rfl⟩ hP hS
theorem dX9_fullestBelow_0 : decode cX9_fullestBelow 0 = .ok (.iconst (-1), 1) := by decide +kernel
theorem dX9_fullestBelow_1 : decode cX9_fullestBelow 1 = .ok (.istore 5, 2) := by decide +kernel
theorem dX9_fullestBelow_3 : decode cX9_fullestBelow 3 = .ok (.iconst 0, 1) := by decide +kernel
theorem dX9_fullestBelow_4 : decode cX9_fullestBelow 4 = .ok (.istore 6, 2) := by decide +kernel
theorem dX9_fullestBelow_6 : decode cX9_fullestBelow 6 = .ok (.iconst 0, 1) := by decide +kernel
theorem dX9_fullestBelow_7 : decode cX9_fullestBelow 7 = .ok (.istore 7, 2) := by decide +kernel
theorem dX9_fullestBelow_9 : decode cX9_fullestBelow 9 = .ok (.iload 7, 2) := by decide +kernel
theorem dX9_fullestBelow_11 : decode cX9_fullestBelow 11 = .ok (.aload_n 0, 1) := by decide +kernel
theorem dX9_fullestBelow_12 : decode cX9_fullestBelow 12 = .ok (.getfield 10, 3) := by decide +kernel
theorem dX9_fullestBelow_15 : decode cX9_fullestBelow 15 = .ok (.getfield 81, 3) := by decide +kernel
theorem dX9_fullestBelow_18 : decode cX9_fullestBelow 18 = .ok (.if_icmp .ge 72, 3) := by decide +kernel
theorem dX9_fullestBelow_21 : decode cX9_fullestBelow 21 = .ok (.aload_n 0, 1) := by decide +kernel
theorem dX9_fullestBelow_22 : decode cX9_fullestBelow 22 = .ok (.getfield 10, 3) := by decide +kernel
theorem dX9_fullestBelow_25 : decode cX9_fullestBelow 25 = .ok (.getfield 96, 3) := by decide +kernel
theorem dX9_fullestBelow_28 : decode cX9_fullestBelow 28 = .ok (.iload 7, 2) := by decide +kernel
theorem dX9_fullestBelow_30 : decode cX9_fullestBelow 30 = .ok (.iaload, 1) := by decide +kernel
theorem dX9_fullestBelow_31 : decode cX9_fullestBelow 31 = .ok (.iload_n 1, 1) := by decide +kernel
theorem dX9_fullestBelow_32 : decode cX9_fullestBelow 32 = .ok (.if_icmp .ne 52, 3) := by decide +kernel
theorem dX9_fullestBelow_35 : decode cX9_fullestBelow 35 = .ok (.aload_n 0, 1) := by decide +kernel
theorem dX9_fullestBelow_36 : decode cX9_fullestBelow 36 = .ok (.getfield 10, 3) := by decide +kernel
theorem dX9_fullestBelow_39 : decode cX9_fullestBelow 39 = .ok (.getfield 195, 3) := by decide +kernel
theorem dX9_fullestBelow_42 : decode cX9_fullestBelow 42 = .ok (.iload 7, 2) := by decide +kernel
theorem dX9_fullestBelow_44 : decode cX9_fullestBelow 44 = .ok (.iaload, 1) := by decide +kernel
theorem dX9_fullestBelow_45 : decode cX9_fullestBelow 45 = .ok (.iload_n 2, 1) := by decide +kernel
theorem dX9_fullestBelow_46 : decode cX9_fullestBelow 46 = .ok (.if_icmp .eq 6, 3) := by decide +kernel
theorem dX9_fullestBelow_49 : decode cX9_fullestBelow 49 = .ok (.goto 35, 3) := by decide +kernel
theorem dX9_fullestBelow_52 : decode cX9_fullestBelow 52 = .ok (.lload_n 3, 1) := by decide +kernel
theorem dX9_fullestBelow_53 : decode cX9_fullestBelow 53 = .ok (.aload_n 0, 1) := by decide +kernel
theorem dX9_fullestBelow_54 : decode cX9_fullestBelow 54 = .ok (.getfield 10, 3) := by decide +kernel
theorem dX9_fullestBelow_57 : decode cX9_fullestBelow 57 = .ok (.getfield 224, 3) := by decide +kernel
theorem dX9_fullestBelow_60 : decode cX9_fullestBelow 60 = .ok (.iload 7, 2) := by decide +kernel
theorem dX9_fullestBelow_62 : decode cX9_fullestBelow 62 = .ok (.laload, 1) := by decide +kernel
theorem dX9_fullestBelow_63 : decode cX9_fullestBelow 63 = .ok (.land, 1) := by decide +kernel
theorem dX9_fullestBelow_64 : decode cX9_fullestBelow 64 = .ok (.invokestatic 201, 3) := by decide +kernel
theorem dX9_fullestBelow_67 : decode cX9_fullestBelow 67 = .ok (.istore 8, 2) := by decide +kernel
theorem dX9_fullestBelow_69 : decode cX9_fullestBelow 69 = .ok (.iload 8, 2) := by decide +kernel
theorem dX9_fullestBelow_71 : decode cX9_fullestBelow 71 = .ok (.iload 6, 2) := by decide +kernel
theorem dX9_fullestBelow_73 : decode cX9_fullestBelow 73 = .ok (.if_icmp .le 11, 3) := by decide +kernel
theorem dX9_fullestBelow_76 : decode cX9_fullestBelow 76 = .ok (.iload 8, 2) := by decide +kernel
theorem dX9_fullestBelow_78 : decode cX9_fullestBelow 78 = .ok (.istore 6, 2) := by decide +kernel
theorem dX9_fullestBelow_80 : decode cX9_fullestBelow 80 = .ok (.iload 7, 2) := by decide +kernel
theorem dX9_fullestBelow_82 : decode cX9_fullestBelow 82 = .ok (.istore 5, 2) := by decide +kernel
theorem dX9_fullestBelow_84 : decode cX9_fullestBelow 84 = .ok (.iinc 7 1, 3) := by decide +kernel
theorem dX9_fullestBelow_87 : decode cX9_fullestBelow 87 = .ok (.goto (-78), 3) := by decide +kernel
theorem dX9_fullestBelow_90 : decode cX9_fullestBelow 90 = .ok (.iload 5, 2) := by decide +kernel
theorem dX9_fullestBelow_92 : decode cX9_fullestBelow 92 = .ok (.ireturn, 1) := by decide +kernel
def wX9_fullestBelow (I : Nat → Int32) (L : Nat → Int64) (A : Nat → Nat → Int32) (B : Nat → Nat → Int64) (x1 : Int32) (x2 : Int32) (x3 : Int64) (post : Int32 → Prop) : Prop := ∃ n, lfix (fun (r : (Int32 × Int32 × Int32) → Prop) (v7, v6, v5) => if (I 1) ≤ v7 then (post v5) else (vp_in v7 40 ∧ (if (A 36 v7.toNatClampNeg) = x1 then (vp_in v7 40 ∧ (if (A 37 v7.toNatClampNeg) = x2 then (vp_in v7 40 ∧ (wJ13_bitCount_95d88 (x3 &&& (B 40 v7.toNatClampNeg)) (fun r64 => if r64 ≤ v6 then (∀ v7_2 : Int32, v7_2 = v7 + 1 → r (v7_2, v6, v5)) else (∀ v7_3 : Int32, v7_3 = v7 + 1 → r (v7_3, r64, v7))))) else (∀ v7_4 : Int32, v7_4 = v7 + 1 → r (v7_4, v6, v5)))) else (∀ v7_1 : Int32, v7_1 = v7 + 1 → r (v7_1, v6, v5))))) n (0, 0, (-1))
abbrev rmX9_fullestBelow : Room := { frames := 1, cells := 0, slots := 0, locals := 21 }
theorem wd_X9_fullestBelow : Cond.instanceMethod yX9_fullestBelow ∈ BW ∧ Cond.selects yX9_fullestBelow.cls yX9_fullestBelow yX9_fullestBelow ∈ BW ∧ Cond.initialized yX9_fullestBelow.cls ∈ BW ∧ Cond.code yX9_fullestBelow cX9_fullestBelow 9 (some .int) ∈ BW := ⟨mw_3_195, mp_14, mw_1_1, mw_3_196⟩
set_option maxHeartbeats 4000000 in
set_option maxRecDepth 100000 in
theorem c_X9_fullestBelow {l : Launch} {D : va_G} {cy : Nat → ClassId} {ad : Nat → Nat} {Ad : Nat → Prop} (hAd : adok 103 Ad ad) (I : Nat → Int32) (L : Nat → Int64) (A : Nat → Nat → Int32) (B : Nat → Nat → Int64) (x1 : Int32) (x2 : Int32) (x3 : Int64)  (post : Int32 → Prop) (h : wX9_fullestBelow I L A B x1 x2 x3 post) : Met l yX9_fullestBelow (.code yX9_fullestBelow cX9_fullestBelow 9 (some .int) :: BW) rmX9_fullestBelow (va_Pc [.ref (ad 0), .int x1, .int x2, .long x3] (fun U => kC D cy U ∧ va_P D vwCl (wC cy ad I L A B) U.heap)) (qCi D cy ad Ad (fun r u => post r  ∧ I = u.1 ∧ L = u.2.1 ∧ A = u.2.2.1 ∧ B = u.2.2.2)) 0 0 Ad := by
  refine startCi (by decide) (Nat.le_of_ble_eq_true rfl) (lv := [(0, .ref (ad 0)), (1, .int x1), (2, .int x2), (3, .long x3)]) rfl (fun p e s m args below meth c Q ls hx hb hml hT hown hK hret hl hP hS => ?_)
  unfold wX9_fullestBelow at h
  refine lv_iconst (v := (-1)) hx hb dX9_fullestBelow_0 (by decide) ?_
  refine lv_istore (lv' := [(5, .int (-1)), (0, .ref (ad 0)), (1, .int x1), (2, .int x2), (3, .long x3)]) hx hb dX9_fullestBelow_1 hl (by decide) rfl (fun ls hl => ?_)
  refine lv_iconst (v := 0) hx hb dX9_fullestBelow_3 (by decide) ?_
  refine lv_istore (lv' := [(6, .int 0), (5, .int (-1)), (0, .ref (ad 0)), (1, .int x1), (2, .int x2), (3, .long x3)]) hx hb dX9_fullestBelow_4 hl (by decide) rfl (fun ls hl => ?_)
  refine lv_iconst (v := 0) hx hb dX9_fullestBelow_6 (by decide) ?_
  refine lv_istore (lv' := [(7, .int 0), (6, .int 0), (5, .int (-1)), (0, .ref (ad 0)), (1, .int x1), (2, .int x2), (3, .long x3)]) hx hb dX9_fullestBelow_7 hl (by decide) rfl (fun ls hl => ?_)
  obtain ⟨F, n, h, hF, hG⟩ := lfix_ex h
  have LP : ∀ (n : Nat) (v7 : Int32) (v6 : Int32) (v5 : Int32) (ls : Array Slot) (H : Heap) (locs : List Loc), F n (v7, v6, v5) → lv_has ls 9 [(7, .int v7), (6, .int v6), (5, .int v5), (0, .ref (ad 0)), (1, .int x1), (2, .int x2), (3, .long x3)] → va_P D vwCl (wC cy ad I L A B) H → va_S Ad s.heap H locs → W p l e rmX9_fullestBelow s m args below meth c H locs 0 0 Q (F0 m 9 ls []) := by
    intro n
    induction n with
    | zero => intro v7 v6 v5 ls H locs h _ _ _; exact absurd h (hF _)
    | succ n ih =>
      intro v7 v6 v5 ls H locs h hl hP hS
      replace h := hG _ _ h
      try dsimp only at h
      refine lv_iload hx hb dX9_fullestBelow_9 (lv_at hl 0 rfl) ?_
      refine lv_aload_n hx hb dX9_fullestBelow_11 rfl (lv_at hl 3 rfl) ?_
      refine va_get (T := TX9) hx hb hT inlX9 hown hK.1 hP 0 he_X9 rfl 0 (by decide) (hT _ mw_2_7) (fun _ h9 => h9) rfl dX9_fullestBelow_12 ?_
      refine va_get (T := TX2) hx hb hT inlX2 hown hK.1 hP 1 he_X2 rfl 5 (by decide) (hT _ mw_1_46) (fun _ h9 => h9) rfl dX9_fullestBelow_15 ?_
      refine lv_icmp_ge (tgt := 90) hx hb dX9_fullestBelow_18 (by decide) (fun hc => ?_) (fun hc => ?_)
      · rw [if_pos hc] at h
        refine lv_iload hx hb dX9_fullestBelow_90 (lv_at hl 2 rfl) ?_
        exact hret _ (I, L, A, B) dX9_fullestBelow_92 ⟨h, rfl, rfl, rfl, rfl⟩ hP hS
      · rw [if_neg hc] at h
        refine lv_aload_n hx hb dX9_fullestBelow_21 rfl (lv_at hl 3 rfl) ?_
        refine va_get (T := TX9) hx hb hT inlX9 hown hK.1 hP 0 he_X9 rfl 0 (by decide) (hT _ mw_2_7) (fun _ h9 => h9) rfl dX9_fullestBelow_22 ?_
        refine va_get (T := TX2) hx hb hT inlX2 hown hK.1 hP 1 he_X2 rfl 0 (by decide) (hT _ mw_1_34) (fun _ h9 => h9) rfl dX9_fullestBelow_25 ?_
        refine lv_iload hx hb dX9_fullestBelow_28 (lv_at hl 0 rfl) ?_
        obtain ⟨hi, h⟩ := h
        refine lC_I hx hb hK.1 hP (by decide) rfl hi dX9_fullestBelow_30 ?_
        refine lv_iload_n hx hb dX9_fullestBelow_31 rfl (lv_at hl 4 rfl) ?_
        refine lv_icmp_ne (tgt := 84) hx hb dX9_fullestBelow_32 (by decide) (fun hc_1 => ?_) (fun hc_1 => ?_)
        · rw [if_neg hc_1] at h
          obtain ⟨v7_1, ev7_1⟩ : ∃ z : Int32, z = v7 + 1 := ⟨_, rfl⟩
          replace h := h v7_1 ev7_1
          refine lv_iinc (v := v7_1) (lv' := [(7, .int v7_1), (6, .int v6), (5, .int v5), (0, .ref (ad 0)), (1, .int x1), (2, .int x2), (3, .long x3)]) hx hb dX9_fullestBelow_84 hl (k := 0) rfl (by rw [ev7_1]; rfl) (by decide) rfl (fun ls hl => ?_)
          refine lv_goto (tgt := 9) hx hb dX9_fullestBelow_87 (by decide) ?_
          exact ih v7_1 v6 v5 _ _ _ h (lv_sub hl [0, 1, 2, 3, 4, 5, 6] rfl) hP hS
        · rw [if_pos hc_1] at h
          refine lv_aload_n hx hb dX9_fullestBelow_35 rfl (lv_at hl 3 rfl) ?_
          refine va_get (T := TX9) hx hb hT inlX9 hown hK.1 hP 0 he_X9 rfl 0 (by decide) (hT _ mw_2_7) (fun _ h9 => h9) rfl dX9_fullestBelow_36 ?_
          refine va_get (T := TX2) hx hb hT inlX2 hown hK.1 hP 1 he_X2 rfl 1 (by decide) (hT _ mw_1_37) (fun _ h9 => h9) rfl dX9_fullestBelow_39 ?_
          refine lv_iload hx hb dX9_fullestBelow_42 (lv_at hl 0 rfl) ?_
          obtain ⟨hi_1, h⟩ := h
          refine lC_I hx hb hK.1 hP (by decide) rfl hi_1 dX9_fullestBelow_44 ?_
          refine lv_iload_n hx hb dX9_fullestBelow_45 rfl (lv_at hl 5 rfl) ?_
          refine lv_icmp_eq (tgt := 52) hx hb dX9_fullestBelow_46 (by decide) (fun hc_2 => ?_) (fun hc_2 => ?_)
          · rw [if_pos hc_2] at h
            refine lv_lload_n hx hb dX9_fullestBelow_52 rfl (lv_at hl 6 rfl) ?_
            refine lv_aload_n hx hb dX9_fullestBelow_53 rfl (lv_at hl 3 rfl) ?_
            refine va_get (T := TX9) hx hb hT inlX9 hown hK.1 hP 0 he_X9 rfl 0 (by decide) (hT _ mw_2_7) (fun _ h9 => h9) rfl dX9_fullestBelow_54 ?_
            refine va_get (T := TX2) hx hb hT inlX2 hown hK.1 hP 1 he_X2 rfl 4 (by decide) (hT _ mw_1_44) (fun _ h9 => h9) rfl dX9_fullestBelow_57 ?_
            refine lv_iload hx hb dX9_fullestBelow_60 (lv_at hl 0 rfl) ?_
            obtain ⟨hi_2, h⟩ := h
            refine lC_J hx hb hK.1 hP (by decide) rfl hi_2 dX9_fullestBelow_62 ?_
            refine lv_land hx hb dX9_fullestBelow_63 ?_
            refine callSCi (As := [.long (x3 &&& (B 40 v7.toNatClampNeg))]) (rest := []) (n := 1) (c_J13_bitCount_95d88 (x3 &&& (B 40 v7.toNatClampNeg)) _ h) hx hb hT hown hP hS mw_3_40 wd_J13_bitCount_95d88 (by decide +kernel) ⟨rfl, rfl⟩ (by decide) rfl hl.1 hml rfl (Nat.le_of_ble_eq_true rfl) dX9_fullestBelow_64 ⟨Nat.zero_le _, Nat.zero_le _⟩ (fun r64 H locs h hP hS => ?_)
            try dsimp only at h
            refine lv_istore (lv' := [(8, .int r64), (7, .int v7), (6, .int v6), (5, .int v5), (0, .ref (ad 0)), (1, .int x1), (2, .int x2), (3, .long x3)]) hx hb dX9_fullestBelow_67 hl (by decide) rfl (fun ls hl => ?_)
            refine lv_iload hx hb dX9_fullestBelow_69 (lv_at hl 0 rfl) ?_
            refine lv_iload hx hb dX9_fullestBelow_71 (lv_at hl 2 rfl) ?_
            refine lv_icmp_le (tgt := 84) hx hb dX9_fullestBelow_73 (by decide) (fun hc_3 => ?_) (fun hc_3 => ?_)
            · rw [if_pos hc_3] at h
              obtain ⟨v7_2, ev7_2⟩ : ∃ z : Int32, z = v7 + 1 := ⟨_, rfl⟩
              replace h := h v7_2 ev7_2
              refine lv_iinc (v := v7_2) (lv' := [(7, .int v7_2), (8, .int r64), (6, .int v6), (5, .int v5), (0, .ref (ad 0)), (1, .int x1), (2, .int x2), (3, .long x3)]) hx hb dX9_fullestBelow_84 hl (k := 1) rfl (by rw [ev7_2]; rfl) (by decide) rfl (fun ls hl => ?_)
              refine lv_goto (tgt := 9) hx hb dX9_fullestBelow_87 (by decide) ?_
              exact ih v7_2 v6 v5 _ _ _ h (lv_sub hl [0, 2, 3, 4, 5, 6, 7] rfl) hP hS
            · rw [if_neg hc_3] at h
              refine lv_iload hx hb dX9_fullestBelow_76 (lv_at hl 0 rfl) ?_
              refine lv_istore (lv' := [(6, .int r64), (8, .int r64), (7, .int v7), (5, .int v5), (0, .ref (ad 0)), (1, .int x1), (2, .int x2), (3, .long x3)]) hx hb dX9_fullestBelow_78 hl (by decide) rfl (fun ls hl => ?_)
              refine lv_iload hx hb dX9_fullestBelow_80 (lv_at hl 2 rfl) ?_
              refine lv_istore (lv' := [(5, .int v7), (6, .int r64), (8, .int r64), (7, .int v7), (0, .ref (ad 0)), (1, .int x1), (2, .int x2), (3, .long x3)]) hx hb dX9_fullestBelow_82 hl (by decide) rfl (fun ls hl => ?_)
              obtain ⟨v7_3, ev7_3⟩ : ∃ z : Int32, z = v7 + 1 := ⟨_, rfl⟩
              replace h := h v7_3 ev7_3
              refine lv_iinc (v := v7_3) (lv' := [(7, .int v7_3), (5, .int v7), (6, .int r64), (8, .int r64), (0, .ref (ad 0)), (1, .int x1), (2, .int x2), (3, .long x3)]) hx hb dX9_fullestBelow_84 hl (k := 3) rfl (by rw [ev7_3]; rfl) (by decide) rfl (fun ls hl => ?_)
              refine lv_goto (tgt := 9) hx hb dX9_fullestBelow_87 (by decide) ?_
              exact ih v7_3 r64 v7 _ _ _ h (lv_sub hl [0, 2, 1, 4, 5, 6, 7] rfl) hP hS
          · rw [if_neg hc_2] at h
            refine lv_goto (tgt := 84) hx hb dX9_fullestBelow_49 (by decide) ?_
            obtain ⟨v7_4, ev7_4⟩ : ∃ z : Int32, z = v7 + 1 := ⟨_, rfl⟩
            replace h := h v7_4 ev7_4
            refine lv_iinc (v := v7_4) (lv' := [(7, .int v7_4), (6, .int v6), (5, .int v5), (0, .ref (ad 0)), (1, .int x1), (2, .int x2), (3, .long x3)]) hx hb dX9_fullestBelow_84 hl (k := 0) rfl (by rw [ev7_4]; rfl) (by decide) rfl (fun ls hl => ?_)
            refine lv_goto (tgt := 9) hx hb dX9_fullestBelow_87 (by decide) ?_
            exact ih v7_4 v6 v5 _ _ _ h (lv_sub hl [0, 1, 2, 3, 4, 5, 6] rfl) hP hS
  exact LP _ 0 0 (-1) _ _ _ h (lv_sub hl [0, 1, 2, 3, 4, 5, 6] rfl) hP hS
theorem dX9_path_0 : decode cX9_path 0 = .ok (.aload_n 0, 1) := by decide +kernel
theorem dX9_path_1 : decode cX9_path 1 = .ok (.getfield 28, 3) := by decide +kernel
theorem dX9_path_4 : decode cX9_path 4 = .ok (.iload_n 1, 1) := by decide +kernel
theorem dX9_path_5 : decode cX9_path 5 = .ok (.invokevirtual 77, 3) := by decide +kernel
theorem dX9_path_8 : decode cX9_path 8 = .ok (.ifCond .eq 12, 3) := by decide +kernel
theorem dX9_path_11 : decode cX9_path 11 = .ok (.iload_n 2, 1) := by decide +kernel
theorem dX9_path_12 : decode cX9_path 12 = .ok (.ifCond .lt 8, 3) := by decide +kernel
theorem dX9_path_15 : decode cX9_path 15 = .ok (.iload_n 2, 1) := by decide +kernel
theorem dX9_path_16 : decode cX9_path 16 = .ok (.iconst 5, 1) := by decide +kernel
theorem dX9_path_17 : decode cX9_path 17 = .ok (.if_icmp .le 5, 3) := by decide +kernel
theorem dX9_path_20 : decode cX9_path 20 = .ok (.iconst (-1), 1) := by decide +kernel
theorem dX9_path_21 : decode cX9_path 21 = .ok (.ireturn, 1) := by decide +kernel
theorem dX9_path_22 : decode cX9_path 22 = .ok (.aload_n 0, 1) := by decide +kernel
theorem dX9_path_23 : decode cX9_path 23 = .ok (.getfield 28, 3) := by decide +kernel
theorem dX9_path_26 : decode cX9_path 26 = .ok (.iload_n 1, 1) := by decide +kernel
theorem dX9_path_27 : decode cX9_path 27 = .ok (.invokevirtual 245, 3) := by decide +kernel
theorem dX9_path_30 : decode cX9_path 30 = .ok (.lstore_n 3, 1) := by decide +kernel
theorem dX9_path_31 : decode cX9_path 31 = .ok (.iconst (-1), 1) := by decide +kernel
theorem dX9_path_32 : decode cX9_path 32 = .ok (.istore 5, 2) := by decide +kernel
theorem dX9_path_34 : decode cX9_path 34 = .ok (.iconst 0, 1) := by decide +kernel
theorem dX9_path_35 : decode cX9_path 35 = .ok (.istore 6, 2) := by decide +kernel
theorem dX9_path_37 : decode cX9_path 37 = .ok (.iload 6, 2) := by decide +kernel
theorem dX9_path_39 : decode cX9_path 39 = .ok (.iload_n 2, 1) := by decide +kernel
theorem dX9_path_40 : decode cX9_path 40 = .ok (.if_icmp .gt 27, 3) := by decide +kernel
theorem dX9_path_43 : decode cX9_path 43 = .ok (.aload_n 0, 1) := by decide +kernel
theorem dX9_path_44 : decode cX9_path 44 = .ok (.iload_n 1, 1) := by decide +kernel
theorem dX9_path_45 : decode cX9_path 45 = .ok (.iload 5, 2) := by decide +kernel
theorem dX9_path_47 : decode cX9_path 47 = .ok (.lload_n 3, 1) := by decide +kernel
theorem dX9_path_48 : decode cX9_path 48 = .ok (.invokevirtual 304, 3) := by decide +kernel
theorem dX9_path_51 : decode cX9_path 51 = .ok (.istore 5, 2) := by decide +kernel
theorem dX9_path_53 : decode cX9_path 53 = .ok (.iload 5, 2) := by decide +kernel
theorem dX9_path_55 : decode cX9_path 55 = .ok (.iconst (-1), 1) := by decide +kernel
theorem dX9_path_56 : decode cX9_path 56 = .ok (.if_icmp .ne 5, 3) := by decide +kernel
theorem dX9_path_59 : decode cX9_path 59 = .ok (.iconst (-1), 1) := by decide +kernel
theorem dX9_path_60 : decode cX9_path 60 = .ok (.ireturn, 1) := by decide +kernel
theorem dX9_path_61 : decode cX9_path 61 = .ok (.iinc 6 1, 3) := by decide +kernel
theorem dX9_path_64 : decode cX9_path 64 = .ok (.goto (-27), 3) := by decide +kernel
theorem dX9_path_67 : decode cX9_path 67 = .ok (.iload 5, 2) := by decide +kernel
theorem dX9_path_69 : decode cX9_path 69 = .ok (.ireturn, 1) := by decide +kernel
def wX9_path (I : Nat → Int32) (L : Nat → Int64) (A : Nat → Nat → Int32) (B : Nat → Nat → Int64) (x1 : Int32) (x2 : Int32) (post : Int32 → Prop) : Prop := wX7_isTree I L A B x1 (fun r5 => if r5 = 0 then (post (-1)) else (if x2 < 0 then (post (-1)) else (if x2 ≤ 5 then (wX7_audience I L A B x1 (fun r27 => ∃ n, lfix (fun (r : (Int32 × Int32) → Prop) (v6, v5) => if x2 < v6 then (post v5) else (wX9_fullestBelow I L A B x1 v5 r27 (fun r48 => if r48 = (-1) then (post (-1)) else (∀ v6_1 : Int32, v6_1 = v6 + 1 → r (v6_1, r48))))) n (0, (-1)))) else (post (-1)))))
abbrev rmX9_path : Room := { frames := 3, cells := 0, slots := 0, locals := 66 }
theorem wd_X9_path : Cond.instanceMethod yX9_path ∈ BW ∧ Cond.selects yX9_path.cls yX9_path yX9_path ∈ BW ∧ Cond.initialized yX9_path.cls ∈ BW ∧ Cond.code yX9_path cX9_path 7 (some .int) ∈ BW := ⟨mw_3_190, mw_3_191, mw_1_1, mw_3_192⟩
set_option maxHeartbeats 4000000 in
set_option maxRecDepth 100000 in
theorem c_X9_path {l : Launch} {D : va_G} {cy : Nat → ClassId} {ad : Nat → Nat} {Ad : Nat → Prop} (hAd : adok 103 Ad ad) (I : Nat → Int32) (L : Nat → Int64) (A : Nat → Nat → Int32) (B : Nat → Nat → Int64) (x1 : Int32) (x2 : Int32)  (post : Int32 → Prop) (h : wX9_path I L A B x1 x2 post) : Met l yX9_path (.code yX9_path cX9_path 7 (some .int) :: BW) rmX9_path (va_Pc [.ref (ad 0), .int x1, .int x2] (fun U => kC D cy U ∧ va_P D vwCl (wC cy ad I L A B) U.heap)) (qCi D cy ad Ad (fun r u => post r  ∧ I = u.1 ∧ L = u.2.1 ∧ A = u.2.2.1 ∧ B = u.2.2.2)) 0 0 Ad := by
  refine startCi (by decide) (Nat.le_of_ble_eq_true rfl) (lv := [(0, .ref (ad 0)), (1, .int x1), (2, .int x2)]) rfl (fun p e s m args below meth c Q ls hx hb hml hT hown hK hret hl hP hS => ?_)
  unfold wX9_path at h
  refine lv_aload_n hx hb dX9_path_0 rfl (lv_at hl 0 rfl) ?_
  refine va_get (T := TX9) hx hb hT inlX9 hown hK.1 hP 0 he_X9 rfl 2 (by decide) (hT _ mw_2_9) (fun _ h9 => h9) rfl dX9_path_1 ?_
  refine lv_iload_n hx hb dX9_path_4 rfl (lv_at hl 1 rfl) ?_
  refine callCi (k := 3) (As := [.int x1]) (rest := []) (n := 1) (c_X7_isTree hAd I L A B x1 _ h) hx hb hT hown hK hP hS mw_2_89 wd_X7_isTree (by decide +kernel) ⟨rfl, rfl⟩ (by decide) rfl rfl he_X7 rfl hl.1 hml rfl (Nat.le_of_ble_eq_true rfl) dX9_path_5 ⟨Nat.zero_le _, Nat.zero_le _⟩ (fun r5 u H locs h hP hS => ?_)
  obtain ⟨Iu, Lu, Au, Bu⟩ := u
  dsimp only at h hP
  obtain ⟨h, rfl, rfl, rfl, rfl⟩ := h
  try dsimp only at h
  refine lv_if_eq (tgt := 20) hx hb dX9_path_8 (by decide) (fun hc => ?_) (fun hc => ?_)
  · rw [if_pos hc] at h
    refine lv_iconst (v := (-1)) hx hb dX9_path_20 (by decide) ?_
    exact hret _ (I, L, A, B) dX9_path_21 ⟨h, rfl, rfl, rfl, rfl⟩ hP hS
  · rw [if_neg hc] at h
    refine lv_iload_n hx hb dX9_path_11 rfl (lv_at hl 2 rfl) ?_
    refine lv_if_lt (tgt := 20) hx hb dX9_path_12 (by decide) (fun hc_1 => ?_) (fun hc_1 => ?_)
    · rw [if_pos hc_1] at h
      refine lv_iconst (v := (-1)) hx hb dX9_path_20 (by decide) ?_
      exact hret _ (I, L, A, B) dX9_path_21 ⟨h, rfl, rfl, rfl, rfl⟩ hP hS
    · rw [if_neg hc_1] at h
      refine lv_iload_n hx hb dX9_path_15 rfl (lv_at hl 2 rfl) ?_
      refine lv_iconst (v := 5) hx hb dX9_path_16 (by decide) ?_
      refine lv_icmp_le (tgt := 22) hx hb dX9_path_17 (by decide) (fun hc_2 => ?_) (fun hc_2 => ?_)
      · rw [if_pos hc_2] at h
        refine lv_aload_n hx hb dX9_path_22 rfl (lv_at hl 0 rfl) ?_
        refine va_get (T := TX9) hx hb hT inlX9 hown hK.1 hP 0 he_X9 rfl 2 (by decide) (hT _ mw_2_9) (fun _ h9 => h9) rfl dX9_path_23 ?_
        refine lv_iload_n hx hb dX9_path_26 rfl (lv_at hl 1 rfl) ?_
        refine callCl (k := 3) (As := [.int x1]) (rest := []) (n := 1) (c_X7_audience hAd I L A B x1 _ h) hx hb hT hown hK hP hS mw_3_95 wd_X7_audience (by decide +kernel) ⟨rfl, rfl⟩ (by decide) rfl rfl he_X7 rfl hl.1 hml rfl (Nat.le_of_ble_eq_true rfl) dX9_path_27 ⟨Nat.zero_le _, Nat.zero_le _⟩ (fun r27 u H locs h hP hS => ?_)
        obtain ⟨Iu_1, Lu_1, Au_1, Bu_1⟩ := u
        dsimp only at h hP
        obtain ⟨h, rfl, rfl, rfl, rfl⟩ := h
        try dsimp only at h
        refine lv_lstore_n (lv' := [(3, .long r27), (0, .ref (ad 0)), (1, .int x1), (2, .int x2)]) hx hb dX9_path_30 rfl hl (by decide) rfl (fun ls hl => ?_)
        refine lv_iconst (v := (-1)) hx hb dX9_path_31 (by decide) ?_
        refine lv_istore (lv' := [(5, .int (-1)), (3, .long r27), (0, .ref (ad 0)), (1, .int x1), (2, .int x2)]) hx hb dX9_path_32 hl (by decide) rfl (fun ls hl => ?_)
        refine lv_iconst (v := 0) hx hb dX9_path_34 (by decide) ?_
        refine lv_istore (lv' := [(6, .int 0), (5, .int (-1)), (3, .long r27), (0, .ref (ad 0)), (1, .int x1), (2, .int x2)]) hx hb dX9_path_35 hl (by decide) rfl (fun ls hl => ?_)
        obtain ⟨F, n, h, hF, hG⟩ := lfix_ex h
        have LP : ∀ (n : Nat) (v6 : Int32) (v5 : Int32) (ls : Array Slot) (H : Heap) (locs : List Loc), F n (v6, v5) → lv_has ls 7 [(6, .int v6), (5, .int v5), (3, .long r27), (0, .ref (ad 0)), (1, .int x1), (2, .int x2)] → va_P D vwCl (wC cy ad I L A B) H → va_S Ad s.heap H locs → W p l e rmX9_path s m args below meth c H locs 0 0 Q (F0 m 37 ls []) := by
          intro n
          induction n with
          | zero => intro v6 v5 ls H locs h _ _ _; exact absurd h (hF _)
          | succ n ih =>
            intro v6 v5 ls H locs h hl hP hS
            replace h := hG _ _ h
            try dsimp only at h
            refine lv_iload hx hb dX9_path_37 (lv_at hl 0 rfl) ?_
            refine lv_iload_n hx hb dX9_path_39 rfl (lv_at hl 5 rfl) ?_
            refine lv_icmp_gt (tgt := 67) hx hb dX9_path_40 (by decide) (fun hc_3 => ?_) (fun hc_3 => ?_)
            · rw [if_pos hc_3] at h
              refine lv_iload hx hb dX9_path_67 (lv_at hl 1 rfl) ?_
              exact hret _ (I, L, A, B) dX9_path_69 ⟨h, rfl, rfl, rfl, rfl⟩ hP hS
            · rw [if_neg hc_3] at h
              refine lv_aload_n hx hb dX9_path_43 rfl (lv_at hl 3 rfl) ?_
              refine lv_iload_n hx hb dX9_path_44 rfl (lv_at hl 4 rfl) ?_
              refine lv_iload hx hb dX9_path_45 (lv_at hl 1 rfl) ?_
              refine lv_lload_n hx hb dX9_path_47 rfl (lv_at hl 2 rfl) ?_
              refine callCi (k := 0) (As := [.int x1, .int v5, .long r27]) (rest := []) (n := 3) (c_X9_fullestBelow hAd I L A B x1 v5 r27 _ h) hx hb hT hown hK hP hS mw_3_193 wd_X9_fullestBelow (by decide +kernel) ⟨rfl, rfl⟩ (by decide) rfl rfl he_X9 rfl hl.1 hml rfl (Nat.le_of_ble_eq_true rfl) dX9_path_48 ⟨Nat.zero_le _, Nat.zero_le _⟩ (fun r48 u H locs h hP hS => ?_)
              obtain ⟨Iu_2, Lu_2, Au_2, Bu_2⟩ := u
              dsimp only at h hP
              obtain ⟨h, rfl, rfl, rfl, rfl⟩ := h
              try dsimp only at h
              refine lv_istore (lv' := [(5, .int r48), (6, .int v6), (3, .long r27), (0, .ref (ad 0)), (1, .int x1), (2, .int x2)]) hx hb dX9_path_51 hl (by decide) rfl (fun ls hl => ?_)
              refine lv_iload hx hb dX9_path_53 (lv_at hl 0 rfl) ?_
              refine lv_iconst (v := (-1)) hx hb dX9_path_55 (by decide) ?_
              refine lv_icmp_ne (tgt := 61) hx hb dX9_path_56 (by decide) (fun hc_4 => ?_) (fun hc_4 => ?_)
              · rw [if_neg hc_4] at h
                obtain ⟨v6_1, ev6_1⟩ : ∃ z : Int32, z = v6 + 1 := ⟨_, rfl⟩
                replace h := h v6_1 ev6_1
                refine lv_iinc (v := v6_1) (lv' := [(6, .int v6_1), (5, .int r48), (3, .long r27), (0, .ref (ad 0)), (1, .int x1), (2, .int x2)]) hx hb dX9_path_61 hl (k := 1) rfl (by rw [ev6_1]; rfl) (by decide) rfl (fun ls hl => ?_)
                refine lv_goto (tgt := 37) hx hb dX9_path_64 (by decide) ?_
                exact ih v6_1 r48 _ _ _ h (lv_sub hl [0, 1, 2, 3, 4, 5] rfl) hP hS
              · rw [if_pos hc_4] at h
                refine lv_iconst (v := (-1)) hx hb dX9_path_59 (by decide) ?_
                exact hret _ (I, L, A, B) dX9_path_60 ⟨h, rfl, rfl, rfl, rfl⟩ hP hS
        exact LP _ 0 (-1) _ _ _ h (lv_sub hl [0, 1, 2, 3, 4, 5] rfl) hP hS
      · rw [if_neg hc_2] at h
        refine lv_iconst (v := (-1)) hx hb dX9_path_20 (by decide) ?_
        exact hret _ (I, L, A, B) dX9_path_21 ⟨h, rfl, rfl, rfl, rfl⟩ hP hS
theorem dX9_split_0 : decode cX9_split 0 = .ok (.aload_n 0, 1) := by decide +kernel
theorem dX9_split_1 : decode cX9_split 1 = .ok (.getfield 28, 3) := by decide +kernel
theorem dX9_split_4 : decode cX9_split 4 = .ok (.invokevirtual 214, 3) := by decide +kernel
theorem dX9_split_7 : decode cX9_split 7 = .ok (.invokestatic 201, 3) := by decide +kernel
theorem dX9_split_10 : decode cX9_split 10 = .ok (.istore_n 1, 1) := by decide +kernel
theorem dX9_split_11 : decode cX9_split 11 = .ok (.iconst (-1), 1) := by decide +kernel
theorem dX9_split_12 : decode cX9_split 12 = .ok (.istore_n 2, 1) := by decide +kernel
theorem dX9_split_13 : decode cX9_split 13 = .ok (.iconst 0, 1) := by decide +kernel
theorem dX9_split_14 : decode cX9_split 14 = .ok (.istore_n 3, 1) := by decide +kernel
theorem dX9_split_15 : decode cX9_split 15 = .ok (.iconst 0, 1) := by decide +kernel
theorem dX9_split_16 : decode cX9_split 16 = .ok (.istore 4, 2) := by decide +kernel
theorem dX9_split_18 : decode cX9_split 18 = .ok (.iload 4, 2) := by decide +kernel
theorem dX9_split_20 : decode cX9_split 20 = .ok (.aload_n 0, 1) := by decide +kernel
theorem dX9_split_21 : decode cX9_split 21 = .ok (.getfield 10, 3) := by decide +kernel
theorem dX9_split_24 : decode cX9_split 24 = .ok (.getfield 81, 3) := by decide +kernel
theorem dX9_split_27 : decode cX9_split 27 = .ok (.if_icmp .ge 79, 3) := by decide +kernel
theorem dX9_split_30 : decode cX9_split 30 = .ok (.aload_n 0, 1) := by decide +kernel
theorem dX9_split_31 : decode cX9_split 31 = .ok (.getfield 28, 3) := by decide +kernel
theorem dX9_split_34 : decode cX9_split 34 = .ok (.getfield 134, 3) := by decide +kernel
theorem dX9_split_37 : decode cX9_split 37 = .ok (.aload_n 0, 1) := by decide +kernel
theorem dX9_split_38 : decode cX9_split 38 = .ok (.getfield 10, 3) := by decide +kernel
theorem dX9_split_41 : decode cX9_split 41 = .ok (.getfield 96, 3) := by decide +kernel
theorem dX9_split_44 : decode cX9_split 44 = .ok (.iload 4, 2) := by decide +kernel
theorem dX9_split_46 : decode cX9_split 46 = .ok (.iaload, 1) := by decide +kernel
theorem dX9_split_47 : decode cX9_split 47 = .ok (.aaload, 1) := by decide +kernel
theorem dX9_split_48 : decode cX9_split 48 = .ok (.getfield 159, 3) := by decide +kernel
theorem dX9_split_51 : decode cX9_split 51 = .ok (.getfield 162, 3) := by decide +kernel
theorem dX9_split_54 : decode cX9_split 54 = .ok (.iload 4, 2) := by decide +kernel
theorem dX9_split_56 : decode cX9_split 56 = .ok (.invokestatic 104, 3) := by decide +kernel
theorem dX9_split_59 : decode cX9_split 59 = .ok (.ifCond .eq 6, 3) := by decide +kernel
theorem dX9_split_62 : decode cX9_split 62 = .ok (.goto 38, 3) := by decide +kernel
theorem dX9_split_65 : decode cX9_split 65 = .ok (.iconst 2, 1) := by decide +kernel
theorem dX9_split_66 : decode cX9_split 66 = .ok (.aload_n 0, 1) := by decide +kernel
theorem dX9_split_67 : decode cX9_split 67 = .ok (.getfield 28, 3) := by decide +kernel
theorem dX9_split_70 : decode cX9_split 70 = .ok (.iload 4, 2) := by decide +kernel
theorem dX9_split_72 : decode cX9_split 72 = .ok (.invokevirtual 242, 3) := by decide +kernel
theorem dX9_split_75 : decode cX9_split 75 = .ok (.imul, 1) := by decide +kernel
theorem dX9_split_76 : decode cX9_split 76 = .ok (.iload_n 1, 1) := by decide +kernel
theorem dX9_split_77 : decode cX9_split 77 = .ok (.isub, 1) := by decide +kernel
theorem dX9_split_78 : decode cX9_split 78 = .ok (.invokestatic 308, 3) := by decide +kernel
theorem dX9_split_81 : decode cX9_split 81 = .ok (.istore 5, 2) := by decide +kernel
theorem dX9_split_83 : decode cX9_split 83 = .ok (.iload_n 2, 1) := by decide +kernel
theorem dX9_split_84 : decode cX9_split 84 = .ok (.iconst (-1), 1) := by decide +kernel
theorem dX9_split_85 : decode cX9_split 85 = .ok (.if_icmp .eq 9, 3) := by decide +kernel
theorem dX9_split_88 : decode cX9_split 88 = .ok (.iload 5, 2) := by decide +kernel
theorem dX9_split_90 : decode cX9_split 90 = .ok (.iload_n 3, 1) := by decide +kernel
theorem dX9_split_91 : decode cX9_split 91 = .ok (.if_icmp .ge 9, 3) := by decide +kernel
theorem dX9_split_94 : decode cX9_split 94 = .ok (.iload 5, 2) := by decide +kernel
theorem dX9_split_96 : decode cX9_split 96 = .ok (.istore_n 3, 1) := by decide +kernel
theorem dX9_split_97 : decode cX9_split 97 = .ok (.iload 4, 2) := by decide +kernel
theorem dX9_split_99 : decode cX9_split 99 = .ok (.istore_n 2, 1) := by decide +kernel
theorem dX9_split_100 : decode cX9_split 100 = .ok (.iinc 4 1, 3) := by decide +kernel
theorem dX9_split_103 : decode cX9_split 103 = .ok (.goto (-85), 3) := by decide +kernel
theorem dX9_split_106 : decode cX9_split 106 = .ok (.iload_n 2, 1) := by decide +kernel
theorem dX9_split_107 : decode cX9_split 107 = .ok (.ireturn, 1) := by decide +kernel
def wX9_split (I : Nat → Int32) (L : Nat → Int64) (A : Nat → Nat → Int32) (B : Nat → Nat → Int64)  (post : Int32 → Prop) : Prop := wX7_hits I L A B  (fun r4 => wJ13_bitCount_95d88 r4 (fun r7 => ∃ n, lfix (fun (r : (Int32 × Int32 × Int32) → Prop) (v4, v3, v2) => if (I 1) ≤ v4 then (post v2) else (vp_in v4 40 ∧ (vp_in (A 36 v4.toNatClampNeg) 5 ∧ (wX9_inSet (L (9 + (A 36 v4.toNatClampNeg).toNatClampNeg + 5)) v4 (fun r56 => if r56 = 0 then (wX7_showing I L A B v4 (fun r72 => ∀ r78 : Int32, r78 = (if 0 ≤ ((2 * r72) - r7) then ((2 * r72) - r7) else 0 - ((2 * r72) - r7)) → jn (fun (_ : Unit) => ∀ v4_1 : Int32, v4_1 = v4 + 1 → r (v4_1, r78, v4)) (fun k => if v2 = (-1) then (k ()) else (if v3 ≤ r78 then (∀ v4_2 : Int32, v4_2 = v4 + 1 → r (v4_2, v3, v2)) else (k ()))))) else (∀ v4_3 : Int32, v4_3 = v4 + 1 → r (v4_3, v3, v2))))))) n (0, 0, (-1))))
abbrev rmX9_split : Room := { frames := 4, cells := 0, slots := 0, locals := 87 }
theorem wd_X9_split : Cond.instanceMethod yX9_split ∈ BW ∧ Cond.selects yX9_split.cls yX9_split yX9_split ∈ BW ∧ Cond.initialized yX9_split.cls ∈ BW ∧ Cond.code yX9_split cX9_split 6 (some .int) ∈ BW := ⟨mw_3_198, mw_3_199, mw_1_1, mw_3_200⟩
set_option maxHeartbeats 4000000 in
set_option maxRecDepth 100000 in
theorem c_X9_split {l : Launch} {D : va_G} {cy : Nat → ClassId} {ad : Nat → Nat} {Ad : Nat → Prop} (hAd : adok 103 Ad ad) (I : Nat → Int32) (L : Nat → Int64) (A : Nat → Nat → Int32) (B : Nat → Nat → Int64)   (post : Int32 → Prop) (h : wX9_split I L A B  post) : Met l yX9_split (.code yX9_split cX9_split 6 (some .int) :: BW) rmX9_split (va_Pc [.ref (ad 0)] (fun U => kC D cy U ∧ va_P D vwCl (wC cy ad I L A B) U.heap)) (qCi D cy ad Ad (fun r u => post r  ∧ I = u.1 ∧ L = u.2.1 ∧ A = u.2.2.1 ∧ B = u.2.2.2)) 0 0 Ad := by
  refine startCi (by decide) (Nat.le_of_ble_eq_true rfl) (lv := [(0, .ref (ad 0))]) rfl (fun p e s m args below meth c Q ls hx hb hml hT hown hK hret hl hP hS => ?_)
  unfold wX9_split at h
  refine lv_aload_n hx hb dX9_split_0 rfl (lv_at hl 0 rfl) ?_
  refine va_get (T := TX9) hx hb hT inlX9 hown hK.1 hP 0 he_X9 rfl 2 (by decide) (hT _ mw_2_9) (fun _ h9 => h9) rfl dX9_split_1 ?_
  refine callCl (k := 3) (As := []) (rest := []) (n := 0) (c_X7_hits hAd I L A B  _ h) hx hb hT hown hK hP hS mw_3_51 wd_X7_hits (by decide +kernel) ⟨rfl, rfl⟩ (by decide) rfl rfl he_X7 rfl hl.1 hml rfl (Nat.le_of_ble_eq_true rfl) dX9_split_4 ⟨Nat.zero_le _, Nat.zero_le _⟩ (fun r4 u H locs h hP hS => ?_)
  obtain ⟨Iu, Lu, Au, Bu⟩ := u
  dsimp only at h hP
  obtain ⟨h, rfl, rfl, rfl, rfl⟩ := h
  try dsimp only at h
  refine callSCi (As := [.long r4]) (rest := []) (n := 1) (c_J13_bitCount_95d88 r4 _ h) hx hb hT hown hP hS mw_3_40 wd_J13_bitCount_95d88 (by decide +kernel) ⟨rfl, rfl⟩ (by decide) rfl hl.1 hml rfl (Nat.le_of_ble_eq_true rfl) dX9_split_7 ⟨Nat.zero_le _, Nat.zero_le _⟩ (fun r7 H locs h hP hS => ?_)
  try dsimp only at h
  refine lv_istore_n (lv' := [(1, .int r7), (0, .ref (ad 0))]) hx hb dX9_split_10 rfl hl (by decide) rfl (fun ls hl => ?_)
  refine lv_iconst (v := (-1)) hx hb dX9_split_11 (by decide) ?_
  refine lv_istore_n (lv' := [(2, .int (-1)), (1, .int r7), (0, .ref (ad 0))]) hx hb dX9_split_12 rfl hl (by decide) rfl (fun ls hl => ?_)
  refine lv_iconst (v := 0) hx hb dX9_split_13 (by decide) ?_
  refine lv_istore_n (lv' := [(3, .int 0), (2, .int (-1)), (1, .int r7), (0, .ref (ad 0))]) hx hb dX9_split_14 rfl hl (by decide) rfl (fun ls hl => ?_)
  refine lv_iconst (v := 0) hx hb dX9_split_15 (by decide) ?_
  refine lv_istore (lv' := [(4, .int 0), (3, .int 0), (2, .int (-1)), (1, .int r7), (0, .ref (ad 0))]) hx hb dX9_split_16 hl (by decide) rfl (fun ls hl => ?_)
  obtain ⟨F, n, h, hF, hG⟩ := lfix_ex h
  have LP : ∀ (n : Nat) (v4 : Int32) (v3 : Int32) (v2 : Int32) (ls : Array Slot) (H : Heap) (locs : List Loc), F n (v4, v3, v2) → lv_has ls 6 [(4, .int v4), (3, .int v3), (2, .int v2), (1, .int r7), (0, .ref (ad 0))] → va_P D vwCl (wC cy ad I L A B) H → va_S Ad s.heap H locs → W p l e rmX9_split s m args below meth c H locs 0 0 Q (F0 m 18 ls []) := by
    intro n
    induction n with
    | zero => intro v4 v3 v2 ls H locs h _ _ _; exact absurd h (hF _)
    | succ n ih =>
      intro v4 v3 v2 ls H locs h hl hP hS
      replace h := hG _ _ h
      try dsimp only at h
      refine lv_iload hx hb dX9_split_18 (lv_at hl 0 rfl) ?_
      refine lv_aload_n hx hb dX9_split_20 rfl (lv_at hl 4 rfl) ?_
      refine va_get (T := TX9) hx hb hT inlX9 hown hK.1 hP 0 he_X9 rfl 0 (by decide) (hT _ mw_2_7) (fun _ h9 => h9) rfl dX9_split_21 ?_
      refine va_get (T := TX2) hx hb hT inlX2 hown hK.1 hP 1 he_X2 rfl 5 (by decide) (hT _ mw_1_46) (fun _ h9 => h9) rfl dX9_split_24 ?_
      refine lv_icmp_ge (tgt := 106) hx hb dX9_split_27 (by decide) (fun hc => ?_) (fun hc => ?_)
      · rw [if_pos hc] at h
        refine lv_iload_n hx hb dX9_split_106 rfl (lv_at hl 2 rfl) ?_
        exact hret _ (I, L, A, B) dX9_split_107 ⟨h, rfl, rfl, rfl, rfl⟩ hP hS
      · rw [if_neg hc] at h
        refine lv_aload_n hx hb dX9_split_30 rfl (lv_at hl 4 rfl) ?_
        refine va_get (T := TX9) hx hb hT inlX9 hown hK.1 hP 0 he_X9 rfl 2 (by decide) (hT _ mw_2_9) (fun _ h9 => h9) rfl dX9_split_31 ?_
        refine va_get (T := TX7) hx hb hT inlX7 hown hK.1 hP 3 he_X7 rfl 2 (by decide) (hT _ mw_1_166) (fun _ h9 => h9) rfl dX9_split_34 ?_
        refine lv_aload_n hx hb dX9_split_37 rfl (lv_at hl 4 rfl) ?_
        refine va_get (T := TX9) hx hb hT inlX9 hown hK.1 hP 0 he_X9 rfl 0 (by decide) (hT _ mw_2_7) (fun _ h9 => h9) rfl dX9_split_38 ?_
        refine va_get (T := TX2) hx hb hT inlX2 hown hK.1 hP 1 he_X2 rfl 0 (by decide) (hT _ mw_1_34) (fun _ h9 => h9) rfl dX9_split_41 ?_
        refine lv_iload hx hb dX9_split_44 (lv_at hl 0 rfl) ?_
        obtain ⟨hi, h⟩ := h
        refine lC_I hx hb hK.1 hP (by decide) rfl hi dX9_split_46 ?_
        obtain ⟨hi_1, h⟩ := h
        have hj := vp_lt hi_1
        refine lC_X hx hb hK.1 hP hi_1 dX9_split_47 ?_
        refine va_get (T := TX0) hx hb hT inlX0 hown hK.1 hP (9 + (A 36 v4.toNatClampNeg).toNatClampNeg) (he_X0 (by omega)) rfl 1 (by decide) (hT _ mw_1_148) (fun _ h9 => h9) rfl dX9_split_48 ?_
        refine va_get (T := TX5) hx hb hT inlX5 hown hK.1 hP (9 + (A 36 v4.toNatClampNeg).toNatClampNeg + 5) (he_X5 (by omega)) rfl 0 (by decide) (hT _ mw_1_122) (fun _ h9 => h9) rfl dX9_split_51 ?_
        refine lv_iload hx hb dX9_split_54 (lv_at hl 0 rfl) ?_
        refine callSCi (As := [.long (L (9 + (A 36 v4.toNatClampNeg).toNatClampNeg + 5)), .int v4]) (rest := []) (n := 2) (c_X9_inSet (L (9 + (A 36 v4.toNatClampNeg).toNatClampNeg + 5)) v4 _ h) hx hb hT hown hP hS mw_2_123 wd_X9_inSet (by decide +kernel) ⟨rfl, rfl⟩ (by decide) rfl hl.1 hml rfl (Nat.le_of_ble_eq_true rfl) dX9_split_56 ⟨Nat.zero_le _, Nat.zero_le _⟩ (fun r56 H locs h hP hS => ?_)
        try dsimp only at h
        refine lv_if_eq (tgt := 65) hx hb dX9_split_59 (by decide) (fun hc_1 => ?_) (fun hc_1 => ?_)
        · rw [if_pos hc_1] at h
          refine lv_iconst (v := 2) hx hb dX9_split_65 (by decide) ?_
          refine lv_aload_n hx hb dX9_split_66 rfl (lv_at hl 4 rfl) ?_
          refine va_get (T := TX9) hx hb hT inlX9 hown hK.1 hP 0 he_X9 rfl 2 (by decide) (hT _ mw_2_9) (fun _ h9 => h9) rfl dX9_split_67 ?_
          refine lv_iload hx hb dX9_split_70 (lv_at hl 0 rfl) ?_
          refine callCi (k := 3) (As := [.int v4]) (rest := [.int 2]) (n := 1) (c_X7_showing hAd I L A B v4 _ h) hx hb hT hown hK hP hS mw_3_81 wd_X7_showing (by decide +kernel) ⟨rfl, rfl⟩ (by decide) rfl rfl he_X7 rfl hl.1 hml rfl (Nat.le_of_ble_eq_true rfl) dX9_split_72 ⟨Nat.zero_le _, Nat.zero_le _⟩ (fun r72 u H locs h hP hS => ?_)
          obtain ⟨Iu_1, Lu_1, Au_1, Bu_1⟩ := u
          dsimp only at h hP
          obtain ⟨h, rfl, rfl, rfl, rfl⟩ := h
          try dsimp only at h
          refine lv_imul hx hb dX9_split_75 ?_
          refine lv_iload_n hx hb dX9_split_76 rfl (lv_at hl 3 rfl) ?_
          refine lv_isub hx hb dX9_split_77 ?_
          refine va_mabs hx hb (by rw [hml]; exact hl.1.symm) hown (hT _ mw_3_201) (hT _ mw_3_202) (hT _ mw_1_12) (hT _ mw_3_203) (Nat.le_of_ble_eq_true rfl) (Nat.le_of_ble_eq_true rfl) (Nat.zero_le _) (Nat.zero_le _) dX9_split_78 ?_
          refine lv_topi (fun r78 er78 => ?_)
          replace h := h r78 er78
          refine lv_istore (lv' := [(5, .int r78), (4, .int v4), (3, .int v3), (2, .int v2), (1, .int r7), (0, .ref (ad 0))]) hx hb dX9_split_81 hl (by decide) rfl (fun ls hl => ?_)
          refine lv_iload_n hx hb dX9_split_83 rfl (lv_at hl 3 rfl) ?_
          refine lv_iconst (v := (-1)) hx hb dX9_split_84 (by decide) ?_
          obtain ⟨k, hk, h⟩ := jn_ex h
          try dsimp only at h
          have J : k () → ∀ (ls : Array Slot) (H : Heap) (locs : List Loc), lv_has ls 6 [(5, .int r78), (4, .int v4), (1, .int r7), (0, .ref (ad 0))] → va_P D vwCl (wC cy ad I L A B) H → va_S Ad s.heap H locs → W p l e rmX9_split s m args below meth c H locs 0 0 Q (F0 m 94 ls []) := by
            intro  h ls H locs hl hP hS
            replace h := hk _ h
            try dsimp only at h
            refine lv_iload hx hb dX9_split_94 (lv_at hl 0 rfl) ?_
            refine lv_istore_n (lv' := [(3, .int r78), (5, .int r78), (4, .int v4), (1, .int r7), (0, .ref (ad 0))]) hx hb dX9_split_96 rfl hl (by decide) rfl (fun ls hl => ?_)
            refine lv_iload hx hb dX9_split_97 (lv_at hl 2 rfl) ?_
            refine lv_istore_n (lv' := [(2, .int v4), (3, .int r78), (5, .int r78), (4, .int v4), (1, .int r7), (0, .ref (ad 0))]) hx hb dX9_split_99 rfl hl (by decide) rfl (fun ls hl => ?_)
            obtain ⟨v4_1, ev4_1⟩ : ∃ z : Int32, z = v4 + 1 := ⟨_, rfl⟩
            replace h := h v4_1 ev4_1
            refine lv_iinc (v := v4_1) (lv' := [(4, .int v4_1), (2, .int v4), (3, .int r78), (5, .int r78), (1, .int r7), (0, .ref (ad 0))]) hx hb dX9_split_100 hl (k := 3) rfl (by rw [ev4_1]; rfl) (by decide) rfl (fun ls hl => ?_)
            refine lv_goto (tgt := 18) hx hb dX9_split_103 (by decide) ?_
            exact ih v4_1 r78 v4 _ _ _ h (lv_sub hl [0, 2, 1, 4, 5] rfl) hP hS
          refine lv_icmp_eq (tgt := 94) hx hb dX9_split_85 (by decide) (fun hc_2 => ?_) (fun hc_2 => ?_)
          · rw [if_pos hc_2] at h
            exact J  h _ _ _ (lv_sub hl [0, 1, 4, 5] rfl) hP hS
          · rw [if_neg hc_2] at h
            refine lv_iload hx hb dX9_split_88 (lv_at hl 0 rfl) ?_
            refine lv_iload_n hx hb dX9_split_90 rfl (lv_at hl 2 rfl) ?_
            refine lv_icmp_ge (tgt := 100) hx hb dX9_split_91 (by decide) (fun hc_3 => ?_) (fun hc_3 => ?_)
            · rw [if_pos hc_3] at h
              obtain ⟨v4_2, ev4_2⟩ : ∃ z : Int32, z = v4 + 1 := ⟨_, rfl⟩
              replace h := h v4_2 ev4_2
              refine lv_iinc (v := v4_2) (lv' := [(4, .int v4_2), (5, .int r78), (3, .int v3), (2, .int v2), (1, .int r7), (0, .ref (ad 0))]) hx hb dX9_split_100 hl (k := 1) rfl (by rw [ev4_2]; rfl) (by decide) rfl (fun ls hl => ?_)
              refine lv_goto (tgt := 18) hx hb dX9_split_103 (by decide) ?_
              exact ih v4_2 v3 v2 _ _ _ h (lv_sub hl [0, 2, 3, 4, 5] rfl) hP hS
            · rw [if_neg hc_3] at h
              exact J  h _ _ _ (lv_sub hl [0, 1, 4, 5] rfl) hP hS
        · rw [if_neg hc_1] at h
          refine lv_goto (tgt := 100) hx hb dX9_split_62 (by decide) ?_
          obtain ⟨v4_3, ev4_3⟩ : ∃ z : Int32, z = v4 + 1 := ⟨_, rfl⟩
          replace h := h v4_3 ev4_3
          refine lv_iinc (v := v4_3) (lv' := [(4, .int v4_3), (3, .int v3), (2, .int v2), (1, .int r7), (0, .ref (ad 0))]) hx hb dX9_split_100 hl (k := 0) rfl (by rw [ev4_3]; rfl) (by decide) rfl (fun ls hl => ?_)
          refine lv_goto (tgt := 18) hx hb dX9_split_103 (by decide) ?_
          exact ih v4_3 v3 v2 _ _ _ h (lv_sub hl [0, 1, 2, 3, 4] rfl) hP hS
  exact LP _ 0 0 (-1) _ _ _ h (lv_sub hl [0, 1, 2, 3, 4] rfl) hP hS
theorem dX9_fillCovering_0 : decode cX9_fillCovering 0 = .ok (.aload_n 0, 1) := by decide +kernel
theorem dX9_fillCovering_1 : decode cX9_fillCovering 1 = .ok (.getfield 65, 3) := by decide +kernel
theorem dX9_fillCovering_4 : decode cX9_fillCovering 4 = .ok (.invokevirtual 344, 3) := by decide +kernel
theorem dX9_fillCovering_7 : decode cX9_fillCovering 7 = .ok (.iconst 0, 1) := by decide +kernel
theorem dX9_fillCovering_8 : decode cX9_fillCovering 8 = .ok (.istore_n 2, 1) := by decide +kernel
theorem dX9_fillCovering_9 : decode cX9_fillCovering 9 = .ok (.iload_n 2, 1) := by decide +kernel
theorem dX9_fillCovering_10 : decode cX9_fillCovering 10 = .ok (.aload_n 0, 1) := by decide +kernel
theorem dX9_fillCovering_11 : decode cX9_fillCovering 11 = .ok (.getfield 10, 3) := by decide +kernel
theorem dX9_fillCovering_14 : decode cX9_fillCovering 14 = .ok (.getfield 81, 3) := by decide +kernel
theorem dX9_fillCovering_17 : decode cX9_fillCovering 17 = .ok (.if_icmp .ge 83, 3) := by decide +kernel
theorem dX9_fillCovering_20 : decode cX9_fillCovering 20 = .ok (.aload_n 0, 1) := by decide +kernel
theorem dX9_fillCovering_21 : decode cX9_fillCovering 21 = .ok (.getfield 10, 3) := by decide +kernel
theorem dX9_fillCovering_24 : decode cX9_fillCovering 24 = .ok (.getfield 96, 3) := by decide +kernel
theorem dX9_fillCovering_27 : decode cX9_fillCovering 27 = .ok (.iload_n 2, 1) := by decide +kernel
theorem dX9_fillCovering_28 : decode cX9_fillCovering 28 = .ok (.iaload, 1) := by decide +kernel
theorem dX9_fillCovering_29 : decode cX9_fillCovering 29 = .ok (.iload_n 1, 1) := by decide +kernel
theorem dX9_fillCovering_30 : decode cX9_fillCovering 30 = .ok (.if_icmp .ne 64, 3) := by decide +kernel
theorem dX9_fillCovering_33 : decode cX9_fillCovering 33 = .ok (.aload_n 0, 1) := by decide +kernel
theorem dX9_fillCovering_34 : decode cX9_fillCovering 34 = .ok (.getfield 10, 3) := by decide +kernel
theorem dX9_fillCovering_37 : decode cX9_fillCovering 37 = .ok (.getfield 195, 3) := by decide +kernel
theorem dX9_fillCovering_40 : decode cX9_fillCovering 40 = .ok (.iload_n 2, 1) := by decide +kernel
theorem dX9_fillCovering_41 : decode cX9_fillCovering 41 = .ok (.iaload, 1) := by decide +kernel
theorem dX9_fillCovering_42 : decode cX9_fillCovering 42 = .ok (.iconst (-1), 1) := by decide +kernel
theorem dX9_fillCovering_43 : decode cX9_fillCovering 43 = .ok (.if_icmp .ne 20, 3) := by decide +kernel
theorem dX9_fillCovering_46 : decode cX9_fillCovering 46 = .ok (.aload_n 0, 1) := by decide +kernel
theorem dX9_fillCovering_47 : decode cX9_fillCovering 47 = .ok (.getfield 10, 3) := by decide +kernel
theorem dX9_fillCovering_50 : decode cX9_fillCovering 50 = .ok (.getfield 100, 3) := by decide +kernel
theorem dX9_fillCovering_53 : decode cX9_fillCovering 53 = .ok (.iload_n 2, 1) := by decide +kernel
theorem dX9_fillCovering_54 : decode cX9_fillCovering 54 = .ok (.laload, 1) := by decide +kernel
theorem dX9_fillCovering_55 : decode cX9_fillCovering 55 = .ok (.lconst 0, 1) := by decide +kernel
theorem dX9_fillCovering_56 : decode cX9_fillCovering 56 = .ok (.lcmp, 1) := by decide +kernel
theorem dX9_fillCovering_57 : decode cX9_fillCovering 57 = .ok (.ifCond .eq 6, 3) := by decide +kernel
theorem dX9_fillCovering_60 : decode cX9_fillCovering 60 = .ok (.goto 34, 3) := by decide +kernel
theorem dX9_fillCovering_63 : decode cX9_fillCovering 63 = .ok (.aload_n 0, 1) := by decide +kernel
theorem dX9_fillCovering_64 : decode cX9_fillCovering 64 = .ok (.getfield 65, 3) := by decide +kernel
theorem dX9_fillCovering_67 : decode cX9_fillCovering 67 = .ok (.getfield 345, 3) := by decide +kernel
theorem dX9_fillCovering_70 : decode cX9_fillCovering 70 = .ok (.bipush 12, 2) := by decide +kernel
theorem dX9_fillCovering_72 : decode cX9_fillCovering 72 = .ok (.if_icmp .lt 5, 3) := by decide +kernel
theorem dX9_fillCovering_75 : decode cX9_fillCovering 75 = .ok (.iconst 0, 1) := by decide +kernel
theorem dX9_fillCovering_76 : decode cX9_fillCovering 76 = .ok (.ireturn, 1) := by decide +kernel
theorem dX9_fillCovering_77 : decode cX9_fillCovering 77 = .ok (.aload_n 0, 1) := by decide +kernel
theorem dX9_fillCovering_78 : decode cX9_fillCovering 78 = .ok (.getfield 65, 3) := by decide +kernel
theorem dX9_fillCovering_81 : decode cX9_fillCovering 81 = .ok (.iload_n 2, 1) := by decide +kernel
theorem dX9_fillCovering_82 : decode cX9_fillCovering 82 = .ok (.aload_n 0, 1) := by decide +kernel
theorem dX9_fillCovering_83 : decode cX9_fillCovering 83 = .ok (.getfield 10, 3) := by decide +kernel
theorem dX9_fillCovering_86 : decode cX9_fillCovering 86 = .ok (.getfield 224, 3) := by decide +kernel
theorem dX9_fillCovering_89 : decode cX9_fillCovering 89 = .ok (.iload_n 2, 1) := by decide +kernel
theorem dX9_fillCovering_90 : decode cX9_fillCovering 90 = .ok (.laload, 1) := by decide +kernel
theorem dX9_fillCovering_91 : decode cX9_fillCovering 91 = .ok (.invokevirtual 346, 3) := by decide +kernel
theorem dX9_fillCovering_94 : decode cX9_fillCovering 94 = .ok (.iinc 2 1, 3) := by decide +kernel
theorem dX9_fillCovering_97 : decode cX9_fillCovering 97 = .ok (.goto (-88), 3) := by decide +kernel
theorem dX9_fillCovering_100 : decode cX9_fillCovering 100 = .ok (.iconst 1, 1) := by decide +kernel
theorem dX9_fillCovering_101 : decode cX9_fillCovering 101 = .ok (.ireturn, 1) := by decide +kernel
def wX9_fillCovering (I : Nat → Int32) (L : Nat → Int64) (A : Nat → Nat → Int32) (B : Nat → Nat → Int64) (x1 : Int32) (post : Int32 → (Nat → Int32) → (Nat → Nat → Int32) → (Nat → Nat → Int64) → Prop) : Prop := wX1_clear I L A B  (fun I_1 => ∃ n, lfix (fun (r : (Int32 × (Nat → Int32) × (Nat → Nat → Int32) × (Nat → Nat → Int64)) → Prop) (v2, I_2, A_1, B_1) => if (I_2 1) ≤ v2 then (post 1 I_2 A_1 B_1) else (vp_in v2 40 ∧ (if (A_1 36 v2.toNatClampNeg) = x1 then (vp_in v2 40 ∧ (jn (fun (_ : Unit) => if (I_2 6) < 12 then (vp_in v2 40 ∧ (wX1_put I_2 L A_1 B_1 v2 (B_1 40 v2.toNatClampNeg) (fun I_3 A_2 B_2 => ∀ v2_2 : Int32, v2_2 = v2 + 1 → r (v2_2, I_3, A_2, B_2)))) else (post 0 I_2 A_1 B_1)) (fun k => if (A_1 37 v2.toNatClampNeg) = (-1) then (vp_in v2 40 ∧ (if (lg_cmp (B_1 38 v2.toNatClampNeg) 0) = 0 then (k ()) else (∀ v2_3 : Int32, v2_3 = v2 + 1 → r (v2_3, I_2, A_1, B_1)))) else (k ())))) else (∀ v2_1 : Int32, v2_1 = v2 + 1 → r (v2_1, I_2, A_1, B_1))))) n (0, I_1, A, B))
abbrev rmX9_fillCovering : Room := { frames := 1, cells := 0, slots := 0, locals := 23 }
theorem wd_X9_fillCovering : Cond.instanceMethod yX9_fillCovering ∈ BW ∧ Cond.selects yX9_fillCovering.cls yX9_fillCovering yX9_fillCovering ∈ BW ∧ Cond.initialized yX9_fillCovering.cls ∈ BW ∧ Cond.code yX9_fillCovering cX9_fillCovering 3 (some .boolean) ∈ BW := ⟨mw_3_210, mp_15, mw_1_1, mw_3_211⟩
set_option maxHeartbeats 4000000 in
set_option maxRecDepth 100000 in
theorem c_X9_fillCovering {l : Launch} {D : va_G} {cy : Nat → ClassId} {ad : Nat → Nat} {Ad : Nat → Prop} (hAd : adok 103 Ad ad) (I : Nat → Int32) (L : Nat → Int64) (A : Nat → Nat → Int32) (B : Nat → Nat → Int64) (x1 : Int32)  (post : Int32 → (Nat → Int32) → (Nat → Nat → Int32) → (Nat → Nat → Int64) → Prop) (h : wX9_fillCovering I L A B x1 post) : Met l yX9_fillCovering (.code yX9_fillCovering cX9_fillCovering 3 (some .boolean) :: BW) rmX9_fillCovering (va_Pc [.ref (ad 0), .int x1] (fun U => kC D cy U ∧ va_P D vwCl (wC cy ad I L A B) U.heap)) (qCi D cy ad Ad (fun r u => post r u.1 u.2.2.1 u.2.2.2 ∧ L = u.2.1)) 0 0 Ad := by
  refine startCz (by decide) (Nat.le_of_ble_eq_true rfl) (lv := [(0, .ref (ad 0)), (1, .int x1)]) rfl (fun p e s m args below meth c Q ls hx hb hml hT hown hK hret hl hP hS => ?_)
  unfold wX9_fillCovering at h
  refine lv_aload_n hx hb dX9_fillCovering_0 rfl (lv_at hl 0 rfl) ?_
  refine va_get (T := TX9) hx hb hT inlX9 hown hK.1 hP 0 he_X9 rfl 7 (by decide) (hT _ mw_2_14) (fun _ h9 => h9) rfl dX9_fillCovering_1 ?_
  refine callCv (k := 6) (As := []) (rest := []) (n := 0) (c_X1_clear hAd I L A B  _ h) hx hb hT hown hK hP hS mw_3_212 wd_X1_clear (by decide +kernel) ⟨rfl, rfl⟩ (by decide) rfl rfl he_X1 rfl hl.1 hml rfl (Nat.le_of_ble_eq_true rfl) dX9_fillCovering_4 ⟨Nat.zero_le _, Nat.zero_le _⟩ (fun u H locs h hP hS => ?_)
  obtain ⟨I_1, Lu, Au, Bu⟩ := u
  dsimp only at h hP
  obtain ⟨h, rfl, rfl, rfl⟩ := h
  try dsimp only at h
  refine lv_iconst (v := 0) hx hb dX9_fillCovering_7 (by decide) ?_
  refine lv_istore_n (lv' := [(2, .int 0), (0, .ref (ad 0)), (1, .int x1)]) hx hb dX9_fillCovering_8 rfl hl (by decide) rfl (fun ls hl => ?_)
  obtain ⟨F, n, h, hF, hG⟩ := lfix_ex h
  have LP : ∀ (n : Nat) (v2 : Int32) (I_2 : Nat → Int32) (A_1 : Nat → Nat → Int32) (B_1 : Nat → Nat → Int64) (ls : Array Slot) (H : Heap) (locs : List Loc), F n (v2, I_2, A_1, B_1) → lv_has ls 3 [(2, .int v2), (0, .ref (ad 0)), (1, .int x1)] → va_P D vwCl (wC cy ad I_2 L A_1 B_1) H → va_S Ad s.heap H locs → W p l e rmX9_fillCovering s m args below meth c H locs 0 0 Q (F0 m 9 ls []) := by
    intro n
    induction n with
    | zero => intro v2 I_2 A_1 B_1 ls H locs h _ _ _; exact absurd h (hF _)
    | succ n ih =>
      intro v2 I_2 A_1 B_1 ls H locs h hl hP hS
      replace h := hG _ _ h
      try dsimp only at h
      refine lv_iload_n hx hb dX9_fillCovering_9 rfl (lv_at hl 0 rfl) ?_
      refine lv_aload_n hx hb dX9_fillCovering_10 rfl (lv_at hl 1 rfl) ?_
      refine va_get (T := TX9) hx hb hT inlX9 hown hK.1 hP 0 he_X9 rfl 0 (by decide) (hT _ mw_2_7) (fun _ h9 => h9) rfl dX9_fillCovering_11 ?_
      refine va_get (T := TX2) hx hb hT inlX2 hown hK.1 hP 1 he_X2 rfl 5 (by decide) (hT _ mw_1_46) (fun _ h9 => h9) rfl dX9_fillCovering_14 ?_
      refine lv_icmp_ge (tgt := 100) hx hb dX9_fillCovering_17 (by decide) (fun hc => ?_) (fun hc => ?_)
      · rw [if_pos hc] at h
        refine lv_iconst (v := 1) hx hb dX9_fillCovering_100 (by decide) ?_
        exact hret _ (I_2, L, A_1, B_1) zb_1 dX9_fillCovering_101 ⟨h, rfl⟩ hP hS
      · rw [if_neg hc] at h
        refine lv_aload_n hx hb dX9_fillCovering_20 rfl (lv_at hl 1 rfl) ?_
        refine va_get (T := TX9) hx hb hT inlX9 hown hK.1 hP 0 he_X9 rfl 0 (by decide) (hT _ mw_2_7) (fun _ h9 => h9) rfl dX9_fillCovering_21 ?_
        refine va_get (T := TX2) hx hb hT inlX2 hown hK.1 hP 1 he_X2 rfl 0 (by decide) (hT _ mw_1_34) (fun _ h9 => h9) rfl dX9_fillCovering_24 ?_
        refine lv_iload_n hx hb dX9_fillCovering_27 rfl (lv_at hl 0 rfl) ?_
        obtain ⟨hi, h⟩ := h
        refine lC_I hx hb hK.1 hP (by decide) rfl hi dX9_fillCovering_28 ?_
        refine lv_iload_n hx hb dX9_fillCovering_29 rfl (lv_at hl 2 rfl) ?_
        refine lv_icmp_ne (tgt := 94) hx hb dX9_fillCovering_30 (by decide) (fun hc_1 => ?_) (fun hc_1 => ?_)
        · rw [if_neg hc_1] at h
          obtain ⟨v2_1, ev2_1⟩ : ∃ z : Int32, z = v2 + 1 := ⟨_, rfl⟩
          replace h := h v2_1 ev2_1
          refine lv_iinc (v := v2_1) (lv' := [(2, .int v2_1), (0, .ref (ad 0)), (1, .int x1)]) hx hb dX9_fillCovering_94 hl (k := 0) rfl (by rw [ev2_1]; rfl) (by decide) rfl (fun ls hl => ?_)
          refine lv_goto (tgt := 9) hx hb dX9_fillCovering_97 (by decide) ?_
          exact ih v2_1 I_2 A_1 B_1 _ _ _ h (lv_sub hl [0, 1, 2] rfl) hP hS
        · rw [if_pos hc_1] at h
          refine lv_aload_n hx hb dX9_fillCovering_33 rfl (lv_at hl 1 rfl) ?_
          refine va_get (T := TX9) hx hb hT inlX9 hown hK.1 hP 0 he_X9 rfl 0 (by decide) (hT _ mw_2_7) (fun _ h9 => h9) rfl dX9_fillCovering_34 ?_
          refine va_get (T := TX2) hx hb hT inlX2 hown hK.1 hP 1 he_X2 rfl 1 (by decide) (hT _ mw_1_37) (fun _ h9 => h9) rfl dX9_fillCovering_37 ?_
          refine lv_iload_n hx hb dX9_fillCovering_40 rfl (lv_at hl 0 rfl) ?_
          obtain ⟨hi_1, h⟩ := h
          refine lC_I hx hb hK.1 hP (by decide) rfl hi_1 dX9_fillCovering_41 ?_
          refine lv_iconst (v := (-1)) hx hb dX9_fillCovering_42 (by decide) ?_
          obtain ⟨k, hk, h⟩ := jn_ex h
          try dsimp only at h
          have J : k () → ∀ (ls : Array Slot) (H : Heap) (locs : List Loc), lv_has ls 3 [(2, .int v2), (0, .ref (ad 0)), (1, .int x1)] → va_P D vwCl (wC cy ad I_2 L A_1 B_1) H → va_S Ad s.heap H locs → W p l e rmX9_fillCovering s m args below meth c H locs 0 0 Q (F0 m 63 ls []) := by
            intro  h ls H locs hl hP hS
            replace h := hk _ h
            try dsimp only at h
            refine lv_aload_n hx hb dX9_fillCovering_63 rfl (lv_at hl 1 rfl) ?_
            refine va_get (T := TX9) hx hb hT inlX9 hown hK.1 hP 0 he_X9 rfl 7 (by decide) (hT _ mw_2_14) (fun _ h9 => h9) rfl dX9_fillCovering_64 ?_
            refine va_get (T := TX1) hx hb hT inlX1 hown hK.1 hP 6 he_X1 rfl 4 (by decide) (hT _ mw_1_235) (fun _ h9 => h9) rfl dX9_fillCovering_67 ?_
            refine lv_bipush (v := 12) hx hb dX9_fillCovering_70 (by decide) ?_
            refine lv_icmp_lt (tgt := 77) hx hb dX9_fillCovering_72 (by decide) (fun hc_2 => ?_) (fun hc_2 => ?_)
            · rw [if_pos hc_2] at h
              refine lv_aload_n hx hb dX9_fillCovering_77 rfl (lv_at hl 1 rfl) ?_
              refine va_get (T := TX9) hx hb hT inlX9 hown hK.1 hP 0 he_X9 rfl 7 (by decide) (hT _ mw_2_14) (fun _ h9 => h9) rfl dX9_fillCovering_78 ?_
              refine lv_iload_n hx hb dX9_fillCovering_81 rfl (lv_at hl 0 rfl) ?_
              refine lv_aload_n hx hb dX9_fillCovering_82 rfl (lv_at hl 1 rfl) ?_
              refine va_get (T := TX9) hx hb hT inlX9 hown hK.1 hP 0 he_X9 rfl 0 (by decide) (hT _ mw_2_7) (fun _ h9 => h9) rfl dX9_fillCovering_83 ?_
              refine va_get (T := TX2) hx hb hT inlX2 hown hK.1 hP 1 he_X2 rfl 4 (by decide) (hT _ mw_1_44) (fun _ h9 => h9) rfl dX9_fillCovering_86 ?_
              refine lv_iload_n hx hb dX9_fillCovering_89 rfl (lv_at hl 0 rfl) ?_
              obtain ⟨hi_2, h⟩ := h
              refine lC_J hx hb hK.1 hP (by decide) rfl hi_2 dX9_fillCovering_90 ?_
              refine callCv (k := 6) (As := [.int v2, .long (B_1 40 v2.toNatClampNeg)]) (rest := []) (n := 2) (c_X1_put hAd I_2 L A_1 B_1 v2 (B_1 40 v2.toNatClampNeg) _ h) hx hb hT hown hK hP hS mw_3_216 wd_X1_put (by decide +kernel) ⟨rfl, rfl⟩ (by decide) rfl rfl he_X1 rfl hl.1 hml rfl (Nat.le_of_ble_eq_true rfl) dX9_fillCovering_91 ⟨Nat.zero_le _, Nat.zero_le _⟩ (fun u H locs h hP hS => ?_)
              obtain ⟨I_3, Lu_1, A_2, B_2⟩ := u
              dsimp only at h hP
              obtain ⟨h, rfl⟩ := h
              try dsimp only at h
              obtain ⟨v2_2, ev2_2⟩ : ∃ z : Int32, z = v2 + 1 := ⟨_, rfl⟩
              replace h := h v2_2 ev2_2
              refine lv_iinc (v := v2_2) (lv' := [(2, .int v2_2), (0, .ref (ad 0)), (1, .int x1)]) hx hb dX9_fillCovering_94 hl (k := 0) rfl (by rw [ev2_2]; rfl) (by decide) rfl (fun ls hl => ?_)
              refine lv_goto (tgt := 9) hx hb dX9_fillCovering_97 (by decide) ?_
              exact ih v2_2 I_3 A_2 B_2 _ _ _ h (lv_sub hl [0, 1, 2] rfl) hP hS
            · rw [if_neg hc_2] at h
              refine lv_iconst (v := 0) hx hb dX9_fillCovering_75 (by decide) ?_
              exact hret _ (I_2, L, A_1, B_1) zb_0 dX9_fillCovering_76 ⟨h, rfl⟩ hP hS
          refine lv_icmp_ne (tgt := 63) hx hb dX9_fillCovering_43 (by decide) (fun hc_3 => ?_) (fun hc_3 => ?_)
          · rw [if_neg hc_3] at h
            exact J  h _ _ _ (lv_sub hl [0, 1, 2] rfl) hP hS
          · rw [if_pos hc_3] at h
            refine lv_aload_n hx hb dX9_fillCovering_46 rfl (lv_at hl 1 rfl) ?_
            refine va_get (T := TX9) hx hb hT inlX9 hown hK.1 hP 0 he_X9 rfl 0 (by decide) (hT _ mw_2_7) (fun _ h9 => h9) rfl dX9_fillCovering_47 ?_
            refine va_get (T := TX2) hx hb hT inlX2 hown hK.1 hP 1 he_X2 rfl 2 (by decide) (hT _ mw_1_39) (fun _ h9 => h9) rfl dX9_fillCovering_50 ?_
            refine lv_iload_n hx hb dX9_fillCovering_53 rfl (lv_at hl 0 rfl) ?_
            obtain ⟨hi_3, h⟩ := h
            refine lC_J hx hb hK.1 hP (by decide) rfl hi_3 dX9_fillCovering_54 ?_
            refine lv_lconst (v := 0) hx hb dX9_fillCovering_55 (by decide) ?_
            refine W.lcmp hx hb dX9_fillCovering_56 ?_
            refine lv_if_eq (tgt := 63) hx hb dX9_fillCovering_57 (by decide) (fun hc_4 => ?_) (fun hc_4 => ?_)
            · rw [if_pos hc_4] at h
              exact J  h _ _ _ (lv_sub hl [0, 1, 2] rfl) hP hS
            · rw [if_neg hc_4] at h
              refine lv_goto (tgt := 94) hx hb dX9_fillCovering_60 (by decide) ?_
              obtain ⟨v2_3, ev2_3⟩ : ∃ z : Int32, z = v2 + 1 := ⟨_, rfl⟩
              replace h := h v2_3 ev2_3
              refine lv_iinc (v := v2_3) (lv' := [(2, .int v2_3), (0, .ref (ad 0)), (1, .int x1)]) hx hb dX9_fillCovering_94 hl (k := 0) rfl (by rw [ev2_3]; rfl) (by decide) rfl (fun ls hl => ?_)
              refine lv_goto (tgt := 9) hx hb dX9_fillCovering_97 (by decide) ?_
              exact ih v2_3 I_2 A_1 B_1 _ _ _ h (lv_sub hl [0, 1, 2] rfl) hP hS
  exact LP _ 0 I_1 A B _ _ _ h (lv_sub hl [0, 1, 2] rfl) hP hS
theorem dX9_cover_0 : decode cX9_cover 0 = .ok (.aload_n 0, 1) := by decide +kernel
theorem dX9_cover_1 : decode cX9_cover 1 = .ok (.getfield 28, 3) := by decide +kernel
theorem dX9_cover_4 : decode cX9_cover 4 = .ok (.iload_n 1, 1) := by decide +kernel
theorem dX9_cover_5 : decode cX9_cover 5 = .ok (.invokevirtual 77, 3) := by decide +kernel
theorem dX9_cover_8 : decode cX9_cover 8 = .ok (.ifCond .eq 16, 3) := by decide +kernel
theorem dX9_cover_11 : decode cX9_cover 11 = .ok (.iload_n 2, 1) := by decide +kernel
theorem dX9_cover_12 : decode cX9_cover 12 = .ok (.iconst (-1), 1) := by decide +kernel
theorem dX9_cover_13 : decode cX9_cover 13 = .ok (.if_icmp .lt 11, 3) := by decide +kernel
theorem dX9_cover_16 : decode cX9_cover 16 = .ok (.aload_n 0, 1) := by decide +kernel
theorem dX9_cover_17 : decode cX9_cover 17 = .ok (.iload_n 1, 1) := by decide +kernel
theorem dX9_cover_18 : decode cX9_cover 18 = .ok (.invokevirtual 313, 3) := by decide +kernel
theorem dX9_cover_21 : decode cX9_cover 21 = .ok (.ifCond .ne 5, 3) := by decide +kernel
theorem dX9_cover_24 : decode cX9_cover 24 = .ok (.iconst (-1), 1) := by decide +kernel
theorem dX9_cover_25 : decode cX9_cover 25 = .ok (.ireturn, 1) := by decide +kernel
theorem dX9_cover_26 : decode cX9_cover 26 = .ok (.aload_n 0, 1) := by decide +kernel
theorem dX9_cover_27 : decode cX9_cover 27 = .ok (.getfield 65, 3) := by decide +kernel
theorem dX9_cover_30 : decode cX9_cover 30 = .ok (.aload_n 0, 1) := by decide +kernel
theorem dX9_cover_31 : decode cX9_cover 31 = .ok (.getfield 28, 3) := by decide +kernel
theorem dX9_cover_34 : decode cX9_cover 34 = .ok (.invokevirtual 214, 3) := by decide +kernel
theorem dX9_cover_37 : decode cX9_cover 37 = .ok (.aload_n 0, 1) := by decide +kernel
theorem dX9_cover_38 : decode cX9_cover 38 = .ok (.getfield 28, 3) := by decide +kernel
theorem dX9_cover_41 : decode cX9_cover 41 = .ok (.iload_n 1, 1) := by decide +kernel
theorem dX9_cover_42 : decode cX9_cover 42 = .ok (.invokevirtual 248, 3) := by decide +kernel
theorem dX9_cover_45 : decode cX9_cover 45 = .ok (.ldc2_w 154, 3) := by decide +kernel
theorem dX9_cover_48 : decode cX9_cover 48 = .ok (.lxor, 1) := by decide +kernel
theorem dX9_cover_49 : decode cX9_cover 49 = .ok (.land, 1) := by decide +kernel
theorem dX9_cover_50 : decode cX9_cover 50 = .ok (.invokevirtual 316, 3) := by decide +kernel
theorem dX9_cover_53 : decode cX9_cover 53 = .ok (.istore_n 3, 1) := by decide +kernel
theorem dX9_cover_54 : decode cX9_cover 54 = .ok (.iload_n 2, 1) := by decide +kernel
theorem dX9_cover_55 : decode cX9_cover 55 = .ok (.iconst (-1), 1) := by decide +kernel
theorem dX9_cover_56 : decode cX9_cover 56 = .ok (.if_icmp .ne 5, 3) := by decide +kernel
theorem dX9_cover_59 : decode cX9_cover 59 = .ok (.iload_n 3, 1) := by decide +kernel
theorem dX9_cover_60 : decode cX9_cover 60 = .ok (.ireturn, 1) := by decide +kernel
theorem dX9_cover_61 : decode cX9_cover 61 = .ok (.iload_n 2, 1) := by decide +kernel
theorem dX9_cover_62 : decode cX9_cover 62 = .ok (.iload_n 3, 1) := by decide +kernel
theorem dX9_cover_63 : decode cX9_cover 63 = .ok (.if_icmp .ge 15, 3) := by decide +kernel
theorem dX9_cover_66 : decode cX9_cover 66 = .ok (.aload_n 0, 1) := by decide +kernel
theorem dX9_cover_67 : decode cX9_cover 67 = .ok (.getfield 65, 3) := by decide +kernel
theorem dX9_cover_70 : decode cX9_cover 70 = .ok (.getfield 319, 3) := by decide +kernel
theorem dX9_cover_73 : decode cX9_cover 73 = .ok (.iload_n 2, 1) := by decide +kernel
theorem dX9_cover_74 : decode cX9_cover 74 = .ok (.iaload, 1) := by decide +kernel
theorem dX9_cover_75 : decode cX9_cover 75 = .ok (.goto 4, 3) := by decide +kernel
theorem dX9_cover_78 : decode cX9_cover 78 = .ok (.iconst (-1), 1) := by decide +kernel
theorem dX9_cover_79 : decode cX9_cover 79 = .ok (.ireturn, 1) := by decide +kernel
def wX9_cover (I : Nat → Int32) (L : Nat → Int64) (A : Nat → Nat → Int32) (B : Nat → Nat → Int64) (x1 : Int32) (x2 : Int32) (post : Int32 → (Nat → Int32) → (Nat → Nat → Int32) → (Nat → Nat → Int64) → Prop) : Prop := wX7_isTree I L A B x1 (fun r5 => if r5 = 0 then (post (-1) I A B) else (if x2 < (-1) then (post (-1) I A B) else (wX9_fillCovering I L A B x1 (fun r18 I_1 A_1 B_1 => if r18 = 0 then (post (-1) I_1 A_1 B_1) else (wX7_hits I_1 L A_1 B_1  (fun r34 => wX7_absentOn I_1 L A_1 B_1 x1 (fun r42 => wX1_solve I_1 L A_1 B_1 (r34 &&& (r42 ^^^ (-1))) (fun r50 A_2 B_2 => if x2 = (-1) then (post r50 I_1 A_2 B_2) else (if r50 ≤ x2 then (post (-1) I_1 A_2 B_2) else (vp_in x2 12 ∧ (post (A_2 53 x2.toNatClampNeg) I_1 A_2 B_2)))))))))))
abbrev rmX9_cover : Room := { frames := 16, cells := 0, slots := 0, locals := 413 }
theorem wd_X9_cover : Cond.instanceMethod yX9_cover ∈ BW ∧ Cond.selects yX9_cover.cls yX9_cover yX9_cover ∈ BW ∧ Cond.initialized yX9_cover.cls ∈ BW ∧ Cond.code yX9_cover cX9_cover 4 (some .int) ∈ BW := ⟨mw_3_205, mw_3_206, mw_1_1, mw_3_207⟩
set_option maxHeartbeats 4000000 in
set_option maxRecDepth 100000 in
theorem c_X9_cover {l : Launch} {D : va_G} {cy : Nat → ClassId} {ad : Nat → Nat} {Ad : Nat → Prop} (hAd : adok 103 Ad ad) (I : Nat → Int32) (L : Nat → Int64) (A : Nat → Nat → Int32) (B : Nat → Nat → Int64) (x1 : Int32) (x2 : Int32)  (post : Int32 → (Nat → Int32) → (Nat → Nat → Int32) → (Nat → Nat → Int64) → Prop) (h : wX9_cover I L A B x1 x2 post) : Met l yX9_cover (.code yX9_cover cX9_cover 4 (some .int) :: BW) rmX9_cover (va_Pc [.ref (ad 0), .int x1, .int x2] (fun U => kC D cy U ∧ va_P D vwCl (wC cy ad I L A B) U.heap)) (qCi D cy ad Ad (fun r u => post r u.1 u.2.2.1 u.2.2.2 ∧ L = u.2.1)) 0 0 Ad := by
  refine startCi (by decide) (Nat.le_of_ble_eq_true rfl) (lv := [(0, .ref (ad 0)), (1, .int x1), (2, .int x2)]) rfl (fun p e s m args below meth c Q ls hx hb hml hT hown hK hret hl hP hS => ?_)
  unfold wX9_cover at h
  refine lv_aload_n hx hb dX9_cover_0 rfl (lv_at hl 0 rfl) ?_
  refine va_get (T := TX9) hx hb hT inlX9 hown hK.1 hP 0 he_X9 rfl 2 (by decide) (hT _ mw_2_9) (fun _ h9 => h9) rfl dX9_cover_1 ?_
  refine lv_iload_n hx hb dX9_cover_4 rfl (lv_at hl 1 rfl) ?_
  refine callCi (k := 3) (As := [.int x1]) (rest := []) (n := 1) (c_X7_isTree hAd I L A B x1 _ h) hx hb hT hown hK hP hS mw_2_89 wd_X7_isTree (by decide +kernel) ⟨rfl, rfl⟩ (by decide) rfl rfl he_X7 rfl hl.1 hml rfl (Nat.le_of_ble_eq_true rfl) dX9_cover_5 ⟨Nat.zero_le _, Nat.zero_le _⟩ (fun r5 u H locs h hP hS => ?_)
  obtain ⟨Iu, Lu, Au, Bu⟩ := u
  dsimp only at h hP
  obtain ⟨h, rfl, rfl, rfl, rfl⟩ := h
  try dsimp only at h
  refine lv_if_eq (tgt := 24) hx hb dX9_cover_8 (by decide) (fun hc => ?_) (fun hc => ?_)
  · rw [if_pos hc] at h
    refine lv_iconst (v := (-1)) hx hb dX9_cover_24 (by decide) ?_
    exact hret _ (I, L, A, B) dX9_cover_25 ⟨h, rfl⟩ hP hS
  · rw [if_neg hc] at h
    refine lv_iload_n hx hb dX9_cover_11 rfl (lv_at hl 2 rfl) ?_
    refine lv_iconst (v := (-1)) hx hb dX9_cover_12 (by decide) ?_
    refine lv_icmp_lt (tgt := 24) hx hb dX9_cover_13 (by decide) (fun hc_1 => ?_) (fun hc_1 => ?_)
    · rw [if_pos hc_1] at h
      refine lv_iconst (v := (-1)) hx hb dX9_cover_24 (by decide) ?_
      exact hret _ (I, L, A, B) dX9_cover_25 ⟨h, rfl⟩ hP hS
    · rw [if_neg hc_1] at h
      refine lv_aload_n hx hb dX9_cover_16 rfl (lv_at hl 0 rfl) ?_
      refine lv_iload_n hx hb dX9_cover_17 rfl (lv_at hl 1 rfl) ?_
      refine callCi (k := 0) (As := [.int x1]) (rest := []) (n := 1) (c_X9_fillCovering hAd I L A B x1 _ h) hx hb hT hown hK hP hS mw_3_208 wd_X9_fillCovering (by decide +kernel) ⟨rfl, rfl⟩ (by decide) rfl rfl he_X9 rfl hl.1 hml rfl (Nat.le_of_ble_eq_true rfl) dX9_cover_18 ⟨Nat.zero_le _, Nat.zero_le _⟩ (fun r18 u H locs h hP hS => ?_)
      obtain ⟨I_1, Lu_1, A_1, B_1⟩ := u
      dsimp only at h hP
      obtain ⟨h, rfl⟩ := h
      try dsimp only at h
      refine lv_if_ne (tgt := 26) hx hb dX9_cover_21 (by decide) (fun hc_2 => ?_) (fun hc_2 => ?_)
      · rw [if_neg hc_2] at h
        refine lv_aload_n hx hb dX9_cover_26 rfl (lv_at hl 0 rfl) ?_
        refine va_get (T := TX9) hx hb hT inlX9 hown hK.1 hP 0 he_X9 rfl 7 (by decide) (hT _ mw_2_14) (fun _ h9 => h9) rfl dX9_cover_27 ?_
        refine lv_aload_n hx hb dX9_cover_30 rfl (lv_at hl 0 rfl) ?_
        refine va_get (T := TX9) hx hb hT inlX9 hown hK.1 hP 0 he_X9 rfl 2 (by decide) (hT _ mw_2_9) (fun _ h9 => h9) rfl dX9_cover_31 ?_
        refine callCl (k := 3) (As := []) (rest := [.ref (ad 6)]) (n := 0) (c_X7_hits hAd I_1 L A_1 B_1  _ h) hx hb hT hown hK hP hS mw_3_51 wd_X7_hits (by decide +kernel) ⟨rfl, rfl⟩ (by decide) rfl rfl he_X7 rfl hl.1 hml rfl (Nat.le_of_ble_eq_true rfl) dX9_cover_34 ⟨Nat.zero_le _, Nat.zero_le _⟩ (fun r34 u H locs h hP hS => ?_)
        obtain ⟨Iu_1, Lu_2, Au_1, Bu_1⟩ := u
        dsimp only at h hP
        obtain ⟨h, rfl, rfl, rfl, rfl⟩ := h
        try dsimp only at h
        refine lv_aload_n hx hb dX9_cover_37 rfl (lv_at hl 0 rfl) ?_
        refine va_get (T := TX9) hx hb hT inlX9 hown hK.1 hP 0 he_X9 rfl 2 (by decide) (hT _ mw_2_9) (fun _ h9 => h9) rfl dX9_cover_38 ?_
        refine lv_iload_n hx hb dX9_cover_41 rfl (lv_at hl 1 rfl) ?_
        refine callCl (k := 3) (As := [.int x1]) (rest := [.long r34, .ref (ad 6)]) (n := 1) (c_X7_absentOn hAd I_1 L A_1 B_1 x1 _ h) hx hb hT hown hK hP hS mw_3_96 wd_X7_absentOn (by decide +kernel) ⟨rfl, rfl⟩ (by decide) rfl rfl he_X7 rfl hl.1 hml rfl (Nat.le_of_ble_eq_true rfl) dX9_cover_42 ⟨Nat.zero_le _, Nat.zero_le _⟩ (fun r42 u H locs h hP hS => ?_)
        obtain ⟨Iu_2, Lu_3, Au_2, Bu_2⟩ := u
        dsimp only at h hP
        obtain ⟨h, rfl, rfl, rfl, rfl⟩ := h
        try dsimp only at h
        refine lv_ldc2 (v := (-1)) hx hb hown (hT _ mw_2_204) dX9_cover_45 ?_
        refine lv_lxor hx hb dX9_cover_48 ?_
        refine lv_land hx hb dX9_cover_49 ?_
        refine callCi (k := 6) (As := [.long (r34 &&& (r42 ^^^ (-1)))]) (rest := []) (n := 1) (c_X1_solve hAd I_1 L A_1 B_1 (r34 &&& (r42 ^^^ (-1))) _ h) hx hb hT hown hK hP hS mw_3_220 wd_X1_solve (by decide +kernel) ⟨rfl, rfl⟩ (by decide) rfl rfl he_X1 rfl hl.1 hml rfl (Nat.le_of_ble_eq_true rfl) dX9_cover_50 ⟨Nat.zero_le _, Nat.zero_le _⟩ (fun r50 u H locs h hP hS => ?_)
        obtain ⟨Iu_3, Lu_4, A_2, B_2⟩ := u
        dsimp only at h hP
        obtain ⟨h, rfl, rfl⟩ := h
        try dsimp only at h
        refine lv_istore_n (lv' := [(3, .int r50), (0, .ref (ad 0)), (1, .int x1), (2, .int x2)]) hx hb dX9_cover_53 rfl hl (by decide) rfl (fun ls hl => ?_)
        refine lv_iload_n hx hb dX9_cover_54 rfl (lv_at hl 3 rfl) ?_
        refine lv_iconst (v := (-1)) hx hb dX9_cover_55 (by decide) ?_
        refine lv_icmp_ne (tgt := 61) hx hb dX9_cover_56 (by decide) (fun hc_3 => ?_) (fun hc_3 => ?_)
        · rw [if_neg hc_3] at h
          refine lv_iload_n hx hb dX9_cover_61 rfl (lv_at hl 3 rfl) ?_
          refine lv_iload_n hx hb dX9_cover_62 rfl (lv_at hl 0 rfl) ?_
          refine lv_icmp_ge (tgt := 78) hx hb dX9_cover_63 (by decide) (fun hc_4 => ?_) (fun hc_4 => ?_)
          · rw [if_pos hc_4] at h
            refine lv_iconst (v := (-1)) hx hb dX9_cover_78 (by decide) ?_
            exact hret _ (I_1, L, A_2, B_2) dX9_cover_79 ⟨h, rfl⟩ hP hS
          · rw [if_neg hc_4] at h
            refine lv_aload_n hx hb dX9_cover_66 rfl (lv_at hl 1 rfl) ?_
            refine va_get (T := TX9) hx hb hT inlX9 hown hK.1 hP 0 he_X9 rfl 7 (by decide) (hT _ mw_2_14) (fun _ h9 => h9) rfl dX9_cover_67 ?_
            refine va_get (T := TX1) hx hb hT inlX1 hown hK.1 hP 6 he_X1 rfl 3 (by decide) (hT _ mw_1_233) (fun _ h9 => h9) rfl dX9_cover_70 ?_
            refine lv_iload_n hx hb dX9_cover_73 rfl (lv_at hl 3 rfl) ?_
            obtain ⟨hi, h⟩ := h
            refine lC_I hx hb hK.1 hP (by decide) rfl hi dX9_cover_74 ?_
            refine lv_goto (tgt := 79) hx hb dX9_cover_75 (by decide) ?_
            exact hret _ (I_1, L, A_2, B_2) dX9_cover_79 ⟨h, rfl⟩ hP hS
        · rw [if_pos hc_3] at h
          refine lv_iload_n hx hb dX9_cover_59 rfl (lv_at hl 0 rfl) ?_
          exact hret _ (I_1, L, A_2, B_2) dX9_cover_60 ⟨h, rfl⟩ hP hS
      · rw [if_pos hc_2] at h
        refine lv_iconst (v := (-1)) hx hb dX9_cover_24 (by decide) ?_
        exact hret _ (I_1, L, A_1, B_1) dX9_cover_25 ⟨h, rfl⟩ hP hS
theorem dX9_both_0 : decode cX9_both 0 = .ok (.aload_n 0, 1) := by decide +kernel
theorem dX9_both_1 : decode cX9_both 1 = .ok (.getfield 10, 3) := by decide +kernel
theorem dX9_both_4 : decode cX9_both 4 = .ok (.iload_n 1, 1) := by decide +kernel
theorem dX9_both_5 : decode cX9_both 5 = .ok (.invokevirtual 93, 3) := by decide +kernel
theorem dX9_both_8 : decode cX9_both 8 = .ok (.ifCond .eq 14, 3) := by decide +kernel
theorem dX9_both_11 : decode cX9_both 11 = .ok (.aload_n 0, 1) := by decide +kernel
theorem dX9_both_12 : decode cX9_both 12 = .ok (.getfield 10, 3) := by decide +kernel
theorem dX9_both_15 : decode cX9_both 15 = .ok (.iload_n 2, 1) := by decide +kernel
theorem dX9_both_16 : decode cX9_both 16 = .ok (.invokevirtual 93, 3) := by decide +kernel
theorem dX9_both_19 : decode cX9_both 19 = .ok (.ifCond .ne 5, 3) := by decide +kernel
theorem dX9_both_22 : decode cX9_both 22 = .ok (.iconst (-1), 1) := by decide +kernel
theorem dX9_both_23 : decode cX9_both 23 = .ok (.ireturn, 1) := by decide +kernel
theorem dX9_both_24 : decode cX9_both 24 = .ok (.aload_n 0, 1) := by decide +kernel
theorem dX9_both_25 : decode cX9_both 25 = .ok (.getfield 28, 3) := by decide +kernel
theorem dX9_both_28 : decode cX9_both 28 = .ok (.invokevirtual 214, 3) := by decide +kernel
theorem dX9_both_31 : decode cX9_both 31 = .ok (.aload_n 0, 1) := by decide +kernel
theorem dX9_both_32 : decode cX9_both 32 = .ok (.getfield 10, 3) := by decide +kernel
theorem dX9_both_35 : decode cX9_both 35 = .ok (.getfield 224, 3) := by decide +kernel
theorem dX9_both_38 : decode cX9_both 38 = .ok (.iload_n 1, 1) := by decide +kernel
theorem dX9_both_39 : decode cX9_both 39 = .ok (.laload, 1) := by decide +kernel
theorem dX9_both_40 : decode cX9_both 40 = .ok (.land, 1) := by decide +kernel
theorem dX9_both_41 : decode cX9_both 41 = .ok (.aload_n 0, 1) := by decide +kernel
theorem dX9_both_42 : decode cX9_both 42 = .ok (.getfield 10, 3) := by decide +kernel
theorem dX9_both_45 : decode cX9_both 45 = .ok (.getfield 224, 3) := by decide +kernel
theorem dX9_both_48 : decode cX9_both 48 = .ok (.iload_n 2, 1) := by decide +kernel
theorem dX9_both_49 : decode cX9_both 49 = .ok (.laload, 1) := by decide +kernel
theorem dX9_both_50 : decode cX9_both 50 = .ok (.land, 1) := by decide +kernel
theorem dX9_both_51 : decode cX9_both 51 = .ok (.invokestatic 201, 3) := by decide +kernel
theorem dX9_both_54 : decode cX9_both 54 = .ok (.ireturn, 1) := by decide +kernel
def wX9_both (I : Nat → Int32) (L : Nat → Int64) (A : Nat → Nat → Int32) (B : Nat → Nat → Int64) (x1 : Int32) (x2 : Int32) (post : Int32 → Prop) : Prop := wX2_knows I L A B x1 (fun r5 => if r5 = 0 then (post (-1)) else (wX2_knows I L A B x2 (fun r16 => if r16 = 0 then (post (-1)) else (wX7_hits I L A B  (fun r28 => vp_in x1 40 ∧ (vp_in x2 40 ∧ (wJ13_bitCount_95d88 ((r28 &&& (B 40 x1.toNatClampNeg)) &&& (B 40 x2.toNatClampNeg)) (fun r51 => post r51))))))))
abbrev rmX9_both : Room := { frames := 2, cells := 0, slots := 0, locals := 45 }
theorem wd_X9_both : Cond.instanceMethod yX9_both ∈ BW ∧ Cond.selects yX9_both.cls yX9_both yX9_both ∈ BW ∧ Cond.initialized yX9_both.cls ∈ BW ∧ Cond.code yX9_both cX9_both 3 (some .int) ∈ BW := ⟨mw_3_230, mw_3_231, mw_1_1, mw_3_232⟩
set_option maxHeartbeats 4000000 in
set_option maxRecDepth 100000 in
theorem c_X9_both {l : Launch} {D : va_G} {cy : Nat → ClassId} {ad : Nat → Nat} {Ad : Nat → Prop} (hAd : adok 103 Ad ad) (I : Nat → Int32) (L : Nat → Int64) (A : Nat → Nat → Int32) (B : Nat → Nat → Int64) (x1 : Int32) (x2 : Int32)  (post : Int32 → Prop) (h : wX9_both I L A B x1 x2 post) : Met l yX9_both (.code yX9_both cX9_both 3 (some .int) :: BW) rmX9_both (va_Pc [.ref (ad 0), .int x1, .int x2] (fun U => kC D cy U ∧ va_P D vwCl (wC cy ad I L A B) U.heap)) (qCi D cy ad Ad (fun r u => post r  ∧ I = u.1 ∧ L = u.2.1 ∧ A = u.2.2.1 ∧ B = u.2.2.2)) 0 0 Ad := by
  refine startCi (by decide) (Nat.le_of_ble_eq_true rfl) (lv := [(0, .ref (ad 0)), (1, .int x1), (2, .int x2)]) rfl (fun p e s m args below meth c Q ls hx hb hml hT hown hK hret hl hP hS => ?_)
  unfold wX9_both at h
  refine lv_aload_n hx hb dX9_both_0 rfl (lv_at hl 0 rfl) ?_
  refine va_get (T := TX9) hx hb hT inlX9 hown hK.1 hP 0 he_X9 rfl 0 (by decide) (hT _ mw_2_7) (fun _ h9 => h9) rfl dX9_both_1 ?_
  refine lv_iload_n hx hb dX9_both_4 rfl (lv_at hl 1 rfl) ?_
  refine callCi (k := 1) (As := [.int x1]) (rest := []) (n := 1) (c_X2_knows hAd I L A B x1 _ h) hx hb hT hown hK hP hS mw_2_101 wd_X2_knows (by decide +kernel) ⟨rfl, rfl⟩ (by decide) rfl rfl he_X2 rfl hl.1 hml rfl (Nat.le_of_ble_eq_true rfl) dX9_both_5 ⟨Nat.zero_le _, Nat.zero_le _⟩ (fun r5 u H locs h hP hS => ?_)
  obtain ⟨Iu, Lu, Au, Bu⟩ := u
  dsimp only at h hP
  obtain ⟨h, rfl, rfl, rfl, rfl⟩ := h
  try dsimp only at h
  refine lv_if_eq (tgt := 22) hx hb dX9_both_8 (by decide) (fun hc => ?_) (fun hc => ?_)
  · rw [if_pos hc] at h
    refine lv_iconst (v := (-1)) hx hb dX9_both_22 (by decide) ?_
    exact hret _ (I, L, A, B) dX9_both_23 ⟨h, rfl, rfl, rfl, rfl⟩ hP hS
  · rw [if_neg hc] at h
    refine lv_aload_n hx hb dX9_both_11 rfl (lv_at hl 0 rfl) ?_
    refine va_get (T := TX9) hx hb hT inlX9 hown hK.1 hP 0 he_X9 rfl 0 (by decide) (hT _ mw_2_7) (fun _ h9 => h9) rfl dX9_both_12 ?_
    refine lv_iload_n hx hb dX9_both_15 rfl (lv_at hl 2 rfl) ?_
    refine callCi (k := 1) (As := [.int x2]) (rest := []) (n := 1) (c_X2_knows hAd I L A B x2 _ h) hx hb hT hown hK hP hS mw_2_101 wd_X2_knows (by decide +kernel) ⟨rfl, rfl⟩ (by decide) rfl rfl he_X2 rfl hl.1 hml rfl (Nat.le_of_ble_eq_true rfl) dX9_both_16 ⟨Nat.zero_le _, Nat.zero_le _⟩ (fun r16 u H locs h hP hS => ?_)
    obtain ⟨Iu_1, Lu_1, Au_1, Bu_1⟩ := u
    dsimp only at h hP
    obtain ⟨h, rfl, rfl, rfl, rfl⟩ := h
    try dsimp only at h
    refine lv_if_ne (tgt := 24) hx hb dX9_both_19 (by decide) (fun hc_1 => ?_) (fun hc_1 => ?_)
    · rw [if_neg hc_1] at h
      refine lv_aload_n hx hb dX9_both_24 rfl (lv_at hl 0 rfl) ?_
      refine va_get (T := TX9) hx hb hT inlX9 hown hK.1 hP 0 he_X9 rfl 2 (by decide) (hT _ mw_2_9) (fun _ h9 => h9) rfl dX9_both_25 ?_
      refine callCl (k := 3) (As := []) (rest := []) (n := 0) (c_X7_hits hAd I L A B  _ h) hx hb hT hown hK hP hS mw_3_51 wd_X7_hits (by decide +kernel) ⟨rfl, rfl⟩ (by decide) rfl rfl he_X7 rfl hl.1 hml rfl (Nat.le_of_ble_eq_true rfl) dX9_both_28 ⟨Nat.zero_le _, Nat.zero_le _⟩ (fun r28 u H locs h hP hS => ?_)
      obtain ⟨Iu_2, Lu_2, Au_2, Bu_2⟩ := u
      dsimp only at h hP
      obtain ⟨h, rfl, rfl, rfl, rfl⟩ := h
      try dsimp only at h
      refine lv_aload_n hx hb dX9_both_31 rfl (lv_at hl 0 rfl) ?_
      refine va_get (T := TX9) hx hb hT inlX9 hown hK.1 hP 0 he_X9 rfl 0 (by decide) (hT _ mw_2_7) (fun _ h9 => h9) rfl dX9_both_32 ?_
      refine va_get (T := TX2) hx hb hT inlX2 hown hK.1 hP 1 he_X2 rfl 4 (by decide) (hT _ mw_1_44) (fun _ h9 => h9) rfl dX9_both_35 ?_
      refine lv_iload_n hx hb dX9_both_38 rfl (lv_at hl 1 rfl) ?_
      obtain ⟨hi, h⟩ := h
      refine lC_J hx hb hK.1 hP (by decide) rfl hi dX9_both_39 ?_
      refine lv_land hx hb dX9_both_40 ?_
      refine lv_aload_n hx hb dX9_both_41 rfl (lv_at hl 0 rfl) ?_
      refine va_get (T := TX9) hx hb hT inlX9 hown hK.1 hP 0 he_X9 rfl 0 (by decide) (hT _ mw_2_7) (fun _ h9 => h9) rfl dX9_both_42 ?_
      refine va_get (T := TX2) hx hb hT inlX2 hown hK.1 hP 1 he_X2 rfl 4 (by decide) (hT _ mw_1_44) (fun _ h9 => h9) rfl dX9_both_45 ?_
      refine lv_iload_n hx hb dX9_both_48 rfl (lv_at hl 2 rfl) ?_
      obtain ⟨hi_1, h⟩ := h
      refine lC_J hx hb hK.1 hP (by decide) rfl hi_1 dX9_both_49 ?_
      refine lv_land hx hb dX9_both_50 ?_
      refine callSCi (As := [.long ((r28 &&& (B 40 x1.toNatClampNeg)) &&& (B 40 x2.toNatClampNeg))]) (rest := []) (n := 1) (c_J13_bitCount_95d88 ((r28 &&& (B 40 x1.toNatClampNeg)) &&& (B 40 x2.toNatClampNeg)) _ h) hx hb hT hown hP hS mw_3_40 wd_J13_bitCount_95d88 (by decide +kernel) ⟨rfl, rfl⟩ (by decide) rfl hl.1 hml rfl (Nat.le_of_ble_eq_true rfl) dX9_both_51 ⟨Nat.zero_le _, Nat.zero_le _⟩ (fun r51 H locs h hP hS => ?_)
      try dsimp only at h
      exact hret _ (I, L, A, B) dX9_both_54 ⟨h, rfl, rfl, rfl, rfl⟩ hP hS
    · rw [if_pos hc_1] at h
      refine lv_iconst (v := (-1)) hx hb dX9_both_22 (by decide) ?_
      exact hret _ (I, L, A, B) dX9_both_23 ⟨h, rfl, rfl, rfl, rfl⟩ hP hS
theorem dX9_alike_0 : decode cX9_alike 0 = .ok (.iload_n 1, 1) := by decide +kernel
theorem dX9_alike_1 : decode cX9_alike 1 = .ok (.iload_n 2, 1) := by decide +kernel
theorem dX9_alike_2 : decode cX9_alike 2 = .ok (.if_icmp .eq 25, 3) := by decide +kernel
theorem dX9_alike_5 : decode cX9_alike 5 = .ok (.aload_n 0, 1) := by decide +kernel
theorem dX9_alike_6 : decode cX9_alike 6 = .ok (.getfield 19, 3) := by decide +kernel
theorem dX9_alike_9 : decode cX9_alike 9 = .ok (.iload_n 1, 1) := by decide +kernel
theorem dX9_alike_10 : decode cX9_alike 10 = .ok (.invokevirtual 122, 3) := by decide +kernel
theorem dX9_alike_13 : decode cX9_alike 13 = .ok (.ifCond .eq 14, 3) := by decide +kernel
theorem dX9_alike_16 : decode cX9_alike 16 = .ok (.aload_n 0, 1) := by decide +kernel
theorem dX9_alike_17 : decode cX9_alike 17 = .ok (.getfield 19, 3) := by decide +kernel
theorem dX9_alike_20 : decode cX9_alike 20 = .ok (.iload_n 2, 1) := by decide +kernel
theorem dX9_alike_21 : decode cX9_alike 21 = .ok (.invokevirtual 122, 3) := by decide +kernel
theorem dX9_alike_24 : decode cX9_alike 24 = .ok (.ifCond .ne 5, 3) := by decide +kernel
theorem dX9_alike_27 : decode cX9_alike 27 = .ok (.iconst (-1), 1) := by decide +kernel
theorem dX9_alike_28 : decode cX9_alike 28 = .ok (.ireturn, 1) := by decide +kernel
theorem dX9_alike_29 : decode cX9_alike 29 = .ok (.aload_n 0, 1) := by decide +kernel
theorem dX9_alike_30 : decode cX9_alike 30 = .ok (.getfield 10, 3) := by decide +kernel
theorem dX9_alike_33 : decode cX9_alike 33 = .ok (.iload_n 1, 1) := by decide +kernel
theorem dX9_alike_34 : decode cX9_alike 34 = .ok (.invokestatic 147, 3) := by decide +kernel
theorem dX9_alike_37 : decode cX9_alike 37 = .ok (.iload_n 2, 1) := by decide +kernel
theorem dX9_alike_38 : decode cX9_alike 38 = .ok (.invokestatic 147, 3) := by decide +kernel
theorem dX9_alike_41 : decode cX9_alike 41 = .ok (.lor, 1) := by decide +kernel
theorem dX9_alike_42 : decode cX9_alike 42 = .ok (.invokevirtual 321, 3) := by decide +kernel
theorem dX9_alike_45 : decode cX9_alike 45 = .ok (.ireturn, 1) := by decide +kernel
def wX9_alike (I : Nat → Int32) (L : Nat → Int64) (A : Nat → Nat → Int32) (B : Nat → Nat → Int64) (x1 : Int32) (x2 : Int32) (post : Int32 → Prop) : Prop := if x1 = x2 then (post (-1)) else (wX6_isThere I L A B x1 (fun r10 => if r10 = 0 then (post (-1)) else (wX6_isThere I L A B x2 (fun r21 => if r21 = 0 then (post (-1)) else (wX9_bit x1 (fun r34 => wX9_bit x2 (fun r38 => wX2_howManyHeldBy I L A B (r34 ||| r38) (fun r42 => post r42))))))))
abbrev rmX9_alike : Room := { frames := 2, cells := 0, slots := 0, locals := 43 }
theorem wd_X9_alike : Cond.instanceMethod yX9_alike ∈ BW ∧ Cond.selects yX9_alike.cls yX9_alike yX9_alike ∈ BW ∧ Cond.initialized yX9_alike.cls ∈ BW ∧ Cond.code yX9_alike cX9_alike 3 (some .int) ∈ BW := ⟨mw_3_234, mw_3_235, mw_1_1, mw_3_236⟩
set_option maxHeartbeats 4000000 in
set_option maxRecDepth 100000 in
theorem c_X9_alike {l : Launch} {D : va_G} {cy : Nat → ClassId} {ad : Nat → Nat} {Ad : Nat → Prop} (hAd : adok 103 Ad ad) (I : Nat → Int32) (L : Nat → Int64) (A : Nat → Nat → Int32) (B : Nat → Nat → Int64) (x1 : Int32) (x2 : Int32)  (post : Int32 → Prop) (h : wX9_alike I L A B x1 x2 post) : Met l yX9_alike (.code yX9_alike cX9_alike 3 (some .int) :: BW) rmX9_alike (va_Pc [.ref (ad 0), .int x1, .int x2] (fun U => kC D cy U ∧ va_P D vwCl (wC cy ad I L A B) U.heap)) (qCi D cy ad Ad (fun r u => post r  ∧ I = u.1 ∧ L = u.2.1 ∧ A = u.2.2.1 ∧ B = u.2.2.2)) 0 0 Ad := by
  refine startCi (by decide) (Nat.le_of_ble_eq_true rfl) (lv := [(0, .ref (ad 0)), (1, .int x1), (2, .int x2)]) rfl (fun p e s m args below meth c Q ls hx hb hml hT hown hK hret hl hP hS => ?_)
  unfold wX9_alike at h
  refine lv_iload_n hx hb dX9_alike_0 rfl (lv_at hl 1 rfl) ?_
  refine lv_iload_n hx hb dX9_alike_1 rfl (lv_at hl 2 rfl) ?_
  refine lv_icmp_eq (tgt := 27) hx hb dX9_alike_2 (by decide) (fun hc => ?_) (fun hc => ?_)
  · rw [if_pos hc] at h
    refine lv_iconst (v := (-1)) hx hb dX9_alike_27 (by decide) ?_
    exact hret _ (I, L, A, B) dX9_alike_28 ⟨h, rfl, rfl, rfl, rfl⟩ hP hS
  · rw [if_neg hc] at h
    refine lv_aload_n hx hb dX9_alike_5 rfl (lv_at hl 0 rfl) ?_
    refine va_get (T := TX9) hx hb hT inlX9 hown hK.1 hP 0 he_X9 rfl 1 (by decide) (hT _ mw_2_8) (fun _ h9 => h9) rfl dX9_alike_6 ?_
    refine lv_iload_n hx hb dX9_alike_9 rfl (lv_at hl 1 rfl) ?_
    refine callCi (k := 2) (As := [.int x1]) (rest := []) (n := 1) (c_X6_isThere hAd I L A B x1 _ h) hx hb hT hown hK hP hS mw_2_174 wd_X6_isThere (by decide +kernel) ⟨rfl, rfl⟩ (by decide) rfl rfl he_X6 rfl hl.1 hml rfl (Nat.le_of_ble_eq_true rfl) dX9_alike_10 ⟨Nat.zero_le _, Nat.zero_le _⟩ (fun r10 u H locs h hP hS => ?_)
    obtain ⟨Iu, Lu, Au, Bu⟩ := u
    dsimp only at h hP
    obtain ⟨h, rfl, rfl, rfl, rfl⟩ := h
    try dsimp only at h
    refine lv_if_eq (tgt := 27) hx hb dX9_alike_13 (by decide) (fun hc_1 => ?_) (fun hc_1 => ?_)
    · rw [if_pos hc_1] at h
      refine lv_iconst (v := (-1)) hx hb dX9_alike_27 (by decide) ?_
      exact hret _ (I, L, A, B) dX9_alike_28 ⟨h, rfl, rfl, rfl, rfl⟩ hP hS
    · rw [if_neg hc_1] at h
      refine lv_aload_n hx hb dX9_alike_16 rfl (lv_at hl 0 rfl) ?_
      refine va_get (T := TX9) hx hb hT inlX9 hown hK.1 hP 0 he_X9 rfl 1 (by decide) (hT _ mw_2_8) (fun _ h9 => h9) rfl dX9_alike_17 ?_
      refine lv_iload_n hx hb dX9_alike_20 rfl (lv_at hl 2 rfl) ?_
      refine callCi (k := 2) (As := [.int x2]) (rest := []) (n := 1) (c_X6_isThere hAd I L A B x2 _ h) hx hb hT hown hK hP hS mw_2_174 wd_X6_isThere (by decide +kernel) ⟨rfl, rfl⟩ (by decide) rfl rfl he_X6 rfl hl.1 hml rfl (Nat.le_of_ble_eq_true rfl) dX9_alike_21 ⟨Nat.zero_le _, Nat.zero_le _⟩ (fun r21 u H locs h hP hS => ?_)
      obtain ⟨Iu_1, Lu_1, Au_1, Bu_1⟩ := u
      dsimp only at h hP
      obtain ⟨h, rfl, rfl, rfl, rfl⟩ := h
      try dsimp only at h
      refine lv_if_ne (tgt := 29) hx hb dX9_alike_24 (by decide) (fun hc_2 => ?_) (fun hc_2 => ?_)
      · rw [if_neg hc_2] at h
        refine lv_aload_n hx hb dX9_alike_29 rfl (lv_at hl 0 rfl) ?_
        refine va_get (T := TX9) hx hb hT inlX9 hown hK.1 hP 0 he_X9 rfl 0 (by decide) (hT _ mw_2_7) (fun _ h9 => h9) rfl dX9_alike_30 ?_
        refine lv_iload_n hx hb dX9_alike_33 rfl (lv_at hl 1 rfl) ?_
        refine callSCl (As := [.int x1]) (rest := [.ref (ad 1)]) (n := 1) (c_X9_bit x1 _ h) hx hb hT hown hP hS mw_2_195 wd_X9_bit (by decide +kernel) ⟨rfl, rfl⟩ (by decide) rfl hl.1 hml rfl (Nat.le_of_ble_eq_true rfl) dX9_alike_34 ⟨Nat.zero_le _, Nat.zero_le _⟩ (fun r34 H locs h hP hS => ?_)
        try dsimp only at h
        refine lv_iload_n hx hb dX9_alike_37 rfl (lv_at hl 2 rfl) ?_
        refine callSCl (As := [.int x2]) (rest := [.long r34, .ref (ad 1)]) (n := 1) (c_X9_bit x2 _ h) hx hb hT hown hP hS mw_2_195 wd_X9_bit (by decide +kernel) ⟨rfl, rfl⟩ (by decide) rfl hl.1 hml rfl (Nat.le_of_ble_eq_true rfl) dX9_alike_38 ⟨Nat.zero_le _, Nat.zero_le _⟩ (fun r38 H locs h hP hS => ?_)
        try dsimp only at h
        refine lv_lor hx hb dX9_alike_41 ?_
        refine callCi (k := 1) (As := [.long (r34 ||| r38)]) (rest := []) (n := 1) (c_X2_howManyHeldBy hAd I L A B (r34 ||| r38) _ h) hx hb hT hown hK hP hS mw_3_237 wd_X2_howManyHeldBy (by decide +kernel) ⟨rfl, rfl⟩ (by decide) rfl rfl he_X2 rfl hl.1 hml rfl (Nat.le_of_ble_eq_true rfl) dX9_alike_42 ⟨Nat.zero_le _, Nat.zero_le _⟩ (fun r42 u H locs h hP hS => ?_)
        obtain ⟨Iu_2, Lu_2, Au_2, Bu_2⟩ := u
        dsimp only at h hP
        obtain ⟨h, rfl, rfl, rfl, rfl⟩ := h
        try dsimp only at h
        exact hret _ (I, L, A, B) dX9_alike_45 ⟨h, rfl, rfl, rfl, rfl⟩ hP hS
      · rw [if_pos hc_2] at h
        refine lv_iconst (v := (-1)) hx hb dX9_alike_27 (by decide) ?_
        exact hret _ (I, L, A, B) dX9_alike_28 ⟨h, rfl, rfl, rfl, rfl⟩ hP hS
theorem dX9_nearest_0 : decode cX9_nearest 0 = .ok (.aload_n 0, 1) := by decide +kernel
theorem dX9_nearest_1 : decode cX9_nearest 1 = .ok (.getfield 19, 3) := by decide +kernel
theorem dX9_nearest_4 : decode cX9_nearest 4 = .ok (.iload_n 1, 1) := by decide +kernel
theorem dX9_nearest_5 : decode cX9_nearest 5 = .ok (.invokevirtual 122, 3) := by decide +kernel
theorem dX9_nearest_8 : decode cX9_nearest 8 = .ok (.ifCond .ne 5, 3) := by decide +kernel
theorem dX9_nearest_11 : decode cX9_nearest 11 = .ok (.iconst (-1), 1) := by decide +kernel
theorem dX9_nearest_12 : decode cX9_nearest 12 = .ok (.ireturn, 1) := by decide +kernel
theorem dX9_nearest_13 : decode cX9_nearest 13 = .ok (.iconst (-1), 1) := by decide +kernel
theorem dX9_nearest_14 : decode cX9_nearest 14 = .ok (.istore_n 2, 1) := by decide +kernel
theorem dX9_nearest_15 : decode cX9_nearest 15 = .ok (.iconst (-1), 1) := by decide +kernel
theorem dX9_nearest_16 : decode cX9_nearest 16 = .ok (.istore_n 3, 1) := by decide +kernel
theorem dX9_nearest_17 : decode cX9_nearest 17 = .ok (.iconst 0, 1) := by decide +kernel
theorem dX9_nearest_18 : decode cX9_nearest 18 = .ok (.istore 4, 2) := by decide +kernel
theorem dX9_nearest_20 : decode cX9_nearest 20 = .ok (.iload 4, 2) := by decide +kernel
theorem dX9_nearest_22 : decode cX9_nearest 22 = .ok (.aload_n 0, 1) := by decide +kernel
theorem dX9_nearest_23 : decode cX9_nearest 23 = .ok (.getfield 19, 3) := by decide +kernel
theorem dX9_nearest_26 : decode cX9_nearest 26 = .ok (.getfield 208, 3) := by decide +kernel
theorem dX9_nearest_29 : decode cX9_nearest 29 = .ok (.getfield 234, 3) := by decide +kernel
theorem dX9_nearest_32 : decode cX9_nearest 32 = .ok (.if_icmp .ge 64, 3) := by decide +kernel
theorem dX9_nearest_35 : decode cX9_nearest 35 = .ok (.aload_n 0, 1) := by decide +kernel
theorem dX9_nearest_36 : decode cX9_nearest 36 = .ok (.getfield 19, 3) := by decide +kernel
theorem dX9_nearest_39 : decode cX9_nearest 39 = .ok (.getfield 208, 3) := by decide +kernel
theorem dX9_nearest_42 : decode cX9_nearest 42 = .ok (.getfield 235, 3) := by decide +kernel
theorem dX9_nearest_45 : decode cX9_nearest 45 = .ok (.iload 4, 2) := by decide +kernel
theorem dX9_nearest_47 : decode cX9_nearest 47 = .ok (.iaload, 1) := by decide +kernel
theorem dX9_nearest_48 : decode cX9_nearest 48 = .ok (.istore 5, 2) := by decide +kernel
theorem dX9_nearest_50 : decode cX9_nearest 50 = .ok (.iload 5, 2) := by decide +kernel
theorem dX9_nearest_52 : decode cX9_nearest 52 = .ok (.iload_n 1, 1) := by decide +kernel
theorem dX9_nearest_53 : decode cX9_nearest 53 = .ok (.if_icmp .ne 6, 3) := by decide +kernel
theorem dX9_nearest_56 : decode cX9_nearest 56 = .ok (.goto 34, 3) := by decide +kernel
theorem dX9_nearest_59 : decode cX9_nearest 59 = .ok (.aload_n 0, 1) := by decide +kernel
theorem dX9_nearest_60 : decode cX9_nearest 60 = .ok (.getfield 10, 3) := by decide +kernel
theorem dX9_nearest_63 : decode cX9_nearest 63 = .ok (.iload_n 1, 1) := by decide +kernel
theorem dX9_nearest_64 : decode cX9_nearest 64 = .ok (.invokestatic 147, 3) := by decide +kernel
theorem dX9_nearest_67 : decode cX9_nearest 67 = .ok (.iload 5, 2) := by decide +kernel
theorem dX9_nearest_69 : decode cX9_nearest 69 = .ok (.invokestatic 147, 3) := by decide +kernel
theorem dX9_nearest_72 : decode cX9_nearest 72 = .ok (.lor, 1) := by decide +kernel
theorem dX9_nearest_73 : decode cX9_nearest 73 = .ok (.invokevirtual 321, 3) := by decide +kernel
theorem dX9_nearest_76 : decode cX9_nearest 76 = .ok (.istore 6, 2) := by decide +kernel
theorem dX9_nearest_78 : decode cX9_nearest 78 = .ok (.iload 6, 2) := by decide +kernel
theorem dX9_nearest_80 : decode cX9_nearest 80 = .ok (.iload_n 3, 1) := by decide +kernel
theorem dX9_nearest_81 : decode cX9_nearest 81 = .ok (.if_icmp .le 9, 3) := by decide +kernel
theorem dX9_nearest_84 : decode cX9_nearest 84 = .ok (.iload 6, 2) := by decide +kernel
theorem dX9_nearest_86 : decode cX9_nearest 86 = .ok (.istore_n 3, 1) := by decide +kernel
theorem dX9_nearest_87 : decode cX9_nearest 87 = .ok (.iload 5, 2) := by decide +kernel
theorem dX9_nearest_89 : decode cX9_nearest 89 = .ok (.istore_n 2, 1) := by decide +kernel
theorem dX9_nearest_90 : decode cX9_nearest 90 = .ok (.iinc 4 1, 3) := by decide +kernel
theorem dX9_nearest_93 : decode cX9_nearest 93 = .ok (.goto (-73), 3) := by decide +kernel
theorem dX9_nearest_96 : decode cX9_nearest 96 = .ok (.iload_n 2, 1) := by decide +kernel
theorem dX9_nearest_97 : decode cX9_nearest 97 = .ok (.ireturn, 1) := by decide +kernel
def wX9_nearest (I : Nat → Int32) (L : Nat → Int64) (A : Nat → Nat → Int32) (B : Nat → Nat → Int64) (x1 : Int32) (post : Int32 → Prop) : Prop := wX6_isThere I L A B x1 (fun r5 => if r5 = 0 then (post (-1)) else (∃ n, lfix (fun (r : (Int32 × Int32 × Int32) → Prop) (v4, v3, v2) => if (I 7) ≤ v4 then (post v2) else (vp_in v4 40 ∧ (∀ v5 : Int32, v5 = A 41 v4.toNatClampNeg → if v5 = x1 then (∀ v4_3 : Int32, v4_3 = v4 + 1 → r (v4_3, v3, v2)) else (wX9_bit x1 (fun r64 => wX9_bit v5 (fun r69 => wX2_howManyHeldBy I L A B (r64 ||| r69) (fun r73 => if r73 ≤ v3 then (∀ v4_1 : Int32, v4_1 = v4 + 1 → r (v4_1, v3, v2)) else (∀ v4_2 : Int32, v4_2 = v4 + 1 → r (v4_2, r73, v5))))))))) n (0, (-1), (-1))))
abbrev rmX9_nearest : Room := { frames := 2, cells := 0, slots := 0, locals := 43 }
theorem wd_X9_nearest : Cond.instanceMethod yX9_nearest ∈ BW ∧ Cond.selects yX9_nearest.cls yX9_nearest yX9_nearest ∈ BW ∧ Cond.initialized yX9_nearest.cls ∈ BW ∧ Cond.code yX9_nearest cX9_nearest 7 (some .int) ∈ BW := ⟨mw_4_2, mw_4_3, mw_1_1, mw_4_4⟩
set_option maxHeartbeats 4000000 in
set_option maxRecDepth 100000 in
theorem c_X9_nearest {l : Launch} {D : va_G} {cy : Nat → ClassId} {ad : Nat → Nat} {Ad : Nat → Prop} (hAd : adok 103 Ad ad) (I : Nat → Int32) (L : Nat → Int64) (A : Nat → Nat → Int32) (B : Nat → Nat → Int64) (x1 : Int32)  (post : Int32 → Prop) (h : wX9_nearest I L A B x1 post) : Met l yX9_nearest (.code yX9_nearest cX9_nearest 7 (some .int) :: BW) rmX9_nearest (va_Pc [.ref (ad 0), .int x1] (fun U => kC D cy U ∧ va_P D vwCl (wC cy ad I L A B) U.heap)) (qCi D cy ad Ad (fun r u => post r  ∧ I = u.1 ∧ L = u.2.1 ∧ A = u.2.2.1 ∧ B = u.2.2.2)) 0 0 Ad := by
  refine startCi (by decide) (Nat.le_of_ble_eq_true rfl) (lv := [(0, .ref (ad 0)), (1, .int x1)]) rfl (fun p e s m args below meth c Q ls hx hb hml hT hown hK hret hl hP hS => ?_)
  unfold wX9_nearest at h
  refine lv_aload_n hx hb dX9_nearest_0 rfl (lv_at hl 0 rfl) ?_
  refine va_get (T := TX9) hx hb hT inlX9 hown hK.1 hP 0 he_X9 rfl 1 (by decide) (hT _ mw_2_8) (fun _ h9 => h9) rfl dX9_nearest_1 ?_
  refine lv_iload_n hx hb dX9_nearest_4 rfl (lv_at hl 1 rfl) ?_
  refine callCi (k := 2) (As := [.int x1]) (rest := []) (n := 1) (c_X6_isThere hAd I L A B x1 _ h) hx hb hT hown hK hP hS mw_2_174 wd_X6_isThere (by decide +kernel) ⟨rfl, rfl⟩ (by decide) rfl rfl he_X6 rfl hl.1 hml rfl (Nat.le_of_ble_eq_true rfl) dX9_nearest_5 ⟨Nat.zero_le _, Nat.zero_le _⟩ (fun r5 u H locs h hP hS => ?_)
  obtain ⟨Iu, Lu, Au, Bu⟩ := u
  dsimp only at h hP
  obtain ⟨h, rfl, rfl, rfl, rfl⟩ := h
  try dsimp only at h
  refine lv_if_ne (tgt := 13) hx hb dX9_nearest_8 (by decide) (fun hc => ?_) (fun hc => ?_)
  · rw [if_neg hc] at h
    refine lv_iconst (v := (-1)) hx hb dX9_nearest_13 (by decide) ?_
    refine lv_istore_n (lv' := [(2, .int (-1)), (0, .ref (ad 0)), (1, .int x1)]) hx hb dX9_nearest_14 rfl hl (by decide) rfl (fun ls hl => ?_)
    refine lv_iconst (v := (-1)) hx hb dX9_nearest_15 (by decide) ?_
    refine lv_istore_n (lv' := [(3, .int (-1)), (2, .int (-1)), (0, .ref (ad 0)), (1, .int x1)]) hx hb dX9_nearest_16 rfl hl (by decide) rfl (fun ls hl => ?_)
    refine lv_iconst (v := 0) hx hb dX9_nearest_17 (by decide) ?_
    refine lv_istore (lv' := [(4, .int 0), (3, .int (-1)), (2, .int (-1)), (0, .ref (ad 0)), (1, .int x1)]) hx hb dX9_nearest_18 hl (by decide) rfl (fun ls hl => ?_)
    obtain ⟨F, n, h, hF, hG⟩ := lfix_ex h
    have LP : ∀ (n : Nat) (v4 : Int32) (v3 : Int32) (v2 : Int32) (ls : Array Slot) (H : Heap) (locs : List Loc), F n (v4, v3, v2) → lv_has ls 7 [(4, .int v4), (3, .int v3), (2, .int v2), (0, .ref (ad 0)), (1, .int x1)] → va_P D vwCl (wC cy ad I L A B) H → va_S Ad s.heap H locs → W p l e rmX9_nearest s m args below meth c H locs 0 0 Q (F0 m 20 ls []) := by
      intro n
      induction n with
      | zero => intro v4 v3 v2 ls H locs h _ _ _; exact absurd h (hF _)
      | succ n ih =>
        intro v4 v3 v2 ls H locs h hl hP hS
        replace h := hG _ _ h
        try dsimp only at h
        refine lv_iload hx hb dX9_nearest_20 (lv_at hl 0 rfl) ?_
        refine lv_aload_n hx hb dX9_nearest_22 rfl (lv_at hl 3 rfl) ?_
        refine va_get (T := TX9) hx hb hT inlX9 hown hK.1 hP 0 he_X9 rfl 1 (by decide) (hT _ mw_2_8) (fun _ h9 => h9) rfl dX9_nearest_23 ?_
        refine va_get (T := TX6) hx hb hT inlX6 hown hK.1 hP 2 he_X6 rfl 0 (by decide) (hT _ mw_1_88) (fun _ h9 => h9) rfl dX9_nearest_26 ?_
        refine va_get (T := TX3) hx hb hT inlX3 hown hK.1 hP 7 (he_X3 (by decide)) rfl 2 (by decide) (hT _ mw_1_79) (fun _ h9 => h9) rfl dX9_nearest_29 ?_
        refine lv_icmp_ge (tgt := 96) hx hb dX9_nearest_32 (by decide) (fun hc_1 => ?_) (fun hc_1 => ?_)
        · rw [if_pos hc_1] at h
          refine lv_iload_n hx hb dX9_nearest_96 rfl (lv_at hl 2 rfl) ?_
          exact hret _ (I, L, A, B) dX9_nearest_97 ⟨h, rfl, rfl, rfl, rfl⟩ hP hS
        · rw [if_neg hc_1] at h
          refine lv_aload_n hx hb dX9_nearest_35 rfl (lv_at hl 3 rfl) ?_
          refine va_get (T := TX9) hx hb hT inlX9 hown hK.1 hP 0 he_X9 rfl 1 (by decide) (hT _ mw_2_8) (fun _ h9 => h9) rfl dX9_nearest_36 ?_
          refine va_get (T := TX6) hx hb hT inlX6 hown hK.1 hP 2 he_X6 rfl 0 (by decide) (hT _ mw_1_88) (fun _ h9 => h9) rfl dX9_nearest_39 ?_
          refine va_get (T := TX3) hx hb hT inlX3 hown hK.1 hP 7 (he_X3 (by decide)) rfl 0 (by decide) (hT _ mw_1_75) (fun _ h9 => h9) rfl dX9_nearest_42 ?_
          refine lv_iload hx hb dX9_nearest_45 (lv_at hl 0 rfl) ?_
          obtain ⟨hi, h⟩ := h
          refine lC_I hx hb hK.1 hP (by decide) rfl hi dX9_nearest_47 ?_
          refine lv_topi (fun v5 ev5 => ?_)
          replace h := h v5 ev5
          refine lv_istore (lv' := [(5, .int v5), (4, .int v4), (3, .int v3), (2, .int v2), (0, .ref (ad 0)), (1, .int x1)]) hx hb dX9_nearest_48 hl (by decide) rfl (fun ls hl => ?_)
          refine lv_iload hx hb dX9_nearest_50 (lv_at hl 0 rfl) ?_
          refine lv_iload_n hx hb dX9_nearest_52 rfl (lv_at hl 5 rfl) ?_
          refine lv_icmp_ne (tgt := 59) hx hb dX9_nearest_53 (by decide) (fun hc_2 => ?_) (fun hc_2 => ?_)
          · rw [if_neg hc_2] at h
            refine lv_aload_n hx hb dX9_nearest_59 rfl (lv_at hl 4 rfl) ?_
            refine va_get (T := TX9) hx hb hT inlX9 hown hK.1 hP 0 he_X9 rfl 0 (by decide) (hT _ mw_2_7) (fun _ h9 => h9) rfl dX9_nearest_60 ?_
            refine lv_iload_n hx hb dX9_nearest_63 rfl (lv_at hl 5 rfl) ?_
            refine callSCl (As := [.int x1]) (rest := [.ref (ad 1)]) (n := 1) (c_X9_bit x1 _ h) hx hb hT hown hP hS mw_2_195 wd_X9_bit (by decide +kernel) ⟨rfl, rfl⟩ (by decide) rfl hl.1 hml rfl (Nat.le_of_ble_eq_true rfl) dX9_nearest_64 ⟨Nat.zero_le _, Nat.zero_le _⟩ (fun r64 H locs h hP hS => ?_)
            try dsimp only at h
            refine lv_iload hx hb dX9_nearest_67 (lv_at hl 0 rfl) ?_
            refine callSCl (As := [.int v5]) (rest := [.long r64, .ref (ad 1)]) (n := 1) (c_X9_bit v5 _ h) hx hb hT hown hP hS mw_2_195 wd_X9_bit (by decide +kernel) ⟨rfl, rfl⟩ (by decide) rfl hl.1 hml rfl (Nat.le_of_ble_eq_true rfl) dX9_nearest_69 ⟨Nat.zero_le _, Nat.zero_le _⟩ (fun r69 H locs h hP hS => ?_)
            try dsimp only at h
            refine lv_lor hx hb dX9_nearest_72 ?_
            refine callCi (k := 1) (As := [.long (r64 ||| r69)]) (rest := []) (n := 1) (c_X2_howManyHeldBy hAd I L A B (r64 ||| r69) _ h) hx hb hT hown hK hP hS mw_3_237 wd_X2_howManyHeldBy (by decide +kernel) ⟨rfl, rfl⟩ (by decide) rfl rfl he_X2 rfl hl.1 hml rfl (Nat.le_of_ble_eq_true rfl) dX9_nearest_73 ⟨Nat.zero_le _, Nat.zero_le _⟩ (fun r73 u H locs h hP hS => ?_)
            obtain ⟨Iu_1, Lu_1, Au_1, Bu_1⟩ := u
            dsimp only at h hP
            obtain ⟨h, rfl, rfl, rfl, rfl⟩ := h
            try dsimp only at h
            refine lv_istore (lv' := [(6, .int r73), (5, .int v5), (4, .int v4), (3, .int v3), (2, .int v2), (0, .ref (ad 0)), (1, .int x1)]) hx hb dX9_nearest_76 hl (by decide) rfl (fun ls hl => ?_)
            refine lv_iload hx hb dX9_nearest_78 (lv_at hl 0 rfl) ?_
            refine lv_iload_n hx hb dX9_nearest_80 rfl (lv_at hl 3 rfl) ?_
            refine lv_icmp_le (tgt := 90) hx hb dX9_nearest_81 (by decide) (fun hc_3 => ?_) (fun hc_3 => ?_)
            · rw [if_pos hc_3] at h
              obtain ⟨v4_1, ev4_1⟩ : ∃ z : Int32, z = v4 + 1 := ⟨_, rfl⟩
              replace h := h v4_1 ev4_1
              refine lv_iinc (v := v4_1) (lv' := [(4, .int v4_1), (6, .int r73), (5, .int v5), (3, .int v3), (2, .int v2), (0, .ref (ad 0)), (1, .int x1)]) hx hb dX9_nearest_90 hl (k := 2) rfl (by rw [ev4_1]; rfl) (by decide) rfl (fun ls hl => ?_)
              refine lv_goto (tgt := 20) hx hb dX9_nearest_93 (by decide) ?_
              exact ih v4_1 v3 v2 _ _ _ h (lv_sub hl [0, 3, 4, 5, 6] rfl) hP hS
            · rw [if_neg hc_3] at h
              refine lv_iload hx hb dX9_nearest_84 (lv_at hl 0 rfl) ?_
              refine lv_istore_n (lv' := [(3, .int r73), (6, .int r73), (5, .int v5), (4, .int v4), (2, .int v2), (0, .ref (ad 0)), (1, .int x1)]) hx hb dX9_nearest_86 rfl hl (by decide) rfl (fun ls hl => ?_)
              refine lv_iload hx hb dX9_nearest_87 (lv_at hl 2 rfl) ?_
              refine lv_istore_n (lv' := [(2, .int v5), (3, .int r73), (6, .int r73), (5, .int v5), (4, .int v4), (0, .ref (ad 0)), (1, .int x1)]) hx hb dX9_nearest_89 rfl hl (by decide) rfl (fun ls hl => ?_)
              obtain ⟨v4_2, ev4_2⟩ : ∃ z : Int32, z = v4 + 1 := ⟨_, rfl⟩
              replace h := h v4_2 ev4_2
              refine lv_iinc (v := v4_2) (lv' := [(4, .int v4_2), (2, .int v5), (3, .int r73), (6, .int r73), (5, .int v5), (0, .ref (ad 0)), (1, .int x1)]) hx hb dX9_nearest_90 hl (k := 4) rfl (by rw [ev4_2]; rfl) (by decide) rfl (fun ls hl => ?_)
              refine lv_goto (tgt := 20) hx hb dX9_nearest_93 (by decide) ?_
              exact ih v4_2 r73 v5 _ _ _ h (lv_sub hl [0, 2, 1, 5, 6] rfl) hP hS
          · rw [if_pos hc_2] at h
            refine lv_goto (tgt := 90) hx hb dX9_nearest_56 (by decide) ?_
            obtain ⟨v4_3, ev4_3⟩ : ∃ z : Int32, z = v4 + 1 := ⟨_, rfl⟩
            replace h := h v4_3 ev4_3
            refine lv_iinc (v := v4_3) (lv' := [(4, .int v4_3), (5, .int v5), (3, .int v3), (2, .int v2), (0, .ref (ad 0)), (1, .int x1)]) hx hb dX9_nearest_90 hl (k := 1) rfl (by rw [ev4_3]; rfl) (by decide) rfl (fun ls hl => ?_)
            refine lv_goto (tgt := 20) hx hb dX9_nearest_93 (by decide) ?_
            exact ih v4_3 v3 v2 _ _ _ h (lv_sub hl [0, 2, 3, 4, 5] rfl) hP hS
    exact LP _ 0 (-1) (-1) _ _ _ h (lv_sub hl [0, 1, 2, 3, 4] rfl) hP hS
  · rw [if_pos hc] at h
    refine lv_iconst (v := (-1)) hx hb dX9_nearest_11 (by decide) ?_
    exact hret _ (I, L, A, B) dX9_nearest_12 ⟨h, rfl, rfl, rfl, rfl⟩ hP hS
theorem dX9_miss_0 : decode cX9_miss 0 = .ok (.iload_n 1, 1) := by decide +kernel
theorem dX9_miss_1 : decode cX9_miss 1 = .ok (.ifCond .lt 8, 3) := by decide +kernel
theorem dX9_miss_4 : decode cX9_miss 4 = .ok (.iload_n 1, 1) := by decide +kernel
theorem dX9_miss_5 : decode cX9_miss 5 = .ok (.iconst 5, 1) := by decide +kernel
theorem dX9_miss_6 : decode cX9_miss 6 = .ok (.if_icmp .le 5, 3) := by decide +kernel
theorem dX9_miss_9 : decode cX9_miss 9 = .ok (.iconst (-1), 1) := by decide +kernel
theorem dX9_miss_10 : decode cX9_miss 10 = .ok (.ireturn, 1) := by decide +kernel
theorem dX9_miss_11 : decode cX9_miss 11 = .ok (.iconst 0, 1) := by decide +kernel
theorem dX9_miss_12 : decode cX9_miss 12 = .ok (.istore_n 2, 1) := by decide +kernel
theorem dX9_miss_13 : decode cX9_miss 13 = .ok (.iconst 0, 1) := by decide +kernel
theorem dX9_miss_14 : decode cX9_miss 14 = .ok (.istore_n 3, 1) := by decide +kernel
theorem dX9_miss_15 : decode cX9_miss 15 = .ok (.iload_n 3, 1) := by decide +kernel
theorem dX9_miss_16 : decode cX9_miss 16 = .ok (.aload_n 0, 1) := by decide +kernel
theorem dX9_miss_17 : decode cX9_miss 17 = .ok (.getfield 19, 3) := by decide +kernel
theorem dX9_miss_20 : decode cX9_miss 20 = .ok (.getfield 208, 3) := by decide +kernel
theorem dX9_miss_23 : decode cX9_miss 23 = .ok (.getfield 234, 3) := by decide +kernel
theorem dX9_miss_26 : decode cX9_miss 26 = .ok (.if_icmp .ge 50, 3) := by decide +kernel
theorem dX9_miss_29 : decode cX9_miss 29 = .ok (.aload_n 0, 1) := by decide +kernel
theorem dX9_miss_30 : decode cX9_miss 30 = .ok (.getfield 28, 3) := by decide +kernel
theorem dX9_miss_33 : decode cX9_miss 33 = .ok (.aload_n 0, 1) := by decide +kernel
theorem dX9_miss_34 : decode cX9_miss 34 = .ok (.getfield 19, 3) := by decide +kernel
theorem dX9_miss_37 : decode cX9_miss 37 = .ok (.getfield 208, 3) := by decide +kernel
theorem dX9_miss_40 : decode cX9_miss 40 = .ok (.getfield 235, 3) := by decide +kernel
theorem dX9_miss_43 : decode cX9_miss 43 = .ok (.iload_n 3, 1) := by decide +kernel
theorem dX9_miss_44 : decode cX9_miss 44 = .ok (.iaload, 1) := by decide +kernel
theorem dX9_miss_45 : decode cX9_miss 45 = .ok (.invokevirtual 218, 3) := by decide +kernel
theorem dX9_miss_48 : decode cX9_miss 48 = .ok (.istore 4, 2) := by decide +kernel
theorem dX9_miss_50 : decode cX9_miss 50 = .ok (.aload_n 0, 1) := by decide +kernel
theorem dX9_miss_51 : decode cX9_miss 51 = .ok (.getfield 28, 3) := by decide +kernel
theorem dX9_miss_54 : decode cX9_miss 54 = .ok (.getfield 69, 3) := by decide +kernel
theorem dX9_miss_57 : decode cX9_miss 57 = .ok (.iload 4, 2) := by decide +kernel
theorem dX9_miss_59 : decode cX9_miss 59 = .ok (.invokestatic 324, 3) := by decide +kernel
theorem dX9_miss_62 : decode cX9_miss 62 = .ok (.isub, 1) := by decide +kernel
theorem dX9_miss_63 : decode cX9_miss 63 = .ok (.iload_n 1, 1) := by decide +kernel
theorem dX9_miss_64 : decode cX9_miss 64 = .ok (.if_icmp .ne 6, 3) := by decide +kernel
theorem dX9_miss_67 : decode cX9_miss 67 = .ok (.iinc 2 1, 3) := by decide +kernel
theorem dX9_miss_70 : decode cX9_miss 70 = .ok (.iinc 3 1, 3) := by decide +kernel
theorem dX9_miss_73 : decode cX9_miss 73 = .ok (.goto (-58), 3) := by decide +kernel
theorem dX9_miss_76 : decode cX9_miss 76 = .ok (.iload_n 2, 1) := by decide +kernel
theorem dX9_miss_77 : decode cX9_miss 77 = .ok (.ireturn, 1) := by decide +kernel
def wX9_miss (I : Nat → Int32) (L : Nat → Int64) (A : Nat → Nat → Int32) (B : Nat → Nat → Int64) (x1 : Int32) (post : Int32 → Prop) : Prop := if x1 < 0 then (post (-1)) else (if x1 ≤ 5 then (∃ n, lfix (fun (r : (Int32 × Int32) → Prop) (v3, v2) => if (I 7) ≤ v3 then (post v2) else (vp_in v3 40 ∧ (wX7_passedBy I L A B (A 41 v3.toNatClampNeg) (fun r45 => wJ6_bitCount_0f7a4 r45 (fun r59 => if ((I 3) - r59) = x1 then (∀ v2_1 : Int32, v2_1 = v2 + 1 → ∀ v3_2 : Int32, v3_2 = v3 + 1 → r (v3_2, v2_1)) else (∀ v3_1 : Int32, v3_1 = v3 + 1 → r (v3_1, v2))))))) n (0, 0)) else (post (-1)))
abbrev rmX9_miss : Room := { frames := 2, cells := 0, slots := 0, locals := 45 }
theorem wd_X9_miss : Cond.instanceMethod yX9_miss ∈ BW ∧ Cond.selects yX9_miss.cls yX9_miss yX9_miss ∈ BW ∧ Cond.initialized yX9_miss.cls ∈ BW ∧ Cond.code yX9_miss cX9_miss 5 (some .int) ∈ BW := ⟨mw_4_6, mw_4_7, mw_1_1, mw_4_8⟩
set_option maxHeartbeats 4000000 in
set_option maxRecDepth 100000 in
theorem c_X9_miss {l : Launch} {D : va_G} {cy : Nat → ClassId} {ad : Nat → Nat} {Ad : Nat → Prop} (hAd : adok 103 Ad ad) (I : Nat → Int32) (L : Nat → Int64) (A : Nat → Nat → Int32) (B : Nat → Nat → Int64) (x1 : Int32)  (post : Int32 → Prop) (h : wX9_miss I L A B x1 post) : Met l yX9_miss (.code yX9_miss cX9_miss 5 (some .int) :: BW) rmX9_miss (va_Pc [.ref (ad 0), .int x1] (fun U => kC D cy U ∧ va_P D vwCl (wC cy ad I L A B) U.heap)) (qCi D cy ad Ad (fun r u => post r  ∧ I = u.1 ∧ L = u.2.1 ∧ A = u.2.2.1 ∧ B = u.2.2.2)) 0 0 Ad := by
  refine startCi (by decide) (Nat.le_of_ble_eq_true rfl) (lv := [(0, .ref (ad 0)), (1, .int x1)]) rfl (fun p e s m args below meth c Q ls hx hb hml hT hown hK hret hl hP hS => ?_)
  unfold wX9_miss at h
  refine lv_iload_n hx hb dX9_miss_0 rfl (lv_at hl 1 rfl) ?_
  refine lv_if_lt (tgt := 9) hx hb dX9_miss_1 (by decide) (fun hc => ?_) (fun hc => ?_)
  · rw [if_pos hc] at h
    refine lv_iconst (v := (-1)) hx hb dX9_miss_9 (by decide) ?_
    exact hret _ (I, L, A, B) dX9_miss_10 ⟨h, rfl, rfl, rfl, rfl⟩ hP hS
  · rw [if_neg hc] at h
    refine lv_iload_n hx hb dX9_miss_4 rfl (lv_at hl 1 rfl) ?_
    refine lv_iconst (v := 5) hx hb dX9_miss_5 (by decide) ?_
    refine lv_icmp_le (tgt := 11) hx hb dX9_miss_6 (by decide) (fun hc_1 => ?_) (fun hc_1 => ?_)
    · rw [if_pos hc_1] at h
      refine lv_iconst (v := 0) hx hb dX9_miss_11 (by decide) ?_
      refine lv_istore_n (lv' := [(2, .int 0), (0, .ref (ad 0)), (1, .int x1)]) hx hb dX9_miss_12 rfl hl (by decide) rfl (fun ls hl => ?_)
      refine lv_iconst (v := 0) hx hb dX9_miss_13 (by decide) ?_
      refine lv_istore_n (lv' := [(3, .int 0), (2, .int 0), (0, .ref (ad 0)), (1, .int x1)]) hx hb dX9_miss_14 rfl hl (by decide) rfl (fun ls hl => ?_)
      obtain ⟨F, n, h, hF, hG⟩ := lfix_ex h
      have LP : ∀ (n : Nat) (v3 : Int32) (v2 : Int32) (ls : Array Slot) (H : Heap) (locs : List Loc), F n (v3, v2) → lv_has ls 5 [(3, .int v3), (2, .int v2), (0, .ref (ad 0)), (1, .int x1)] → va_P D vwCl (wC cy ad I L A B) H → va_S Ad s.heap H locs → W p l e rmX9_miss s m args below meth c H locs 0 0 Q (F0 m 15 ls []) := by
        intro n
        induction n with
        | zero => intro v3 v2 ls H locs h _ _ _; exact absurd h (hF _)
        | succ n ih =>
          intro v3 v2 ls H locs h hl hP hS
          replace h := hG _ _ h
          try dsimp only at h
          refine lv_iload_n hx hb dX9_miss_15 rfl (lv_at hl 0 rfl) ?_
          refine lv_aload_n hx hb dX9_miss_16 rfl (lv_at hl 2 rfl) ?_
          refine va_get (T := TX9) hx hb hT inlX9 hown hK.1 hP 0 he_X9 rfl 1 (by decide) (hT _ mw_2_8) (fun _ h9 => h9) rfl dX9_miss_17 ?_
          refine va_get (T := TX6) hx hb hT inlX6 hown hK.1 hP 2 he_X6 rfl 0 (by decide) (hT _ mw_1_88) (fun _ h9 => h9) rfl dX9_miss_20 ?_
          refine va_get (T := TX3) hx hb hT inlX3 hown hK.1 hP 7 (he_X3 (by decide)) rfl 2 (by decide) (hT _ mw_1_79) (fun _ h9 => h9) rfl dX9_miss_23 ?_
          refine lv_icmp_ge (tgt := 76) hx hb dX9_miss_26 (by decide) (fun hc_2 => ?_) (fun hc_2 => ?_)
          · rw [if_pos hc_2] at h
            refine lv_iload_n hx hb dX9_miss_76 rfl (lv_at hl 1 rfl) ?_
            exact hret _ (I, L, A, B) dX9_miss_77 ⟨h, rfl, rfl, rfl, rfl⟩ hP hS
          · rw [if_neg hc_2] at h
            refine lv_aload_n hx hb dX9_miss_29 rfl (lv_at hl 2 rfl) ?_
            refine va_get (T := TX9) hx hb hT inlX9 hown hK.1 hP 0 he_X9 rfl 2 (by decide) (hT _ mw_2_9) (fun _ h9 => h9) rfl dX9_miss_30 ?_
            refine lv_aload_n hx hb dX9_miss_33 rfl (lv_at hl 2 rfl) ?_
            refine va_get (T := TX9) hx hb hT inlX9 hown hK.1 hP 0 he_X9 rfl 1 (by decide) (hT _ mw_2_8) (fun _ h9 => h9) rfl dX9_miss_34 ?_
            refine va_get (T := TX6) hx hb hT inlX6 hown hK.1 hP 2 he_X6 rfl 0 (by decide) (hT _ mw_1_88) (fun _ h9 => h9) rfl dX9_miss_37 ?_
            refine va_get (T := TX3) hx hb hT inlX3 hown hK.1 hP 7 (he_X3 (by decide)) rfl 0 (by decide) (hT _ mw_1_75) (fun _ h9 => h9) rfl dX9_miss_40 ?_
            refine lv_iload_n hx hb dX9_miss_43 rfl (lv_at hl 0 rfl) ?_
            obtain ⟨hi, h⟩ := h
            refine lC_I hx hb hK.1 hP (by decide) rfl hi dX9_miss_44 ?_
            refine callCi (k := 3) (As := [.int (A 41 v3.toNatClampNeg)]) (rest := []) (n := 1) (c_X7_passedBy hAd I L A B (A 41 v3.toNatClampNeg) _ h) hx hb hT hown hK hP hS mw_3_59 wd_X7_passedBy (by decide +kernel) ⟨rfl, rfl⟩ (by decide) rfl rfl he_X7 rfl hl.1 hml rfl (Nat.le_of_ble_eq_true rfl) dX9_miss_45 ⟨Nat.zero_le _, Nat.zero_le _⟩ (fun r45 u H locs h hP hS => ?_)
            obtain ⟨Iu, Lu, Au, Bu⟩ := u
            dsimp only at h hP
            obtain ⟨h, rfl, rfl, rfl, rfl⟩ := h
            try dsimp only at h
            refine lv_istore (lv' := [(4, .int r45), (3, .int v3), (2, .int v2), (0, .ref (ad 0)), (1, .int x1)]) hx hb dX9_miss_48 hl (by decide) rfl (fun ls hl => ?_)
            refine lv_aload_n hx hb dX9_miss_50 rfl (lv_at hl 3 rfl) ?_
            refine va_get (T := TX9) hx hb hT inlX9 hown hK.1 hP 0 he_X9 rfl 2 (by decide) (hT _ mw_2_9) (fun _ h9 => h9) rfl dX9_miss_51 ?_
            refine va_get (T := TX7) hx hb hT inlX7 hown hK.1 hP 3 he_X7 rfl 4 (by decide) (hT _ mw_1_169) (fun _ h9 => h9) rfl dX9_miss_54 ?_
            refine lv_iload hx hb dX9_miss_57 (lv_at hl 0 rfl) ?_
            refine callSCi (As := [.int r45]) (rest := [.int (I 3)]) (n := 1) (c_J6_bitCount_0f7a4 r45 _ h) hx hb hT hown hP hS mw_4_9 wd_J6_bitCount_0f7a4 (by decide +kernel) ⟨rfl, rfl⟩ (by decide) rfl hl.1 hml rfl (Nat.le_of_ble_eq_true rfl) dX9_miss_59 ⟨Nat.zero_le _, Nat.zero_le _⟩ (fun r59 H locs h hP hS => ?_)
            try dsimp only at h
            refine lv_isub hx hb dX9_miss_62 ?_
            refine lv_iload_n hx hb dX9_miss_63 rfl (lv_at hl 4 rfl) ?_
            refine lv_icmp_ne (tgt := 70) hx hb dX9_miss_64 (by decide) (fun hc_3 => ?_) (fun hc_3 => ?_)
            · rw [if_neg hc_3] at h
              obtain ⟨v3_1, ev3_1⟩ : ∃ z : Int32, z = v3 + 1 := ⟨_, rfl⟩
              replace h := h v3_1 ev3_1
              refine lv_iinc (v := v3_1) (lv' := [(3, .int v3_1), (4, .int r45), (2, .int v2), (0, .ref (ad 0)), (1, .int x1)]) hx hb dX9_miss_70 hl (k := 1) rfl (by rw [ev3_1]; rfl) (by decide) rfl (fun ls hl => ?_)
              refine lv_goto (tgt := 15) hx hb dX9_miss_73 (by decide) ?_
              exact ih v3_1 v2 _ _ _ h (lv_sub hl [0, 2, 3, 4] rfl) hP hS
            · rw [if_pos hc_3] at h
              obtain ⟨v2_1, ev2_1⟩ : ∃ z : Int32, z = v2 + 1 := ⟨_, rfl⟩
              replace h := h v2_1 ev2_1
              refine lv_iinc (v := v2_1) (lv' := [(2, .int v2_1), (4, .int r45), (3, .int v3), (0, .ref (ad 0)), (1, .int x1)]) hx hb dX9_miss_67 hl (k := 2) rfl (by rw [ev2_1]; rfl) (by decide) rfl (fun ls hl => ?_)
              obtain ⟨v3_2, ev3_2⟩ : ∃ z : Int32, z = v3 + 1 := ⟨_, rfl⟩
              replace h := h v3_2 ev3_2
              refine lv_iinc (v := v3_2) (lv' := [(3, .int v3_2), (2, .int v2_1), (4, .int r45), (0, .ref (ad 0)), (1, .int x1)]) hx hb dX9_miss_70 hl (k := 2) rfl (by rw [ev3_2]; rfl) (by decide) rfl (fun ls hl => ?_)
              refine lv_goto (tgt := 15) hx hb dX9_miss_73 (by decide) ?_
              exact ih v3_2 v2_1 _ _ _ h (lv_sub hl [0, 1, 3, 4] rfl) hP hS
      exact LP _ 0 0 _ _ _ h (lv_sub hl [0, 1, 2, 3] rfl) hP hS
    · rw [if_neg hc_1] at h
      refine lv_iconst (v := (-1)) hx hb dX9_miss_9 (by decide) ?_
      exact hret _ (I, L, A, B) dX9_miss_10 ⟨h, rfl, rfl, rfl, rfl⟩ hP hS
theorem dX9_most_0 : decode cX9_most 0 = .ok (.aload_n 0, 1) := by decide +kernel
theorem dX9_most_1 : decode cX9_most 1 = .ok (.getfield 28, 3) := by decide +kernel
theorem dX9_most_4 : decode cX9_most 4 = .ok (.invokevirtual 214, 3) := by decide +kernel
theorem dX9_most_7 : decode cX9_most 7 = .ok (.lstore_n 1, 1) := by decide +kernel
theorem dX9_most_8 : decode cX9_most 8 = .ok (.iconst (-1), 1) := by decide +kernel
theorem dX9_most_9 : decode cX9_most 9 = .ok (.istore_n 3, 1) := by decide +kernel
theorem dX9_most_10 : decode cX9_most 10 = .ok (.iconst (-1), 1) := by decide +kernel
theorem dX9_most_11 : decode cX9_most 11 = .ok (.istore 4, 2) := by decide +kernel
theorem dX9_most_13 : decode cX9_most 13 = .ok (.iconst 0, 1) := by decide +kernel
theorem dX9_most_14 : decode cX9_most 14 = .ok (.istore 5, 2) := by decide +kernel
theorem dX9_most_16 : decode cX9_most 16 = .ok (.iload 5, 2) := by decide +kernel
theorem dX9_most_18 : decode cX9_most 18 = .ok (.aload_n 0, 1) := by decide +kernel
theorem dX9_most_19 : decode cX9_most 19 = .ok (.getfield 19, 3) := by decide +kernel
theorem dX9_most_22 : decode cX9_most 22 = .ok (.getfield 208, 3) := by decide +kernel
theorem dX9_most_25 : decode cX9_most 25 = .ok (.getfield 234, 3) := by decide +kernel
theorem dX9_most_28 : decode cX9_most 28 = .ok (.if_icmp .ge 64, 3) := by decide +kernel
theorem dX9_most_31 : decode cX9_most 31 = .ok (.aload_n 0, 1) := by decide +kernel
theorem dX9_most_32 : decode cX9_most 32 = .ok (.getfield 19, 3) := by decide +kernel
theorem dX9_most_35 : decode cX9_most 35 = .ok (.getfield 208, 3) := by decide +kernel
theorem dX9_most_38 : decode cX9_most 38 = .ok (.getfield 235, 3) := by decide +kernel
theorem dX9_most_41 : decode cX9_most 41 = .ok (.iload 5, 2) := by decide +kernel
theorem dX9_most_43 : decode cX9_most 43 = .ok (.iaload, 1) := by decide +kernel
theorem dX9_most_44 : decode cX9_most 44 = .ok (.istore 6, 2) := by decide +kernel
theorem dX9_most_46 : decode cX9_most 46 = .ok (.lload_n 1, 1) := by decide +kernel
theorem dX9_most_47 : decode cX9_most 47 = .ok (.iload 6, 2) := by decide +kernel
theorem dX9_most_49 : decode cX9_most 49 = .ok (.invokestatic 104, 3) := by decide +kernel
theorem dX9_most_52 : decode cX9_most 52 = .ok (.ifCond .ne 6, 3) := by decide +kernel
theorem dX9_most_55 : decode cX9_most 55 = .ok (.goto 31, 3) := by decide +kernel
theorem dX9_most_58 : decode cX9_most 58 = .ok (.aload_n 0, 1) := by decide +kernel
theorem dX9_most_59 : decode cX9_most 59 = .ok (.getfield 10, 3) := by decide +kernel
theorem dX9_most_62 : decode cX9_most 62 = .ok (.iload 6, 2) := by decide +kernel
theorem dX9_most_64 : decode cX9_most 64 = .ok (.invokestatic 147, 3) := by decide +kernel
theorem dX9_most_67 : decode cX9_most 67 = .ok (.invokevirtual 321, 3) := by decide +kernel
theorem dX9_most_70 : decode cX9_most 70 = .ok (.istore 7, 2) := by decide +kernel
theorem dX9_most_72 : decode cX9_most 72 = .ok (.iload 7, 2) := by decide +kernel
theorem dX9_most_74 : decode cX9_most 74 = .ok (.iload 4, 2) := by decide +kernel
theorem dX9_most_76 : decode cX9_most 76 = .ok (.if_icmp .le 10, 3) := by decide +kernel
theorem dX9_most_79 : decode cX9_most 79 = .ok (.iload 7, 2) := by decide +kernel
theorem dX9_most_81 : decode cX9_most 81 = .ok (.istore 4, 2) := by decide +kernel
theorem dX9_most_83 : decode cX9_most 83 = .ok (.iload 6, 2) := by decide +kernel
theorem dX9_most_85 : decode cX9_most 85 = .ok (.istore_n 3, 1) := by decide +kernel
theorem dX9_most_86 : decode cX9_most 86 = .ok (.iinc 5 1, 3) := by decide +kernel
theorem dX9_most_89 : decode cX9_most 89 = .ok (.goto (-73), 3) := by decide +kernel
theorem dX9_most_92 : decode cX9_most 92 = .ok (.iload_n 3, 1) := by decide +kernel
theorem dX9_most_93 : decode cX9_most 93 = .ok (.ireturn, 1) := by decide +kernel
def wX9_most (I : Nat → Int32) (L : Nat → Int64) (A : Nat → Nat → Int32) (B : Nat → Nat → Int64)  (post : Int32 → Prop) : Prop := wX7_hits I L A B  (fun r4 => ∃ n, lfix (fun (r : (Int32 × Int32 × Int32) → Prop) (v5, v4, v3) => if (I 7) ≤ v5 then (post v3) else (vp_in v5 40 ∧ (∀ v6 : Int32, v6 = A 41 v5.toNatClampNeg → wX9_inSet r4 v6 (fun r49 => if r49 = 0 then (∀ v5_3 : Int32, v5_3 = v5 + 1 → r (v5_3, v4, v3)) else (wX9_bit v6 (fun r64 => wX2_howManyHeldBy I L A B r64 (fun r67 => if r67 ≤ v4 then (∀ v5_1 : Int32, v5_1 = v5 + 1 → r (v5_1, v4, v3)) else (∀ v5_2 : Int32, v5_2 = v5 + 1 → r (v5_2, r67, v6))))))))) n (0, (-1), (-1)))
abbrev rmX9_most : Room := { frames := 2, cells := 0, slots := 0, locals := 45 }
theorem wd_X9_most : Cond.instanceMethod yX9_most ∈ BW ∧ Cond.selects yX9_most.cls yX9_most yX9_most ∈ BW ∧ Cond.initialized yX9_most.cls ∈ BW ∧ Cond.code yX9_most cX9_most 8 (some .int) ∈ BW := ⟨mw_4_16, mw_4_17, mw_1_1, mw_4_18⟩
set_option maxHeartbeats 4000000 in
set_option maxRecDepth 100000 in
theorem c_X9_most {l : Launch} {D : va_G} {cy : Nat → ClassId} {ad : Nat → Nat} {Ad : Nat → Prop} (hAd : adok 103 Ad ad) (I : Nat → Int32) (L : Nat → Int64) (A : Nat → Nat → Int32) (B : Nat → Nat → Int64)   (post : Int32 → Prop) (h : wX9_most I L A B  post) : Met l yX9_most (.code yX9_most cX9_most 8 (some .int) :: BW) rmX9_most (va_Pc [.ref (ad 0)] (fun U => kC D cy U ∧ va_P D vwCl (wC cy ad I L A B) U.heap)) (qCi D cy ad Ad (fun r u => post r  ∧ I = u.1 ∧ L = u.2.1 ∧ A = u.2.2.1 ∧ B = u.2.2.2)) 0 0 Ad := by
  refine startCi (by decide) (Nat.le_of_ble_eq_true rfl) (lv := [(0, .ref (ad 0))]) rfl (fun p e s m args below meth c Q ls hx hb hml hT hown hK hret hl hP hS => ?_)
  unfold wX9_most at h
  refine lv_aload_n hx hb dX9_most_0 rfl (lv_at hl 0 rfl) ?_
  refine va_get (T := TX9) hx hb hT inlX9 hown hK.1 hP 0 he_X9 rfl 2 (by decide) (hT _ mw_2_9) (fun _ h9 => h9) rfl dX9_most_1 ?_
  refine callCl (k := 3) (As := []) (rest := []) (n := 0) (c_X7_hits hAd I L A B  _ h) hx hb hT hown hK hP hS mw_3_51 wd_X7_hits (by decide +kernel) ⟨rfl, rfl⟩ (by decide) rfl rfl he_X7 rfl hl.1 hml rfl (Nat.le_of_ble_eq_true rfl) dX9_most_4 ⟨Nat.zero_le _, Nat.zero_le _⟩ (fun r4 u H locs h hP hS => ?_)
  obtain ⟨Iu, Lu, Au, Bu⟩ := u
  dsimp only at h hP
  obtain ⟨h, rfl, rfl, rfl, rfl⟩ := h
  try dsimp only at h
  refine lv_lstore_n (lv' := [(1, .long r4), (0, .ref (ad 0))]) hx hb dX9_most_7 rfl hl (by decide) rfl (fun ls hl => ?_)
  refine lv_iconst (v := (-1)) hx hb dX9_most_8 (by decide) ?_
  refine lv_istore_n (lv' := [(3, .int (-1)), (1, .long r4), (0, .ref (ad 0))]) hx hb dX9_most_9 rfl hl (by decide) rfl (fun ls hl => ?_)
  refine lv_iconst (v := (-1)) hx hb dX9_most_10 (by decide) ?_
  refine lv_istore (lv' := [(4, .int (-1)), (3, .int (-1)), (1, .long r4), (0, .ref (ad 0))]) hx hb dX9_most_11 hl (by decide) rfl (fun ls hl => ?_)
  refine lv_iconst (v := 0) hx hb dX9_most_13 (by decide) ?_
  refine lv_istore (lv' := [(5, .int 0), (4, .int (-1)), (3, .int (-1)), (1, .long r4), (0, .ref (ad 0))]) hx hb dX9_most_14 hl (by decide) rfl (fun ls hl => ?_)
  obtain ⟨F, n, h, hF, hG⟩ := lfix_ex h
  have LP : ∀ (n : Nat) (v5 : Int32) (v4 : Int32) (v3 : Int32) (ls : Array Slot) (H : Heap) (locs : List Loc), F n (v5, v4, v3) → lv_has ls 8 [(5, .int v5), (4, .int v4), (3, .int v3), (1, .long r4), (0, .ref (ad 0))] → va_P D vwCl (wC cy ad I L A B) H → va_S Ad s.heap H locs → W p l e rmX9_most s m args below meth c H locs 0 0 Q (F0 m 16 ls []) := by
    intro n
    induction n with
    | zero => intro v5 v4 v3 ls H locs h _ _ _; exact absurd h (hF _)
    | succ n ih =>
      intro v5 v4 v3 ls H locs h hl hP hS
      replace h := hG _ _ h
      try dsimp only at h
      refine lv_iload hx hb dX9_most_16 (lv_at hl 0 rfl) ?_
      refine lv_aload_n hx hb dX9_most_18 rfl (lv_at hl 4 rfl) ?_
      refine va_get (T := TX9) hx hb hT inlX9 hown hK.1 hP 0 he_X9 rfl 1 (by decide) (hT _ mw_2_8) (fun _ h9 => h9) rfl dX9_most_19 ?_
      refine va_get (T := TX6) hx hb hT inlX6 hown hK.1 hP 2 he_X6 rfl 0 (by decide) (hT _ mw_1_88) (fun _ h9 => h9) rfl dX9_most_22 ?_
      refine va_get (T := TX3) hx hb hT inlX3 hown hK.1 hP 7 (he_X3 (by decide)) rfl 2 (by decide) (hT _ mw_1_79) (fun _ h9 => h9) rfl dX9_most_25 ?_
      refine lv_icmp_ge (tgt := 92) hx hb dX9_most_28 (by decide) (fun hc => ?_) (fun hc => ?_)
      · rw [if_pos hc] at h
        refine lv_iload_n hx hb dX9_most_92 rfl (lv_at hl 2 rfl) ?_
        exact hret _ (I, L, A, B) dX9_most_93 ⟨h, rfl, rfl, rfl, rfl⟩ hP hS
      · rw [if_neg hc] at h
        refine lv_aload_n hx hb dX9_most_31 rfl (lv_at hl 4 rfl) ?_
        refine va_get (T := TX9) hx hb hT inlX9 hown hK.1 hP 0 he_X9 rfl 1 (by decide) (hT _ mw_2_8) (fun _ h9 => h9) rfl dX9_most_32 ?_
        refine va_get (T := TX6) hx hb hT inlX6 hown hK.1 hP 2 he_X6 rfl 0 (by decide) (hT _ mw_1_88) (fun _ h9 => h9) rfl dX9_most_35 ?_
        refine va_get (T := TX3) hx hb hT inlX3 hown hK.1 hP 7 (he_X3 (by decide)) rfl 0 (by decide) (hT _ mw_1_75) (fun _ h9 => h9) rfl dX9_most_38 ?_
        refine lv_iload hx hb dX9_most_41 (lv_at hl 0 rfl) ?_
        obtain ⟨hi, h⟩ := h
        refine lC_I hx hb hK.1 hP (by decide) rfl hi dX9_most_43 ?_
        refine lv_topi (fun v6 ev6 => ?_)
        replace h := h v6 ev6
        refine lv_istore (lv' := [(6, .int v6), (5, .int v5), (4, .int v4), (3, .int v3), (1, .long r4), (0, .ref (ad 0))]) hx hb dX9_most_44 hl (by decide) rfl (fun ls hl => ?_)
        refine lv_lload_n hx hb dX9_most_46 rfl (lv_at hl 4 rfl) ?_
        refine lv_iload hx hb dX9_most_47 (lv_at hl 0 rfl) ?_
        refine callSCi (As := [.long r4, .int v6]) (rest := []) (n := 2) (c_X9_inSet r4 v6 _ h) hx hb hT hown hP hS mw_2_123 wd_X9_inSet (by decide +kernel) ⟨rfl, rfl⟩ (by decide) rfl hl.1 hml rfl (Nat.le_of_ble_eq_true rfl) dX9_most_49 ⟨Nat.zero_le _, Nat.zero_le _⟩ (fun r49 H locs h hP hS => ?_)
        try dsimp only at h
        refine lv_if_ne (tgt := 58) hx hb dX9_most_52 (by decide) (fun hc_1 => ?_) (fun hc_1 => ?_)
        · rw [if_neg hc_1] at h
          refine lv_aload_n hx hb dX9_most_58 rfl (lv_at hl 5 rfl) ?_
          refine va_get (T := TX9) hx hb hT inlX9 hown hK.1 hP 0 he_X9 rfl 0 (by decide) (hT _ mw_2_7) (fun _ h9 => h9) rfl dX9_most_59 ?_
          refine lv_iload hx hb dX9_most_62 (lv_at hl 0 rfl) ?_
          refine callSCl (As := [.int v6]) (rest := [.ref (ad 1)]) (n := 1) (c_X9_bit v6 _ h) hx hb hT hown hP hS mw_2_195 wd_X9_bit (by decide +kernel) ⟨rfl, rfl⟩ (by decide) rfl hl.1 hml rfl (Nat.le_of_ble_eq_true rfl) dX9_most_64 ⟨Nat.zero_le _, Nat.zero_le _⟩ (fun r64 H locs h hP hS => ?_)
          try dsimp only at h
          refine callCi (k := 1) (As := [.long r64]) (rest := []) (n := 1) (c_X2_howManyHeldBy hAd I L A B r64 _ h) hx hb hT hown hK hP hS mw_3_237 wd_X2_howManyHeldBy (by decide +kernel) ⟨rfl, rfl⟩ (by decide) rfl rfl he_X2 rfl hl.1 hml rfl (Nat.le_of_ble_eq_true rfl) dX9_most_67 ⟨Nat.zero_le _, Nat.zero_le _⟩ (fun r67 u H locs h hP hS => ?_)
          obtain ⟨Iu_1, Lu_1, Au_1, Bu_1⟩ := u
          dsimp only at h hP
          obtain ⟨h, rfl, rfl, rfl, rfl⟩ := h
          try dsimp only at h
          refine lv_istore (lv' := [(7, .int r67), (6, .int v6), (5, .int v5), (4, .int v4), (3, .int v3), (1, .long r4), (0, .ref (ad 0))]) hx hb dX9_most_70 hl (by decide) rfl (fun ls hl => ?_)
          refine lv_iload hx hb dX9_most_72 (lv_at hl 0 rfl) ?_
          refine lv_iload hx hb dX9_most_74 (lv_at hl 3 rfl) ?_
          refine lv_icmp_le (tgt := 86) hx hb dX9_most_76 (by decide) (fun hc_2 => ?_) (fun hc_2 => ?_)
          · rw [if_pos hc_2] at h
            obtain ⟨v5_1, ev5_1⟩ : ∃ z : Int32, z = v5 + 1 := ⟨_, rfl⟩
            replace h := h v5_1 ev5_1
            refine lv_iinc (v := v5_1) (lv' := [(5, .int v5_1), (7, .int r67), (6, .int v6), (4, .int v4), (3, .int v3), (1, .long r4), (0, .ref (ad 0))]) hx hb dX9_most_86 hl (k := 2) rfl (by rw [ev5_1]; rfl) (by decide) rfl (fun ls hl => ?_)
            refine lv_goto (tgt := 16) hx hb dX9_most_89 (by decide) ?_
            exact ih v5_1 v4 v3 _ _ _ h (lv_sub hl [0, 3, 4, 5, 6] rfl) hP hS
          · rw [if_neg hc_2] at h
            refine lv_iload hx hb dX9_most_79 (lv_at hl 0 rfl) ?_
            refine lv_istore (lv' := [(4, .int r67), (7, .int r67), (6, .int v6), (5, .int v5), (3, .int v3), (1, .long r4), (0, .ref (ad 0))]) hx hb dX9_most_81 hl (by decide) rfl (fun ls hl => ?_)
            refine lv_iload hx hb dX9_most_83 (lv_at hl 2 rfl) ?_
            refine lv_istore_n (lv' := [(3, .int v6), (4, .int r67), (7, .int r67), (6, .int v6), (5, .int v5), (1, .long r4), (0, .ref (ad 0))]) hx hb dX9_most_85 rfl hl (by decide) rfl (fun ls hl => ?_)
            obtain ⟨v5_2, ev5_2⟩ : ∃ z : Int32, z = v5 + 1 := ⟨_, rfl⟩
            replace h := h v5_2 ev5_2
            refine lv_iinc (v := v5_2) (lv' := [(5, .int v5_2), (3, .int v6), (4, .int r67), (7, .int r67), (6, .int v6), (1, .long r4), (0, .ref (ad 0))]) hx hb dX9_most_86 hl (k := 4) rfl (by rw [ev5_2]; rfl) (by decide) rfl (fun ls hl => ?_)
            refine lv_goto (tgt := 16) hx hb dX9_most_89 (by decide) ?_
            exact ih v5_2 r67 v6 _ _ _ h (lv_sub hl [0, 2, 1, 5, 6] rfl) hP hS
        · rw [if_pos hc_1] at h
          refine lv_goto (tgt := 86) hx hb dX9_most_55 (by decide) ?_
          obtain ⟨v5_3, ev5_3⟩ : ∃ z : Int32, z = v5 + 1 := ⟨_, rfl⟩
          replace h := h v5_3 ev5_3
          refine lv_iinc (v := v5_3) (lv' := [(5, .int v5_3), (6, .int v6), (4, .int v4), (3, .int v3), (1, .long r4), (0, .ref (ad 0))]) hx hb dX9_most_86 hl (k := 1) rfl (by rw [ev5_3]; rfl) (by decide) rfl (fun ls hl => ?_)
          refine lv_goto (tgt := 16) hx hb dX9_most_89 (by decide) ?_
          exact ih v5_3 v4 v3 _ _ _ h (lv_sub hl [0, 2, 3, 4, 5] rfl) hP hS
  exact LP _ 0 (-1) (-1) _ _ _ h (lv_sub hl [0, 1, 2, 3, 4] rfl) hP hS
theorem dX9_count_0 : decode cX9_count 0 = .ok (.iload_n 1, 1) := by decide +kernel
theorem dX9_count_1 : decode cX9_count 1 = .ok (.tableswitch 129 0 8 #[51, 59, 67, 75, 86, 97, 105, 113, 121], 51) := by decide +kernel
theorem dX9_count_52 : decode cX9_count 52 = .ok (.aload_n 0, 1) := by decide +kernel
theorem dX9_count_53 : decode cX9_count 53 = .ok (.getfield 28, 3) := by decide +kernel
theorem dX9_count_56 : decode cX9_count 56 = .ok (.getfield 69, 3) := by decide +kernel
theorem dX9_count_59 : decode cX9_count 59 = .ok (.ireturn, 1) := by decide +kernel
theorem dX9_count_60 : decode cX9_count 60 = .ok (.aload_n 0, 1) := by decide +kernel
theorem dX9_count_61 : decode cX9_count 61 = .ok (.getfield 10, 3) := by decide +kernel
theorem dX9_count_64 : decode cX9_count 64 = .ok (.getfield 81, 3) := by decide +kernel
theorem dX9_count_67 : decode cX9_count 67 = .ok (.ireturn, 1) := by decide +kernel
theorem dX9_count_68 : decode cX9_count 68 = .ok (.aload_n 0, 1) := by decide +kernel
theorem dX9_count_69 : decode cX9_count 69 = .ok (.getfield 19, 3) := by decide +kernel
theorem dX9_count_72 : decode cX9_count 72 = .ok (.getfield 118, 3) := by decide +kernel
theorem dX9_count_75 : decode cX9_count 75 = .ok (.ireturn, 1) := by decide +kernel
theorem dX9_count_76 : decode cX9_count 76 = .ok (.aload_n 0, 1) := by decide +kernel
theorem dX9_count_77 : decode cX9_count 77 = .ok (.getfield 19, 3) := by decide +kernel
theorem dX9_count_80 : decode cX9_count 80 = .ok (.getfield 208, 3) := by decide +kernel
theorem dX9_count_83 : decode cX9_count 83 = .ok (.getfield 234, 3) := by decide +kernel
theorem dX9_count_86 : decode cX9_count 86 = .ok (.ireturn, 1) := by decide +kernel
theorem dX9_count_87 : decode cX9_count 87 = .ok (.aload_n 0, 1) := by decide +kernel
theorem dX9_count_88 : decode cX9_count 88 = .ok (.getfield 28, 3) := by decide +kernel
theorem dX9_count_91 : decode cX9_count 91 = .ok (.invokevirtual 214, 3) := by decide +kernel
theorem dX9_count_94 : decode cX9_count 94 = .ok (.invokestatic 201, 3) := by decide +kernel
theorem dX9_count_97 : decode cX9_count 97 = .ok (.ireturn, 1) := by decide +kernel
theorem dX9_count_98 : decode cX9_count 98 = .ok (.aload_n 0, 1) := by decide +kernel
theorem dX9_count_99 : decode cX9_count 99 = .ok (.getfield 28, 3) := by decide +kernel
theorem dX9_count_102 : decode cX9_count 102 = .ok (.invokevirtual 328, 3) := by decide +kernel
theorem dX9_count_105 : decode cX9_count 105 = .ok (.ireturn, 1) := by decide +kernel
theorem dX9_count_106 : decode cX9_count 106 = .ok (.aload_n 0, 1) := by decide +kernel
theorem dX9_count_107 : decode cX9_count 107 = .ok (.getfield 28, 3) := by decide +kernel
theorem dX9_count_110 : decode cX9_count 110 = .ok (.invokevirtual 332, 3) := by decide +kernel
theorem dX9_count_113 : decode cX9_count 113 = .ok (.ireturn, 1) := by decide +kernel
theorem dX9_count_114 : decode cX9_count 114 = .ok (.aload_n 0, 1) := by decide +kernel
theorem dX9_count_115 : decode cX9_count 115 = .ok (.getfield 28, 3) := by decide +kernel
theorem dX9_count_118 : decode cX9_count 118 = .ok (.invokevirtual 335, 3) := by decide +kernel
theorem dX9_count_121 : decode cX9_count 121 = .ok (.ireturn, 1) := by decide +kernel
theorem dX9_count_122 : decode cX9_count 122 = .ok (.aload_n 0, 1) := by decide +kernel
theorem dX9_count_123 : decode cX9_count 123 = .ok (.getfield 35, 3) := by decide +kernel
theorem dX9_count_126 : decode cX9_count 126 = .ok (.getfield 190, 3) := by decide +kernel
theorem dX9_count_129 : decode cX9_count 129 = .ok (.ireturn, 1) := by decide +kernel
theorem dX9_count_130 : decode cX9_count 130 = .ok (.iconst (-1), 1) := by decide +kernel
theorem dX9_count_131 : decode cX9_count 131 = .ok (.ireturn, 1) := by decide +kernel
def wX9_count (I : Nat → Int32) (L : Nat → Int64) (A : Nat → Nat → Int32) (B : Nat → Nat → Int64) (x1 : Int32) (post : Int32 → Prop) : Prop := if x1 = 0 then (post (I 3)) else (if x1 = 1 then (post (I 1)) else (if x1 = 2 then (post (I 2)) else (if x1 = 3 then (post (I 7)) else (if x1 = 4 then (wX7_hits I L A B  (fun r91 => wJ13_bitCount_95d88 r91 (fun r94 => post r94))) else (if x1 = 5 then (wX7_howManyCategoriesChosen I L A B  (fun r102 => post r102)) else (if x1 = 6 then (wX7_howManyRanges I L A B  (fun r110 => post r110)) else (if x1 = 7 then (wX7_narrowed I L A B  (fun r118 => post r118)) else (if x1 = 8 then (post (I 4)) else (post (-1))))))))))
abbrev rmX9_count : Room := { frames := 2, cells := 0, slots := 0, locals := 45 }
theorem wd_X9_count : Cond.instanceMethod yX9_count ∈ BW ∧ Cond.selects yX9_count.cls yX9_count yX9_count ∈ BW ∧ Cond.initialized yX9_count.cls ∈ BW ∧ Cond.code yX9_count cX9_count 2 (some .int) ∈ BW := ⟨mw_4_20, mw_4_21, mw_1_1, mw_4_22⟩
set_option maxHeartbeats 4000000 in
set_option maxRecDepth 100000 in
theorem c_X9_count {l : Launch} {D : va_G} {cy : Nat → ClassId} {ad : Nat → Nat} {Ad : Nat → Prop} (hAd : adok 103 Ad ad) (I : Nat → Int32) (L : Nat → Int64) (A : Nat → Nat → Int32) (B : Nat → Nat → Int64) (x1 : Int32)  (post : Int32 → Prop) (h : wX9_count I L A B x1 post) : Met l yX9_count (.code yX9_count cX9_count 2 (some .int) :: BW) rmX9_count (va_Pc [.ref (ad 0), .int x1] (fun U => kC D cy U ∧ va_P D vwCl (wC cy ad I L A B) U.heap)) (qCi D cy ad Ad (fun r u => post r  ∧ I = u.1 ∧ L = u.2.1 ∧ A = u.2.2.1 ∧ B = u.2.2.2)) 0 0 Ad := by
  refine startCi (by decide) (Nat.le_of_ble_eq_true rfl) (lv := [(0, .ref (ad 0)), (1, .int x1)]) rfl (fun p e s m args below meth c Q ls hx hb hml hT hown hK hret hl hP hS => ?_)
  unfold wX9_count at h
  refine lv_iload_n hx hb dX9_count_0 rfl (lv_at hl 1 rfl) ?_
  by_cases hc : x1 = 0
  · rw [if_pos hc] at h
    refine lv_tableIn (tgt := 52) hx hb dX9_count_1 (by rw [hc]; decide) (by rw [hc]; decide) (by rw [hc]; rfl) (by decide) ?_
    refine lv_aload_n hx hb dX9_count_52 rfl (lv_at hl 0 rfl) ?_
    refine va_get (T := TX9) hx hb hT inlX9 hown hK.1 hP 0 he_X9 rfl 2 (by decide) (hT _ mw_2_9) (fun _ h9 => h9) rfl dX9_count_53 ?_
    refine va_get (T := TX7) hx hb hT inlX7 hown hK.1 hP 3 he_X7 rfl 4 (by decide) (hT _ mw_1_169) (fun _ h9 => h9) rfl dX9_count_56 ?_
    exact hret _ (I, L, A, B) dX9_count_59 ⟨h, rfl, rfl, rfl, rfl⟩ hP hS
  rw [if_neg hc] at h
  by_cases hc_1 : x1 = 1
  · rw [if_pos hc_1] at h
    refine lv_tableIn (tgt := 60) hx hb dX9_count_1 (by rw [hc_1]; decide) (by rw [hc_1]; decide) (by rw [hc_1]; rfl) (by decide) ?_
    refine lv_aload_n hx hb dX9_count_60 rfl (lv_at hl 0 rfl) ?_
    refine va_get (T := TX9) hx hb hT inlX9 hown hK.1 hP 0 he_X9 rfl 0 (by decide) (hT _ mw_2_7) (fun _ h9 => h9) rfl dX9_count_61 ?_
    refine va_get (T := TX2) hx hb hT inlX2 hown hK.1 hP 1 he_X2 rfl 5 (by decide) (hT _ mw_1_46) (fun _ h9 => h9) rfl dX9_count_64 ?_
    exact hret _ (I, L, A, B) dX9_count_67 ⟨h, rfl, rfl, rfl, rfl⟩ hP hS
  rw [if_neg hc_1] at h
  by_cases hc_2 : x1 = 2
  · rw [if_pos hc_2] at h
    refine lv_tableIn (tgt := 68) hx hb dX9_count_1 (by rw [hc_2]; decide) (by rw [hc_2]; decide) (by rw [hc_2]; rfl) (by decide) ?_
    refine lv_aload_n hx hb dX9_count_68 rfl (lv_at hl 0 rfl) ?_
    refine va_get (T := TX9) hx hb hT inlX9 hown hK.1 hP 0 he_X9 rfl 1 (by decide) (hT _ mw_2_8) (fun _ h9 => h9) rfl dX9_count_69 ?_
    refine va_get (T := TX6) hx hb hT inlX6 hown hK.1 hP 2 he_X6 rfl 2 (by decide) (hT _ mw_1_92) (fun _ h9 => h9) rfl dX9_count_72 ?_
    exact hret _ (I, L, A, B) dX9_count_75 ⟨h, rfl, rfl, rfl, rfl⟩ hP hS
  rw [if_neg hc_2] at h
  by_cases hc_3 : x1 = 3
  · rw [if_pos hc_3] at h
    refine lv_tableIn (tgt := 76) hx hb dX9_count_1 (by rw [hc_3]; decide) (by rw [hc_3]; decide) (by rw [hc_3]; rfl) (by decide) ?_
    refine lv_aload_n hx hb dX9_count_76 rfl (lv_at hl 0 rfl) ?_
    refine va_get (T := TX9) hx hb hT inlX9 hown hK.1 hP 0 he_X9 rfl 1 (by decide) (hT _ mw_2_8) (fun _ h9 => h9) rfl dX9_count_77 ?_
    refine va_get (T := TX6) hx hb hT inlX6 hown hK.1 hP 2 he_X6 rfl 0 (by decide) (hT _ mw_1_88) (fun _ h9 => h9) rfl dX9_count_80 ?_
    refine va_get (T := TX3) hx hb hT inlX3 hown hK.1 hP 7 (he_X3 (by decide)) rfl 2 (by decide) (hT _ mw_1_79) (fun _ h9 => h9) rfl dX9_count_83 ?_
    exact hret _ (I, L, A, B) dX9_count_86 ⟨h, rfl, rfl, rfl, rfl⟩ hP hS
  rw [if_neg hc_3] at h
  by_cases hc_4 : x1 = 4
  · rw [if_pos hc_4] at h
    refine lv_tableIn (tgt := 87) hx hb dX9_count_1 (by rw [hc_4]; decide) (by rw [hc_4]; decide) (by rw [hc_4]; rfl) (by decide) ?_
    refine lv_aload_n hx hb dX9_count_87 rfl (lv_at hl 0 rfl) ?_
    refine va_get (T := TX9) hx hb hT inlX9 hown hK.1 hP 0 he_X9 rfl 2 (by decide) (hT _ mw_2_9) (fun _ h9 => h9) rfl dX9_count_88 ?_
    refine callCl (k := 3) (As := []) (rest := []) (n := 0) (c_X7_hits hAd I L A B  _ h) hx hb hT hown hK hP hS mw_3_51 wd_X7_hits (by decide +kernel) ⟨rfl, rfl⟩ (by decide) rfl rfl he_X7 rfl hl.1 hml rfl (Nat.le_of_ble_eq_true rfl) dX9_count_91 ⟨Nat.zero_le _, Nat.zero_le _⟩ (fun r91 u H locs h hP hS => ?_)
    obtain ⟨Iu, Lu, Au, Bu⟩ := u
    dsimp only at h hP
    obtain ⟨h, rfl, rfl, rfl, rfl⟩ := h
    try dsimp only at h
    refine callSCi (As := [.long r91]) (rest := []) (n := 1) (c_J13_bitCount_95d88 r91 _ h) hx hb hT hown hP hS mw_3_40 wd_J13_bitCount_95d88 (by decide +kernel) ⟨rfl, rfl⟩ (by decide) rfl hl.1 hml rfl (Nat.le_of_ble_eq_true rfl) dX9_count_94 ⟨Nat.zero_le _, Nat.zero_le _⟩ (fun r94 H locs h hP hS => ?_)
    try dsimp only at h
    exact hret _ (I, L, A, B) dX9_count_97 ⟨h, rfl, rfl, rfl, rfl⟩ hP hS
  rw [if_neg hc_4] at h
  by_cases hc_5 : x1 = 5
  · rw [if_pos hc_5] at h
    refine lv_tableIn (tgt := 98) hx hb dX9_count_1 (by rw [hc_5]; decide) (by rw [hc_5]; decide) (by rw [hc_5]; rfl) (by decide) ?_
    refine lv_aload_n hx hb dX9_count_98 rfl (lv_at hl 0 rfl) ?_
    refine va_get (T := TX9) hx hb hT inlX9 hown hK.1 hP 0 he_X9 rfl 2 (by decide) (hT _ mw_2_9) (fun _ h9 => h9) rfl dX9_count_99 ?_
    refine callCi (k := 3) (As := []) (rest := []) (n := 0) (c_X7_howManyCategoriesChosen hAd I L A B  _ h) hx hb hT hown hK hP hS mw_4_23 wd_X7_howManyCategoriesChosen (by decide +kernel) ⟨rfl, rfl⟩ (by decide) rfl rfl he_X7 rfl hl.1 hml rfl (Nat.le_of_ble_eq_true rfl) dX9_count_102 ⟨Nat.zero_le _, Nat.zero_le _⟩ (fun r102 u H locs h hP hS => ?_)
    obtain ⟨Iu_1, Lu_1, Au_1, Bu_1⟩ := u
    dsimp only at h hP
    obtain ⟨h, rfl, rfl, rfl, rfl⟩ := h
    try dsimp only at h
    exact hret _ (I, L, A, B) dX9_count_105 ⟨h, rfl, rfl, rfl, rfl⟩ hP hS
  rw [if_neg hc_5] at h
  by_cases hc_6 : x1 = 6
  · rw [if_pos hc_6] at h
    refine lv_tableIn (tgt := 106) hx hb dX9_count_1 (by rw [hc_6]; decide) (by rw [hc_6]; decide) (by rw [hc_6]; rfl) (by decide) ?_
    refine lv_aload_n hx hb dX9_count_106 rfl (lv_at hl 0 rfl) ?_
    refine va_get (T := TX9) hx hb hT inlX9 hown hK.1 hP 0 he_X9 rfl 2 (by decide) (hT _ mw_2_9) (fun _ h9 => h9) rfl dX9_count_107 ?_
    refine callCi (k := 3) (As := []) (rest := []) (n := 0) (c_X7_howManyRanges hAd I L A B  _ h) hx hb hT hown hK hP hS mw_4_27 wd_X7_howManyRanges (by decide +kernel) ⟨rfl, rfl⟩ (by decide) rfl rfl he_X7 rfl hl.1 hml rfl (Nat.le_of_ble_eq_true rfl) dX9_count_110 ⟨Nat.zero_le _, Nat.zero_le _⟩ (fun r110 u H locs h hP hS => ?_)
    obtain ⟨Iu_2, Lu_2, Au_2, Bu_2⟩ := u
    dsimp only at h hP
    obtain ⟨h, rfl, rfl, rfl, rfl⟩ := h
    try dsimp only at h
    exact hret _ (I, L, A, B) dX9_count_113 ⟨h, rfl, rfl, rfl, rfl⟩ hP hS
  rw [if_neg hc_6] at h
  by_cases hc_7 : x1 = 7
  · rw [if_pos hc_7] at h
    refine lv_tableIn (tgt := 114) hx hb dX9_count_1 (by rw [hc_7]; decide) (by rw [hc_7]; decide) (by rw [hc_7]; rfl) (by decide) ?_
    refine lv_aload_n hx hb dX9_count_114 rfl (lv_at hl 0 rfl) ?_
    refine va_get (T := TX9) hx hb hT inlX9 hown hK.1 hP 0 he_X9 rfl 2 (by decide) (hT _ mw_2_9) (fun _ h9 => h9) rfl dX9_count_115 ?_
    refine callCi (k := 3) (As := []) (rest := []) (n := 0) (c_X7_narrowed hAd I L A B  _ h) hx hb hT hown hK hP hS mw_4_31 wd_X7_narrowed (by decide +kernel) ⟨rfl, rfl⟩ (by decide) rfl rfl he_X7 rfl hl.1 hml rfl (Nat.le_of_ble_eq_true rfl) dX9_count_118 ⟨Nat.zero_le _, Nat.zero_le _⟩ (fun r118 u H locs h hP hS => ?_)
    obtain ⟨Iu_3, Lu_3, Au_3, Bu_3⟩ := u
    dsimp only at h hP
    obtain ⟨h, rfl, rfl, rfl, rfl⟩ := h
    try dsimp only at h
    exact hret _ (I, L, A, B) dX9_count_121 ⟨h, rfl, rfl, rfl, rfl⟩ hP hS
  rw [if_neg hc_7] at h
  by_cases hc_8 : x1 = 8
  · rw [if_pos hc_8] at h
    refine lv_tableIn (tgt := 122) hx hb dX9_count_1 (by rw [hc_8]; decide) (by rw [hc_8]; decide) (by rw [hc_8]; rfl) (by decide) ?_
    refine lv_aload_n hx hb dX9_count_122 rfl (lv_at hl 0 rfl) ?_
    refine va_get (T := TX9) hx hb hT inlX9 hown hK.1 hP 0 he_X9 rfl 3 (by decide) (hT _ mw_2_10) (fun _ h9 => h9) rfl dX9_count_123 ?_
    refine va_get (T := TX8) hx hb hT inlX8 hown hK.1 hP 4 he_X8 rfl 3 (by decide) (hT _ mw_1_194) (fun _ h9 => h9) rfl dX9_count_126 ?_
    exact hret _ (I, L, A, B) dX9_count_129 ⟨h, rfl, rfl, rfl, rfl⟩ hP hS
  rw [if_neg hc_8] at h
  refine lv_tableOut (tgt := 130) hx hb dX9_count_1 (sw_out_8 hc hc_1 hc_2 hc_3 hc_4 hc_5 hc_6 hc_7 hc_8) (by decide) ?_
  refine lv_iconst (v := (-1)) hx hb dX9_count_130 (by decide) ?_
  exact hret _ (I, L, A, B) dX9_count_131 ⟨h, rfl, rfl, rfl, rfl⟩ hP hS
