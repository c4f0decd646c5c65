theorem dX9_document_0 : decode cX9_document 0 = .ok (.iload_n 1, 1) := by decide +kernel
theorem dX9_document_1 : decode cX9_document 1 = .ok (.ifCond .lt 21, 3) := by decide +kernel
theorem dX9_document_4 : decode cX9_document 4 = .ok (.iload_n 1, 1) := by decide +kernel
theorem dX9_document_5 : decode cX9_document 5 = .ok (.bipush 99, 2) := by decide +kernel
theorem dX9_document_7 : decode cX9_document 7 = .ok (.if_icmp .gt 15, 3) := by decide +kernel
theorem dX9_document_10 : decode cX9_document 10 = .ok (.aload_n 0, 1) := by decide +kernel
theorem dX9_document_11 : decode cX9_document 11 = .ok (.getfield 19, 3) := by decide +kernel
theorem dX9_document_14 : decode cX9_document 14 = .ok (.getfield 118, 3) := by decide +kernel
theorem dX9_document_17 : decode cX9_document 17 = .ok (.bipush 40, 2) := by decide +kernel
theorem dX9_document_19 : decode cX9_document 19 = .ok (.if_icmp .lt 5, 3) := by decide +kernel
theorem dX9_document_22 : decode cX9_document 22 = .ok (.iconst (-1), 1) := by decide +kernel
theorem dX9_document_23 : decode cX9_document 23 = .ok (.ireturn, 1) := by decide +kernel
theorem dX9_document_24 : decode cX9_document 24 = .ok (.aload_n 0, 1) := by decide +kernel
theorem dX9_document_25 : decode cX9_document 25 = .ok (.getfield 19, 3) := by decide +kernel
theorem dX9_document_28 : decode cX9_document 28 = .ok (.iload_n 1, 1) := by decide +kernel
theorem dX9_document_29 : decode cX9_document 29 = .ok (.invokevirtual 119, 3) := by decide +kernel
theorem dX9_document_32 : decode cX9_document 32 = .ok (.istore_n 2, 1) := by decide +kernel
theorem dX9_document_33 : decode cX9_document 33 = .ok (.aload_n 0, 1) := by decide +kernel
theorem dX9_document_34 : decode cX9_document 34 = .ok (.getfield 28, 3) := by decide +kernel
theorem dX9_document_37 : decode cX9_document 37 = .ok (.invokevirtual 115, 3) := by decide +kernel
theorem dX9_document_40 : decode cX9_document 40 = .ok (.iload_n 2, 1) := by decide +kernel
theorem dX9_document_41 : decode cX9_document 41 = .ok (.ireturn, 1) := by decide +kernel
def wX9_document (I : Nat → Int32) (L : Nat → Int64) (A : Nat → Nat → Int32) (B : Nat → Nat → Int64) (x1 : Int32) (post : Int32 → (Nat → Int32) → (Nat → Int64) → (Nat → Nat → Int32) → (Nat → Nat → Int64) → Prop) : Prop := if x1 < 0 then (post (-1) I L A B) else (if 99 < x1 then (post (-1) I L A B) else (if (I 2) < 40 then (wX6_lay I L A B x1 (fun r29 I_1 L_1 A_1 => wX7_renew I_1 L_1 A_1 B  (fun B_1 => post r29 I_1 L_1 A_1 B_1))) else (post (-1) I L A B)))
abbrev rmX9_document : Room := { frames := 4, cells := 0, slots := 0, locals := 94 }
theorem wd_X9_document : Cond.instanceMethod yX9_document ∈ BW ∧ Cond.selects yX9_document.cls yX9_document yX9_document ∈ BW ∧ Cond.initialized yX9_document.cls ∈ BW ∧ Cond.code yX9_document cX9_document 3 (some .int) ∈ BW := ⟨mw_2_150, mw_2_151, mw_1_1, mw_2_152⟩
set_option maxHeartbeats 4000000 in
set_option maxRecDepth 100000 in
theorem c_X9_document {l : Launch} {D : va_G} {cy : Nat → ClassId} {ad : Nat → Nat} {Ad : Nat → Prop} (hAd : adok 103 Ad ad) (I : Nat → Int32) (L : Nat → Int64) (A : Nat → Nat → Int32) (B : Nat → Nat → Int64) (x1 : Int32)  (post : Int32 → (Nat → Int32) → (Nat → Int64) → (Nat → Nat → Int32) → (Nat → Nat → Int64) → Prop) (h : wX9_document I L A B x1 post) : Met l yX9_document (.code yX9_document cX9_document 3 (some .int) :: BW) rmX9_document (va_Pc [.ref (ad 0), .int x1] (fun U => kC D cy U ∧ va_P D vwCl (wC cy ad I L A B) U.heap)) (qCi D cy ad Ad (fun r u => post r u.1 u.2.1 u.2.2.1 u.2.2.2)) 0 0 Ad := by
  refine startCi (by decide) (Nat.le_of_ble_eq_true rfl) (lv := [(0, .ref (ad 0)), (1, .int x1)]) rfl (fun p e s m args below meth c Q ls hx hb hml hT hown hK hret hl hP hS => ?_)
  unfold wX9_document at h
  refine lv_iload_n hx hb dX9_document_0 rfl (lv_at hl 1 rfl) ?_
  refine lv_if_lt (tgt := 22) hx hb dX9_document_1 (by decide) (fun hc => ?_) (fun hc => ?_)
  · rw [if_pos hc] at h
    refine lv_iconst (v := (-1)) hx hb dX9_document_22 (by decide) ?_
    exact hret _ (I, L, A, B) dX9_document_23 h hP hS
  · rw [if_neg hc] at h
    refine lv_iload_n hx hb dX9_document_4 rfl (lv_at hl 1 rfl) ?_
    refine lv_bipush (v := 99) hx hb dX9_document_5 (by decide) ?_
    refine lv_icmp_gt (tgt := 22) hx hb dX9_document_7 (by decide) (fun hc_1 => ?_) (fun hc_1 => ?_)
    · rw [if_pos hc_1] at h
      refine lv_iconst (v := (-1)) hx hb dX9_document_22 (by decide) ?_
      exact hret _ (I, L, A, B) dX9_document_23 h hP hS
    · rw [if_neg hc_1] at h
      refine lv_aload_n hx hb dX9_document_10 rfl (lv_at hl 0 rfl) ?_
      refine va_get (T := TX9) hx hb hT inlX9 hown hK.1 hP 0 he_X9 rfl 1 (by decide) (hT _ mw_2_8) (fun _ h9 => h9) rfl dX9_document_11 ?_
      refine va_get (T := TX6) hx hb hT inlX6 hown hK.1 hP 2 he_X6 rfl 2 (by decide) (hT _ mw_1_92) (fun _ h9 => h9) rfl dX9_document_14 ?_
      refine lv_bipush (v := 40) hx hb dX9_document_17 (by decide) ?_
      refine lv_icmp_lt (tgt := 24) hx hb dX9_document_19 (by decide) (fun hc_2 => ?_) (fun hc_2 => ?_)
      · rw [if_pos hc_2] at h
        refine lv_aload_n hx hb dX9_document_24 rfl (lv_at hl 0 rfl) ?_
        refine va_get (T := TX9) hx hb hT inlX9 hown hK.1 hP 0 he_X9 rfl 1 (by decide) (hT _ mw_2_8) (fun _ h9 => h9) rfl dX9_document_25 ?_
        refine lv_iload_n hx hb dX9_document_28 rfl (lv_at hl 1 rfl) ?_
        refine callCi (k := 2) (As := [.int x1]) (rest := []) (n := 1) (c_X6_lay hAd I L A B x1 _ h) hx hb hT hown hK hP hS mw_2_153 wd_X6_lay (by decide +kernel) ⟨rfl, rfl⟩ (by decide) rfl rfl he_X6 rfl hl.1 hml rfl (Nat.le_of_ble_eq_true rfl) dX9_document_29 ⟨Nat.zero_le _, Nat.zero_le _⟩ (fun r29 u H locs h hP hS => ?_)
        obtain ⟨I_1, L_1, A_1, Bu⟩ := u
        dsimp only at h hP
        obtain ⟨h, rfl⟩ := h
        try dsimp only at h
        refine lv_istore_n (lv' := [(2, .int r29), (0, .ref (ad 0)), (1, .int x1)]) hx hb dX9_document_32 rfl hl (by decide) rfl (fun ls hl => ?_)
        refine lv_aload_n hx hb dX9_document_33 rfl (lv_at hl 1 rfl) ?_
        refine va_get (T := TX9) hx hb hT inlX9 hown hK.1 hP 0 he_X9 rfl 2 (by decide) (hT _ mw_2_9) (fun _ h9 => h9) rfl dX9_document_34 ?_
        refine callCv (k := 3) (As := []) (rest := []) (n := 0) (c_X7_renew hAd I_1 L_1 A_1 B  _ h) hx hb hT hown hK hP hS mw_2_148 wd_X7_renew (by decide +kernel) ⟨rfl, rfl⟩ (by decide) rfl rfl he_X7 rfl hl.1 hml rfl (Nat.le_of_ble_eq_true rfl) dX9_document_37 ⟨Nat.zero_le _, Nat.zero_le _⟩ (fun u H locs h hP hS => ?_)
        obtain ⟨Iu, Lu, Au, B_1⟩ := u
        dsimp only at h hP
        obtain ⟨h, rfl, rfl, rfl⟩ := h
        try dsimp only at h
        refine lv_iload_n hx hb dX9_document_40 rfl (lv_at hl 0 rfl) ?_
        exact hret _ (I_1, L_1, A_1, B_1) dX9_document_41 h hP hS
      · rw [if_neg hc_2] at h
        refine lv_iconst (v := (-1)) hx hb dX9_document_22 (by decide) ?_
        exact hret _ (I, L, A, B) dX9_document_23 h hP hS
theorem dX9_tag_0 : decode cX9_tag 0 = .ok (.aload_n 0, 1) := by decide +kernel
theorem dX9_tag_1 : decode cX9_tag 1 = .ok (.getfield 19, 3) := by decide +kernel
theorem dX9_tag_4 : decode cX9_tag 4 = .ok (.iload_n 1, 1) := by decide +kernel
theorem dX9_tag_5 : decode cX9_tag 5 = .ok (.invokevirtual 122, 3) := by decide +kernel
theorem dX9_tag_8 : decode cX9_tag 8 = .ok (.ifCond .eq 14, 3) := by decide +kernel
theorem dX9_tag_11 : decode cX9_tag 11 = .ok (.aload_n 0, 1) := by decide +kernel
theorem dX9_tag_12 : decode cX9_tag 12 = .ok (.getfield 10, 3) := by decide +kernel
theorem dX9_tag_15 : decode cX9_tag 15 = .ok (.iload_n 2, 1) := by decide +kernel
theorem dX9_tag_16 : decode cX9_tag 16 = .ok (.invokevirtual 93, 3) := by decide +kernel
theorem dX9_tag_19 : decode cX9_tag 19 = .ok (.ifCond .ne 5, 3) := by decide +kernel
theorem dX9_tag_22 : decode cX9_tag 22 = .ok (.iconst 0, 1) := by decide +kernel
theorem dX9_tag_23 : decode cX9_tag 23 = .ok (.ireturn, 1) := by decide +kernel
theorem dX9_tag_24 : decode cX9_tag 24 = .ok (.aload_n 0, 1) := by decide +kernel
theorem dX9_tag_25 : decode cX9_tag 25 = .ok (.getfield 10, 3) := by decide +kernel
theorem dX9_tag_28 : decode cX9_tag 28 = .ok (.getfield 125, 3) := by decide +kernel
theorem dX9_tag_31 : decode cX9_tag 31 = .ok (.iload_n 2, 1) := by decide +kernel
theorem dX9_tag_32 : decode cX9_tag 32 = .ok (.laload, 1) := by decide +kernel
theorem dX9_tag_33 : decode cX9_tag 33 = .ok (.iload_n 1, 1) := by decide +kernel
theorem dX9_tag_34 : decode cX9_tag 34 = .ok (.invokestatic 104, 3) := by decide +kernel
theorem dX9_tag_37 : decode cX9_tag 37 = .ok (.iload_n 3, 1) := by decide +kernel
theorem dX9_tag_38 : decode cX9_tag 38 = .ok (.if_icmp .ne 5, 3) := by decide +kernel
theorem dX9_tag_41 : decode cX9_tag 41 = .ok (.iconst 0, 1) := by decide +kernel
theorem dX9_tag_42 : decode cX9_tag 42 = .ok (.ireturn, 1) := by decide +kernel
theorem dX9_tag_43 : decode cX9_tag 43 = .ok (.aload_n 0, 1) := by decide +kernel
theorem dX9_tag_44 : decode cX9_tag 44 = .ok (.getfield 10, 3) := by decide +kernel
theorem dX9_tag_47 : decode cX9_tag 47 = .ok (.iload_n 2, 1) := by decide +kernel
theorem dX9_tag_48 : decode cX9_tag 48 = .ok (.iload_n 1, 1) := by decide +kernel
theorem dX9_tag_49 : decode cX9_tag 49 = .ok (.invokevirtual 128, 3) := by decide +kernel
theorem dX9_tag_52 : decode cX9_tag 52 = .ok (.aload_n 0, 1) := by decide +kernel
theorem dX9_tag_53 : decode cX9_tag 53 = .ok (.getfield 28, 3) := by decide +kernel
theorem dX9_tag_56 : decode cX9_tag 56 = .ok (.invokevirtual 115, 3) := by decide +kernel
theorem dX9_tag_59 : decode cX9_tag 59 = .ok (.iconst 1, 1) := by decide +kernel
theorem dX9_tag_60 : decode cX9_tag 60 = .ok (.ireturn, 1) := by decide +kernel
def wX9_tag (I : Nat → Int32) (L : Nat → Int64) (A : Nat → Nat → Int32) (B : Nat → Nat → Int64) (x1 : Int32) (x2 : Int32) (x3 : Int32) (post : Int32 → (Nat → Nat → Int64) → Prop) : Prop := wX6_isThere I L A B x1 (fun r5 => if r5 = 0 then (post 0 B) else (wX2_knows I L A B x2 (fun r16 => if r16 = 0 then (post 0 B) else (vp_in x2 40 ∧ (wX9_inSet (B 39 x2.toNatClampNeg) x1 (fun r34 => if r34 = x3 then (post 0 B) else (wX2_turnTag I L A B x2 x1 (fun B_1 => wX7_renew I L A B_1  (fun B_2 => post 1 B_2)))))))))
abbrev rmX9_tag : Room := { frames := 4, cells := 0, slots := 0, locals := 94 }
theorem wd_X9_tag : Cond.instanceMethod yX9_tag ∈ BW ∧ Cond.selects yX9_tag.cls yX9_tag yX9_tag ∈ BW ∧ Cond.initialized yX9_tag.cls ∈ BW ∧ Cond.code yX9_tag cX9_tag 4 (some .boolean) ∈ BW := ⟨mw_2_171, mw_2_172, mw_1_1, mw_2_173⟩
set_option maxHeartbeats 4000000 in
set_option maxRecDepth 100000 in
theorem c_X9_tag {l : Launch} {D : va_G} {cy : Nat → ClassId} {ad : Nat → Nat} {Ad : Nat → Prop} (hAd : adok 103 Ad ad) (I : Nat → Int32) (L : Nat → Int64) (A : Nat → Nat → Int32) (B : Nat → Nat → Int64) (x1 : Int32) (x2 : Int32) (x3 : Int32)  (post : Int32 → (Nat → Nat → Int64) → Prop) (h : wX9_tag I L A B x1 x2 x3 post) : Met l yX9_tag (.code yX9_tag cX9_tag 4 (some .boolean) :: BW) rmX9_tag (va_Pc [.ref (ad 0), .int x1, .int x2, .int x3] (fun U => kC D cy U ∧ va_P D vwCl (wC cy ad I L A B) U.heap)) (qCi D cy ad Ad (fun r u => post r u.2.2.2 ∧ I = u.1 ∧ L = u.2.1 ∧ A = u.2.2.1)) 0 0 Ad := by
  refine startCz (by decide) (Nat.le_of_ble_eq_true rfl) (lv := [(0, .ref (ad 0)), (1, .int x1), (2, .int x2), (3, .int x3)]) rfl (fun p e s m args below meth c Q ls hx hb hml hT hown hK hret hl hP hS => ?_)
  unfold wX9_tag at h
  refine lv_aload_n hx hb dX9_tag_0 rfl (lv_at hl 0 rfl) ?_
  refine va_get (T := TX9) hx hb hT inlX9 hown hK.1 hP 0 he_X9 rfl 1 (by decide) (hT _ mw_2_8) (fun _ h9 => h9) rfl dX9_tag_1 ?_
  refine lv_iload_n hx hb dX9_tag_4 rfl (lv_at hl 1 rfl) ?_
  refine callCi (k := 2) (As := [.int x1]) (rest := []) (n := 1) (c_X6_isThere hAd I L A B x1 _ h) hx hb hT hown hK hP hS mw_2_174 wd_X6_isThere (by decide +kernel) ⟨rfl, rfl⟩ (by decide) rfl rfl he_X6 rfl hl.1 hml rfl (Nat.le_of_ble_eq_true rfl) dX9_tag_5 ⟨Nat.zero_le _, Nat.zero_le _⟩ (fun r5 u H locs h hP hS => ?_)
  obtain ⟨Iu, Lu, Au, Bu⟩ := u
  dsimp only at h hP
  obtain ⟨h, rfl, rfl, rfl, rfl⟩ := h
  try dsimp only at h
  refine lv_if_eq (tgt := 22) hx hb dX9_tag_8 (by decide) (fun hc => ?_) (fun hc => ?_)
  · rw [if_pos hc] at h
    refine lv_iconst (v := 0) hx hb dX9_tag_22 (by decide) ?_
    exact hret _ (I, L, A, B) zb_0 dX9_tag_23 ⟨h, rfl, rfl, rfl⟩ hP hS
  · rw [if_neg hc] at h
    refine lv_aload_n hx hb dX9_tag_11 rfl (lv_at hl 0 rfl) ?_
    refine va_get (T := TX9) hx hb hT inlX9 hown hK.1 hP 0 he_X9 rfl 0 (by decide) (hT _ mw_2_7) (fun _ h9 => h9) rfl dX9_tag_12 ?_
    refine lv_iload_n hx hb dX9_tag_15 rfl (lv_at hl 2 rfl) ?_
    refine callCi (k := 1) (As := [.int x2]) (rest := []) (n := 1) (c_X2_knows hAd I L A B x2 _ h) hx hb hT hown hK hP hS mw_2_101 wd_X2_knows (by decide +kernel) ⟨rfl, rfl⟩ (by decide) rfl rfl he_X2 rfl hl.1 hml rfl (Nat.le_of_ble_eq_true rfl) dX9_tag_16 ⟨Nat.zero_le _, Nat.zero_le _⟩ (fun r16 u H locs h hP hS => ?_)
    obtain ⟨Iu_1, Lu_1, Au_1, Bu_1⟩ := u
    dsimp only at h hP
    obtain ⟨h, rfl, rfl, rfl, rfl⟩ := h
    try dsimp only at h
    refine lv_if_ne (tgt := 24) hx hb dX9_tag_19 (by decide) (fun hc_1 => ?_) (fun hc_1 => ?_)
    · rw [if_neg hc_1] at h
      refine lv_aload_n hx hb dX9_tag_24 rfl (lv_at hl 0 rfl) ?_
      refine va_get (T := TX9) hx hb hT inlX9 hown hK.1 hP 0 he_X9 rfl 0 (by decide) (hT _ mw_2_7) (fun _ h9 => h9) rfl dX9_tag_25 ?_
      refine va_get (T := TX2) hx hb hT inlX2 hown hK.1 hP 1 he_X2 rfl 3 (by decide) (hT _ mw_1_41) (fun _ h9 => h9) rfl dX9_tag_28 ?_
      refine lv_iload_n hx hb dX9_tag_31 rfl (lv_at hl 2 rfl) ?_
      obtain ⟨hi, h⟩ := h
      refine lC_J hx hb hK.1 hP (by decide) rfl hi dX9_tag_32 ?_
      refine lv_iload_n hx hb dX9_tag_33 rfl (lv_at hl 1 rfl) ?_
      refine callSCi (As := [.long (B 39 x2.toNatClampNeg), .int x1]) (rest := []) (n := 2) (c_X9_inSet (B 39 x2.toNatClampNeg) x1 _ h) hx hb hT hown hP hS mw_2_123 wd_X9_inSet (by decide +kernel) ⟨rfl, rfl⟩ (by decide) rfl hl.1 hml rfl (Nat.le_of_ble_eq_true rfl) dX9_tag_34 ⟨Nat.zero_le _, Nat.zero_le _⟩ (fun r34 H locs h hP hS => ?_)
      try dsimp only at h
      refine lv_iload_n hx hb dX9_tag_37 rfl (lv_at hl 3 rfl) ?_
      refine lv_icmp_ne (tgt := 43) hx hb dX9_tag_38 (by decide) (fun hc_2 => ?_) (fun hc_2 => ?_)
      · rw [if_neg hc_2] at h
        refine lv_aload_n hx hb dX9_tag_43 rfl (lv_at hl 0 rfl) ?_
        refine va_get (T := TX9) hx hb hT inlX9 hown hK.1 hP 0 he_X9 rfl 0 (by decide) (hT _ mw_2_7) (fun _ h9 => h9) rfl dX9_tag_44 ?_
        refine lv_iload_n hx hb dX9_tag_47 rfl (lv_at hl 2 rfl) ?_
        refine lv_iload_n hx hb dX9_tag_48 rfl (lv_at hl 1 rfl) ?_
        refine callCv (k := 1) (As := [.int x2, .int x1]) (rest := []) (n := 2) (c_X2_turnTag hAd I L A B x2 x1 _ h) hx hb hT hown hK hP hS mw_2_183 wd_X2_turnTag (by decide +kernel) ⟨rfl, rfl⟩ (by decide) rfl rfl he_X2 rfl hl.1 hml rfl (Nat.le_of_ble_eq_true rfl) dX9_tag_49 ⟨Nat.zero_le _, Nat.zero_le _⟩ (fun u H locs h hP hS => ?_)
        obtain ⟨Iu_2, Lu_2, Au_2, B_1⟩ := u
        dsimp only at h hP
        obtain ⟨h, rfl, rfl, rfl⟩ := h
        try dsimp only at h
        refine lv_aload_n hx hb dX9_tag_52 rfl (lv_at hl 0 rfl) ?_
        refine va_get (T := TX9) hx hb hT inlX9 hown hK.1 hP 0 he_X9 rfl 2 (by decide) (hT _ mw_2_9) (fun _ h9 => h9) rfl dX9_tag_53 ?_
        refine callCv (k := 3) (As := []) (rest := []) (n := 0) (c_X7_renew hAd I L A B_1  _ h) hx hb hT hown hK hP hS mw_2_148 wd_X7_renew (by decide +kernel) ⟨rfl, rfl⟩ (by decide) rfl rfl he_X7 rfl hl.1 hml rfl (Nat.le_of_ble_eq_true rfl) dX9_tag_56 ⟨Nat.zero_le _, Nat.zero_le _⟩ (fun u H locs h hP hS => ?_)
        obtain ⟨Iu_3, Lu_3, Au_3, B_2⟩ := u
        dsimp only at h hP
        obtain ⟨h, rfl, rfl, rfl⟩ := h
        try dsimp only at h
        refine lv_iconst (v := 1) hx hb dX9_tag_59 (by decide) ?_
        exact hret _ (I, L, A, B_2) zb_1 dX9_tag_60 ⟨h, rfl, rfl, rfl⟩ hP hS
      · rw [if_pos hc_2] at h
        refine lv_iconst (v := 0) hx hb dX9_tag_41 (by decide) ?_
        exact hret _ (I, L, A, B) zb_0 dX9_tag_42 ⟨h, rfl, rfl, rfl⟩ hP hS
    · rw [if_pos hc_1] at h
      refine lv_iconst (v := 0) hx hb dX9_tag_22 (by decide) ?_
      exact hret _ (I, L, A, B) zb_0 dX9_tag_23 ⟨h, rfl, rfl, rfl⟩ hP hS
theorem dX9_number_0 : decode cX9_number 0 = .ok (.aload_n 0, 1) := by decide +kernel
theorem dX9_number_1 : decode cX9_number 1 = .ok (.getfield 19, 3) := by decide +kernel
theorem dX9_number_4 : decode cX9_number 4 = .ok (.iload_n 1, 1) := by decide +kernel
theorem dX9_number_5 : decode cX9_number 5 = .ok (.invokevirtual 122, 3) := by decide +kernel
theorem dX9_number_8 : decode cX9_number 8 = .ok (.ifCond .eq 14, 3) := by decide +kernel
theorem dX9_number_11 : decode cX9_number 11 = .ok (.aload_n 0, 1) := by decide +kernel
theorem dX9_number_12 : decode cX9_number 12 = .ok (.getfield 28, 3) := by decide +kernel
theorem dX9_number_15 : decode cX9_number 15 = .ok (.iload_n 2, 1) := by decide +kernel
theorem dX9_number_16 : decode cX9_number 16 = .ok (.invokevirtual 131, 3) := by decide +kernel
theorem dX9_number_19 : decode cX9_number 19 = .ok (.ifCond .ne 5, 3) := by decide +kernel
theorem dX9_number_22 : decode cX9_number 22 = .ok (.iconst 0, 1) := by decide +kernel
theorem dX9_number_23 : decode cX9_number 23 = .ok (.ireturn, 1) := by decide +kernel
theorem dX9_number_24 : decode cX9_number 24 = .ok (.iload_n 3, 1) := by decide +kernel
theorem dX9_number_25 : decode cX9_number 25 = .ok (.sipush (-999), 3) := by decide +kernel
theorem dX9_number_28 : decode cX9_number 28 = .ok (.if_icmp .lt 10, 3) := by decide +kernel
theorem dX9_number_31 : decode cX9_number 31 = .ok (.iload_n 3, 1) := by decide +kernel
theorem dX9_number_32 : decode cX9_number 32 = .ok (.sipush 999, 3) := by decide +kernel
theorem dX9_number_35 : decode cX9_number 35 = .ok (.if_icmp .le 5, 3) := by decide +kernel
theorem dX9_number_38 : decode cX9_number 38 = .ok (.iconst 0, 1) := by decide +kernel
theorem dX9_number_39 : decode cX9_number 39 = .ok (.ireturn, 1) := by decide +kernel
theorem dX9_number_40 : decode cX9_number 40 = .ok (.aload_n 0, 1) := by decide +kernel
theorem dX9_number_41 : decode cX9_number 41 = .ok (.getfield 28, 3) := by decide +kernel
theorem dX9_number_44 : decode cX9_number 44 = .ok (.getfield 134, 3) := by decide +kernel
theorem dX9_number_47 : decode cX9_number 47 = .ok (.iload_n 2, 1) := by decide +kernel
theorem dX9_number_48 : decode cX9_number 48 = .ok (.aaload, 1) := by decide +kernel
theorem dX9_number_49 : decode cX9_number 49 = .ok (.getfield 138, 3) := by decide +kernel
theorem dX9_number_52 : decode cX9_number 52 = .ok (.iload_n 1, 1) := by decide +kernel
theorem dX9_number_53 : decode cX9_number 53 = .ok (.iload_n 3, 1) := by decide +kernel
theorem dX9_number_54 : decode cX9_number 54 = .ok (.iastore, 1) := by decide +kernel
theorem dX9_number_55 : decode cX9_number 55 = .ok (.aload_n 0, 1) := by decide +kernel
theorem dX9_number_56 : decode cX9_number 56 = .ok (.getfield 28, 3) := by decide +kernel
theorem dX9_number_59 : decode cX9_number 59 = .ok (.getfield 134, 3) := by decide +kernel
theorem dX9_number_62 : decode cX9_number 62 = .ok (.iload_n 2, 1) := by decide +kernel
theorem dX9_number_63 : decode cX9_number 63 = .ok (.aaload, 1) := by decide +kernel
theorem dX9_number_64 : decode cX9_number 64 = .ok (.dup, 1) := by decide +kernel
theorem dX9_number_65 : decode cX9_number 65 = .ok (.getfield 143, 3) := by decide +kernel
theorem dX9_number_68 : decode cX9_number 68 = .ok (.iload_n 1, 1) := by decide +kernel
theorem dX9_number_69 : decode cX9_number 69 = .ok (.invokestatic 147, 3) := by decide +kernel
theorem dX9_number_72 : decode cX9_number 72 = .ok (.lor, 1) := by decide +kernel
theorem dX9_number_73 : decode cX9_number 73 = .ok (.putfield 143, 3) := by decide +kernel
theorem dX9_number_76 : decode cX9_number 76 = .ok (.aload_n 0, 1) := by decide +kernel
theorem dX9_number_77 : decode cX9_number 77 = .ok (.getfield 28, 3) := by decide +kernel
theorem dX9_number_80 : decode cX9_number 80 = .ok (.invokevirtual 115, 3) := by decide +kernel
theorem dX9_number_83 : decode cX9_number 83 = .ok (.iconst 1, 1) := by decide +kernel
theorem dX9_number_84 : decode cX9_number 84 = .ok (.ireturn, 1) := by decide +kernel
def wX9_number (I : Nat → Int32) (L : Nat → Int64) (A : Nat → Nat → Int32) (B : Nat → Nat → Int64) (x1 : Int32) (x2 : Int32) (x3 : Int32) (post : Int32 → (Nat → Int64) → (Nat → Nat → Int32) → (Nat → Nat → Int64) → Prop) : Prop := wX6_isThere I L A B x1 (fun r5 => if r5 = 0 then (post 0 L A B) else (wX7_isNumeric I L A B x2 (fun r16 => if r16 = 0 then (post 0 L A B) else (if x3 < (-999) then (post 0 L A B) else (if x3 ≤ 999 then (vp_in x2 5 ∧ (vp_in x1 40 ∧ (∀ A_1, A_1 = va_up A (9 + x2.toNatClampNeg + 45) (upd (A (9 + x2.toNatClampNeg + 45)) x1.toNatClampNeg x3) → vp_in x2 5 ∧ (wX9_bit x1 (fun r69 => (∀ L_1, L_1 = va_up L (9 + x2.toNatClampNeg) ((L (9 + x2.toNatClampNeg)) ||| r69) → wX7_renew I L_1 A_1 B  (fun B_1 => post 1 L_1 A_1 B_1))))))) else (post 0 L A B))))))
abbrev rmX9_number : Room := { frames := 4, cells := 0, slots := 0, locals := 94 }
theorem wd_X9_number : Cond.instanceMethod yX9_number ∈ BW ∧ Cond.selects yX9_number.cls yX9_number yX9_number ∈ BW ∧ Cond.initialized yX9_number.cls ∈ BW ∧ Cond.code yX9_number cX9_number 4 (some .boolean) ∈ BW := ⟨mw_2_188, mw_2_189, mw_1_1, mw_2_190⟩
set_option maxHeartbeats 4000000 in
set_option maxRecDepth 100000 in
theorem c_X9_number {l : Launch} {D : va_G} {cy : Nat → ClassId} {ad : Nat → Nat} {Ad : Nat → Prop} (hAd : adok 103 Ad ad) (I : Nat → Int32) (L : Nat → Int64) (A : Nat → Nat → Int32) (B : Nat → Nat → Int64) (x1 : Int32) (x2 : Int32) (x3 : Int32)  (post : Int32 → (Nat → Int64) → (Nat → Nat → Int32) → (Nat → Nat → Int64) → Prop) (h : wX9_number I L A B x1 x2 x3 post) : Met l yX9_number (.code yX9_number cX9_number 4 (some .boolean) :: BW) rmX9_number (va_Pc [.ref (ad 0), .int x1, .int x2, .int x3] (fun U => kC D cy U ∧ va_P D vwCl (wC cy ad I L A B) U.heap)) (qCi D cy ad Ad (fun r u => post r u.2.1 u.2.2.1 u.2.2.2 ∧ I = u.1)) 0 0 Ad := by
  refine startCz (by decide) (Nat.le_of_ble_eq_true rfl) (lv := [(0, .ref (ad 0)), (1, .int x1), (2, .int x2), (3, .int x3)]) rfl (fun p e s m args below meth c Q ls hx hb hml hT hown hK hret hl hP hS => ?_)
  unfold wX9_number at h
  refine lv_aload_n hx hb dX9_number_0 rfl (lv_at hl 0 rfl) ?_
  refine va_get (T := TX9) hx hb hT inlX9 hown hK.1 hP 0 he_X9 rfl 1 (by decide) (hT _ mw_2_8) (fun _ h9 => h9) rfl dX9_number_1 ?_
  refine lv_iload_n hx hb dX9_number_4 rfl (lv_at hl 1 rfl) ?_
  refine callCi (k := 2) (As := [.int x1]) (rest := []) (n := 1) (c_X6_isThere hAd I L A B x1 _ h) hx hb hT hown hK hP hS mw_2_174 wd_X6_isThere (by decide +kernel) ⟨rfl, rfl⟩ (by decide) rfl rfl he_X6 rfl hl.1 hml rfl (Nat.le_of_ble_eq_true rfl) dX9_number_5 ⟨Nat.zero_le _, Nat.zero_le _⟩ (fun r5 u H locs h hP hS => ?_)
  obtain ⟨Iu, Lu, Au, Bu⟩ := u
  dsimp only at h hP
  obtain ⟨h, rfl, rfl, rfl, rfl⟩ := h
  try dsimp only at h
  refine lv_if_eq (tgt := 22) hx hb dX9_number_8 (by decide) (fun hc => ?_) (fun hc => ?_)
  · rw [if_pos hc] at h
    refine lv_iconst (v := 0) hx hb dX9_number_22 (by decide) ?_
    exact hret _ (I, L, A, B) zb_0 dX9_number_23 ⟨h, rfl⟩ hP hS
  · rw [if_neg hc] at h
    refine lv_aload_n hx hb dX9_number_11 rfl (lv_at hl 0 rfl) ?_
    refine va_get (T := TX9) hx hb hT inlX9 hown hK.1 hP 0 he_X9 rfl 2 (by decide) (hT _ mw_2_9) (fun _ h9 => h9) rfl dX9_number_12 ?_
    refine lv_iload_n hx hb dX9_number_15 rfl (lv_at hl 2 rfl) ?_
    refine callCi (k := 3) (As := [.int x2]) (rest := []) (n := 1) (c_X7_isNumeric hAd I L A B x2 _ h) hx hb hT hown hK hP hS mw_2_191 wd_X7_isNumeric (by decide +kernel) ⟨rfl, rfl⟩ (by decide) rfl rfl he_X7 rfl hl.1 hml rfl (Nat.le_of_ble_eq_true rfl) dX9_number_16 ⟨Nat.zero_le _, Nat.zero_le _⟩ (fun r16 u H locs h hP hS => ?_)
    obtain ⟨Iu_1, Lu_1, Au_1, Bu_1⟩ := u
    dsimp only at h hP
    obtain ⟨h, rfl, rfl, rfl, rfl⟩ := h
    try dsimp only at h
    refine lv_if_ne (tgt := 24) hx hb dX9_number_19 (by decide) (fun hc_1 => ?_) (fun hc_1 => ?_)
    · rw [if_neg hc_1] at h
      refine lv_iload_n hx hb dX9_number_24 rfl (lv_at hl 3 rfl) ?_
      refine lv_sipush (v := (-999)) hx hb dX9_number_25 (by decide) ?_
      refine lv_icmp_lt (tgt := 38) hx hb dX9_number_28 (by decide) (fun hc_2 => ?_) (fun hc_2 => ?_)
      · rw [if_pos hc_2] at h
        refine lv_iconst (v := 0) hx hb dX9_number_38 (by decide) ?_
        exact hret _ (I, L, A, B) zb_0 dX9_number_39 ⟨h, rfl⟩ hP hS
      · rw [if_neg hc_2] at h
        refine lv_iload_n hx hb dX9_number_31 rfl (lv_at hl 3 rfl) ?_
        refine lv_sipush (v := 999) hx hb dX9_number_32 (by decide) ?_
        refine lv_icmp_le (tgt := 40) hx hb dX9_number_35 (by decide) (fun hc_3 => ?_) (fun hc_3 => ?_)
        · rw [if_pos hc_3] at h
          refine lv_aload_n hx hb dX9_number_40 rfl (lv_at hl 0 rfl) ?_
          refine va_get (T := TX9) hx hb hT inlX9 hown hK.1 hP 0 he_X9 rfl 2 (by decide) (hT _ mw_2_9) (fun _ h9 => h9) rfl dX9_number_41 ?_
          refine va_get (T := TX7) hx hb hT inlX7 hown hK.1 hP 3 he_X7 rfl 2 (by decide) (hT _ mw_1_166) (fun _ h9 => h9) rfl dX9_number_44 ?_
          refine lv_iload_n hx hb dX9_number_47 rfl (lv_at hl 2 rfl) ?_
          obtain ⟨hi, h⟩ := h
          have hj := vp_lt hi
          refine lC_X hx hb hK.1 hP hi dX9_number_48 ?_
          refine va_get (T := TX0) hx hb hT inlX0 hown hK.1 hP (9 + x2.toNatClampNeg) (he_X0 (by omega)) rfl 2 (by decide) (hT _ mw_1_150) (fun _ h9 => h9) rfl dX9_number_49 ?_
          refine lv_iload_n hx hb dX9_number_52 rfl (lv_at hl 1 rfl) ?_
          refine lv_iload_n hx hb dX9_number_53 rfl (lv_at hl 3 rfl) ?_
          obtain ⟨hi_1, h⟩ := h
          refine sC_I hAd hx hb hK.1 hP hS (by omega) (fun _ => eC_R40 (Or.inr (by omega))) hi_1 dX9_number_54 (fun H locs hP hS => ?_)
          obtain ⟨A_1, eA_1⟩ : ∃ z, z = va_up A (9 + x2.toNatClampNeg + 45) (upd (A (9 + x2.toNatClampNeg + 45)) x1.toNatClampNeg x3) := ⟨_, rfl⟩
          rw [← eA_1] at hP
          replace h := h A_1 eA_1
          refine lv_aload_n hx hb dX9_number_55 rfl (lv_at hl 0 rfl) ?_
          refine va_get (T := TX9) hx hb hT inlX9 hown hK.1 hP 0 he_X9 rfl 2 (by decide) (hT _ mw_2_9) (fun _ h9 => h9) rfl dX9_number_56 ?_
          refine va_get (T := TX7) hx hb hT inlX7 hown hK.1 hP 3 he_X7 rfl 2 (by decide) (hT _ mw_1_166) (fun _ h9 => h9) rfl dX9_number_59 ?_
          refine lv_iload_n hx hb dX9_number_62 rfl (lv_at hl 2 rfl) ?_
          obtain ⟨hi_2, h⟩ := h
          have hj_1 := vp_lt hi_2
          refine lC_X hx hb hK.1 hP hi_2 dX9_number_63 ?_
          refine lv_dup hx hb dX9_number_64 rfl ?_
          refine va_get (T := TX0) hx hb hT inlX0 hown hK.1 hP (9 + x2.toNatClampNeg) (he_X0 (by omega)) rfl 3 (by decide) (hT _ mw_1_152) (fun _ h9 => h9) rfl dX9_number_65 ?_
          refine lv_iload_n hx hb dX9_number_68 rfl (lv_at hl 1 rfl) ?_
          refine callSCl (As := [.int x1]) (rest := [.long (L (9 + x2.toNatClampNeg)), .ref (ad (9 + x2.toNatClampNeg))]) (n := 1) (c_X9_bit x1 _ h) hx hb hT hown hP hS mw_2_195 wd_X9_bit (by decide +kernel) ⟨rfl, rfl⟩ (by decide) rfl hl.1 hml rfl (Nat.le_of_ble_eq_true rfl) dX9_number_69 ⟨Nat.zero_le _, Nat.zero_le _⟩ (fun r69 H locs h hP hS => ?_)
          try dsimp only at h
          refine lv_lor hx hb dX9_number_72 ?_
          refine pC_X0_numbered (by omega) hAd hx hb hT hown hK.1 hP hS (hT _ mw_1_152) dX9_number_73 (fun H locs hP hS => ?_)
          obtain ⟨L_1, eL_1⟩ : ∃ z, z = va_up L (9 + x2.toNatClampNeg) ((L (9 + x2.toNatClampNeg)) ||| r69) := ⟨_, rfl⟩
          rw [← eL_1] at hP
          replace h := h L_1 eL_1
          refine lv_aload_n hx hb dX9_number_76 rfl (lv_at hl 0 rfl) ?_
          refine va_get (T := TX9) hx hb hT inlX9 hown hK.1 hP 0 he_X9 rfl 2 (by decide) (hT _ mw_2_9) (fun _ h9 => h9) rfl dX9_number_77 ?_
          refine callCv (k := 3) (As := []) (rest := []) (n := 0) (c_X7_renew hAd I L_1 A_1 B  _ h) hx hb hT hown hK hP hS mw_2_148 wd_X7_renew (by decide +kernel) ⟨rfl, rfl⟩ (by decide) rfl rfl he_X7 rfl hl.1 hml rfl (Nat.le_of_ble_eq_true rfl) dX9_number_80 ⟨Nat.zero_le _, Nat.zero_le _⟩ (fun u H locs h hP hS => ?_)
          obtain ⟨Iu_2, Lu_2, Au_2, B_1⟩ := u
          dsimp only at h hP
          obtain ⟨h, rfl, rfl, rfl⟩ := h
          try dsimp only at h
          refine lv_iconst (v := 1) hx hb dX9_number_83 (by decide) ?_
          exact hret _ (I, L_1, A_1, B_1) zb_1 dX9_number_84 ⟨h, rfl⟩ hP hS
        · rw [if_neg hc_3] at h
          refine lv_iconst (v := 0) hx hb dX9_number_38 (by decide) ?_
          exact hret _ (I, L, A, B) zb_0 dX9_number_39 ⟨h, rfl⟩ hP hS
    · rw [if_pos hc_1] at h
      refine lv_iconst (v := 0) hx hb dX9_number_22 (by decide) ?_
      exact hret _ (I, L, A, B) zb_0 dX9_number_23 ⟨h, rfl⟩ hP hS
theorem dX9_hasNumber_0 : decode cX9_hasNumber 0 = .ok (.aload_n 0, 1) := by decide +kernel
theorem dX9_hasNumber_1 : decode cX9_hasNumber 1 = .ok (.getfield 19, 3) := by decide +kernel
theorem dX9_hasNumber_4 : decode cX9_hasNumber 4 = .ok (.iload_n 1, 1) := by decide +kernel
theorem dX9_hasNumber_5 : decode cX9_hasNumber 5 = .ok (.invokevirtual 122, 3) := by decide +kernel
theorem dX9_hasNumber_8 : decode cX9_hasNumber 8 = .ok (.ifCond .eq 37, 3) := by decide +kernel
theorem dX9_hasNumber_11 : decode cX9_hasNumber 11 = .ok (.aload_n 0, 1) := by decide +kernel
theorem dX9_hasNumber_12 : decode cX9_hasNumber 12 = .ok (.getfield 28, 3) := by decide +kernel
theorem dX9_hasNumber_15 : decode cX9_hasNumber 15 = .ok (.iload_n 2, 1) := by decide +kernel
theorem dX9_hasNumber_16 : decode cX9_hasNumber 16 = .ok (.invokevirtual 131, 3) := by decide +kernel
theorem dX9_hasNumber_19 : decode cX9_hasNumber 19 = .ok (.ifCond .eq 26, 3) := by decide +kernel
theorem dX9_hasNumber_22 : decode cX9_hasNumber 22 = .ok (.aload_n 0, 1) := by decide +kernel
theorem dX9_hasNumber_23 : decode cX9_hasNumber 23 = .ok (.getfield 28, 3) := by decide +kernel
theorem dX9_hasNumber_26 : decode cX9_hasNumber 26 = .ok (.getfield 134, 3) := by decide +kernel
theorem dX9_hasNumber_29 : decode cX9_hasNumber 29 = .ok (.iload_n 2, 1) := by decide +kernel
theorem dX9_hasNumber_30 : decode cX9_hasNumber 30 = .ok (.aaload, 1) := by decide +kernel
theorem dX9_hasNumber_31 : decode cX9_hasNumber 31 = .ok (.getfield 143, 3) := by decide +kernel
theorem dX9_hasNumber_34 : decode cX9_hasNumber 34 = .ok (.iload_n 1, 1) := by decide +kernel
theorem dX9_hasNumber_35 : decode cX9_hasNumber 35 = .ok (.invokestatic 104, 3) := by decide +kernel
theorem dX9_hasNumber_38 : decode cX9_hasNumber 38 = .ok (.ifCond .eq 7, 3) := by decide +kernel
theorem dX9_hasNumber_41 : decode cX9_hasNumber 41 = .ok (.iconst 1, 1) := by decide +kernel
theorem dX9_hasNumber_42 : decode cX9_hasNumber 42 = .ok (.goto 4, 3) := by decide +kernel
theorem dX9_hasNumber_45 : decode cX9_hasNumber 45 = .ok (.iconst 0, 1) := by decide +kernel
theorem dX9_hasNumber_46 : decode cX9_hasNumber 46 = .ok (.ireturn, 1) := by decide +kernel
def wX9_hasNumber (I : Nat → Int32) (L : Nat → Int64) (A : Nat → Nat → Int32) (B : Nat → Nat → Int64) (x1 : Int32) (x2 : Int32) (post : Int32 → Prop) : Prop := wX6_isThere I L A B x1 (fun r5 => if r5 = 0 then (post 0) else (wX7_isNumeric I L A B x2 (fun r16 => if r16 = 0 then (post 0) else (vp_in x2 5 ∧ (wX9_inSet (L (9 + x2.toNatClampNeg)) x1 (fun r35 => if r35 = 0 then (post 0) else (post 1)))))))
abbrev rmX9_hasNumber : Room := { frames := 2, cells := 0, slots := 0, locals := 43 }
theorem wd_X9_hasNumber : Cond.instanceMethod yX9_hasNumber ∈ BW ∧ Cond.selects yX9_hasNumber.cls yX9_hasNumber yX9_hasNumber ∈ BW ∧ Cond.initialized yX9_hasNumber.cls ∈ BW ∧ Cond.code yX9_hasNumber cX9_hasNumber 3 (some .boolean) ∈ BW := ⟨mw_2_202, mp_7, mw_1_1, mw_2_203⟩
set_option maxHeartbeats 4000000 in
set_option maxRecDepth 100000 in
theorem c_X9_hasNumber {l : Launch} {D : va_G} {cy : Nat → ClassId} {ad : Nat → Nat} {Ad : Nat → Prop} (hAd : adok 103 Ad ad) (I : Nat → Int32) (L : Nat → Int64) (A : Nat → Nat → Int32) (B : Nat → Nat → Int64) (x1 : Int32) (x2 : Int32)  (post : Int32 → Prop) (h : wX9_hasNumber I L A B x1 x2 post) : Met l yX9_hasNumber (.code yX9_hasNumber cX9_hasNumber 3 (some .boolean) :: BW) rmX9_hasNumber (va_Pc [.ref (ad 0), .int x1, .int x2] (fun U => kC D cy U ∧ va_P D vwCl (wC cy ad I L A B) U.heap)) (qCi D cy ad Ad (fun r u => post r  ∧ I = u.1 ∧ L = u.2.1 ∧ A = u.2.2.1 ∧ B = u.2.2.2)) 0 0 Ad := by
  refine startCz (by decide) (Nat.le_of_ble_eq_true rfl) (lv := [(0, .ref (ad 0)), (1, .int x1), (2, .int x2)]) rfl (fun p e s m args below meth c Q ls hx hb hml hT hown hK hret hl hP hS => ?_)
  unfold wX9_hasNumber at h
  refine lv_aload_n hx hb dX9_hasNumber_0 rfl (lv_at hl 0 rfl) ?_
  refine va_get (T := TX9) hx hb hT inlX9 hown hK.1 hP 0 he_X9 rfl 1 (by decide) (hT _ mw_2_8) (fun _ h9 => h9) rfl dX9_hasNumber_1 ?_
  refine lv_iload_n hx hb dX9_hasNumber_4 rfl (lv_at hl 1 rfl) ?_
  refine callCi (k := 2) (As := [.int x1]) (rest := []) (n := 1) (c_X6_isThere hAd I L A B x1 _ h) hx hb hT hown hK hP hS mw_2_174 wd_X6_isThere (by decide +kernel) ⟨rfl, rfl⟩ (by decide) rfl rfl he_X6 rfl hl.1 hml rfl (Nat.le_of_ble_eq_true rfl) dX9_hasNumber_5 ⟨Nat.zero_le _, Nat.zero_le _⟩ (fun r5 u H locs h hP hS => ?_)
  obtain ⟨Iu, Lu, Au, Bu⟩ := u
  dsimp only at h hP
  obtain ⟨h, rfl, rfl, rfl, rfl⟩ := h
  try dsimp only at h
  refine lv_if_eq (tgt := 45) hx hb dX9_hasNumber_8 (by decide) (fun hc => ?_) (fun hc => ?_)
  · rw [if_pos hc] at h
    refine lv_iconst (v := 0) hx hb dX9_hasNumber_45 (by decide) ?_
    exact hret _ (I, L, A, B) zb_0 dX9_hasNumber_46 ⟨h, rfl, rfl, rfl, rfl⟩ hP hS
  · rw [if_neg hc] at h
    refine lv_aload_n hx hb dX9_hasNumber_11 rfl (lv_at hl 0 rfl) ?_
    refine va_get (T := TX9) hx hb hT inlX9 hown hK.1 hP 0 he_X9 rfl 2 (by decide) (hT _ mw_2_9) (fun _ h9 => h9) rfl dX9_hasNumber_12 ?_
    refine lv_iload_n hx hb dX9_hasNumber_15 rfl (lv_at hl 2 rfl) ?_
    refine callCi (k := 3) (As := [.int x2]) (rest := []) (n := 1) (c_X7_isNumeric hAd I L A B x2 _ h) hx hb hT hown hK hP hS mw_2_191 wd_X7_isNumeric (by decide +kernel) ⟨rfl, rfl⟩ (by decide) rfl rfl he_X7 rfl hl.1 hml rfl (Nat.le_of_ble_eq_true rfl) dX9_hasNumber_16 ⟨Nat.zero_le _, Nat.zero_le _⟩ (fun r16 u H locs h hP hS => ?_)
    obtain ⟨Iu_1, Lu_1, Au_1, Bu_1⟩ := u
    dsimp only at h hP
    obtain ⟨h, rfl, rfl, rfl, rfl⟩ := h
    try dsimp only at h
    refine lv_if_eq (tgt := 45) hx hb dX9_hasNumber_19 (by decide) (fun hc_1 => ?_) (fun hc_1 => ?_)
    · rw [if_pos hc_1] at h
      refine lv_iconst (v := 0) hx hb dX9_hasNumber_45 (by decide) ?_
      exact hret _ (I, L, A, B) zb_0 dX9_hasNumber_46 ⟨h, rfl, rfl, rfl, rfl⟩ hP hS
    · rw [if_neg hc_1] at h
      refine lv_aload_n hx hb dX9_hasNumber_22 rfl (lv_at hl 0 rfl) ?_
      refine va_get (T := TX9) hx hb hT inlX9 hown hK.1 hP 0 he_X9 rfl 2 (by decide) (hT _ mw_2_9) (fun _ h9 => h9) rfl dX9_hasNumber_23 ?_
      refine va_get (T := TX7) hx hb hT inlX7 hown hK.1 hP 3 he_X7 rfl 2 (by decide) (hT _ mw_1_166) (fun _ h9 => h9) rfl dX9_hasNumber_26 ?_
      refine lv_iload_n hx hb dX9_hasNumber_29 rfl (lv_at hl 2 rfl) ?_
      obtain ⟨hi, h⟩ := h
      have hj := vp_lt hi
      refine lC_X hx hb hK.1 hP hi dX9_hasNumber_30 ?_
      refine va_get (T := TX0) hx hb hT inlX0 hown hK.1 hP (9 + x2.toNatClampNeg) (he_X0 (by omega)) rfl 3 (by decide) (hT _ mw_1_152) (fun _ h9 => h9) rfl dX9_hasNumber_31 ?_
      refine lv_iload_n hx hb dX9_hasNumber_34 rfl (lv_at hl 1 rfl) ?_
      refine callSCi (As := [.long (L (9 + x2.toNatClampNeg)), .int x1]) (rest := []) (n := 2) (c_X9_inSet (L (9 + x2.toNatClampNeg)) x1 _ h) hx hb hT hown hP hS mw_2_123 wd_X9_inSet (by decide +kernel) ⟨rfl, rfl⟩ (by decide) rfl hl.1 hml rfl (Nat.le_of_ble_eq_true rfl) dX9_hasNumber_35 ⟨Nat.zero_le _, Nat.zero_le _⟩ (fun r35 H locs h hP hS => ?_)
      try dsimp only at h
      refine lv_if_eq (tgt := 45) hx hb dX9_hasNumber_38 (by decide) (fun hc_2 => ?_) (fun hc_2 => ?_)
      · rw [if_pos hc_2] at h
        refine lv_iconst (v := 0) hx hb dX9_hasNumber_45 (by decide) ?_
        exact hret _ (I, L, A, B) zb_0 dX9_hasNumber_46 ⟨h, rfl, rfl, rfl, rfl⟩ hP hS
      · rw [if_neg hc_2] at h
        refine lv_iconst (v := 1) hx hb dX9_hasNumber_41 (by decide) ?_
        refine lv_goto (tgt := 46) hx hb dX9_hasNumber_42 (by decide) ?_
        exact hret _ (I, L, A, B) zb_1 dX9_hasNumber_46 ⟨h, rfl, rfl, rfl, rfl⟩ hP hS
theorem dX9_unnumber_0 : decode cX9_unnumber 0 = .ok (.aload_n 0, 1) := by decide +kernel
theorem dX9_unnumber_1 : decode cX9_unnumber 1 = .ok (.iload_n 1, 1) := by decide +kernel
theorem dX9_unnumber_2 : decode cX9_unnumber 2 = .ok (.iload_n 2, 1) := by decide +kernel
theorem dX9_unnumber_3 : decode cX9_unnumber 3 = .ok (.invokevirtual 151, 3) := by decide +kernel
theorem dX9_unnumber_6 : decode cX9_unnumber 6 = .ok (.ifCond .ne 5, 3) := by decide +kernel
theorem dX9_unnumber_9 : decode cX9_unnumber 9 = .ok (.iconst 0, 1) := by decide +kernel
theorem dX9_unnumber_10 : decode cX9_unnumber 10 = .ok (.ireturn, 1) := by decide +kernel
theorem dX9_unnumber_11 : decode cX9_unnumber 11 = .ok (.aload_n 0, 1) := by decide +kernel
theorem dX9_unnumber_12 : decode cX9_unnumber 12 = .ok (.getfield 28, 3) := by decide +kernel
theorem dX9_unnumber_15 : decode cX9_unnumber 15 = .ok (.getfield 134, 3) := by decide +kernel
theorem dX9_unnumber_18 : decode cX9_unnumber 18 = .ok (.iload_n 2, 1) := by decide +kernel
theorem dX9_unnumber_19 : decode cX9_unnumber 19 = .ok (.aaload, 1) := by decide +kernel
theorem dX9_unnumber_20 : decode cX9_unnumber 20 = .ok (.dup, 1) := by decide +kernel
theorem dX9_unnumber_21 : decode cX9_unnumber 21 = .ok (.getfield 143, 3) := by decide +kernel
theorem dX9_unnumber_24 : decode cX9_unnumber 24 = .ok (.iload_n 1, 1) := by decide +kernel
theorem dX9_unnumber_25 : decode cX9_unnumber 25 = .ok (.invokestatic 147, 3) := by decide +kernel
theorem dX9_unnumber_28 : decode cX9_unnumber 28 = .ok (.ldc2_w 154, 3) := by decide +kernel
theorem dX9_unnumber_31 : decode cX9_unnumber 31 = .ok (.lxor, 1) := by decide +kernel
theorem dX9_unnumber_32 : decode cX9_unnumber 32 = .ok (.land, 1) := by decide +kernel
theorem dX9_unnumber_33 : decode cX9_unnumber 33 = .ok (.putfield 143, 3) := by decide +kernel
theorem dX9_unnumber_36 : decode cX9_unnumber 36 = .ok (.aload_n 0, 1) := by decide +kernel
theorem dX9_unnumber_37 : decode cX9_unnumber 37 = .ok (.getfield 28, 3) := by decide +kernel
theorem dX9_unnumber_40 : decode cX9_unnumber 40 = .ok (.invokevirtual 115, 3) := by decide +kernel
theorem dX9_unnumber_43 : decode cX9_unnumber 43 = .ok (.iconst 1, 1) := by decide +kernel
theorem dX9_unnumber_44 : decode cX9_unnumber 44 = .ok (.ireturn, 1) := by decide +kernel
def wX9_unnumber (I : Nat → Int32) (L : Nat → Int64) (A : Nat → Nat → Int32) (B : Nat → Nat → Int64) (x1 : Int32) (x2 : Int32) (post : Int32 → (Nat → Int64) → (Nat → Nat → Int64) → Prop) : Prop := wX9_hasNumber I L A B x1 x2 (fun r3 => if r3 = 0 then (post 0 L B) else (vp_in x2 5 ∧ (wX9_bit x1 (fun r25 => (∀ L_1, L_1 = va_up L (9 + x2.toNatClampNeg) ((L (9 + x2.toNatClampNeg)) &&& (r25 ^^^ (-1))) → wX7_renew I L_1 A B  (fun B_1 => post 1 L_1 B_1))))))
abbrev rmX9_unnumber : Room := { frames := 4, cells := 0, slots := 0, locals := 94 }
theorem wd_X9_unnumber : Cond.instanceMethod yX9_unnumber ∈ BW ∧ Cond.selects yX9_unnumber.cls yX9_unnumber yX9_unnumber ∈ BW ∧ Cond.initialized yX9_unnumber.cls ∈ BW ∧ Cond.code yX9_unnumber cX9_unnumber 3 (some .boolean) ∈ BW := ⟨mw_2_197, mw_2_198, mw_1_1, mw_2_199⟩
set_option maxHeartbeats 4000000 in
set_option maxRecDepth 100000 in
theorem c_X9_unnumber {l : Launch} {D : va_G} {cy : Nat → ClassId} {ad : Nat → Nat} {Ad : Nat → Prop} (hAd : adok 103 Ad ad) (I : Nat → Int32) (L : Nat → Int64) (A : Nat → Nat → Int32) (B : Nat → Nat → Int64) (x1 : Int32) (x2 : Int32)  (post : Int32 → (Nat → Int64) → (Nat → Nat → Int64) → Prop) (h : wX9_unnumber I L A B x1 x2 post) : Met l yX9_unnumber (.code yX9_unnumber cX9_unnumber 3 (some .boolean) :: BW) rmX9_unnumber (va_Pc [.ref (ad 0), .int x1, .int x2] (fun U => kC D cy U ∧ va_P D vwCl (wC cy ad I L A B) U.heap)) (qCi D cy ad Ad (fun r u => post r u.2.1 u.2.2.2 ∧ I = u.1 ∧ A = u.2.2.1)) 0 0 Ad := by
  refine startCz (by decide) (Nat.le_of_ble_eq_true rfl) (lv := [(0, .ref (ad 0)), (1, .int x1), (2, .int x2)]) rfl (fun p e s m args below meth c Q ls hx hb hml hT hown hK hret hl hP hS => ?_)
  unfold wX9_unnumber at h
  refine lv_aload_n hx hb dX9_unnumber_0 rfl (lv_at hl 0 rfl) ?_
  refine lv_iload_n hx hb dX9_unnumber_1 rfl (lv_at hl 1 rfl) ?_
  refine lv_iload_n hx hb dX9_unnumber_2 rfl (lv_at hl 2 rfl) ?_
  refine callCi (k := 0) (As := [.int x1, .int x2]) (rest := []) (n := 2) (c_X9_hasNumber hAd I L A B x1 x2 _ h) hx hb hT hown hK hP hS mw_2_200 wd_X9_hasNumber (by decide +kernel) ⟨rfl, rfl⟩ (by decide) rfl rfl he_X9 rfl hl.1 hml rfl (Nat.le_of_ble_eq_true rfl) dX9_unnumber_3 ⟨Nat.zero_le _, Nat.zero_le _⟩ (fun r3 u H locs h hP hS => ?_)
  obtain ⟨Iu, Lu, Au, Bu⟩ := u
  dsimp only at h hP
  obtain ⟨h, rfl, rfl, rfl, rfl⟩ := h
  try dsimp only at h
  refine lv_if_ne (tgt := 11) hx hb dX9_unnumber_6 (by decide) (fun hc => ?_) (fun hc => ?_)
  · rw [if_neg hc] at h
    refine lv_aload_n hx hb dX9_unnumber_11 rfl (lv_at hl 0 rfl) ?_
    refine va_get (T := TX9) hx hb hT inlX9 hown hK.1 hP 0 he_X9 rfl 2 (by decide) (hT _ mw_2_9) (fun _ h9 => h9) rfl dX9_unnumber_12 ?_
    refine va_get (T := TX7) hx hb hT inlX7 hown hK.1 hP 3 he_X7 rfl 2 (by decide) (hT _ mw_1_166) (fun _ h9 => h9) rfl dX9_unnumber_15 ?_
    refine lv_iload_n hx hb dX9_unnumber_18 rfl (lv_at hl 2 rfl) ?_
    obtain ⟨hi, h⟩ := h
    have hj := vp_lt hi
    refine lC_X hx hb hK.1 hP hi dX9_unnumber_19 ?_
    refine lv_dup hx hb dX9_unnumber_20 rfl ?_
    refine va_get (T := TX0) hx hb hT inlX0 hown hK.1 hP (9 + x2.toNatClampNeg) (he_X0 (by omega)) rfl 3 (by decide) (hT _ mw_1_152) (fun _ h9 => h9) rfl dX9_unnumber_21 ?_
    refine lv_iload_n hx hb dX9_unnumber_24 rfl (lv_at hl 1 rfl) ?_
    refine callSCl (As := [.int x1]) (rest := [.long (L (9 + x2.toNatClampNeg)), .ref (ad (9 + x2.toNatClampNeg))]) (n := 1) (c_X9_bit x1 _ h) hx hb hT hown hP hS mw_2_195 wd_X9_bit (by decide +kernel) ⟨rfl, rfl⟩ (by decide) rfl hl.1 hml rfl (Nat.le_of_ble_eq_true rfl) dX9_unnumber_25 ⟨Nat.zero_le _, Nat.zero_le _⟩ (fun r25 H locs h hP hS => ?_)
    try dsimp only at h
    refine lv_ldc2 (v := (-1)) hx hb hown (hT _ mw_2_204) dX9_unnumber_28 ?_
    refine lv_lxor hx hb dX9_unnumber_31 ?_
    refine lv_land hx hb dX9_unnumber_32 ?_
    refine pC_X0_numbered (by omega) hAd hx hb hT hown hK.1 hP hS (hT _ mw_1_152) dX9_unnumber_33 (fun H locs hP hS => ?_)
    obtain ⟨L_1, eL_1⟩ : ∃ z, z = va_up L (9 + x2.toNatClampNeg) ((L (9 + x2.toNatClampNeg)) &&& (r25 ^^^ (-1))) := ⟨_, rfl⟩
    rw [← eL_1] at hP
    replace h := h L_1 eL_1
    refine lv_aload_n hx hb dX9_unnumber_36 rfl (lv_at hl 0 rfl) ?_
    refine va_get (T := TX9) hx hb hT inlX9 hown hK.1 hP 0 he_X9 rfl 2 (by decide) (hT _ mw_2_9) (fun _ h9 => h9) rfl dX9_unnumber_37 ?_
    refine callCv (k := 3) (As := []) (rest := []) (n := 0) (c_X7_renew hAd I L_1 A B  _ h) hx hb hT hown hK hP hS mw_2_148 wd_X7_renew (by decide +kernel) ⟨rfl, rfl⟩ (by decide) rfl rfl he_X7 rfl hl.1 hml rfl (Nat.le_of_ble_eq_true rfl) dX9_unnumber_40 ⟨Nat.zero_le _, Nat.zero_le _⟩ (fun u H locs h hP hS => ?_)
    obtain ⟨Iu_1, Lu_1, Au_1, B_1⟩ := u
    dsimp only at h hP
    obtain ⟨h, rfl, rfl, rfl⟩ := h
    try dsimp only at h
    refine lv_iconst (v := 1) hx hb dX9_unnumber_43 (by decide) ?_
    exact hret _ (I, L_1, A, B_1) zb_1 dX9_unnumber_44 ⟨h, rfl, rfl⟩ hP hS
  · rw [if_pos hc] at h
    refine lv_iconst (v := 0) hx hb dX9_unnumber_9 (by decide) ?_
    exact hret _ (I, L, A, B) zb_0 dX9_unnumber_10 ⟨h, rfl, rfl⟩ hP hS
theorem dX9_remove_0 : decode cX9_remove 0 = .ok (.aload_n 0, 1) := by decide +kernel
theorem dX9_remove_1 : decode cX9_remove 1 = .ok (.getfield 19, 3) := by decide +kernel
theorem dX9_remove_4 : decode cX9_remove 4 = .ok (.iload_n 1, 1) := by decide +kernel
theorem dX9_remove_5 : decode cX9_remove 5 = .ok (.invokevirtual 122, 3) := by decide +kernel
theorem dX9_remove_8 : decode cX9_remove 8 = .ok (.ifCond .ne 5, 3) := by decide +kernel
theorem dX9_remove_11 : decode cX9_remove 11 = .ok (.iconst 0, 1) := by decide +kernel
theorem dX9_remove_12 : decode cX9_remove 12 = .ok (.ireturn, 1) := by decide +kernel
theorem dX9_remove_13 : decode cX9_remove 13 = .ok (.aload_n 0, 1) := by decide +kernel
theorem dX9_remove_14 : decode cX9_remove 14 = .ok (.getfield 19, 3) := by decide +kernel
theorem dX9_remove_17 : decode cX9_remove 17 = .ok (.iload_n 1, 1) := by decide +kernel
theorem dX9_remove_18 : decode cX9_remove 18 = .ok (.invokevirtual 156, 3) := by decide +kernel
theorem dX9_remove_21 : decode cX9_remove 21 = .ok (.aload_n 0, 1) := by decide +kernel
theorem dX9_remove_22 : decode cX9_remove 22 = .ok (.getfield 28, 3) := by decide +kernel
theorem dX9_remove_25 : decode cX9_remove 25 = .ok (.invokevirtual 115, 3) := by decide +kernel
theorem dX9_remove_28 : decode cX9_remove 28 = .ok (.iconst 1, 1) := by decide +kernel
theorem dX9_remove_29 : decode cX9_remove 29 = .ok (.ireturn, 1) := by decide +kernel
def wX9_remove (I : Nat → Int32) (L : Nat → Int64) (A : Nat → Nat → Int32) (B : Nat → Nat → Int64) (x1 : Int32) (post : Int32 → (Nat → Int32) → (Nat → Int64) → (Nat → Nat → Int32) → (Nat → Nat → Int64) → Prop) : Prop := wX6_isThere I L A B x1 (fun r5 => if r5 = 0 then (post 0 I L A B) else (wX6_discard I L A B x1 (fun I_1 L_1 A_1 => wX7_renew I_1 L_1 A_1 B  (fun B_1 => post 1 I_1 L_1 A_1 B_1))))
abbrev rmX9_remove : Room := { frames := 4, cells := 0, slots := 0, locals := 94 }
theorem wd_X9_remove : Cond.instanceMethod yX9_remove ∈ BW ∧ Cond.selects yX9_remove.cls yX9_remove yX9_remove ∈ BW ∧ Cond.initialized yX9_remove.cls ∈ BW ∧ Cond.code yX9_remove cX9_remove 2 (some .boolean) ∈ BW := ⟨mw_2_206, mw_2_207, mw_1_1, mw_2_208⟩
set_option maxHeartbeats 4000000 in
set_option maxRecDepth 100000 in
theorem c_X9_remove {l : Launch} {D : va_G} {cy : Nat → ClassId} {ad : Nat → Nat} {Ad : Nat → Prop} (hAd : adok 103 Ad ad) (I : Nat → Int32) (L : Nat → Int64) (A : Nat → Nat → Int32) (B : Nat → Nat → Int64) (x1 : Int32)  (post : Int32 → (Nat → Int32) → (Nat → Int64) → (Nat → Nat → Int32) → (Nat → Nat → Int64) → Prop) (h : wX9_remove I L A B x1 post) : Met l yX9_remove (.code yX9_remove cX9_remove 2 (some .boolean) :: BW) rmX9_remove (va_Pc [.ref (ad 0), .int x1] (fun U => kC D cy U ∧ va_P D vwCl (wC cy ad I L A B) U.heap)) (qCi D cy ad Ad (fun r u => post r u.1 u.2.1 u.2.2.1 u.2.2.2)) 0 0 Ad := by
  refine startCz (by decide) (Nat.le_of_ble_eq_true rfl) (lv := [(0, .ref (ad 0)), (1, .int x1)]) rfl (fun p e s m args below meth c Q ls hx hb hml hT hown hK hret hl hP hS => ?_)
  unfold wX9_remove at h
  refine lv_aload_n hx hb dX9_remove_0 rfl (lv_at hl 0 rfl) ?_
  refine va_get (T := TX9) hx hb hT inlX9 hown hK.1 hP 0 he_X9 rfl 1 (by decide) (hT _ mw_2_8) (fun _ h9 => h9) rfl dX9_remove_1 ?_
  refine lv_iload_n hx hb dX9_remove_4 rfl (lv_at hl 1 rfl) ?_
  refine callCi (k := 2) (As := [.int x1]) (rest := []) (n := 1) (c_X6_isThere hAd I L A B x1 _ h) hx hb hT hown hK hP hS mw_2_174 wd_X6_isThere (by decide +kernel) ⟨rfl, rfl⟩ (by decide) rfl rfl he_X6 rfl hl.1 hml rfl (Nat.le_of_ble_eq_true rfl) dX9_remove_5 ⟨Nat.zero_le _, Nat.zero_le _⟩ (fun r5 u H locs h hP hS => ?_)
  obtain ⟨Iu, Lu, Au, Bu⟩ := u
  dsimp only at h hP
  obtain ⟨h, rfl, rfl, rfl, rfl⟩ := h
  try dsimp only at h
  refine lv_if_ne (tgt := 13) hx hb dX9_remove_8 (by decide) (fun hc => ?_) (fun hc => ?_)
  · rw [if_neg hc] at h
    refine lv_aload_n hx hb dX9_remove_13 rfl (lv_at hl 0 rfl) ?_
    refine va_get (T := TX9) hx hb hT inlX9 hown hK.1 hP 0 he_X9 rfl 1 (by decide) (hT _ mw_2_8) (fun _ h9 => h9) rfl dX9_remove_14 ?_
    refine lv_iload_n hx hb dX9_remove_17 rfl (lv_at hl 1 rfl) ?_
    refine callCv (k := 2) (As := [.int x1]) (rest := []) (n := 1) (c_X6_discard hAd I L A B x1 _ h) hx hb hT hown hK hP hS mw_2_209 wd_X6_discard (by decide +kernel) ⟨rfl, rfl⟩ (by decide) rfl rfl he_X6 rfl hl.1 hml rfl (Nat.le_of_ble_eq_true rfl) dX9_remove_18 ⟨Nat.zero_le _, Nat.zero_le _⟩ (fun u H locs h hP hS => ?_)
    obtain ⟨I_1, L_1, A_1, Bu_1⟩ := u
    dsimp only at h hP
    obtain ⟨h, rfl⟩ := h
    try dsimp only at h
    refine lv_aload_n hx hb dX9_remove_21 rfl (lv_at hl 0 rfl) ?_
    refine va_get (T := TX9) hx hb hT inlX9 hown hK.1 hP 0 he_X9 rfl 2 (by decide) (hT _ mw_2_9) (fun _ h9 => h9) rfl dX9_remove_22 ?_
    refine callCv (k := 3) (As := []) (rest := []) (n := 0) (c_X7_renew hAd I_1 L_1 A_1 B  _ h) hx hb hT hown hK hP hS mw_2_148 wd_X7_renew (by decide +kernel) ⟨rfl, rfl⟩ (by decide) rfl rfl he_X7 rfl hl.1 hml rfl (Nat.le_of_ble_eq_true rfl) dX9_remove_25 ⟨Nat.zero_le _, Nat.zero_le _⟩ (fun u H locs h hP hS => ?_)
    obtain ⟨Iu_1, Lu_1, Au_1, B_1⟩ := u
    dsimp only at h hP
    obtain ⟨h, rfl, rfl, rfl⟩ := h
    try dsimp only at h
    refine lv_iconst (v := 1) hx hb dX9_remove_28 (by decide) ?_
    exact hret _ (I_1, L_1, A_1, B_1) zb_1 dX9_remove_29 h hP hS
  · rw [if_pos hc] at h
    refine lv_iconst (v := 0) hx hb dX9_remove_11 (by decide) ?_
    exact hret _ (I, L, A, B) zb_0 dX9_remove_12 h hP hS
theorem dX9_select_0 : decode cX9_select 0 = .ok (.aload_n 0, 1) := by decide +kernel
theorem dX9_select_1 : decode cX9_select 1 = .ok (.getfield 10, 3) := by decide +kernel
theorem dX9_select_4 : decode cX9_select 4 = .ok (.iload_n 1, 1) := by decide +kernel
theorem dX9_select_5 : decode cX9_select 5 = .ok (.invokevirtual 93, 3) := by decide +kernel
theorem dX9_select_8 : decode cX9_select 8 = .ok (.ifCond .ne 5, 3) := by decide +kernel
theorem dX9_select_11 : decode cX9_select 11 = .ok (.iconst 0, 1) := by decide +kernel
theorem dX9_select_12 : decode cX9_select 12 = .ok (.ireturn, 1) := by decide +kernel
theorem dX9_select_13 : decode cX9_select 13 = .ok (.aload_n 0, 1) := by decide +kernel
theorem dX9_select_14 : decode cX9_select 14 = .ok (.getfield 10, 3) := by decide +kernel
theorem dX9_select_17 : decode cX9_select 17 = .ok (.getfield 96, 3) := by decide +kernel
theorem dX9_select_20 : decode cX9_select 20 = .ok (.iload_n 1, 1) := by decide +kernel
theorem dX9_select_21 : decode cX9_select 21 = .ok (.iaload, 1) := by decide +kernel
theorem dX9_select_22 : decode cX9_select 22 = .ok (.istore_n 3, 1) := by decide +kernel
theorem dX9_select_23 : decode cX9_select 23 = .ok (.aload_n 0, 1) := by decide +kernel
theorem dX9_select_24 : decode cX9_select 24 = .ok (.getfield 28, 3) := by decide +kernel
theorem dX9_select_27 : decode cX9_select 27 = .ok (.getfield 134, 3) := by decide +kernel
theorem dX9_select_30 : decode cX9_select 30 = .ok (.iload_n 3, 1) := by decide +kernel
theorem dX9_select_31 : decode cX9_select 31 = .ok (.aaload, 1) := by decide +kernel
theorem dX9_select_32 : decode cX9_select 32 = .ok (.getfield 159, 3) := by decide +kernel
theorem dX9_select_35 : decode cX9_select 35 = .ok (.astore 4, 2) := by decide +kernel
theorem dX9_select_37 : decode cX9_select 37 = .ok (.aload 4, 2) := by decide +kernel
theorem dX9_select_39 : decode cX9_select 39 = .ok (.getfield 162, 3) := by decide +kernel
theorem dX9_select_42 : decode cX9_select 42 = .ok (.iload_n 1, 1) := by decide +kernel
theorem dX9_select_43 : decode cX9_select 43 = .ok (.invokestatic 104, 3) := by decide +kernel
theorem dX9_select_46 : decode cX9_select 46 = .ok (.iload_n 2, 1) := by decide +kernel
theorem dX9_select_47 : decode cX9_select 47 = .ok (.if_icmp .ne 5, 3) := by decide +kernel
theorem dX9_select_50 : decode cX9_select 50 = .ok (.iconst 0, 1) := by decide +kernel
theorem dX9_select_51 : decode cX9_select 51 = .ok (.ireturn, 1) := by decide +kernel
theorem dX9_select_52 : decode cX9_select 52 = .ok (.aload_n 0, 1) := by decide +kernel
theorem dX9_select_53 : decode cX9_select 53 = .ok (.getfield 35, 3) := by decide +kernel
theorem dX9_select_56 : decode cX9_select 56 = .ok (.iload_n 3, 1) := by decide +kernel
theorem dX9_select_57 : decode cX9_select 57 = .ok (.aload 4, 2) := by decide +kernel
theorem dX9_select_59 : decode cX9_select 59 = .ok (.invokevirtual 165, 3) := by decide +kernel
theorem dX9_select_62 : decode cX9_select 62 = .ok (.aload 4, 2) := by decide +kernel
theorem dX9_select_64 : decode cX9_select 64 = .ok (.dup, 1) := by decide +kernel
theorem dX9_select_65 : decode cX9_select 65 = .ok (.getfield 162, 3) := by decide +kernel
theorem dX9_select_68 : decode cX9_select 68 = .ok (.iload_n 1, 1) := by decide +kernel
theorem dX9_select_69 : decode cX9_select 69 = .ok (.invokestatic 147, 3) := by decide +kernel
theorem dX9_select_72 : decode cX9_select 72 = .ok (.lxor, 1) := by decide +kernel
theorem dX9_select_73 : decode cX9_select 73 = .ok (.putfield 162, 3) := by decide +kernel
theorem dX9_select_76 : decode cX9_select 76 = .ok (.aload_n 0, 1) := by decide +kernel
theorem dX9_select_77 : decode cX9_select 77 = .ok (.getfield 28, 3) := by decide +kernel
theorem dX9_select_80 : decode cX9_select 80 = .ok (.invokevirtual 115, 3) := by decide +kernel
theorem dX9_select_83 : decode cX9_select 83 = .ok (.iconst 1, 1) := by decide +kernel
theorem dX9_select_84 : decode cX9_select 84 = .ok (.ireturn, 1) := by decide +kernel
def wX9_select (I : Nat → Int32) (L : Nat → Int64) (A : Nat → Nat → Int32) (B : Nat → Nat → Int64) (x1 : Int32) (x2 : Int32) (post : Int32 → (Nat → Int32) → (Nat → Int64) → (Nat → Nat → Int32) → (Nat → Nat → Int64) → Prop) : Prop := wX2_knows I L A B x1 (fun r5 => if r5 = 0 then (post 0 I L A B) else (vp_in x1 40 ∧ (∀ v3 : Int32, v3 = A 36 x1.toNatClampNeg → vp_in v3 5 ∧ (wX9_inSet (L (9 + v3.toNatClampNeg + 5)) x1 (fun r43 => if r43 = x2 then (post 0 I L A B) else (wX8_note I L A B v3 (9 + v3.toNatClampNeg + 5) (fun I_1 L_1 A_1 => wX9_bit x1 (fun r69 => (∀ L_2, L_2 = va_up L_1 (9 + v3.toNatClampNeg + 5) ((L_1 (9 + v3.toNatClampNeg + 5)) ^^^ r69) → wX7_renew I_1 L_2 A_1 B  (fun B_1 => post 1 I_1 L_2 A_1 B_1))))))))))
abbrev rmX9_select : Room := { frames := 4, cells := 0, slots := 0, locals := 94 }
theorem wd_X9_select : Cond.instanceMethod yX9_select ∈ BW ∧ Cond.selects yX9_select.cls yX9_select yX9_select ∈ BW ∧ Cond.initialized yX9_select.cls ∈ BW ∧ Cond.code yX9_select cX9_select 5 (some .boolean) ∈ BW := ⟨mw_2_223, mw_2_224, mw_1_1, mw_2_225⟩
set_option maxHeartbeats 4000000 in
set_option maxRecDepth 100000 in
theorem c_X9_select {l : Launch} {D : va_G} {cy : Nat → ClassId} {ad : Nat → Nat} {Ad : Nat → Prop} (hAd : adok 103 Ad ad) (I : Nat → Int32) (L : Nat → Int64) (A : Nat → Nat → Int32) (B : Nat → Nat → Int64) (x1 : Int32) (x2 : Int32)  (post : Int32 → (Nat → Int32) → (Nat → Int64) → (Nat → Nat → Int32) → (Nat → Nat → Int64) → Prop) (h : wX9_select I L A B x1 x2 post) : Met l yX9_select (.code yX9_select cX9_select 5 (some .boolean) :: BW) rmX9_select (va_Pc [.ref (ad 0), .int x1, .int x2] (fun U => kC D cy U ∧ va_P D vwCl (wC cy ad I L A B) U.heap)) (qCi D cy ad Ad (fun r u => post r u.1 u.2.1 u.2.2.1 u.2.2.2)) 0 0 Ad := by
  refine startCz (by decide) (Nat.le_of_ble_eq_true rfl) (lv := [(0, .ref (ad 0)), (1, .int x1), (2, .int x2)]) rfl (fun p e s m args below meth c Q ls hx hb hml hT hown hK hret hl hP hS => ?_)
  unfold wX9_select at h
  refine lv_aload_n hx hb dX9_select_0 rfl (lv_at hl 0 rfl) ?_
  refine va_get (T := TX9) hx hb hT inlX9 hown hK.1 hP 0 he_X9 rfl 0 (by decide) (hT _ mw_2_7) (fun _ h9 => h9) rfl dX9_select_1 ?_
  refine lv_iload_n hx hb dX9_select_4 rfl (lv_at hl 1 rfl) ?_
  refine callCi (k := 1) (As := [.int x1]) (rest := []) (n := 1) (c_X2_knows hAd I L A B x1 _ h) hx hb hT hown hK hP hS mw_2_101 wd_X2_knows (by decide +kernel) ⟨rfl, rfl⟩ (by decide) rfl rfl he_X2 rfl hl.1 hml rfl (Nat.le_of_ble_eq_true rfl) dX9_select_5 ⟨Nat.zero_le _, Nat.zero_le _⟩ (fun r5 u H locs h hP hS => ?_)
  obtain ⟨Iu, Lu, Au, Bu⟩ := u
  dsimp only at h hP
  obtain ⟨h, rfl, rfl, rfl, rfl⟩ := h
  try dsimp only at h
  refine lv_if_ne (tgt := 13) hx hb dX9_select_8 (by decide) (fun hc => ?_) (fun hc => ?_)
  · rw [if_neg hc] at h
    refine lv_aload_n hx hb dX9_select_13 rfl (lv_at hl 0 rfl) ?_
    refine va_get (T := TX9) hx hb hT inlX9 hown hK.1 hP 0 he_X9 rfl 0 (by decide) (hT _ mw_2_7) (fun _ h9 => h9) rfl dX9_select_14 ?_
    refine va_get (T := TX2) hx hb hT inlX2 hown hK.1 hP 1 he_X2 rfl 0 (by decide) (hT _ mw_1_34) (fun _ h9 => h9) rfl dX9_select_17 ?_
    refine lv_iload_n hx hb dX9_select_20 rfl (lv_at hl 1 rfl) ?_
    obtain ⟨hi, h⟩ := h
    refine lC_I hx hb hK.1 hP (by decide) rfl hi dX9_select_21 ?_
    refine lv_topi (fun v3 ev3 => ?_)
    replace h := h v3 ev3
    refine lv_istore_n (lv' := [(3, .int v3), (0, .ref (ad 0)), (1, .int x1), (2, .int x2)]) hx hb dX9_select_22 rfl hl (by decide) rfl (fun ls hl => ?_)
    refine lv_aload_n hx hb dX9_select_23 rfl (lv_at hl 1 rfl) ?_
    refine va_get (T := TX9) hx hb hT inlX9 hown hK.1 hP 0 he_X9 rfl 2 (by decide) (hT _ mw_2_9) (fun _ h9 => h9) rfl dX9_select_24 ?_
    refine va_get (T := TX7) hx hb hT inlX7 hown hK.1 hP 3 he_X7 rfl 2 (by decide) (hT _ mw_1_166) (fun _ h9 => h9) rfl dX9_select_27 ?_
    refine lv_iload_n hx hb dX9_select_30 rfl (lv_at hl 0 rfl) ?_
    obtain ⟨hi_1, h⟩ := h
    have hj := vp_lt hi_1
    refine lC_X hx hb hK.1 hP hi_1 dX9_select_31 ?_
    refine va_get (T := TX0) hx hb hT inlX0 hown hK.1 hP (9 + v3.toNatClampNeg) (he_X0 (by omega)) rfl 1 (by decide) (hT _ mw_1_148) (fun _ h9 => h9) rfl dX9_select_32 ?_
    refine lv_astore (lv' := [(4, .ref (ad (9 + v3.toNatClampNeg + 5))), (3, .int v3), (0, .ref (ad 0)), (1, .int x1), (2, .int x2)]) hx hb dX9_select_35 hl (by decide) rfl (fun ls hl => ?_)
    refine lv_aload hx hb dX9_select_37 (lv_at hl 0 rfl) ?_
    refine va_get (T := TX5) hx hb hT inlX5 hown hK.1 hP (9 + v3.toNatClampNeg + 5) (he_X5 (by omega)) rfl 0 (by decide) (hT _ mw_1_122) (fun _ h9 => h9) rfl dX9_select_39 ?_
    refine lv_iload_n hx hb dX9_select_42 rfl (lv_at hl 3 rfl) ?_
    refine callSCi (As := [.long (L (9 + v3.toNatClampNeg + 5)), .int x1]) (rest := []) (n := 2) (c_X9_inSet (L (9 + v3.toNatClampNeg + 5)) x1 _ h) hx hb hT hown hP hS mw_2_123 wd_X9_inSet (by decide +kernel) ⟨rfl, rfl⟩ (by decide) rfl hl.1 hml rfl (Nat.le_of_ble_eq_true rfl) dX9_select_43 ⟨Nat.zero_le _, Nat.zero_le _⟩ (fun r43 H locs h hP hS => ?_)
    try dsimp only at h
    refine lv_iload_n hx hb dX9_select_46 rfl (lv_at hl 4 rfl) ?_
    refine lv_icmp_ne (tgt := 52) hx hb dX9_select_47 (by decide) (fun hc_1 => ?_) (fun hc_1 => ?_)
    · rw [if_neg hc_1] at h
      refine lv_aload_n hx hb dX9_select_52 rfl (lv_at hl 2 rfl) ?_
      refine va_get (T := TX9) hx hb hT inlX9 hown hK.1 hP 0 he_X9 rfl 3 (by decide) (hT _ mw_2_10) (fun _ h9 => h9) rfl dX9_select_53 ?_
      refine lv_iload_n hx hb dX9_select_56 rfl (lv_at hl 1 rfl) ?_
      refine lv_aload hx hb dX9_select_57 (lv_at hl 0 rfl) ?_
      refine callCv (k := 4) (As := [.int v3, .ref (ad (9 + v3.toNatClampNeg + 5))]) (rest := []) (n := 2) (c_X8_note hAd I L A B v3 (9 + v3.toNatClampNeg + 5) (by omega) _ h) hx hb hT hown hK hP hS mw_2_226 wd_X8_note (by decide +kernel) ⟨rfl, rfl⟩ (by decide) rfl rfl he_X8 rfl hl.1 hml rfl (Nat.le_of_ble_eq_true rfl) dX9_select_59 ⟨Nat.zero_le _, Nat.zero_le _⟩ (fun u H locs h hP hS => ?_)
      obtain ⟨I_1, L_1, A_1, Bu_1⟩ := u
      dsimp only at h hP
      obtain ⟨h, rfl⟩ := h
      try dsimp only at h
      refine lv_aload hx hb dX9_select_62 (lv_at hl 0 rfl) ?_
      refine lv_dup hx hb dX9_select_64 rfl ?_
      refine va_get (T := TX5) hx hb hT inlX5 hown hK.1 hP (9 + v3.toNatClampNeg + 5) (he_X5 (by omega)) rfl 0 (by decide) (hT _ mw_1_122) (fun _ h9 => h9) rfl dX9_select_65 ?_
      refine lv_iload_n hx hb dX9_select_68 rfl (lv_at hl 3 rfl) ?_
      refine callSCl (As := [.int x1]) (rest := [.long (L_1 (9 + v3.toNatClampNeg + 5)), .ref (ad (9 + v3.toNatClampNeg + 5))]) (n := 1) (c_X9_bit x1 _ h) hx hb hT hown hP hS mw_2_195 wd_X9_bit (by decide +kernel) ⟨rfl, rfl⟩ (by decide) rfl hl.1 hml rfl (Nat.le_of_ble_eq_true rfl) dX9_select_69 ⟨Nat.zero_le _, Nat.zero_le _⟩ (fun r69 H locs h hP hS => ?_)
      try dsimp only at h
      refine lv_lxor hx hb dX9_select_72 ?_
      refine pC_X5_categories (by omega) hAd hx hb hT hown hK.1 hP hS (hT _ mw_1_122) dX9_select_73 (fun H locs hP hS => ?_)
      obtain ⟨L_2, eL_2⟩ : ∃ z, z = va_up L_1 (9 + v3.toNatClampNeg + 5) ((L_1 (9 + v3.toNatClampNeg + 5)) ^^^ r69) := ⟨_, rfl⟩
      rw [← eL_2] at hP
      replace h := h L_2 eL_2
      refine lv_aload_n hx hb dX9_select_76 rfl (lv_at hl 2 rfl) ?_
      refine va_get (T := TX9) hx hb hT inlX9 hown hK.1 hP 0 he_X9 rfl 2 (by decide) (hT _ mw_2_9) (fun _ h9 => h9) rfl dX9_select_77 ?_
      refine callCv (k := 3) (As := []) (rest := []) (n := 0) (c_X7_renew hAd I_1 L_2 A_1 B  _ h) hx hb hT hown hK hP hS mw_2_148 wd_X7_renew (by decide +kernel) ⟨rfl, rfl⟩ (by decide) rfl rfl he_X7 rfl hl.1 hml rfl (Nat.le_of_ble_eq_true rfl) dX9_select_80 ⟨Nat.zero_le _, Nat.zero_le _⟩ (fun u H locs h hP hS => ?_)
      obtain ⟨Iu_1, Lu_1, Au_1, B_1⟩ := u
      dsimp only at h hP
      obtain ⟨h, rfl, rfl, rfl⟩ := h
      try dsimp only at h
      refine lv_iconst (v := 1) hx hb dX9_select_83 (by decide) ?_
      exact hret _ (I_1, L_2, A_1, B_1) zb_1 dX9_select_84 h hP hS
    · rw [if_pos hc_1] at h
      refine lv_iconst (v := 0) hx hb dX9_select_50 (by decide) ?_
      exact hret _ (I, L, A, B) zb_0 dX9_select_51 h hP hS
  · rw [if_pos hc] at h
    refine lv_iconst (v := 0) hx hb dX9_select_11 (by decide) ?_
    exact hret _ (I, L, A, B) zb_0 dX9_select_12 h hP hS
theorem dX9_range_0 : decode cX9_range 0 = .ok (.aload_n 0, 1) := by decide +kernel
theorem dX9_range_1 : decode cX9_range 1 = .ok (.getfield 28, 3) := by decide +kernel
theorem dX9_range_4 : decode cX9_range 4 = .ok (.iload_n 1, 1) := by decide +kernel
theorem dX9_range_5 : decode cX9_range 5 = .ok (.invokevirtual 131, 3) := by decide +kernel
theorem dX9_range_8 : decode cX9_range 8 = .ok (.ifCond .eq 8, 3) := by decide +kernel
theorem dX9_range_11 : decode cX9_range 11 = .ok (.iload_n 2, 1) := by decide +kernel
theorem dX9_range_12 : decode cX9_range 12 = .ok (.iload_n 3, 1) := by decide +kernel
theorem dX9_range_13 : decode cX9_range 13 = .ok (.if_icmp .le 5, 3) := by decide +kernel
theorem dX9_range_16 : decode cX9_range 16 = .ok (.iconst (-1), 1) := by decide +kernel
theorem dX9_range_17 : decode cX9_range 17 = .ok (.ireturn, 1) := by decide +kernel
theorem dX9_range_18 : decode cX9_range 18 = .ok (.aload_n 0, 1) := by decide +kernel
theorem dX9_range_19 : decode cX9_range 19 = .ok (.getfield 28, 3) := by decide +kernel
theorem dX9_range_22 : decode cX9_range 22 = .ok (.getfield 134, 3) := by decide +kernel
theorem dX9_range_25 : decode cX9_range 25 = .ok (.iload_n 1, 1) := by decide +kernel
theorem dX9_range_26 : decode cX9_range 26 = .ok (.aaload, 1) := by decide +kernel
theorem dX9_range_27 : decode cX9_range 27 = .ok (.getfield 159, 3) := by decide +kernel
theorem dX9_range_30 : decode cX9_range 30 = .ok (.astore 4, 2) := by decide +kernel
theorem dX9_range_32 : decode cX9_range 32 = .ok (.aload 4, 2) := by decide +kernel
theorem dX9_range_34 : decode cX9_range 34 = .ok (.getfield 169, 3) := by decide +kernel
theorem dX9_range_37 : decode cX9_range 37 = .ok (.iconst 3, 1) := by decide +kernel
theorem dX9_range_38 : decode cX9_range 38 = .ok (.if_icmp .lt 5, 3) := by decide +kernel
theorem dX9_range_41 : decode cX9_range 41 = .ok (.iconst (-1), 1) := by decide +kernel
theorem dX9_range_42 : decode cX9_range 42 = .ok (.ireturn, 1) := by decide +kernel
theorem dX9_range_43 : decode cX9_range 43 = .ok (.aload_n 0, 1) := by decide +kernel
theorem dX9_range_44 : decode cX9_range 44 = .ok (.getfield 35, 3) := by decide +kernel
theorem dX9_range_47 : decode cX9_range 47 = .ok (.iload_n 1, 1) := by decide +kernel
theorem dX9_range_48 : decode cX9_range 48 = .ok (.aload 4, 2) := by decide +kernel
theorem dX9_range_50 : decode cX9_range 50 = .ok (.invokevirtual 165, 3) := by decide +kernel
theorem dX9_range_53 : decode cX9_range 53 = .ok (.aload 4, 2) := by decide +kernel
theorem dX9_range_55 : decode cX9_range 55 = .ok (.iload_n 2, 1) := by decide +kernel
theorem dX9_range_56 : decode cX9_range 56 = .ok (.iload_n 3, 1) := by decide +kernel
theorem dX9_range_57 : decode cX9_range 57 = .ok (.invokevirtual 172, 3) := by decide +kernel
theorem dX9_range_60 : decode cX9_range 60 = .ok (.aload_n 0, 1) := by decide +kernel
theorem dX9_range_61 : decode cX9_range 61 = .ok (.getfield 28, 3) := by decide +kernel
theorem dX9_range_64 : decode cX9_range 64 = .ok (.invokevirtual 115, 3) := by decide +kernel
theorem dX9_range_67 : decode cX9_range 67 = .ok (.aload 4, 2) := by decide +kernel
theorem dX9_range_69 : decode cX9_range 69 = .ok (.getfield 169, 3) := by decide +kernel
theorem dX9_range_72 : decode cX9_range 72 = .ok (.iconst 1, 1) := by decide +kernel
theorem dX9_range_73 : decode cX9_range 73 = .ok (.isub, 1) := by decide +kernel
theorem dX9_range_74 : decode cX9_range 74 = .ok (.ireturn, 1) := by decide +kernel
def wX9_range (I : Nat → Int32) (L : Nat → Int64) (A : Nat → Nat → Int32) (B : Nat → Nat → Int64) (x1 : Int32) (x2 : Int32) (x3 : Int32) (post : Int32 → (Nat → Int32) → (Nat → Int64) → (Nat → Nat → Int32) → (Nat → Nat → Int64) → Prop) : Prop := wX7_isNumeric I L A B x1 (fun r5 => if r5 = 0 then (post (-1) I L A B) else (if x2 ≤ x3 then (vp_in x1 5 ∧ (if (I (9 + x1.toNatClampNeg + 5 + 22)) < 3 then (wX8_note I L A B x1 (9 + x1.toNatClampNeg + 5) (fun I_1 L_1 A_1 => wX5_addRange I_1 L_1 A_1 B (9 + x1.toNatClampNeg + 5) x2 x3 (fun I_2 A_2 => wX7_renew I_2 L_1 A_2 B  (fun B_1 => post ((I_2 (9 + x1.toNatClampNeg + 5 + 22)) - 1) I_2 L_1 A_2 B_1)))) else (post (-1) I L A B))) else (post (-1) I L A B)))
abbrev rmX9_range : Room := { frames := 4, cells := 0, slots := 0, locals := 94 }
theorem wd_X9_range : Cond.instanceMethod yX9_range ∈ BW ∧ Cond.selects yX9_range.cls yX9_range yX9_range ∈ BW ∧ Cond.initialized yX9_range.cls ∈ BW ∧ Cond.code yX9_range cX9_range 5 (some .int) ∈ BW := ⟨mw_2_238, mw_2_239, mw_1_1, mw_3_0⟩
set_option maxHeartbeats 4000000 in
set_option maxRecDepth 100000 in
theorem c_X9_range {l : Launch} {D : va_G} {cy : Nat → ClassId} {ad : Nat → Nat} {Ad : Nat → Prop} (hAd : adok 103 Ad ad) (I : Nat → Int32) (L : Nat → Int64) (A : Nat → Nat → Int32) (B : Nat → Nat → Int64) (x1 : Int32) (x2 : Int32) (x3 : Int32)  (post : Int32 → (Nat → Int32) → (Nat → Int64) → (Nat → Nat → Int32) → (Nat → Nat → Int64) → Prop) (h : wX9_range I L A B x1 x2 x3 post) : Met l yX9_range (.code yX9_range cX9_range 5 (some .int) :: BW) rmX9_range (va_Pc [.ref (ad 0), .int x1, .int x2, .int x3] (fun U => kC D cy U ∧ va_P D vwCl (wC cy ad I L A B) U.heap)) (qCi D cy ad Ad (fun r u => post r u.1 u.2.1 u.2.2.1 u.2.2.2)) 0 0 Ad := by
  refine startCi (by decide) (Nat.le_of_ble_eq_true rfl) (lv := [(0, .ref (ad 0)), (1, .int x1), (2, .int x2), (3, .int x3)]) rfl (fun p e s m args below meth c Q ls hx hb hml hT hown hK hret hl hP hS => ?_)
  unfold wX9_range at h
  refine lv_aload_n hx hb dX9_range_0 rfl (lv_at hl 0 rfl) ?_
  refine va_get (T := TX9) hx hb hT inlX9 hown hK.1 hP 0 he_X9 rfl 2 (by decide) (hT _ mw_2_9) (fun _ h9 => h9) rfl dX9_range_1 ?_
  refine lv_iload_n hx hb dX9_range_4 rfl (lv_at hl 1 rfl) ?_
  refine callCi (k := 3) (As := [.int x1]) (rest := []) (n := 1) (c_X7_isNumeric hAd I L A B x1 _ h) hx hb hT hown hK hP hS mw_2_191 wd_X7_isNumeric (by decide +kernel) ⟨rfl, rfl⟩ (by decide) rfl rfl he_X7 rfl hl.1 hml rfl (Nat.le_of_ble_eq_true rfl) dX9_range_5 ⟨Nat.zero_le _, Nat.zero_le _⟩ (fun r5 u H locs h hP hS => ?_)
  obtain ⟨Iu, Lu, Au, Bu⟩ := u
  dsimp only at h hP
  obtain ⟨h, rfl, rfl, rfl, rfl⟩ := h
  try dsimp only at h
  refine lv_if_eq (tgt := 16) hx hb dX9_range_8 (by decide) (fun hc => ?_) (fun hc => ?_)
  · rw [if_pos hc] at h
    refine lv_iconst (v := (-1)) hx hb dX9_range_16 (by decide) ?_
    exact hret _ (I, L, A, B) dX9_range_17 h hP hS
  · rw [if_neg hc] at h
    refine lv_iload_n hx hb dX9_range_11 rfl (lv_at hl 2 rfl) ?_
    refine lv_iload_n hx hb dX9_range_12 rfl (lv_at hl 3 rfl) ?_
    refine lv_icmp_le (tgt := 18) hx hb dX9_range_13 (by decide) (fun hc_1 => ?_) (fun hc_1 => ?_)
    · rw [if_pos hc_1] at h
      refine lv_aload_n hx hb dX9_range_18 rfl (lv_at hl 0 rfl) ?_
      refine va_get (T := TX9) hx hb hT inlX9 hown hK.1 hP 0 he_X9 rfl 2 (by decide) (hT _ mw_2_9) (fun _ h9 => h9) rfl dX9_range_19 ?_
      refine va_get (T := TX7) hx hb hT inlX7 hown hK.1 hP 3 he_X7 rfl 2 (by decide) (hT _ mw_1_166) (fun _ h9 => h9) rfl dX9_range_22 ?_
      refine lv_iload_n hx hb dX9_range_25 rfl (lv_at hl 1 rfl) ?_
      obtain ⟨hi, h⟩ := h
      have hj := vp_lt hi
      refine lC_X hx hb hK.1 hP hi dX9_range_26 ?_
      refine va_get (T := TX0) hx hb hT inlX0 hown hK.1 hP (9 + x1.toNatClampNeg) (he_X0 (by omega)) rfl 1 (by decide) (hT _ mw_1_148) (fun _ h9 => h9) rfl dX9_range_27 ?_
      refine lv_astore (lv' := [(4, .ref (ad (9 + x1.toNatClampNeg + 5))), (0, .ref (ad 0)), (1, .int x1), (2, .int x2), (3, .int x3)]) hx hb dX9_range_30 hl (by decide) rfl (fun ls hl => ?_)
      refine lv_aload hx hb dX9_range_32 (lv_at hl 0 rfl) ?_
      refine va_get (T := TX5) hx hb hT inlX5 hown hK.1 hP (9 + x1.toNatClampNeg + 5) (he_X5 (by omega)) rfl 2 (by decide) (hT _ mw_1_127) (fun _ h9 => h9) rfl dX9_range_34 ?_
      refine lv_iconst (v := 3) hx hb dX9_range_37 (by decide) ?_
      refine lv_icmp_lt (tgt := 43) hx hb dX9_range_38 (by decide) (fun hc_2 => ?_) (fun hc_2 => ?_)
      · rw [if_pos hc_2] at h
        refine lv_aload_n hx hb dX9_range_43 rfl (lv_at hl 1 rfl) ?_
        refine va_get (T := TX9) hx hb hT inlX9 hown hK.1 hP 0 he_X9 rfl 3 (by decide) (hT _ mw_2_10) (fun _ h9 => h9) rfl dX9_range_44 ?_
        refine lv_iload_n hx hb dX9_range_47 rfl (lv_at hl 2 rfl) ?_
        refine lv_aload hx hb dX9_range_48 (lv_at hl 0 rfl) ?_
        refine callCv (k := 4) (As := [.int x1, .ref (ad (9 + x1.toNatClampNeg + 5))]) (rest := []) (n := 2) (c_X8_note hAd I L A B x1 (9 + x1.toNatClampNeg + 5) (by omega) _ h) hx hb hT hown hK hP hS mw_2_226 wd_X8_note (by decide +kernel) ⟨rfl, rfl⟩ (by decide) rfl rfl he_X8 rfl hl.1 hml rfl (Nat.le_of_ble_eq_true rfl) dX9_range_50 ⟨Nat.zero_le _, Nat.zero_le _⟩ (fun u H locs h hP hS => ?_)
        obtain ⟨I_1, L_1, A_1, Bu_1⟩ := u
        dsimp only at h hP
        obtain ⟨h, rfl⟩ := h
        try dsimp only at h
        refine lv_aload hx hb dX9_range_53 (lv_at hl 0 rfl) ?_
        refine lv_iload_n hx hb dX9_range_55 rfl (lv_at hl 3 rfl) ?_
        refine lv_iload_n hx hb dX9_range_56 rfl (lv_at hl 4 rfl) ?_
        refine callCv (k := (9 + x1.toNatClampNeg + 5)) (As := [.int x2, .int x3]) (rest := []) (n := 2) (c_X5_addRange hAd I_1 L_1 A_1 B (9 + x1.toNatClampNeg + 5) x2 x3 (by omega) _ h) hx hb hT hown hK hP hS mw_3_1 wd_X5_addRange (by decide +kernel) ⟨rfl, rfl⟩ (by decide) rfl rfl (he_X5 (by omega)) rfl hl.1 hml rfl (Nat.le_of_ble_eq_true rfl) dX9_range_57 ⟨Nat.zero_le _, Nat.zero_le _⟩ (fun u H locs h hP hS => ?_)
        obtain ⟨I_2, Lu_1, A_2, Bu_2⟩ := u
        dsimp only at h hP
        obtain ⟨h, rfl, rfl⟩ := h
        try dsimp only at h
        refine lv_aload_n hx hb dX9_range_60 rfl (lv_at hl 1 rfl) ?_
        refine va_get (T := TX9) hx hb hT inlX9 hown hK.1 hP 0 he_X9 rfl 2 (by decide) (hT _ mw_2_9) (fun _ h9 => h9) rfl dX9_range_61 ?_
        refine callCv (k := 3) (As := []) (rest := []) (n := 0) (c_X7_renew hAd I_2 L_1 A_2 B  _ h) hx hb hT hown hK hP hS mw_2_148 wd_X7_renew (by decide +kernel) ⟨rfl, rfl⟩ (by decide) rfl rfl he_X7 rfl hl.1 hml rfl (Nat.le_of_ble_eq_true rfl) dX9_range_64 ⟨Nat.zero_le _, Nat.zero_le _⟩ (fun u H locs h hP hS => ?_)
        obtain ⟨Iu_1, Lu_2, Au_1, B_1⟩ := u
        dsimp only at h hP
        obtain ⟨h, rfl, rfl, rfl⟩ := h
        try dsimp only at h
        refine lv_aload hx hb dX9_range_67 (lv_at hl 0 rfl) ?_
        refine va_get (T := TX5) hx hb hT inlX5 hown hK.1 hP (9 + x1.toNatClampNeg + 5) (he_X5 (by omega)) rfl 2 (by decide) (hT _ mw_1_127) (fun _ h9 => h9) rfl dX9_range_69 ?_
        refine lv_iconst (v := 1) hx hb dX9_range_72 (by decide) ?_
        refine lv_isub hx hb dX9_range_73 ?_
        exact hret _ (I_2, L_1, A_2, B_1) dX9_range_74 h hP hS
      · rw [if_neg hc_2] at h
        refine lv_iconst (v := (-1)) hx hb dX9_range_41 (by decide) ?_
        exact hret _ (I, L, A, B) dX9_range_42 h hP hS
    · rw [if_neg hc_1] at h
      refine lv_iconst (v := (-1)) hx hb dX9_range_16 (by decide) ?_
      exact hret _ (I, L, A, B) dX9_range_17 h hP hS
theorem dX9_drop_0 : decode cX9_drop 0 = .ok (.aload_n 0, 1) := by decide +kernel
theorem dX9_drop_1 : decode cX9_drop 1 = .ok (.getfield 28, 3) := by decide +kernel
theorem dX9_drop_4 : decode cX9_drop 4 = .ok (.iload_n 1, 1) := by decide +kernel
theorem dX9_drop_5 : decode cX9_drop 5 = .ok (.invokevirtual 131, 3) := by decide +kernel
theorem dX9_drop_8 : decode cX9_drop 8 = .ok (.ifCond .ne 5, 3) := by decide +kernel
theorem dX9_drop_11 : decode cX9_drop 11 = .ok (.iconst 0, 1) := by decide +kernel
theorem dX9_drop_12 : decode cX9_drop 12 = .ok (.ireturn, 1) := by decide +kernel
theorem dX9_drop_13 : decode cX9_drop 13 = .ok (.aload_n 0, 1) := by decide +kernel
theorem dX9_drop_14 : decode cX9_drop 14 = .ok (.getfield 28, 3) := by decide +kernel
theorem dX9_drop_17 : decode cX9_drop 17 = .ok (.getfield 134, 3) := by decide +kernel
theorem dX9_drop_20 : decode cX9_drop 20 = .ok (.iload_n 1, 1) := by decide +kernel
theorem dX9_drop_21 : decode cX9_drop 21 = .ok (.aaload, 1) := by decide +kernel
theorem dX9_drop_22 : decode cX9_drop 22 = .ok (.getfield 159, 3) := by decide +kernel
theorem dX9_drop_25 : decode cX9_drop 25 = .ok (.astore_n 3, 1) := by decide +kernel
theorem dX9_drop_26 : decode cX9_drop 26 = .ok (.iload_n 2, 1) := by decide +kernel
theorem dX9_drop_27 : decode cX9_drop 27 = .ok (.ifCond .lt 11, 3) := by decide +kernel
theorem dX9_drop_30 : decode cX9_drop 30 = .ok (.iload_n 2, 1) := by decide +kernel
theorem dX9_drop_31 : decode cX9_drop 31 = .ok (.aload_n 3, 1) := by decide +kernel
theorem dX9_drop_32 : decode cX9_drop 32 = .ok (.getfield 169, 3) := by decide +kernel
theorem dX9_drop_35 : decode cX9_drop 35 = .ok (.if_icmp .lt 5, 3) := by decide +kernel
theorem dX9_drop_38 : decode cX9_drop 38 = .ok (.iconst 0, 1) := by decide +kernel
theorem dX9_drop_39 : decode cX9_drop 39 = .ok (.ireturn, 1) := by decide +kernel
theorem dX9_drop_40 : decode cX9_drop 40 = .ok (.aload_n 0, 1) := by decide +kernel
theorem dX9_drop_41 : decode cX9_drop 41 = .ok (.getfield 35, 3) := by decide +kernel
theorem dX9_drop_44 : decode cX9_drop 44 = .ok (.iload_n 1, 1) := by decide +kernel
theorem dX9_drop_45 : decode cX9_drop 45 = .ok (.aload_n 3, 1) := by decide +kernel
theorem dX9_drop_46 : decode cX9_drop 46 = .ok (.invokevirtual 165, 3) := by decide +kernel
theorem dX9_drop_49 : decode cX9_drop 49 = .ok (.aload_n 3, 1) := by decide +kernel
theorem dX9_drop_50 : decode cX9_drop 50 = .ok (.iload_n 2, 1) := by decide +kernel
theorem dX9_drop_51 : decode cX9_drop 51 = .ok (.invokevirtual 175, 3) := by decide +kernel
theorem dX9_drop_54 : decode cX9_drop 54 = .ok (.aload_n 0, 1) := by decide +kernel
theorem dX9_drop_55 : decode cX9_drop 55 = .ok (.getfield 28, 3) := by decide +kernel
theorem dX9_drop_58 : decode cX9_drop 58 = .ok (.invokevirtual 115, 3) := by decide +kernel
theorem dX9_drop_61 : decode cX9_drop 61 = .ok (.iconst 1, 1) := by decide +kernel
theorem dX9_drop_62 : decode cX9_drop 62 = .ok (.ireturn, 1) := by decide +kernel
def wX9_drop (I : Nat → Int32) (L : Nat → Int64) (A : Nat → Nat → Int32) (B : Nat → Nat → Int64) (x1 : Int32) (x2 : Int32) (post : Int32 → (Nat → Int32) → (Nat → Int64) → (Nat → Nat → Int32) → (Nat → Nat → Int64) → Prop) : Prop := wX7_isNumeric I L A B x1 (fun r5 => if r5 = 0 then (post 0 I L A B) else (vp_in x1 5 ∧ (if x2 < 0 then (post 0 I L A B) else (if x2 < (I (9 + x1.toNatClampNeg + 5 + 22)) then (wX8_note I L A B x1 (9 + x1.toNatClampNeg + 5) (fun I_1 L_1 A_1 => wX5_dropRange I_1 L_1 A_1 B (9 + x1.toNatClampNeg + 5) x2 (fun I_2 A_2 => wX7_renew I_2 L_1 A_2 B  (fun B_1 => post 1 I_2 L_1 A_2 B_1)))) else (post 0 I L A B)))))
abbrev rmX9_drop : Room := { frames := 4, cells := 0, slots := 0, locals := 94 }
theorem wd_X9_drop : Cond.instanceMethod yX9_drop ∈ BW ∧ Cond.selects yX9_drop.cls yX9_drop yX9_drop ∈ BW ∧ Cond.initialized yX9_drop.cls ∈ BW ∧ Cond.code yX9_drop cX9_drop 4 (some .boolean) ∈ BW := ⟨mw_3_6, mw_3_7, mw_1_1, mw_3_8⟩
set_option maxHeartbeats 4000000 in
set_option maxRecDepth 100000 in
theorem c_X9_drop {l : Launch} {D : va_G} {cy : Nat → ClassId} {ad : Nat → Nat} {Ad : Nat → Prop} (hAd : adok 103 Ad ad) (I : Nat → Int32) (L : Nat → Int64) (A : Nat → Nat → Int32) (B : Nat → Nat → Int64) (x1 : Int32) (x2 : Int32)  (post : Int32 → (Nat → Int32) → (Nat → Int64) → (Nat → Nat → Int32) → (Nat → Nat → Int64) → Prop) (h : wX9_drop I L A B x1 x2 post) : Met l yX9_drop (.code yX9_drop cX9_drop 4 (some .boolean) :: BW) rmX9_drop (va_Pc [.ref (ad 0), .int x1, .int x2] (fun U => kC D cy U ∧ va_P D vwCl (wC cy ad I L A B) U.heap)) (qCi D cy ad Ad (fun r u => post r u.1 u.2.1 u.2.2.1 u.2.2.2)) 0 0 Ad := by
  refine startCz (by decide) (Nat.le_of_ble_eq_true rfl) (lv := [(0, .ref (ad 0)), (1, .int x1), (2, .int x2)]) rfl (fun p e s m args below meth c Q ls hx hb hml hT hown hK hret hl hP hS => ?_)
  unfold wX9_drop at h
  refine lv_aload_n hx hb dX9_drop_0 rfl (lv_at hl 0 rfl) ?_
  refine va_get (T := TX9) hx hb hT inlX9 hown hK.1 hP 0 he_X9 rfl 2 (by decide) (hT _ mw_2_9) (fun _ h9 => h9) rfl dX9_drop_1 ?_
  refine lv_iload_n hx hb dX9_drop_4 rfl (lv_at hl 1 rfl) ?_
  refine callCi (k := 3) (As := [.int x1]) (rest := []) (n := 1) (c_X7_isNumeric hAd I L A B x1 _ h) hx hb hT hown hK hP hS mw_2_191 wd_X7_isNumeric (by decide +kernel) ⟨rfl, rfl⟩ (by decide) rfl rfl he_X7 rfl hl.1 hml rfl (Nat.le_of_ble_eq_true rfl) dX9_drop_5 ⟨Nat.zero_le _, Nat.zero_le _⟩ (fun r5 u H locs h hP hS => ?_)
  obtain ⟨Iu, Lu, Au, Bu⟩ := u
  dsimp only at h hP
  obtain ⟨h, rfl, rfl, rfl, rfl⟩ := h
  try dsimp only at h
  refine lv_if_ne (tgt := 13) hx hb dX9_drop_8 (by decide) (fun hc => ?_) (fun hc => ?_)
  · rw [if_neg hc] at h
    refine lv_aload_n hx hb dX9_drop_13 rfl (lv_at hl 0 rfl) ?_
    refine va_get (T := TX9) hx hb hT inlX9 hown hK.1 hP 0 he_X9 rfl 2 (by decide) (hT _ mw_2_9) (fun _ h9 => h9) rfl dX9_drop_14 ?_
    refine va_get (T := TX7) hx hb hT inlX7 hown hK.1 hP 3 he_X7 rfl 2 (by decide) (hT _ mw_1_166) (fun _ h9 => h9) rfl dX9_drop_17 ?_
    refine lv_iload_n hx hb dX9_drop_20 rfl (lv_at hl 1 rfl) ?_
    obtain ⟨hi, h⟩ := h
    have hj := vp_lt hi
    refine lC_X hx hb hK.1 hP hi dX9_drop_21 ?_
    refine va_get (T := TX0) hx hb hT inlX0 hown hK.1 hP (9 + x1.toNatClampNeg) (he_X0 (by omega)) rfl 1 (by decide) (hT _ mw_1_148) (fun _ h9 => h9) rfl dX9_drop_22 ?_
    refine lv_astore_n (lv' := [(3, .ref (ad (9 + x1.toNatClampNeg + 5))), (0, .ref (ad 0)), (1, .int x1), (2, .int x2)]) hx hb dX9_drop_25 rfl hl (by decide) rfl (fun ls hl => ?_)
    refine lv_iload_n hx hb dX9_drop_26 rfl (lv_at hl 3 rfl) ?_
    refine lv_if_lt (tgt := 38) hx hb dX9_drop_27 (by decide) (fun hc_1 => ?_) (fun hc_1 => ?_)
    · rw [if_pos hc_1] at h
      refine lv_iconst (v := 0) hx hb dX9_drop_38 (by decide) ?_
      exact hret _ (I, L, A, B) zb_0 dX9_drop_39 h hP hS
    · rw [if_neg hc_1] at h
      refine lv_iload_n hx hb dX9_drop_30 rfl (lv_at hl 3 rfl) ?_
      refine lv_aload_n hx hb dX9_drop_31 rfl (lv_at hl 0 rfl) ?_
      refine va_get (T := TX5) hx hb hT inlX5 hown hK.1 hP (9 + x1.toNatClampNeg + 5) (he_X5 (by omega)) rfl 2 (by decide) (hT _ mw_1_127) (fun _ h9 => h9) rfl dX9_drop_32 ?_
      refine lv_icmp_lt (tgt := 40) hx hb dX9_drop_35 (by decide) (fun hc_2 => ?_) (fun hc_2 => ?_)
      · rw [if_pos hc_2] at h
        refine lv_aload_n hx hb dX9_drop_40 rfl (lv_at hl 1 rfl) ?_
        refine va_get (T := TX9) hx hb hT inlX9 hown hK.1 hP 0 he_X9 rfl 3 (by decide) (hT _ mw_2_10) (fun _ h9 => h9) rfl dX9_drop_41 ?_
        refine lv_iload_n hx hb dX9_drop_44 rfl (lv_at hl 2 rfl) ?_
        refine lv_aload_n hx hb dX9_drop_45 rfl (lv_at hl 0 rfl) ?_
        refine callCv (k := 4) (As := [.int x1, .ref (ad (9 + x1.toNatClampNeg + 5))]) (rest := []) (n := 2) (c_X8_note hAd I L A B x1 (9 + x1.toNatClampNeg + 5) (by omega) _ h) hx hb hT hown hK hP hS mw_2_226 wd_X8_note (by decide +kernel) ⟨rfl, rfl⟩ (by decide) rfl rfl he_X8 rfl hl.1 hml rfl (Nat.le_of_ble_eq_true rfl) dX9_drop_46 ⟨Nat.zero_le _, Nat.zero_le _⟩ (fun u H locs h hP hS => ?_)
        obtain ⟨I_1, L_1, A_1, Bu_1⟩ := u
        dsimp only at h hP
        obtain ⟨h, rfl⟩ := h
        try dsimp only at h
        refine lv_aload_n hx hb dX9_drop_49 rfl (lv_at hl 0 rfl) ?_
        refine lv_iload_n hx hb dX9_drop_50 rfl (lv_at hl 3 rfl) ?_
        refine callCv (k := (9 + x1.toNatClampNeg + 5)) (As := [.int x2]) (rest := []) (n := 1) (c_X5_dropRange hAd I_1 L_1 A_1 B (9 + x1.toNatClampNeg + 5) x2 (by omega) _ h) hx hb hT hown hK hP hS mw_3_9 wd_X5_dropRange (by decide +kernel) ⟨rfl, rfl⟩ (by decide) rfl rfl (he_X5 (by omega)) rfl hl.1 hml rfl (Nat.le_of_ble_eq_true rfl) dX9_drop_51 ⟨Nat.zero_le _, Nat.zero_le _⟩ (fun u H locs h hP hS => ?_)
        obtain ⟨I_2, Lu_1, A_2, Bu_2⟩ := u
        dsimp only at h hP
        obtain ⟨h, rfl, rfl⟩ := h
        try dsimp only at h
        refine lv_aload_n hx hb dX9_drop_54 rfl (lv_at hl 1 rfl) ?_
        refine va_get (T := TX9) hx hb hT inlX9 hown hK.1 hP 0 he_X9 rfl 2 (by decide) (hT _ mw_2_9) (fun _ h9 => h9) rfl dX9_drop_55 ?_
        refine callCv (k := 3) (As := []) (rest := []) (n := 0) (c_X7_renew hAd I_2 L_1 A_2 B  _ h) hx hb hT hown hK hP hS mw_2_148 wd_X7_renew (by decide +kernel) ⟨rfl, rfl⟩ (by decide) rfl rfl he_X7 rfl hl.1 hml rfl (Nat.le_of_ble_eq_true rfl) dX9_drop_58 ⟨Nat.zero_le _, Nat.zero_le _⟩ (fun u H locs h hP hS => ?_)
        obtain ⟨Iu_1, Lu_2, Au_1, B_1⟩ := u
        dsimp only at h hP
        obtain ⟨h, rfl, rfl, rfl⟩ := h
        try dsimp only at h
        refine lv_iconst (v := 1) hx hb dX9_drop_61 (by decide) ?_
        exact hret _ (I_2, L_1, A_2, B_1) zb_1 dX9_drop_62 h hP hS
      · rw [if_neg hc_2] at h
        refine lv_iconst (v := 0) hx hb dX9_drop_38 (by decide) ?_
        exact hret _ (I, L, A, B) zb_0 dX9_drop_39 h hP hS
  · rw [if_pos hc] at h
    refine lv_iconst (v := 0) hx hb dX9_drop_11 (by decide) ?_
    exact hret _ (I, L, A, B) zb_0 dX9_drop_12 h hP hS
theorem dX9_missing_0 : decode cX9_missing 0 = .ok (.aload_n 0, 1) := by decide +kernel
theorem dX9_missing_1 : decode cX9_missing 1 = .ok (.getfield 28, 3) := by decide +kernel
theorem dX9_missing_4 : decode cX9_missing 4 = .ok (.iload_n 1, 1) := by decide +kernel
theorem dX9_missing_5 : decode cX9_missing 5 = .ok (.invokevirtual 178, 3) := by decide +kernel
theorem dX9_missing_8 : decode cX9_missing 8 = .ok (.ifCond .ne 5, 3) := by decide +kernel
theorem dX9_missing_11 : decode cX9_missing 11 = .ok (.iconst 0, 1) := by decide +kernel
theorem dX9_missing_12 : decode cX9_missing 12 = .ok (.ireturn, 1) := by decide +kernel
theorem dX9_missing_13 : decode cX9_missing 13 = .ok (.aload_n 0, 1) := by decide +kernel
theorem dX9_missing_14 : decode cX9_missing 14 = .ok (.getfield 28, 3) := by decide +kernel
theorem dX9_missing_17 : decode cX9_missing 17 = .ok (.getfield 134, 3) := by decide +kernel
theorem dX9_missing_20 : decode cX9_missing 20 = .ok (.iload_n 1, 1) := by decide +kernel
theorem dX9_missing_21 : decode cX9_missing 21 = .ok (.aaload, 1) := by decide +kernel
theorem dX9_missing_22 : decode cX9_missing 22 = .ok (.getfield 159, 3) := by decide +kernel
theorem dX9_missing_25 : decode cX9_missing 25 = .ok (.astore_n 3, 1) := by decide +kernel
theorem dX9_missing_26 : decode cX9_missing 26 = .ok (.aload_n 3, 1) := by decide +kernel
theorem dX9_missing_27 : decode cX9_missing 27 = .ok (.getfield 179, 3) := by decide +kernel
theorem dX9_missing_30 : decode cX9_missing 30 = .ok (.iload_n 2, 1) := by decide +kernel
theorem dX9_missing_31 : decode cX9_missing 31 = .ok (.if_icmp .ne 5, 3) := by decide +kernel
theorem dX9_missing_34 : decode cX9_missing 34 = .ok (.iconst 0, 1) := by decide +kernel
theorem dX9_missing_35 : decode cX9_missing 35 = .ok (.ireturn, 1) := by decide +kernel
theorem dX9_missing_36 : decode cX9_missing 36 = .ok (.aload_n 0, 1) := by decide +kernel
theorem dX9_missing_37 : decode cX9_missing 37 = .ok (.getfield 35, 3) := by decide +kernel
theorem dX9_missing_40 : decode cX9_missing 40 = .ok (.iload_n 1, 1) := by decide +kernel
theorem dX9_missing_41 : decode cX9_missing 41 = .ok (.aload_n 3, 1) := by decide +kernel
theorem dX9_missing_42 : decode cX9_missing 42 = .ok (.invokevirtual 165, 3) := by decide +kernel
theorem dX9_missing_45 : decode cX9_missing 45 = .ok (.aload_n 3, 1) := by decide +kernel
theorem dX9_missing_46 : decode cX9_missing 46 = .ok (.iload_n 2, 1) := by decide +kernel
theorem dX9_missing_47 : decode cX9_missing 47 = .ok (.putfield 179, 3) := by decide +kernel
theorem dX9_missing_50 : decode cX9_missing 50 = .ok (.aload_n 0, 1) := by decide +kernel
theorem dX9_missing_51 : decode cX9_missing 51 = .ok (.getfield 28, 3) := by decide +kernel
theorem dX9_missing_54 : decode cX9_missing 54 = .ok (.invokevirtual 115, 3) := by decide +kernel
theorem dX9_missing_57 : decode cX9_missing 57 = .ok (.iconst 1, 1) := by decide +kernel
theorem dX9_missing_58 : decode cX9_missing 58 = .ok (.ireturn, 1) := by decide +kernel
def wX9_missing (I : Nat → Int32) (L : Nat → Int64) (A : Nat → Nat → Int32) (B : Nat → Nat → Int64) (x1 : Int32) (x2 : Int32) (post : Int32 → (Nat → Int32) → (Nat → Int64) → (Nat → Nat → Int32) → (Nat → Nat → Int64) → Prop) : Prop := wX7_knows I L A B x1 (fun r5 => if r5 = 0 then (post 0 I L A B) else (vp_in x1 5 ∧ (if (I (9 + x1.toNatClampNeg + 5)) = x2 then (post 0 I L A B) else (wX8_note I L A B x1 (9 + x1.toNatClampNeg + 5) (fun I_1 L_1 A_1 => zb x2 ∧ (∀ I_2, I_2 = va_up I_1 (9 + x1.toNatClampNeg + 5) x2 → wX7_renew I_2 L_1 A_1 B  (fun B_1 => post 1 I_2 L_1 A_1 B_1)))))))
abbrev rmX9_missing : Room := { frames := 4, cells := 0, slots := 0, locals := 94 }
theorem wd_X9_missing : Cond.instanceMethod yX9_missing ∈ BW ∧ Cond.selects yX9_missing.cls yX9_missing yX9_missing ∈ BW ∧ Cond.initialized yX9_missing.cls ∈ BW ∧ Cond.code yX9_missing cX9_missing 4 (some .boolean) ∈ BW := ⟨mw_3_14, mw_3_15, mw_1_1, mw_3_16⟩
set_option maxHeartbeats 4000000 in
set_option maxRecDepth 100000 in
theorem c_X9_missing {l : Launch} {D : va_G} {cy : Nat → ClassId} {ad : Nat → Nat} {Ad : Nat → Prop} (hAd : adok 103 Ad ad) (I : Nat → Int32) (L : Nat → Int64) (A : Nat → Nat → Int32) (B : Nat → Nat → Int64) (x1 : Int32) (x2 : Int32)  (post : Int32 → (Nat → Int32) → (Nat → Int64) → (Nat → Nat → Int32) → (Nat → Nat → Int64) → Prop) (h : wX9_missing I L A B x1 x2 post) : Met l yX9_missing (.code yX9_missing cX9_missing 4 (some .boolean) :: BW) rmX9_missing (va_Pc [.ref (ad 0), .int x1, .int x2] (fun U => kC D cy U ∧ va_P D vwCl (wC cy ad I L A B) U.heap)) (qCi D cy ad Ad (fun r u => post r u.1 u.2.1 u.2.2.1 u.2.2.2)) 0 0 Ad := by
  refine startCz (by decide) (Nat.le_of_ble_eq_true rfl) (lv := [(0, .ref (ad 0)), (1, .int x1), (2, .int x2)]) rfl (fun p e s m args below meth c Q ls hx hb hml hT hown hK hret hl hP hS => ?_)
  unfold wX9_missing at h
  refine lv_aload_n hx hb dX9_missing_0 rfl (lv_at hl 0 rfl) ?_
  refine va_get (T := TX9) hx hb hT inlX9 hown hK.1 hP 0 he_X9 rfl 2 (by decide) (hT _ mw_2_9) (fun _ h9 => h9) rfl dX9_missing_1 ?_
  refine lv_iload_n hx hb dX9_missing_4 rfl (lv_at hl 1 rfl) ?_
  refine callCi (k := 3) (As := [.int x1]) (rest := []) (n := 1) (c_X7_knows hAd I L A B x1 _ h) hx hb hT hown hK hP hS mw_3_17 wd_X7_knows (by decide +kernel) ⟨rfl, rfl⟩ (by decide) rfl rfl he_X7 rfl hl.1 hml rfl (Nat.le_of_ble_eq_true rfl) dX9_missing_5 ⟨Nat.zero_le _, Nat.zero_le _⟩ (fun r5 u H locs h hP hS => ?_)
  obtain ⟨Iu, Lu, Au, Bu⟩ := u
  dsimp only at h hP
  obtain ⟨h, rfl, rfl, rfl, rfl⟩ := h
  try dsimp only at h
  refine lv_if_ne (tgt := 13) hx hb dX9_missing_8 (by decide) (fun hc => ?_) (fun hc => ?_)
  · rw [if_neg hc] at h
    refine lv_aload_n hx hb dX9_missing_13 rfl (lv_at hl 0 rfl) ?_
    refine va_get (T := TX9) hx hb hT inlX9 hown hK.1 hP 0 he_X9 rfl 2 (by decide) (hT _ mw_2_9) (fun _ h9 => h9) rfl dX9_missing_14 ?_
    refine va_get (T := TX7) hx hb hT inlX7 hown hK.1 hP 3 he_X7 rfl 2 (by decide) (hT _ mw_1_166) (fun _ h9 => h9) rfl dX9_missing_17 ?_
    refine lv_iload_n hx hb dX9_missing_20 rfl (lv_at hl 1 rfl) ?_
    obtain ⟨hi, h⟩ := h
    have hj := vp_lt hi
    refine lC_X hx hb hK.1 hP hi dX9_missing_21 ?_
    refine va_get (T := TX0) hx hb hT inlX0 hown hK.1 hP (9 + x1.toNatClampNeg) (he_X0 (by omega)) rfl 1 (by decide) (hT _ mw_1_148) (fun _ h9 => h9) rfl dX9_missing_22 ?_
    refine lv_astore_n (lv' := [(3, .ref (ad (9 + x1.toNatClampNeg + 5))), (0, .ref (ad 0)), (1, .int x1), (2, .int x2)]) hx hb dX9_missing_25 rfl hl (by decide) rfl (fun ls hl => ?_)
    refine lv_aload_n hx hb dX9_missing_26 rfl (lv_at hl 0 rfl) ?_
    refine va_get (T := TX5) hx hb hT inlX5 hown hK.1 hP (9 + x1.toNatClampNeg + 5) (he_X5 (by omega)) rfl 1 (by decide) (hT _ mw_1_125) (fun _ h9 => h9) rfl dX9_missing_27 ?_
    refine lv_iload_n hx hb dX9_missing_30 rfl (lv_at hl 3 rfl) ?_
    refine lv_icmp_ne (tgt := 36) hx hb dX9_missing_31 (by decide) (fun hc_1 => ?_) (fun hc_1 => ?_)
    · rw [if_neg hc_1] at h
      refine lv_aload_n hx hb dX9_missing_36 rfl (lv_at hl 1 rfl) ?_
      refine va_get (T := TX9) hx hb hT inlX9 hown hK.1 hP 0 he_X9 rfl 3 (by decide) (hT _ mw_2_10) (fun _ h9 => h9) rfl dX9_missing_37 ?_
      refine lv_iload_n hx hb dX9_missing_40 rfl (lv_at hl 2 rfl) ?_
      refine lv_aload_n hx hb dX9_missing_41 rfl (lv_at hl 0 rfl) ?_
      refine callCv (k := 4) (As := [.int x1, .ref (ad (9 + x1.toNatClampNeg + 5))]) (rest := []) (n := 2) (c_X8_note hAd I L A B x1 (9 + x1.toNatClampNeg + 5) (by omega) _ h) hx hb hT hown hK hP hS mw_2_226 wd_X8_note (by decide +kernel) ⟨rfl, rfl⟩ (by decide) rfl rfl he_X8 rfl hl.1 hml rfl (Nat.le_of_ble_eq_true rfl) dX9_missing_42 ⟨Nat.zero_le _, Nat.zero_le _⟩ (fun u H locs h hP hS => ?_)
      obtain ⟨I_1, L_1, A_1, Bu_1⟩ := u
      dsimp only at h hP
      obtain ⟨h, rfl⟩ := h
      try dsimp only at h
      refine lv_aload_n hx hb dX9_missing_45 rfl (lv_at hl 0 rfl) ?_
      refine lv_iload_n hx hb dX9_missing_46 rfl (lv_at hl 3 rfl) ?_
      obtain ⟨hz, h⟩ := h
      refine pC_X5_absent (by omega) hAd hx hb hT hown hK.1 hP hS hz (hT _ mw_1_125) dX9_missing_47 (fun H locs hP hS => ?_)
      obtain ⟨I_2, eI_2⟩ : ∃ z, z = va_up I_1 (9 + x1.toNatClampNeg + 5) x2 := ⟨_, rfl⟩
      rw [← eI_2] at hP
      replace h := h I_2 eI_2
      refine lv_aload_n hx hb dX9_missing_50 rfl (lv_at hl 1 rfl) ?_
      refine va_get (T := TX9) hx hb hT inlX9 hown hK.1 hP 0 he_X9 rfl 2 (by decide) (hT _ mw_2_9) (fun _ h9 => h9) rfl dX9_missing_51 ?_
      refine callCv (k := 3) (As := []) (rest := []) (n := 0) (c_X7_renew hAd I_2 L_1 A_1 B  _ h) hx hb hT hown hK hP hS mw_2_148 wd_X7_renew (by decide +kernel) ⟨rfl, rfl⟩ (by decide) rfl rfl he_X7 rfl hl.1 hml rfl (Nat.le_of_ble_eq_true rfl) dX9_missing_54 ⟨Nat.zero_le _, Nat.zero_le _⟩ (fun u H locs h hP hS => ?_)
      obtain ⟨Iu_1, Lu_1, Au_1, B_1⟩ := u
      dsimp only at h hP
      obtain ⟨h, rfl, rfl, rfl⟩ := h
      try dsimp only at h
      refine lv_iconst (v := 1) hx hb dX9_missing_57 (by decide) ?_
      exact hret _ (I_2, L_1, A_1, B_1) zb_1 dX9_missing_58 h hP hS
    · rw [if_pos hc_1] at h
      refine lv_iconst (v := 0) hx hb dX9_missing_34 (by decide) ?_
      exact hret _ (I, L, A, B) zb_0 dX9_missing_35 h hP hS
  · rw [if_pos hc] at h
    refine lv_iconst (v := 0) hx hb dX9_missing_11 (by decide) ?_
    exact hret _ (I, L, A, B) zb_0 dX9_missing_12 h hP hS
theorem dX9_open_0 : decode cX9_open 0 = .ok (.aload_n 0, 1) := by decide +kernel
theorem dX9_open_1 : decode cX9_open 1 = .ok (.getfield 28, 3) := by decide +kernel
theorem dX9_open_4 : decode cX9_open 4 = .ok (.iload_n 1, 1) := by decide +kernel
theorem dX9_open_5 : decode cX9_open 5 = .ok (.invokevirtual 178, 3) := by decide +kernel
theorem dX9_open_8 : decode cX9_open 8 = .ok (.ifCond .ne 5, 3) := by decide +kernel
theorem dX9_open_11 : decode cX9_open 11 = .ok (.iconst 0, 1) := by decide +kernel
theorem dX9_open_12 : decode cX9_open 12 = .ok (.ireturn, 1) := by decide +kernel
theorem dX9_open_13 : decode cX9_open 13 = .ok (.aload_n 0, 1) := by decide +kernel
theorem dX9_open_14 : decode cX9_open 14 = .ok (.getfield 28, 3) := by decide +kernel
theorem dX9_open_17 : decode cX9_open 17 = .ok (.getfield 134, 3) := by decide +kernel
theorem dX9_open_20 : decode cX9_open 20 = .ok (.iload_n 1, 1) := by decide +kernel
theorem dX9_open_21 : decode cX9_open 21 = .ok (.aaload, 1) := by decide +kernel
theorem dX9_open_22 : decode cX9_open 22 = .ok (.getfield 159, 3) := by decide +kernel
theorem dX9_open_25 : decode cX9_open 25 = .ok (.astore_n 2, 1) := by decide +kernel
theorem dX9_open_26 : decode cX9_open 26 = .ok (.aload_n 2, 1) := by decide +kernel
theorem dX9_open_27 : decode cX9_open 27 = .ok (.invokevirtual 183, 3) := by decide +kernel
theorem dX9_open_30 : decode cX9_open 30 = .ok (.ifCond .eq 5, 3) := by decide +kernel
theorem dX9_open_33 : decode cX9_open 33 = .ok (.iconst 0, 1) := by decide +kernel
theorem dX9_open_34 : decode cX9_open 34 = .ok (.ireturn, 1) := by decide +kernel
theorem dX9_open_35 : decode cX9_open 35 = .ok (.aload_n 0, 1) := by decide +kernel
theorem dX9_open_36 : decode cX9_open 36 = .ok (.getfield 35, 3) := by decide +kernel
theorem dX9_open_39 : decode cX9_open 39 = .ok (.iload_n 1, 1) := by decide +kernel
theorem dX9_open_40 : decode cX9_open 40 = .ok (.aload_n 2, 1) := by decide +kernel
theorem dX9_open_41 : decode cX9_open 41 = .ok (.invokevirtual 165, 3) := by decide +kernel
theorem dX9_open_44 : decode cX9_open 44 = .ok (.aload_n 2, 1) := by decide +kernel
theorem dX9_open_45 : decode cX9_open 45 = .ok (.invokevirtual 187, 3) := by decide +kernel
theorem dX9_open_48 : decode cX9_open 48 = .ok (.aload_n 0, 1) := by decide +kernel
theorem dX9_open_49 : decode cX9_open 49 = .ok (.getfield 28, 3) := by decide +kernel
theorem dX9_open_52 : decode cX9_open 52 = .ok (.invokevirtual 115, 3) := by decide +kernel
theorem dX9_open_55 : decode cX9_open 55 = .ok (.iconst 1, 1) := by decide +kernel
theorem dX9_open_56 : decode cX9_open 56 = .ok (.ireturn, 1) := by decide +kernel
def wX9_open (I : Nat → Int32) (L : Nat → Int64) (A : Nat → Nat → Int32) (B : Nat → Nat → Int64) (x1 : Int32) (post : Int32 → (Nat → Int32) → (Nat → Int64) → (Nat → Nat → Int32) → (Nat → Nat → Int64) → Prop) : Prop := wX7_knows I L A B x1 (fun r5 => if r5 = 0 then (post 0 I L A B) else (vp_in x1 5 ∧ (wX5_isOpen I L A B (9 + x1.toNatClampNeg + 5)  (fun r27 => if r27 = 0 then (wX8_note I L A B x1 (9 + x1.toNatClampNeg + 5) (fun I_1 L_1 A_1 => wX5_clear I_1 L_1 A_1 B (9 + x1.toNatClampNeg + 5)  (fun I_2 L_2 => wX7_renew I_2 L_2 A_1 B  (fun B_1 => post 1 I_2 L_2 A_1 B_1)))) else (post 0 I L A B)))))
abbrev rmX9_open : Room := { frames := 4, cells := 0, slots := 0, locals := 94 }
theorem wd_X9_open : Cond.instanceMethod yX9_open ∈ BW ∧ Cond.selects yX9_open.cls yX9_open yX9_open ∈ BW ∧ Cond.initialized yX9_open.cls ∈ BW ∧ Cond.code yX9_open cX9_open 3 (some .boolean) ∈ BW := ⟨mw_3_19, mw_3_20, mw_1_1, mw_3_21⟩
set_option maxHeartbeats 4000000 in
set_option maxRecDepth 100000 in
theorem c_X9_open {l : Launch} {D : va_G} {cy : Nat → ClassId} {ad : Nat → Nat} {Ad : Nat → Prop} (hAd : adok 103 Ad ad) (I : Nat → Int32) (L : Nat → Int64) (A : Nat → Nat → Int32) (B : Nat → Nat → Int64) (x1 : Int32)  (post : Int32 → (Nat → Int32) → (Nat → Int64) → (Nat → Nat → Int32) → (Nat → Nat → Int64) → Prop) (h : wX9_open I L A B x1 post) : Met l yX9_open (.code yX9_open cX9_open 3 (some .boolean) :: BW) rmX9_open (va_Pc [.ref (ad 0), .int x1] (fun U => kC D cy U ∧ va_P D vwCl (wC cy ad I L A B) U.heap)) (qCi D cy ad Ad (fun r u => post r u.1 u.2.1 u.2.2.1 u.2.2.2)) 0 0 Ad := by
  refine startCz (by decide) (Nat.le_of_ble_eq_true rfl) (lv := [(0, .ref (ad 0)), (1, .int x1)]) rfl (fun p e s m args below meth c Q ls hx hb hml hT hown hK hret hl hP hS => ?_)
  unfold wX9_open at h
  refine lv_aload_n hx hb dX9_open_0 rfl (lv_at hl 0 rfl) ?_
  refine va_get (T := TX9) hx hb hT inlX9 hown hK.1 hP 0 he_X9 rfl 2 (by decide) (hT _ mw_2_9) (fun _ h9 => h9) rfl dX9_open_1 ?_
  refine lv_iload_n hx hb dX9_open_4 rfl (lv_at hl 1 rfl) ?_
  refine callCi (k := 3) (As := [.int x1]) (rest := []) (n := 1) (c_X7_knows hAd I L A B x1 _ h) hx hb hT hown hK hP hS mw_3_17 wd_X7_knows (by decide +kernel) ⟨rfl, rfl⟩ (by decide) rfl rfl he_X7 rfl hl.1 hml rfl (Nat.le_of_ble_eq_true rfl) dX9_open_5 ⟨Nat.zero_le _, Nat.zero_le _⟩ (fun r5 u H locs h hP hS => ?_)
  obtain ⟨Iu, Lu, Au, Bu⟩ := u
  dsimp only at h hP
  obtain ⟨h, rfl, rfl, rfl, rfl⟩ := h
  try dsimp only at h
  refine lv_if_ne (tgt := 13) hx hb dX9_open_8 (by decide) (fun hc => ?_) (fun hc => ?_)
  · rw [if_neg hc] at h
    refine lv_aload_n hx hb dX9_open_13 rfl (lv_at hl 0 rfl) ?_
    refine va_get (T := TX9) hx hb hT inlX9 hown hK.1 hP 0 he_X9 rfl 2 (by decide) (hT _ mw_2_9) (fun _ h9 => h9) rfl dX9_open_14 ?_
    refine va_get (T := TX7) hx hb hT inlX7 hown hK.1 hP 3 he_X7 rfl 2 (by decide) (hT _ mw_1_166) (fun _ h9 => h9) rfl dX9_open_17 ?_
    refine lv_iload_n hx hb dX9_open_20 rfl (lv_at hl 1 rfl) ?_
    obtain ⟨hi, h⟩ := h
    have hj := vp_lt hi
    refine lC_X hx hb hK.1 hP hi dX9_open_21 ?_
    refine va_get (T := TX0) hx hb hT inlX0 hown hK.1 hP (9 + x1.toNatClampNeg) (he_X0 (by omega)) rfl 1 (by decide) (hT _ mw_1_148) (fun _ h9 => h9) rfl dX9_open_22 ?_
    refine lv_astore_n (lv' := [(2, .ref (ad (9 + x1.toNatClampNeg + 5))), (0, .ref (ad 0)), (1, .int x1)]) hx hb dX9_open_25 rfl hl (by decide) rfl (fun ls hl => ?_)
    refine lv_aload_n hx hb dX9_open_26 rfl (lv_at hl 0 rfl) ?_
    refine callCi (k := (9 + x1.toNatClampNeg + 5)) (As := []) (rest := []) (n := 0) (c_X5_isOpen hAd I L A B (9 + x1.toNatClampNeg + 5)  (by omega) _ h) hx hb hT hown hK hP hS mw_3_22 wd_X5_isOpen (by decide +kernel) ⟨rfl, rfl⟩ (by decide) rfl rfl (he_X5 (by omega)) rfl hl.1 hml rfl (Nat.le_of_ble_eq_true rfl) dX9_open_27 ⟨Nat.zero_le _, Nat.zero_le _⟩ (fun r27 u H locs h hP hS => ?_)
    obtain ⟨Iu_1, Lu_1, Au_1, Bu_1⟩ := u
    dsimp only at h hP
    obtain ⟨h, rfl, rfl, rfl, rfl⟩ := h
    try dsimp only at h
    refine lv_if_eq (tgt := 35) hx hb dX9_open_30 (by decide) (fun hc_1 => ?_) (fun hc_1 => ?_)
    · rw [if_pos hc_1] at h
      refine lv_aload_n hx hb dX9_open_35 rfl (lv_at hl 1 rfl) ?_
      refine va_get (T := TX9) hx hb hT inlX9 hown hK.1 hP 0 he_X9 rfl 3 (by decide) (hT _ mw_2_10) (fun _ h9 => h9) rfl dX9_open_36 ?_
      refine lv_iload_n hx hb dX9_open_39 rfl (lv_at hl 2 rfl) ?_
      refine lv_aload_n hx hb dX9_open_40 rfl (lv_at hl 0 rfl) ?_
      refine callCv (k := 4) (As := [.int x1, .ref (ad (9 + x1.toNatClampNeg + 5))]) (rest := []) (n := 2) (c_X8_note hAd I L A B x1 (9 + x1.toNatClampNeg + 5) (by omega) _ h) hx hb hT hown hK hP hS mw_2_226 wd_X8_note (by decide +kernel) ⟨rfl, rfl⟩ (by decide) rfl rfl he_X8 rfl hl.1 hml rfl (Nat.le_of_ble_eq_true rfl) dX9_open_41 ⟨Nat.zero_le _, Nat.zero_le _⟩ (fun u H locs h hP hS => ?_)
      obtain ⟨I_1, L_1, A_1, Bu_2⟩ := u
      dsimp only at h hP
      obtain ⟨h, rfl⟩ := h
      try dsimp only at h
      refine lv_aload_n hx hb dX9_open_44 rfl (lv_at hl 0 rfl) ?_
      refine callCv (k := (9 + x1.toNatClampNeg + 5)) (As := []) (rest := []) (n := 0) (c_X5_clear hAd I_1 L_1 A_1 B (9 + x1.toNatClampNeg + 5)  (by omega) _ h) hx hb hT hown hK hP hS mw_3_23 wd_X5_clear (by decide +kernel) ⟨rfl, rfl⟩ (by decide) rfl rfl (he_X5 (by omega)) rfl hl.1 hml rfl (Nat.le_of_ble_eq_true rfl) dX9_open_45 ⟨Nat.zero_le _, Nat.zero_le _⟩ (fun u H locs h hP hS => ?_)
      obtain ⟨I_2, L_2, Au_2, Bu_3⟩ := u
      dsimp only at h hP
      obtain ⟨h, rfl, rfl⟩ := h
      try dsimp only at h
      refine lv_aload_n hx hb dX9_open_48 rfl (lv_at hl 1 rfl) ?_
      refine va_get (T := TX9) hx hb hT inlX9 hown hK.1 hP 0 he_X9 rfl 2 (by decide) (hT _ mw_2_9) (fun _ h9 => h9) rfl dX9_open_49 ?_
      refine callCv (k := 3) (As := []) (rest := []) (n := 0) (c_X7_renew hAd I_2 L_2 A_1 B  _ h) hx hb hT hown hK hP hS mw_2_148 wd_X7_renew (by decide +kernel) ⟨rfl, rfl⟩ (by decide) rfl rfl he_X7 rfl hl.1 hml rfl (Nat.le_of_ble_eq_true rfl) dX9_open_52 ⟨Nat.zero_le _, Nat.zero_le _⟩ (fun u H locs h hP hS => ?_)
      obtain ⟨Iu_2, Lu_2, Au_3, B_1⟩ := u
      dsimp only at h hP
      obtain ⟨h, rfl, rfl, rfl⟩ := h
      try dsimp only at h
      refine lv_iconst (v := 1) hx hb dX9_open_55 (by decide) ?_
      exact hret _ (I_2, L_2, A_1, B_1) zb_1 dX9_open_56 h hP hS
    · rw [if_neg hc_1] at h
      refine lv_iconst (v := 0) hx hb dX9_open_33 (by decide) ?_
      exact hret _ (I, L, A, B) zb_0 dX9_open_34 h hP hS
  · rw [if_pos hc] at h
    refine lv_iconst (v := 0) hx hb dX9_open_11 (by decide) ?_
    exact hret _ (I, L, A, B) zb_0 dX9_open_12 h hP hS
theorem dX9_back_0 : decode cX9_back 0 = .ok (.aload_n 0, 1) := by decide +kernel
theorem dX9_back_1 : decode cX9_back 1 = .ok (.getfield 35, 3) := by decide +kernel
theorem dX9_back_4 : decode cX9_back 4 = .ok (.getfield 190, 3) := by decide +kernel
theorem dX9_back_7 : decode cX9_back 7 = .ok (.ifCond .ne 5, 3) := by decide +kernel
theorem dX9_back_10 : decode cX9_back 10 = .ok (.iconst 0, 1) := by decide +kernel
theorem dX9_back_11 : decode cX9_back 11 = .ok (.ireturn, 1) := by decide +kernel
theorem dX9_back_12 : decode cX9_back 12 = .ok (.aload_n 0, 1) := by decide +kernel
theorem dX9_back_13 : decode cX9_back 13 = .ok (.getfield 35, 3) := by decide +kernel
theorem dX9_back_16 : decode cX9_back 16 = .ok (.aload_n 0, 1) := by decide +kernel
theorem dX9_back_17 : decode cX9_back 17 = .ok (.getfield 28, 3) := by decide +kernel
theorem dX9_back_20 : decode cX9_back 20 = .ok (.getfield 134, 3) := by decide +kernel
theorem dX9_back_23 : decode cX9_back 23 = .ok (.invokevirtual 191, 3) := by decide +kernel
theorem dX9_back_26 : decode cX9_back 26 = .ok (.aload_n 0, 1) := by decide +kernel
theorem dX9_back_27 : decode cX9_back 27 = .ok (.getfield 28, 3) := by decide +kernel
theorem dX9_back_30 : decode cX9_back 30 = .ok (.invokevirtual 115, 3) := by decide +kernel
theorem dX9_back_33 : decode cX9_back 33 = .ok (.iconst 1, 1) := by decide +kernel
theorem dX9_back_34 : decode cX9_back 34 = .ok (.ireturn, 1) := by decide +kernel
def wX9_back (I : Nat → Int32) (L : Nat → Int64) (A : Nat → Nat → Int32) (B : Nat → Nat → Int64)  (post : Int32 → (Nat → Int32) → (Nat → Int64) → (Nat → Nat → Int32) → (Nat → Nat → Int64) → Prop) : Prop := if (I 4) = 0 then (post 0 I L A B) else (wX8_takeBack I L A B  (fun I_1 L_1 A_1 => wX7_renew I_1 L_1 A_1 B  (fun B_1 => post 1 I_1 L_1 A_1 B_1)))
abbrev rmX9_back : Room := { frames := 4, cells := 0, slots := 0, locals := 94 }
theorem wd_X9_back : Cond.instanceMethod yX9_back ∈ BW ∧ Cond.selects yX9_back.cls yX9_back yX9_back ∈ BW ∧ Cond.initialized yX9_back.cls ∈ BW ∧ Cond.code yX9_back cX9_back 1 (some .boolean) ∈ BW := ⟨mw_3_28, mw_3_29, mw_1_1, mw_3_30⟩
set_option maxHeartbeats 4000000 in
set_option maxRecDepth 100000 in
theorem c_X9_back {l : Launch} {D : va_G} {cy : Nat → ClassId} {ad : Nat → Nat} {Ad : Nat → Prop} (hAd : adok 103 Ad ad) (I : Nat → Int32) (L : Nat → Int64) (A : Nat → Nat → Int32) (B : Nat → Nat → Int64)   (post : Int32 → (Nat → Int32) → (Nat → Int64) → (Nat → Nat → Int32) → (Nat → Nat → Int64) → Prop) (h : wX9_back I L A B  post) : Met l yX9_back (.code yX9_back cX9_back 1 (some .boolean) :: BW) rmX9_back (va_Pc [.ref (ad 0)] (fun U => kC D cy U ∧ va_P D vwCl (wC cy ad I L A B) U.heap)) (qCi D cy ad Ad (fun r u => post r u.1 u.2.1 u.2.2.1 u.2.2.2)) 0 0 Ad := by
  refine startCz (by decide) (Nat.le_of_ble_eq_true rfl) (lv := [(0, .ref (ad 0))]) rfl (fun p e s m args below meth c Q ls hx hb hml hT hown hK hret hl hP hS => ?_)
  unfold wX9_back at h
  refine lv_aload_n hx hb dX9_back_0 rfl (lv_at hl 0 rfl) ?_
  refine va_get (T := TX9) hx hb hT inlX9 hown hK.1 hP 0 he_X9 rfl 3 (by decide) (hT _ mw_2_10) (fun _ h9 => h9) rfl dX9_back_1 ?_
  refine va_get (T := TX8) hx hb hT inlX8 hown hK.1 hP 4 he_X8 rfl 3 (by decide) (hT _ mw_1_194) (fun _ h9 => h9) rfl dX9_back_4 ?_
  refine lv_if_ne (tgt := 12) hx hb dX9_back_7 (by decide) (fun hc => ?_) (fun hc => ?_)
  · rw [if_neg hc] at h
    refine lv_aload_n hx hb dX9_back_12 rfl (lv_at hl 0 rfl) ?_
    refine va_get (T := TX9) hx hb hT inlX9 hown hK.1 hP 0 he_X9 rfl 3 (by decide) (hT _ mw_2_10) (fun _ h9 => h9) rfl dX9_back_13 ?_
    refine lv_aload_n hx hb dX9_back_16 rfl (lv_at hl 0 rfl) ?_
    refine va_get (T := TX9) hx hb hT inlX9 hown hK.1 hP 0 he_X9 rfl 2 (by decide) (hT _ mw_2_9) (fun _ h9 => h9) rfl dX9_back_17 ?_
    refine va_get (T := TX7) hx hb hT inlX7 hown hK.1 hP 3 he_X7 rfl 2 (by decide) (hT _ mw_1_166) (fun _ h9 => h9) rfl dX9_back_20 ?_
    refine callCv (k := 4) (As := [.ref (ad 45)]) (rest := []) (n := 1) (c_X8_takeBack hAd I L A B  _ h) hx hb hT hown hK hP hS mw_3_31 wd_X8_takeBack (by decide +kernel) ⟨rfl, rfl⟩ (by decide) rfl rfl he_X8 rfl hl.1 hml rfl (Nat.le_of_ble_eq_true rfl) dX9_back_23 ⟨Nat.zero_le _, Nat.zero_le _⟩ (fun u H locs h hP hS => ?_)
    obtain ⟨I_1, L_1, A_1, Bu⟩ := u
    dsimp only at h hP
    obtain ⟨h, rfl⟩ := h
    try dsimp only at h
    refine lv_aload_n hx hb dX9_back_26 rfl (lv_at hl 0 rfl) ?_
    refine va_get (T := TX9) hx hb hT inlX9 hown hK.1 hP 0 he_X9 rfl 2 (by decide) (hT _ mw_2_9) (fun _ h9 => h9) rfl dX9_back_27 ?_
    refine callCv (k := 3) (As := []) (rest := []) (n := 0) (c_X7_renew hAd I_1 L_1 A_1 B  _ h) hx hb hT hown hK hP hS mw_2_148 wd_X7_renew (by decide +kernel) ⟨rfl, rfl⟩ (by decide) rfl rfl he_X7 rfl hl.1 hml rfl (Nat.le_of_ble_eq_true rfl) dX9_back_30 ⟨Nat.zero_le _, Nat.zero_le _⟩ (fun u H locs h hP hS => ?_)
    obtain ⟨Iu, Lu, Au, B_1⟩ := u
    dsimp only at h hP
    obtain ⟨h, rfl, rfl, rfl⟩ := h
    try dsimp only at h
    refine lv_iconst (v := 1) hx hb dX9_back_33 (by decide) ?_
    exact hret _ (I_1, L_1, A_1, B_1) zb_1 dX9_back_34 h hP hS
  · rw [if_pos hc] at h
    refine lv_iconst (v := 0) hx hb dX9_back_10 (by decide) ?_
    exact hret _ (I, L, A, B) zb_0 dX9_back_11 h hP hS
theorem dX9_of_0 : decode cX9_of 0 = .ok (.aload_n 0, 1) := by decide +kernel
theorem dX9_of_1 : decode cX9_of 1 = .ok (.getfield 10, 3) := by decide +kernel
theorem dX9_of_4 : decode cX9_of 4 = .ok (.iload_n 1, 1) := by decide +kernel
theorem dX9_of_5 : decode cX9_of 5 = .ok (.invokevirtual 93, 3) := by decide +kernel
theorem dX9_of_8 : decode cX9_of 8 = .ok (.ifCond .ne 5, 3) := by decide +kernel
theorem dX9_of_11 : decode cX9_of 11 = .ok (.iconst (-1), 1) := by decide +kernel
theorem dX9_of_12 : decode cX9_of 12 = .ok (.ireturn, 1) := by decide +kernel
theorem dX9_of_13 : decode cX9_of 13 = .ok (.aload_n 0, 1) := by decide +kernel
theorem dX9_of_14 : decode cX9_of 14 = .ok (.getfield 10, 3) := by decide +kernel
theorem dX9_of_17 : decode cX9_of 17 = .ok (.getfield 96, 3) := by decide +kernel
theorem dX9_of_20 : decode cX9_of 20 = .ok (.iload_n 1, 1) := by decide +kernel
theorem dX9_of_21 : decode cX9_of 21 = .ok (.iaload, 1) := by decide +kernel
theorem dX9_of_22 : decode cX9_of 22 = .ok (.istore_n 3, 1) := by decide +kernel
theorem dX9_of_23 : decode cX9_of 23 = .ok (.iload_n 2, 1) := by decide +kernel
theorem dX9_of_24 : decode cX9_of 24 = .ok (.tableswitch 98 0 4 #[36, 38, 48, 57, 85], 36) := by decide +kernel
theorem dX9_of_60 : decode cX9_of 60 = .ok (.iload_n 3, 1) := by decide +kernel
theorem dX9_of_61 : decode cX9_of 61 = .ok (.ireturn, 1) := by decide +kernel
theorem dX9_of_62 : decode cX9_of 62 = .ok (.aload_n 0, 1) := by decide +kernel
theorem dX9_of_63 : decode cX9_of 63 = .ok (.getfield 10, 3) := by decide +kernel
theorem dX9_of_66 : decode cX9_of 66 = .ok (.getfield 195, 3) := by decide +kernel
theorem dX9_of_69 : decode cX9_of 69 = .ok (.iload_n 1, 1) := by decide +kernel
theorem dX9_of_70 : decode cX9_of 70 = .ok (.iaload, 1) := by decide +kernel
theorem dX9_of_71 : decode cX9_of 71 = .ok (.ireturn, 1) := by decide +kernel
theorem dX9_of_72 : decode cX9_of 72 = .ok (.aload_n 0, 1) := by decide +kernel
theorem dX9_of_73 : decode cX9_of 73 = .ok (.getfield 10, 3) := by decide +kernel
theorem dX9_of_76 : decode cX9_of 76 = .ok (.iload_n 1, 1) := by decide +kernel
theorem dX9_of_77 : decode cX9_of 77 = .ok (.invokevirtual 198, 3) := by decide +kernel
theorem dX9_of_80 : decode cX9_of 80 = .ok (.ireturn, 1) := by decide +kernel
theorem dX9_of_81 : decode cX9_of 81 = .ok (.aload_n 0, 1) := by decide +kernel
theorem dX9_of_82 : decode cX9_of 82 = .ok (.getfield 28, 3) := by decide +kernel
theorem dX9_of_85 : decode cX9_of 85 = .ok (.getfield 134, 3) := by decide +kernel
theorem dX9_of_88 : decode cX9_of 88 = .ok (.iload_n 3, 1) := by decide +kernel
theorem dX9_of_89 : decode cX9_of 89 = .ok (.aaload, 1) := by decide +kernel
theorem dX9_of_90 : decode cX9_of 90 = .ok (.getfield 159, 3) := by decide +kernel
theorem dX9_of_93 : decode cX9_of 93 = .ok (.getfield 162, 3) := by decide +kernel
theorem dX9_of_96 : decode cX9_of 96 = .ok (.iload_n 1, 1) := by decide +kernel
theorem dX9_of_97 : decode cX9_of 97 = .ok (.invokestatic 104, 3) := by decide +kernel
theorem dX9_of_100 : decode cX9_of 100 = .ok (.ifCond .eq 7, 3) := by decide +kernel
theorem dX9_of_103 : decode cX9_of 103 = .ok (.iconst 1, 1) := by decide +kernel
theorem dX9_of_104 : decode cX9_of 104 = .ok (.goto 4, 3) := by decide +kernel
theorem dX9_of_107 : decode cX9_of 107 = .ok (.iconst 0, 1) := by decide +kernel
theorem dX9_of_108 : decode cX9_of 108 = .ok (.ireturn, 1) := by decide +kernel
theorem dX9_of_109 : decode cX9_of 109 = .ok (.aload_n 0, 1) := by decide +kernel
theorem dX9_of_110 : decode cX9_of 110 = .ok (.getfield 10, 3) := by decide +kernel
theorem dX9_of_113 : decode cX9_of 113 = .ok (.getfield 100, 3) := by decide +kernel
theorem dX9_of_116 : decode cX9_of 116 = .ok (.iload_n 1, 1) := by decide +kernel
theorem dX9_of_117 : decode cX9_of 117 = .ok (.laload, 1) := by decide +kernel
theorem dX9_of_118 : decode cX9_of 118 = .ok (.invokestatic 201, 3) := by decide +kernel
theorem dX9_of_121 : decode cX9_of 121 = .ok (.ireturn, 1) := by decide +kernel
theorem dX9_of_122 : decode cX9_of 122 = .ok (.iconst (-1), 1) := by decide +kernel
theorem dX9_of_123 : decode cX9_of 123 = .ok (.ireturn, 1) := by decide +kernel
def wX9_of (I : Nat → Int32) (L : Nat → Int64) (A : Nat → Nat → Int32) (B : Nat → Nat → Int64) (x1 : Int32) (x2 : Int32) (post : Int32 → Prop) : Prop := wX2_knows I L A B x1 (fun r5 => if r5 = 0 then (post (-1)) else (vp_in x1 40 ∧ (∀ v3 : Int32, v3 = A 36 x1.toNatClampNeg → if x2 = 0 then (post v3) else (if x2 = 1 then (vp_in x1 40 ∧ (post (A 37 x1.toNatClampNeg))) else (if x2 = 2 then (wX2_level I L A B x1 (fun r77 => post r77)) else (if x2 = 3 then (vp_in v3 5 ∧ (wX9_inSet (L (9 + v3.toNatClampNeg + 5)) x1 (fun r97 => if r97 = 0 then (post 0) else (post 1)))) else (if x2 = 4 then (vp_in x1 40 ∧ (wJ13_bitCount_95d88 (B 38 x1.toNatClampNeg) (fun r118 => post r118))) else (post (-1)))))))))
abbrev rmX9_of : Room := { frames := 3, cells := 0, slots := 0, locals := 66 }
theorem wd_X9_of : Cond.instanceMethod yX9_of ∈ BW ∧ Cond.selects yX9_of.cls yX9_of yX9_of ∈ BW ∧ Cond.initialized yX9_of.cls ∈ BW ∧ Cond.code yX9_of cX9_of 4 (some .int) ∈ BW := ⟨mw_3_36, mw_3_37, mw_1_1, mw_3_38⟩
set_option maxHeartbeats 4000000 in
set_option maxRecDepth 100000 in
theorem c_X9_of {l : Launch} {D : va_G} {cy : Nat → ClassId} {ad : Nat → Nat} {Ad : Nat → Prop} (hAd : adok 103 Ad ad) (I : Nat → Int32) (L : Nat → Int64) (A : Nat → Nat → Int32) (B : Nat → Nat → Int64) (x1 : Int32) (x2 : Int32)  (post : Int32 → Prop) (h : wX9_of I L A B x1 x2 post) : Met l yX9_of (.code yX9_of cX9_of 4 (some .int) :: BW) rmX9_of (va_Pc [.ref (ad 0), .int x1, .int x2] (fun U => kC D cy U ∧ va_P D vwCl (wC cy ad I L A B) U.heap)) (qCi D cy ad Ad (fun r u => post r  ∧ I = u.1 ∧ L = u.2.1 ∧ A = u.2.2.1 ∧ B = u.2.2.2)) 0 0 Ad := by
  refine startCi (by decide) (Nat.le_of_ble_eq_true rfl) (lv := [(0, .ref (ad 0)), (1, .int x1), (2, .int x2)]) rfl (fun p e s m args below meth c Q ls hx hb hml hT hown hK hret hl hP hS => ?_)
  unfold wX9_of at h
  refine lv_aload_n hx hb dX9_of_0 rfl (lv_at hl 0 rfl) ?_
  refine va_get (T := TX9) hx hb hT inlX9 hown hK.1 hP 0 he_X9 rfl 0 (by decide) (hT _ mw_2_7) (fun _ h9 => h9) rfl dX9_of_1 ?_
  refine lv_iload_n hx hb dX9_of_4 rfl (lv_at hl 1 rfl) ?_
  refine callCi (k := 1) (As := [.int x1]) (rest := []) (n := 1) (c_X2_knows hAd I L A B x1 _ h) hx hb hT hown hK hP hS mw_2_101 wd_X2_knows (by decide +kernel) ⟨rfl, rfl⟩ (by decide) rfl rfl he_X2 rfl hl.1 hml rfl (Nat.le_of_ble_eq_true rfl) dX9_of_5 ⟨Nat.zero_le _, Nat.zero_le _⟩ (fun r5 u H locs h hP hS => ?_)
  obtain ⟨Iu, Lu, Au, Bu⟩ := u
  dsimp only at h hP
  obtain ⟨h, rfl, rfl, rfl, rfl⟩ := h
  try dsimp only at h
  refine lv_if_ne (tgt := 13) hx hb dX9_of_8 (by decide) (fun hc => ?_) (fun hc => ?_)
  · rw [if_neg hc] at h
    refine lv_aload_n hx hb dX9_of_13 rfl (lv_at hl 0 rfl) ?_
    refine va_get (T := TX9) hx hb hT inlX9 hown hK.1 hP 0 he_X9 rfl 0 (by decide) (hT _ mw_2_7) (fun _ h9 => h9) rfl dX9_of_14 ?_
    refine va_get (T := TX2) hx hb hT inlX2 hown hK.1 hP 1 he_X2 rfl 0 (by decide) (hT _ mw_1_34) (fun _ h9 => h9) rfl dX9_of_17 ?_
    refine lv_iload_n hx hb dX9_of_20 rfl (lv_at hl 1 rfl) ?_
    obtain ⟨hi, h⟩ := h
    refine lC_I hx hb hK.1 hP (by decide) rfl hi dX9_of_21 ?_
    refine lv_topi (fun v3 ev3 => ?_)
    replace h := h v3 ev3
    refine lv_istore_n (lv' := [(3, .int v3), (0, .ref (ad 0)), (1, .int x1), (2, .int x2)]) hx hb dX9_of_22 rfl hl (by decide) rfl (fun ls hl => ?_)
    refine lv_iload_n hx hb dX9_of_23 rfl (lv_at hl 3 rfl) ?_
    by_cases hc_2 : x2 = 0
    · rw [if_pos hc_2] at h
      refine lv_tableIn (tgt := 60) hx hb dX9_of_24 (by rw [hc_2]; decide) (by rw [hc_2]; decide) (by rw [hc_2]; rfl) (by decide) ?_
      refine lv_iload_n hx hb dX9_of_60 rfl (lv_at hl 0 rfl) ?_
      exact hret _ (I, L, A, B) dX9_of_61 ⟨h, rfl, rfl, rfl, rfl⟩ hP hS
    rw [if_neg hc_2] at h
    by_cases hc_3 : x2 = 1
    · rw [if_pos hc_3] at h
      refine lv_tableIn (tgt := 62) hx hb dX9_of_24 (by rw [hc_3]; decide) (by rw [hc_3]; decide) (by rw [hc_3]; rfl) (by decide) ?_
      refine lv_aload_n hx hb dX9_of_62 rfl (lv_at hl 1 rfl) ?_
      refine va_get (T := TX9) hx hb hT inlX9 hown hK.1 hP 0 he_X9 rfl 0 (by decide) (hT _ mw_2_7) (fun _ h9 => h9) rfl dX9_of_63 ?_
      refine va_get (T := TX2) hx hb hT inlX2 hown hK.1 hP 1 he_X2 rfl 1 (by decide) (hT _ mw_1_37) (fun _ h9 => h9) rfl dX9_of_66 ?_
      refine lv_iload_n hx hb dX9_of_69 rfl (lv_at hl 2 rfl) ?_
      obtain ⟨hi_1, h⟩ := h
      refine lC_I hx hb hK.1 hP (by decide) rfl hi_1 dX9_of_70 ?_
      exact hret _ (I, L, A, B) dX9_of_71 ⟨h, rfl, rfl, rfl, rfl⟩ hP hS
    rw [if_neg hc_3] at h
    by_cases hc_4 : x2 = 2
    · rw [if_pos hc_4] at h
      refine lv_tableIn (tgt := 72) hx hb dX9_of_24 (by rw [hc_4]; decide) (by rw [hc_4]; decide) (by rw [hc_4]; rfl) (by decide) ?_
      refine lv_aload_n hx hb dX9_of_72 rfl (lv_at hl 1 rfl) ?_
      refine va_get (T := TX9) hx hb hT inlX9 hown hK.1 hP 0 he_X9 rfl 0 (by decide) (hT _ mw_2_7) (fun _ h9 => h9) rfl dX9_of_73 ?_
      refine lv_iload_n hx hb dX9_of_76 rfl (lv_at hl 2 rfl) ?_
      refine callCi (k := 1) (As := [.int x1]) (rest := []) (n := 1) (c_X2_level hAd I L A B x1 _ h) hx hb hT hown hK hP hS mw_3_39 wd_X2_level (by decide +kernel) ⟨rfl, rfl⟩ (by decide) rfl rfl he_X2 rfl hl.1 hml rfl (Nat.le_of_ble_eq_true rfl) dX9_of_77 ⟨Nat.zero_le _, Nat.zero_le _⟩ (fun r77 u H locs h hP hS => ?_)
      obtain ⟨Iu_1, Lu_1, Au_1, Bu_1⟩ := u
      dsimp only at h hP
      obtain ⟨h, rfl, rfl, rfl, rfl⟩ := h
      try dsimp only at h
      exact hret _ (I, L, A, B) dX9_of_80 ⟨h, rfl, rfl, rfl, rfl⟩ hP hS
    rw [if_neg hc_4] at h
    by_cases hc_5 : x2 = 3
    · rw [if_pos hc_5] at h
      refine lv_tableIn (tgt := 81) hx hb dX9_of_24 (by rw [hc_5]; decide) (by rw [hc_5]; decide) (by rw [hc_5]; rfl) (by decide) ?_
      refine lv_aload_n hx hb dX9_of_81 rfl (lv_at hl 1 rfl) ?_
      refine va_get (T := TX9) hx hb hT inlX9 hown hK.1 hP 0 he_X9 rfl 2 (by decide) (hT _ mw_2_9) (fun _ h9 => h9) rfl dX9_of_82 ?_
      refine va_get (T := TX7) hx hb hT inlX7 hown hK.1 hP 3 he_X7 rfl 2 (by decide) (hT _ mw_1_166) (fun _ h9 => h9) rfl dX9_of_85 ?_
      refine lv_iload_n hx hb dX9_of_88 rfl (lv_at hl 0 rfl) ?_
      obtain ⟨hi_2, h⟩ := h
      have hj := vp_lt hi_2
      refine lC_X hx hb hK.1 hP hi_2 dX9_of_89 ?_
      refine va_get (T := TX0) hx hb hT inlX0 hown hK.1 hP (9 + v3.toNatClampNeg) (he_X0 (by omega)) rfl 1 (by decide) (hT _ mw_1_148) (fun _ h9 => h9) rfl dX9_of_90 ?_
      refine va_get (T := TX5) hx hb hT inlX5 hown hK.1 hP (9 + v3.toNatClampNeg + 5) (he_X5 (by omega)) rfl 0 (by decide) (hT _ mw_1_122) (fun _ h9 => h9) rfl dX9_of_93 ?_
      refine lv_iload_n hx hb dX9_of_96 rfl (lv_at hl 2 rfl) ?_
      refine callSCi (As := [.long (L (9 + v3.toNatClampNeg + 5)), .int x1]) (rest := []) (n := 2) (c_X9_inSet (L (9 + v3.toNatClampNeg + 5)) x1 _ h) hx hb hT hown hP hS mw_2_123 wd_X9_inSet (by decide +kernel) ⟨rfl, rfl⟩ (by decide) rfl hl.1 hml rfl (Nat.le_of_ble_eq_true rfl) dX9_of_97 ⟨Nat.zero_le _, Nat.zero_le _⟩ (fun r97 H locs h hP hS => ?_)
      try dsimp only at h
      refine lv_if_eq (tgt := 107) hx hb dX9_of_100 (by decide) (fun hc_1 => ?_) (fun hc_1 => ?_)
      · rw [if_pos hc_1] at h
        refine lv_iconst (v := 0) hx hb dX9_of_107 (by decide) ?_
        exact hret _ (I, L, A, B) dX9_of_108 ⟨h, rfl, rfl, rfl, rfl⟩ hP hS
      · rw [if_neg hc_1] at h
        refine lv_iconst (v := 1) hx hb dX9_of_103 (by decide) ?_
        refine lv_goto (tgt := 108) hx hb dX9_of_104 (by decide) ?_
        exact hret _ (I, L, A, B) dX9_of_108 ⟨h, rfl, rfl, rfl, rfl⟩ hP hS
    rw [if_neg hc_5] at h
    by_cases hc_6 : x2 = 4
    · rw [if_pos hc_6] at h
      refine lv_tableIn (tgt := 109) hx hb dX9_of_24 (by rw [hc_6]; decide) (by rw [hc_6]; decide) (by rw [hc_6]; rfl) (by decide) ?_
      refine lv_aload_n hx hb dX9_of_109 rfl (lv_at hl 1 rfl) ?_
      refine va_get (T := TX9) hx hb hT inlX9 hown hK.1 hP 0 he_X9 rfl 0 (by decide) (hT _ mw_2_7) (fun _ h9 => h9) rfl dX9_of_110 ?_
      refine va_get (T := TX2) hx hb hT inlX2 hown hK.1 hP 1 he_X2 rfl 2 (by decide) (hT _ mw_1_39) (fun _ h9 => h9) rfl dX9_of_113 ?_
      refine lv_iload_n hx hb dX9_of_116 rfl (lv_at hl 2 rfl) ?_
      obtain ⟨hi_3, h⟩ := h
      refine lC_J hx hb hK.1 hP (by decide) rfl hi_3 dX9_of_117 ?_
      refine callSCi (As := [.long (B 38 x1.toNatClampNeg)]) (rest := []) (n := 1) (c_J13_bitCount_95d88 (B 38 x1.toNatClampNeg) _ h) hx hb hT hown hP hS mw_3_40 wd_J13_bitCount_95d88 (by decide +kernel) ⟨rfl, rfl⟩ (by decide) rfl hl.1 hml rfl (Nat.le_of_ble_eq_true rfl) dX9_of_118 ⟨Nat.zero_le _, Nat.zero_le _⟩ (fun r118 H locs h hP hS => ?_)
      try dsimp only at h
      exact hret _ (I, L, A, B) dX9_of_121 ⟨h, rfl, rfl, rfl, rfl⟩ hP hS
    rw [if_neg hc_6] at h
    refine lv_tableOut (tgt := 122) hx hb dX9_of_24 (sw_out_4 hc_2 hc_3 hc_4 hc_5 hc_6) (by decide) ?_
    refine lv_iconst (v := (-1)) hx hb dX9_of_122 (by decide) ?_
    exact hret _ (I, L, A, B) dX9_of_123 ⟨h, rfl, rfl, rfl, rfl⟩ hP hS
  · rw [if_pos hc] at h
    refine lv_iconst (v := (-1)) hx hb dX9_of_11 (by decide) ?_
    exact hret _ (I, L, A, B) dX9_of_12 ⟨h, rfl, rfl, rfl, rfl⟩ hP hS
theorem dX9_doc_0 : decode cX9_doc 0 = .ok (.aload_n 0, 1) := by decide +kernel
theorem dX9_doc_1 : decode cX9_doc 1 = .ok (.getfield 19, 3) := by decide +kernel
theorem dX9_doc_4 : decode cX9_doc 4 = .ok (.iload_n 1, 1) := by decide +kernel
theorem dX9_doc_5 : decode cX9_doc 5 = .ok (.invokevirtual 207, 3) := by decide +kernel
theorem dX9_doc_8 : decode cX9_doc 8 = .ok (.ifCond .ne 5, 3) := by decide +kernel
theorem dX9_doc_11 : decode cX9_doc 11 = .ok (.iconst (-1), 1) := by decide +kernel
theorem dX9_doc_12 : decode cX9_doc 12 = .ok (.ireturn, 1) := by decide +kernel
theorem dX9_doc_13 : decode cX9_doc 13 = .ok (.aload_n 0, 1) := by decide +kernel
theorem dX9_doc_14 : decode cX9_doc 14 = .ok (.getfield 19, 3) := by decide +kernel
theorem dX9_doc_17 : decode cX9_doc 17 = .ok (.iload_n 1, 1) := by decide +kernel
theorem dX9_doc_18 : decode cX9_doc 18 = .ok (.invokevirtual 122, 3) := by decide +kernel
theorem dX9_doc_21 : decode cX9_doc 21 = .ok (.istore_n 3, 1) := by decide +kernel
theorem dX9_doc_22 : decode cX9_doc 22 = .ok (.iload_n 2, 1) := by decide +kernel
theorem dX9_doc_23 : decode cX9_doc 23 = .ok (.tableswitch 105 0 4 #[33, 46, 56, 76, 93], 33) := by decide +kernel
theorem dX9_doc_56 : decode cX9_doc 56 = .ok (.aload_n 0, 1) := by decide +kernel
theorem dX9_doc_57 : decode cX9_doc 57 = .ok (.getfield 19, 3) := by decide +kernel
theorem dX9_doc_60 : decode cX9_doc 60 = .ok (.getfield 208, 3) := by decide +kernel
theorem dX9_doc_63 : decode cX9_doc 63 = .ok (.getfield 211, 3) := by decide +kernel
theorem dX9_doc_66 : decode cX9_doc 66 = .ok (.iload_n 1, 1) := by decide +kernel
theorem dX9_doc_67 : decode cX9_doc 67 = .ok (.iaload, 1) := by decide +kernel
theorem dX9_doc_68 : decode cX9_doc 68 = .ok (.ireturn, 1) := by decide +kernel
theorem dX9_doc_69 : decode cX9_doc 69 = .ok (.iload_n 3, 1) := by decide +kernel
theorem dX9_doc_70 : decode cX9_doc 70 = .ok (.ifCond .eq 7, 3) := by decide +kernel
theorem dX9_doc_73 : decode cX9_doc 73 = .ok (.iconst 1, 1) := by decide +kernel
theorem dX9_doc_74 : decode cX9_doc 74 = .ok (.goto 4, 3) := by decide +kernel
theorem dX9_doc_77 : decode cX9_doc 77 = .ok (.iconst 0, 1) := by decide +kernel
theorem dX9_doc_78 : decode cX9_doc 78 = .ok (.ireturn, 1) := by decide +kernel
theorem dX9_doc_79 : decode cX9_doc 79 = .ok (.aload_n 0, 1) := by decide +kernel
theorem dX9_doc_80 : decode cX9_doc 80 = .ok (.getfield 28, 3) := by decide +kernel
theorem dX9_doc_83 : decode cX9_doc 83 = .ok (.invokevirtual 214, 3) := by decide +kernel
theorem dX9_doc_86 : decode cX9_doc 86 = .ok (.iload_n 1, 1) := by decide +kernel
theorem dX9_doc_87 : decode cX9_doc 87 = .ok (.invokestatic 104, 3) := by decide +kernel
theorem dX9_doc_90 : decode cX9_doc 90 = .ok (.ifCond .eq 7, 3) := by decide +kernel
theorem dX9_doc_93 : decode cX9_doc 93 = .ok (.iconst 1, 1) := by decide +kernel
theorem dX9_doc_94 : decode cX9_doc 94 = .ok (.goto 4, 3) := by decide +kernel
theorem dX9_doc_97 : decode cX9_doc 97 = .ok (.iconst 0, 1) := by decide +kernel
theorem dX9_doc_98 : decode cX9_doc 98 = .ok (.ireturn, 1) := by decide +kernel
theorem dX9_doc_99 : decode cX9_doc 99 = .ok (.iload_n 3, 1) := by decide +kernel
theorem dX9_doc_100 : decode cX9_doc 100 = .ok (.ifCond .eq 14, 3) := by decide +kernel
theorem dX9_doc_103 : decode cX9_doc 103 = .ok (.aload_n 0, 1) := by decide +kernel
theorem dX9_doc_104 : decode cX9_doc 104 = .ok (.getfield 28, 3) := by decide +kernel
theorem dX9_doc_107 : decode cX9_doc 107 = .ok (.iload_n 1, 1) := by decide +kernel
theorem dX9_doc_108 : decode cX9_doc 108 = .ok (.invokevirtual 218, 3) := by decide +kernel
theorem dX9_doc_111 : decode cX9_doc 111 = .ok (.goto 4, 3) := by decide +kernel
theorem dX9_doc_114 : decode cX9_doc 114 = .ok (.iconst (-1), 1) := by decide +kernel
theorem dX9_doc_115 : decode cX9_doc 115 = .ok (.ireturn, 1) := by decide +kernel
theorem dX9_doc_116 : decode cX9_doc 116 = .ok (.aload_n 0, 1) := by decide +kernel
theorem dX9_doc_117 : decode cX9_doc 117 = .ok (.getfield 19, 3) := by decide +kernel
theorem dX9_doc_120 : decode cX9_doc 120 = .ok (.getfield 208, 3) := by decide +kernel
theorem dX9_doc_123 : decode cX9_doc 123 = .ok (.iload_n 1, 1) := by decide +kernel
theorem dX9_doc_124 : decode cX9_doc 124 = .ok (.invokevirtual 221, 3) := by decide +kernel
theorem dX9_doc_127 : decode cX9_doc 127 = .ok (.ireturn, 1) := by decide +kernel
theorem dX9_doc_128 : decode cX9_doc 128 = .ok (.iconst (-1), 1) := by decide +kernel
theorem dX9_doc_129 : decode cX9_doc 129 = .ok (.ireturn, 1) := by decide +kernel
def wX9_doc (I : Nat → Int32) (L : Nat → Int64) (A : Nat → Nat → Int32) (B : Nat → Nat → Int64) (x1 : Int32) (x2 : Int32) (post : Int32 → Prop) : Prop := wX6_knows I L A B x1 (fun r5 => if r5 = 0 then (post (-1)) else (wX6_isThere I L A B x1 (fun r18 => if x2 = 0 then (vp_in x1 40 ∧ (post (A 43 x1.toNatClampNeg))) else (if x2 = 1 then (if r18 = 0 then (post 0) else (post 1)) else (if x2 = 2 then (wX7_hits I L A B  (fun r83 => wX9_inSet r83 x1 (fun r87 => if r87 = 0 then (post 0) else (post 1)))) else (if x2 = 3 then (if r18 = 0 then (post (-1)) else (wX7_passedBy I L A B x1 (fun r108 => post r108))) else (if x2 = 4 then (wX3_placeOf I L A B 7 x1 (fun r124 => post r124)) else (post (-1)))))))))
abbrev rmX9_doc : Room := { frames := 2, cells := 0, slots := 0, locals := 45 }
theorem wd_X9_doc : Cond.instanceMethod yX9_doc ∈ BW ∧ Cond.selects yX9_doc.cls yX9_doc yX9_doc ∈ BW ∧ Cond.initialized yX9_doc.cls ∈ BW ∧ Cond.code yX9_doc cX9_doc 4 (some .int) ∈ BW := ⟨mw_3_47, mw_3_48, mw_1_1, mw_3_49⟩
set_option maxHeartbeats 4000000 in
set_option maxRecDepth 100000 in
theorem c_X9_doc {l : Launch} {D : va_G} {cy : Nat → ClassId} {ad : Nat → Nat} {Ad : Nat → Prop} (hAd : adok 103 Ad ad) (I : Nat → Int32) (L : Nat → Int64) (A : Nat → Nat → Int32) (B : Nat → Nat → Int64) (x1 : Int32) (x2 : Int32)  (post : Int32 → Prop) (h : wX9_doc I L A B x1 x2 post) : Met l yX9_doc (.code yX9_doc cX9_doc 4 (some .int) :: BW) rmX9_doc (va_Pc [.ref (ad 0), .int x1, .int x2] (fun U => kC D cy U ∧ va_P D vwCl (wC cy ad I L A B) U.heap)) (qCi D cy ad Ad (fun r u => post r  ∧ I = u.1 ∧ L = u.2.1 ∧ A = u.2.2.1 ∧ B = u.2.2.2)) 0 0 Ad := by
  refine startCi (by decide) (Nat.le_of_ble_eq_true rfl) (lv := [(0, .ref (ad 0)), (1, .int x1), (2, .int x2)]) rfl (fun p e s m args below meth c Q ls hx hb hml hT hown hK hret hl hP hS => ?_)
  unfold wX9_doc at h
  refine lv_aload_n hx hb dX9_doc_0 rfl (lv_at hl 0 rfl) ?_
  refine va_get (T := TX9) hx hb hT inlX9 hown hK.1 hP 0 he_X9 rfl 1 (by decide) (hT _ mw_2_8) (fun _ h9 => h9) rfl dX9_doc_1 ?_
  refine lv_iload_n hx hb dX9_doc_4 rfl (lv_at hl 1 rfl) ?_
  refine callCi (k := 2) (As := [.int x1]) (rest := []) (n := 1) (c_X6_knows hAd I L A B x1 _ h) hx hb hT hown hK hP hS mw_3_50 wd_X6_knows (by decide +kernel) ⟨rfl, rfl⟩ (by decide) rfl rfl he_X6 rfl hl.1 hml rfl (Nat.le_of_ble_eq_true rfl) dX9_doc_5 ⟨Nat.zero_le _, Nat.zero_le _⟩ (fun r5 u H locs h hP hS => ?_)
  obtain ⟨Iu, Lu, Au, Bu⟩ := u
  dsimp only at h hP
  obtain ⟨h, rfl, rfl, rfl, rfl⟩ := h
  try dsimp only at h
  refine lv_if_ne (tgt := 13) hx hb dX9_doc_8 (by decide) (fun hc => ?_) (fun hc => ?_)
  · rw [if_neg hc] at h
    refine lv_aload_n hx hb dX9_doc_13 rfl (lv_at hl 0 rfl) ?_
    refine va_get (T := TX9) hx hb hT inlX9 hown hK.1 hP 0 he_X9 rfl 1 (by decide) (hT _ mw_2_8) (fun _ h9 => h9) rfl dX9_doc_14 ?_
    refine lv_iload_n hx hb dX9_doc_17 rfl (lv_at hl 1 rfl) ?_
    refine callCi (k := 2) (As := [.int x1]) (rest := []) (n := 1) (c_X6_isThere hAd I L A B x1 _ h) hx hb hT hown hK hP hS mw_2_174 wd_X6_isThere (by decide +kernel) ⟨rfl, rfl⟩ (by decide) rfl rfl he_X6 rfl hl.1 hml rfl (Nat.le_of_ble_eq_true rfl) dX9_doc_18 ⟨Nat.zero_le _, Nat.zero_le _⟩ (fun r18 u H locs h hP hS => ?_)
    obtain ⟨Iu_1, Lu_1, Au_1, Bu_1⟩ := u
    dsimp only at h hP
    obtain ⟨h, rfl, rfl, rfl, rfl⟩ := h
    try dsimp only at h
    refine lv_istore_n (lv' := [(3, .int r18), (0, .ref (ad 0)), (1, .int x1), (2, .int x2)]) hx hb dX9_doc_21 rfl hl (by decide) rfl (fun ls hl => ?_)
    refine lv_iload_n hx hb dX9_doc_22 rfl (lv_at hl 3 rfl) ?_
    by_cases hc_4 : x2 = 0
    · rw [if_pos hc_4] at h
      refine lv_tableIn (tgt := 56) hx hb dX9_doc_23 (by rw [hc_4]; decide) (by rw [hc_4]; decide) (by rw [hc_4]; rfl) (by decide) ?_
      refine lv_aload_n hx hb dX9_doc_56 rfl (lv_at hl 1 rfl) ?_
      refine va_get (T := TX9) hx hb hT inlX9 hown hK.1 hP 0 he_X9 rfl 1 (by decide) (hT _ mw_2_8) (fun _ h9 => h9) rfl dX9_doc_57 ?_
      refine va_get (T := TX6) hx hb hT inlX6 hown hK.1 hP 2 he_X6 rfl 0 (by decide) (hT _ mw_1_88) (fun _ h9 => h9) rfl dX9_doc_60 ?_
      refine va_get (T := TX3) hx hb hT inlX3 hown hK.1 hP 7 (he_X3 (by decide)) rfl 1 (by decide) (hT _ mw_1_77) (fun _ h9 => h9) rfl dX9_doc_63 ?_
      refine lv_iload_n hx hb dX9_doc_66 rfl (lv_at hl 2 rfl) ?_
      obtain ⟨hi, h⟩ := h
      refine lC_I hx hb hK.1 hP (by decide) rfl hi dX9_doc_67 ?_
      exact hret _ (I, L, A, B) dX9_doc_68 ⟨h, rfl, rfl, rfl, rfl⟩ hP hS
    rw [if_neg hc_4] at h
    by_cases hc_5 : x2 = 1
    · rw [if_pos hc_5] at h
      refine lv_tableIn (tgt := 69) hx hb dX9_doc_23 (by rw [hc_5]; decide) (by rw [hc_5]; decide) (by rw [hc_5]; rfl) (by decide) ?_
      refine lv_iload_n hx hb dX9_doc_69 rfl (lv_at hl 0 rfl) ?_
      refine lv_if_eq (tgt := 77) hx hb dX9_doc_70 (by decide) (fun hc_1 => ?_) (fun hc_1 => ?_)
      · rw [if_pos hc_1] at h
        refine lv_iconst (v := 0) hx hb dX9_doc_77 (by decide) ?_
        exact hret _ (I, L, A, B) dX9_doc_78 ⟨h, rfl, rfl, rfl, rfl⟩ hP hS
      · rw [if_neg hc_1] at h
        refine lv_iconst (v := 1) hx hb dX9_doc_73 (by decide) ?_
        refine lv_goto (tgt := 78) hx hb dX9_doc_74 (by decide) ?_
        exact hret _ (I, L, A, B) dX9_doc_78 ⟨h, rfl, rfl, rfl, rfl⟩ hP hS
    rw [if_neg hc_5] at h
    by_cases hc_6 : x2 = 2
    · rw [if_pos hc_6] at h
      refine lv_tableIn (tgt := 79) hx hb dX9_doc_23 (by rw [hc_6]; decide) (by rw [hc_6]; decide) (by rw [hc_6]; rfl) (by decide) ?_
      refine lv_aload_n hx hb dX9_doc_79 rfl (lv_at hl 1 rfl) ?_
      refine va_get (T := TX9) hx hb hT inlX9 hown hK.1 hP 0 he_X9 rfl 2 (by decide) (hT _ mw_2_9) (fun _ h9 => h9) rfl dX9_doc_80 ?_
      refine callCl (k := 3) (As := []) (rest := []) (n := 0) (c_X7_hits hAd I L A B  _ h) hx hb hT hown hK hP hS mw_3_51 wd_X7_hits (by decide +kernel) ⟨rfl, rfl⟩ (by decide) rfl rfl he_X7 rfl hl.1 hml rfl (Nat.le_of_ble_eq_true rfl) dX9_doc_83 ⟨Nat.zero_le _, Nat.zero_le _⟩ (fun r83 u H locs h hP hS => ?_)
      obtain ⟨Iu_2, Lu_2, Au_2, Bu_2⟩ := u
      dsimp only at h hP
      obtain ⟨h, rfl, rfl, rfl, rfl⟩ := h
      try dsimp only at h
      refine lv_iload_n hx hb dX9_doc_86 rfl (lv_at hl 2 rfl) ?_
      refine callSCi (As := [.long r83, .int x1]) (rest := []) (n := 2) (c_X9_inSet r83 x1 _ h) hx hb hT hown hP hS mw_2_123 wd_X9_inSet (by decide +kernel) ⟨rfl, rfl⟩ (by decide) rfl hl.1 hml rfl (Nat.le_of_ble_eq_true rfl) dX9_doc_87 ⟨Nat.zero_le _, Nat.zero_le _⟩ (fun r87 H locs h hP hS => ?_)
      try dsimp only at h
      refine lv_if_eq (tgt := 97) hx hb dX9_doc_90 (by decide) (fun hc_2 => ?_) (fun hc_2 => ?_)
      · rw [if_pos hc_2] at h
        refine lv_iconst (v := 0) hx hb dX9_doc_97 (by decide) ?_
        exact hret _ (I, L, A, B) dX9_doc_98 ⟨h, rfl, rfl, rfl, rfl⟩ hP hS
      · rw [if_neg hc_2] at h
        refine lv_iconst (v := 1) hx hb dX9_doc_93 (by decide) ?_
        refine lv_goto (tgt := 98) hx hb dX9_doc_94 (by decide) ?_
        exact hret _ (I, L, A, B) dX9_doc_98 ⟨h, rfl, rfl, rfl, rfl⟩ hP hS
    rw [if_neg hc_6] at h
    by_cases hc_7 : x2 = 3
    · rw [if_pos hc_7] at h
      refine lv_tableIn (tgt := 99) hx hb dX9_doc_23 (by rw [hc_7]; decide) (by rw [hc_7]; decide) (by rw [hc_7]; rfl) (by decide) ?_
      refine lv_iload_n hx hb dX9_doc_99 rfl (lv_at hl 0 rfl) ?_
      refine lv_if_eq (tgt := 114) hx hb dX9_doc_100 (by decide) (fun hc_3 => ?_) (fun hc_3 => ?_)
      · rw [if_pos hc_3] at h
        refine lv_iconst (v := (-1)) hx hb dX9_doc_114 (by decide) ?_
        exact hret _ (I, L, A, B) dX9_doc_115 ⟨h, rfl, rfl, rfl, rfl⟩ hP hS
      · rw [if_neg hc_3] at h
        refine lv_aload_n hx hb dX9_doc_103 rfl (lv_at hl 1 rfl) ?_
        refine va_get (T := TX9) hx hb hT inlX9 hown hK.1 hP 0 he_X9 rfl 2 (by decide) (hT _ mw_2_9) (fun _ h9 => h9) rfl dX9_doc_104 ?_
        refine lv_iload_n hx hb dX9_doc_107 rfl (lv_at hl 2 rfl) ?_
        refine callCi (k := 3) (As := [.int x1]) (rest := []) (n := 1) (c_X7_passedBy hAd I L A B x1 _ h) hx hb hT hown hK hP hS mw_3_59 wd_X7_passedBy (by decide +kernel) ⟨rfl, rfl⟩ (by decide) rfl rfl he_X7 rfl hl.1 hml rfl (Nat.le_of_ble_eq_true rfl) dX9_doc_108 ⟨Nat.zero_le _, Nat.zero_le _⟩ (fun r108 u H locs h hP hS => ?_)
        obtain ⟨Iu_3, Lu_3, Au_3, Bu_3⟩ := u
        dsimp only at h hP
        obtain ⟨h, rfl, rfl, rfl, rfl⟩ := h
        try dsimp only at h
        refine lv_goto (tgt := 115) hx hb dX9_doc_111 (by decide) ?_
        exact hret _ (I, L, A, B) dX9_doc_115 ⟨h, rfl, rfl, rfl, rfl⟩ hP hS
    rw [if_neg hc_7] at h
    by_cases hc_8 : x2 = 4
    · rw [if_pos hc_8] at h
      refine lv_tableIn (tgt := 116) hx hb dX9_doc_23 (by rw [hc_8]; decide) (by rw [hc_8]; decide) (by rw [hc_8]; rfl) (by decide) ?_
      refine lv_aload_n hx hb dX9_doc_116 rfl (lv_at hl 1 rfl) ?_
      refine va_get (T := TX9) hx hb hT inlX9 hown hK.1 hP 0 he_X9 rfl 1 (by decide) (hT _ mw_2_8) (fun _ h9 => h9) rfl dX9_doc_117 ?_
      refine va_get (T := TX6) hx hb hT inlX6 hown hK.1 hP 2 he_X6 rfl 0 (by decide) (hT _ mw_1_88) (fun _ h9 => h9) rfl dX9_doc_120 ?_
      refine lv_iload_n hx hb dX9_doc_123 rfl (lv_at hl 2 rfl) ?_
      refine callCi (k := 7) (As := [.int x1]) (rest := []) (n := 1) (c_X3_placeOf hAd I L A B 7 x1 (by decide) _ h) hx hb hT hown hK hP hS mw_3_63 wd_X3_placeOf (by decide +kernel) ⟨rfl, rfl⟩ (by decide) rfl rfl (he_X3 (by decide)) rfl hl.1 hml rfl (Nat.le_of_ble_eq_true rfl) dX9_doc_124 ⟨Nat.zero_le _, Nat.zero_le _⟩ (fun r124 u H locs h hP hS => ?_)
      obtain ⟨Iu_4, Lu_4, Au_4, Bu_4⟩ := u
      dsimp only at h hP
      obtain ⟨h, rfl, rfl, rfl, rfl⟩ := h
      try dsimp only at h
      exact hret _ (I, L, A, B) dX9_doc_127 ⟨h, rfl, rfl, rfl, rfl⟩ hP hS
    rw [if_neg hc_8] at h
    refine lv_tableOut (tgt := 128) hx hb dX9_doc_23 (sw_out_4 hc_4 hc_5 hc_6 hc_7 hc_8) (by decide) ?_
    refine lv_iconst (v := (-1)) hx hb dX9_doc_128 (by decide) ?_
    exact hret _ (I, L, A, B) dX9_doc_129 ⟨h, rfl, rfl, rfl, rfl⟩ hP hS
  · rw [if_pos hc] at h
    refine lv_iconst (v := (-1)) hx hb dX9_doc_11 (by decide) ?_
    exact hret _ (I, L, A, B) dX9_doc_12 ⟨h, rfl, rfl, rfl, rfl⟩ hP hS
theorem dX9_has_0 : decode cX9_has 0 = .ok (.aload_n 0, 1) := by decide +kernel
theorem dX9_has_1 : decode cX9_has 1 = .ok (.getfield 19, 3) := by decide +kernel
theorem dX9_has_4 : decode cX9_has 4 = .ok (.iload_n 1, 1) := by decide +kernel
theorem dX9_has_5 : decode cX9_has 5 = .ok (.invokevirtual 122, 3) := by decide +kernel
theorem dX9_has_8 : decode cX9_has 8 = .ok (.ifCond .eq 34, 3) := by decide +kernel
theorem dX9_has_11 : decode cX9_has 11 = .ok (.aload_n 0, 1) := by decide +kernel
theorem dX9_has_12 : decode cX9_has 12 = .ok (.getfield 10, 3) := by decide +kernel
theorem dX9_has_15 : decode cX9_has 15 = .ok (.iload_n 2, 1) := by decide +kernel
theorem dX9_has_16 : decode cX9_has 16 = .ok (.invokevirtual 93, 3) := by decide +kernel
theorem dX9_has_19 : decode cX9_has 19 = .ok (.ifCond .eq 23, 3) := by decide +kernel
theorem dX9_has_22 : decode cX9_has 22 = .ok (.aload_n 0, 1) := by decide +kernel
theorem dX9_has_23 : decode cX9_has 23 = .ok (.getfield 10, 3) := by decide +kernel
theorem dX9_has_26 : decode cX9_has 26 = .ok (.getfield 224, 3) := by decide +kernel
theorem dX9_has_29 : decode cX9_has 29 = .ok (.iload_n 2, 1) := by decide +kernel
theorem dX9_has_30 : decode cX9_has 30 = .ok (.laload, 1) := by decide +kernel
theorem dX9_has_31 : decode cX9_has 31 = .ok (.iload_n 1, 1) := by decide +kernel
theorem dX9_has_32 : decode cX9_has 32 = .ok (.invokestatic 104, 3) := by decide +kernel
theorem dX9_has_35 : decode cX9_has 35 = .ok (.ifCond .eq 7, 3) := by decide +kernel
theorem dX9_has_38 : decode cX9_has 38 = .ok (.iconst 1, 1) := by decide +kernel
theorem dX9_has_39 : decode cX9_has 39 = .ok (.goto 4, 3) := by decide +kernel
theorem dX9_has_42 : decode cX9_has 42 = .ok (.iconst 0, 1) := by decide +kernel
theorem dX9_has_43 : decode cX9_has 43 = .ok (.ireturn, 1) := by decide +kernel
def wX9_has (I : Nat → Int32) (L : Nat → Int64) (A : Nat → Nat → Int32) (B : Nat → Nat → Int64) (x1 : Int32) (x2 : Int32) (post : Int32 → Prop) : Prop := wX6_isThere I L A B x1 (fun r5 => if r5 = 0 then (post 0) else (wX2_knows I L A B x2 (fun r16 => if r16 = 0 then (post 0) else (vp_in x2 40 ∧ (wX9_inSet (B 40 x2.toNatClampNeg) x1 (fun r32 => if r32 = 0 then (post 0) else (post 1)))))))
abbrev rmX9_has : Room := { frames := 2, cells := 0, slots := 0, locals := 43 }
theorem wd_X9_has : Cond.instanceMethod yX9_has ∈ BW ∧ Cond.selects yX9_has.cls yX9_has yX9_has ∈ BW ∧ Cond.initialized yX9_has.cls ∈ BW ∧ Cond.code yX9_has cX9_has 3 (some .boolean) ∈ BW := ⟨mw_3_65, mw_3_66, mw_1_1, mw_3_67⟩
set_option maxHeartbeats 4000000 in
set_option maxRecDepth 100000 in
theorem c_X9_has {l : Launch} {D : va_G} {cy : Nat → ClassId} {ad : Nat → Nat} {Ad : Nat → Prop} (hAd : adok 103 Ad ad) (I : Nat → Int32) (L : Nat → Int64) (A : Nat → Nat → Int32) (B : Nat → Nat → Int64) (x1 : Int32) (x2 : Int32)  (post : Int32 → Prop) (h : wX9_has I L A B x1 x2 post) : Met l yX9_has (.code yX9_has cX9_has 3 (some .boolean) :: BW) rmX9_has (va_Pc [.ref (ad 0), .int x1, .int x2] (fun U => kC D cy U ∧ va_P D vwCl (wC cy ad I L A B) U.heap)) (qCi D cy ad Ad (fun r u => post r  ∧ I = u.1 ∧ L = u.2.1 ∧ A = u.2.2.1 ∧ B = u.2.2.2)) 0 0 Ad := by
  refine startCz (by decide) (Nat.le_of_ble_eq_true rfl) (lv := [(0, .ref (ad 0)), (1, .int x1), (2, .int x2)]) rfl (fun p e s m args below meth c Q ls hx hb hml hT hown hK hret hl hP hS => ?_)
  unfold wX9_has at h
  refine lv_aload_n hx hb dX9_has_0 rfl (lv_at hl 0 rfl) ?_
  refine va_get (T := TX9) hx hb hT inlX9 hown hK.1 hP 0 he_X9 rfl 1 (by decide) (hT _ mw_2_8) (fun _ h9 => h9) rfl dX9_has_1 ?_
  refine lv_iload_n hx hb dX9_has_4 rfl (lv_at hl 1 rfl) ?_
  refine callCi (k := 2) (As := [.int x1]) (rest := []) (n := 1) (c_X6_isThere hAd I L A B x1 _ h) hx hb hT hown hK hP hS mw_2_174 wd_X6_isThere (by decide +kernel) ⟨rfl, rfl⟩ (by decide) rfl rfl he_X6 rfl hl.1 hml rfl (Nat.le_of_ble_eq_true rfl) dX9_has_5 ⟨Nat.zero_le _, Nat.zero_le _⟩ (fun r5 u H locs h hP hS => ?_)
  obtain ⟨Iu, Lu, Au, Bu⟩ := u
  dsimp only at h hP
  obtain ⟨h, rfl, rfl, rfl, rfl⟩ := h
  try dsimp only at h
  refine lv_if_eq (tgt := 42) hx hb dX9_has_8 (by decide) (fun hc => ?_) (fun hc => ?_)
  · rw [if_pos hc] at h
    refine lv_iconst (v := 0) hx hb dX9_has_42 (by decide) ?_
    exact hret _ (I, L, A, B) zb_0 dX9_has_43 ⟨h, rfl, rfl, rfl, rfl⟩ hP hS
  · rw [if_neg hc] at h
    refine lv_aload_n hx hb dX9_has_11 rfl (lv_at hl 0 rfl) ?_
    refine va_get (T := TX9) hx hb hT inlX9 hown hK.1 hP 0 he_X9 rfl 0 (by decide) (hT _ mw_2_7) (fun _ h9 => h9) rfl dX9_has_12 ?_
    refine lv_iload_n hx hb dX9_has_15 rfl (lv_at hl 2 rfl) ?_
    refine callCi (k := 1) (As := [.int x2]) (rest := []) (n := 1) (c_X2_knows hAd I L A B x2 _ h) hx hb hT hown hK hP hS mw_2_101 wd_X2_knows (by decide +kernel) ⟨rfl, rfl⟩ (by decide) rfl rfl he_X2 rfl hl.1 hml rfl (Nat.le_of_ble_eq_true rfl) dX9_has_16 ⟨Nat.zero_le _, Nat.zero_le _⟩ (fun r16 u H locs h hP hS => ?_)
    obtain ⟨Iu_1, Lu_1, Au_1, Bu_1⟩ := u
    dsimp only at h hP
    obtain ⟨h, rfl, rfl, rfl, rfl⟩ := h
    try dsimp only at h
    refine lv_if_eq (tgt := 42) hx hb dX9_has_19 (by decide) (fun hc_1 => ?_) (fun hc_1 => ?_)
    · rw [if_pos hc_1] at h
      refine lv_iconst (v := 0) hx hb dX9_has_42 (by decide) ?_
      exact hret _ (I, L, A, B) zb_0 dX9_has_43 ⟨h, rfl, rfl, rfl, rfl⟩ hP hS
    · rw [if_neg hc_1] at h
      refine lv_aload_n hx hb dX9_has_22 rfl (lv_at hl 0 rfl) ?_
      refine va_get (T := TX9) hx hb hT inlX9 hown hK.1 hP 0 he_X9 rfl 0 (by decide) (hT _ mw_2_7) (fun _ h9 => h9) rfl dX9_has_23 ?_
      refine va_get (T := TX2) hx hb hT inlX2 hown hK.1 hP 1 he_X2 rfl 4 (by decide) (hT _ mw_1_44) (fun _ h9 => h9) rfl dX9_has_26 ?_
      refine lv_iload_n hx hb dX9_has_29 rfl (lv_at hl 2 rfl) ?_
      obtain ⟨hi, h⟩ := h
      refine lC_J hx hb hK.1 hP (by decide) rfl hi dX9_has_30 ?_
      refine lv_iload_n hx hb dX9_has_31 rfl (lv_at hl 1 rfl) ?_
      refine callSCi (As := [.long (B 40 x2.toNatClampNeg), .int x1]) (rest := []) (n := 2) (c_X9_inSet (B 40 x2.toNatClampNeg) x1 _ h) hx hb hT hown hP hS mw_2_123 wd_X9_inSet (by decide +kernel) ⟨rfl, rfl⟩ (by decide) rfl hl.1 hml rfl (Nat.le_of_ble_eq_true rfl) dX9_has_32 ⟨Nat.zero_le _, Nat.zero_le _⟩ (fun r32 H locs h hP hS => ?_)
      try dsimp only at h
      refine lv_if_eq (tgt := 42) hx hb dX9_has_35 (by decide) (fun hc_2 => ?_) (fun hc_2 => ?_)
      · rw [if_pos hc_2] at h
        refine lv_iconst (v := 0) hx hb dX9_has_42 (by decide) ?_
        exact hret _ (I, L, A, B) zb_0 dX9_has_43 ⟨h, rfl, rfl, rfl, rfl⟩ hP hS
      · rw [if_neg hc_2] at h
        refine lv_iconst (v := 1) hx hb dX9_has_38 (by decide) ?_
        refine lv_goto (tgt := 43) hx hb dX9_has_39 (by decide) ?_
        exact hret _ (I, L, A, B) zb_1 dX9_has_43 ⟨h, rfl, rfl, rfl, rfl⟩ hP hS
theorem dX9_hit_0 : decode cX9_hit 0 = .ok (.iload_n 1, 1) := by decide +kernel
theorem dX9_hit_1 : decode cX9_hit 1 = .ok (.ifCond .ge 5, 3) := by decide +kernel
theorem dX9_hit_4 : decode cX9_hit 4 = .ok (.iconst (-1), 1) := by decide +kernel
theorem dX9_hit_5 : decode cX9_hit 5 = .ok (.ireturn, 1) := by decide +kernel
theorem dX9_hit_6 : decode cX9_hit 6 = .ok (.aload_n 0, 1) := by decide +kernel
theorem dX9_hit_7 : decode cX9_hit 7 = .ok (.getfield 28, 3) := by decide +kernel
theorem dX9_hit_10 : decode cX9_hit 10 = .ok (.invokevirtual 214, 3) := by decide +kernel
theorem dX9_hit_13 : decode cX9_hit 13 = .ok (.lstore_n 2, 1) := by decide +kernel
theorem dX9_hit_14 : decode cX9_hit 14 = .ok (.iconst 0, 1) := by decide +kernel
theorem dX9_hit_15 : decode cX9_hit 15 = .ok (.istore 4, 2) := by decide +kernel
theorem dX9_hit_17 : decode cX9_hit 17 = .ok (.iconst 0, 1) := by decide +kernel
theorem dX9_hit_18 : decode cX9_hit 18 = .ok (.istore 5, 2) := by decide +kernel
theorem dX9_hit_20 : decode cX9_hit 20 = .ok (.iload 5, 2) := by decide +kernel
theorem dX9_hit_22 : decode cX9_hit 22 = .ok (.aload_n 0, 1) := by decide +kernel
theorem dX9_hit_23 : decode cX9_hit 23 = .ok (.getfield 19, 3) := by decide +kernel
theorem dX9_hit_26 : decode cX9_hit 26 = .ok (.getfield 208, 3) := by decide +kernel
theorem dX9_hit_29 : decode cX9_hit 29 = .ok (.getfield 234, 3) := by decide +kernel
theorem dX9_hit_32 : decode cX9_hit 32 = .ok (.if_icmp .ge 45, 3) := by decide +kernel
theorem dX9_hit_35 : decode cX9_hit 35 = .ok (.aload_n 0, 1) := by decide +kernel
theorem dX9_hit_36 : decode cX9_hit 36 = .ok (.getfield 19, 3) := by decide +kernel
theorem dX9_hit_39 : decode cX9_hit 39 = .ok (.getfield 208, 3) := by decide +kernel
theorem dX9_hit_42 : decode cX9_hit 42 = .ok (.getfield 235, 3) := by decide +kernel
theorem dX9_hit_45 : decode cX9_hit 45 = .ok (.iload 5, 2) := by decide +kernel
theorem dX9_hit_47 : decode cX9_hit 47 = .ok (.iaload, 1) := by decide +kernel
theorem dX9_hit_48 : decode cX9_hit 48 = .ok (.istore 6, 2) := by decide +kernel
theorem dX9_hit_50 : decode cX9_hit 50 = .ok (.lload_n 2, 1) := by decide +kernel
theorem dX9_hit_51 : decode cX9_hit 51 = .ok (.iload 6, 2) := by decide +kernel
theorem dX9_hit_53 : decode cX9_hit 53 = .ok (.invokestatic 104, 3) := by decide +kernel
theorem dX9_hit_56 : decode cX9_hit 56 = .ok (.ifCond .eq 15, 3) := by decide +kernel
theorem dX9_hit_59 : decode cX9_hit 59 = .ok (.iload 4, 2) := by decide +kernel
theorem dX9_hit_61 : decode cX9_hit 61 = .ok (.iload_n 1, 1) := by decide +kernel
theorem dX9_hit_62 : decode cX9_hit 62 = .ok (.if_icmp .ne 6, 3) := by decide +kernel
theorem dX9_hit_65 : decode cX9_hit 65 = .ok (.iload 6, 2) := by decide +kernel
theorem dX9_hit_67 : decode cX9_hit 67 = .ok (.ireturn, 1) := by decide +kernel
theorem dX9_hit_68 : decode cX9_hit 68 = .ok (.iinc 4 1, 3) := by decide +kernel
theorem dX9_hit_71 : decode cX9_hit 71 = .ok (.iinc 5 1, 3) := by decide +kernel
theorem dX9_hit_74 : decode cX9_hit 74 = .ok (.goto (-54), 3) := by decide +kernel
theorem dX9_hit_77 : decode cX9_hit 77 = .ok (.iconst (-1), 1) := by decide +kernel
theorem dX9_hit_78 : decode cX9_hit 78 = .ok (.ireturn, 1) := by decide +kernel
def wX9_hit (I : Nat → Int32) (L : Nat → Int64) (A : Nat → Nat → Int32) (B : Nat → Nat → Int64) (x1 : Int32) (post : Int32 → Prop) : Prop := if 0 ≤ x1 then (wX7_hits I L A B  (fun r10 => ∃ n, lfix (fun (r : (Int32 × Int32) → Prop) (v5, v4) => if (I 7) ≤ v5 then (post (-1)) else (vp_in v5 40 ∧ (∀ v6 : Int32, v6 = A 41 v5.toNatClampNeg → wX9_inSet r10 v6 (fun r53 => if r53 = 0 then (∀ v5_1 : Int32, v5_1 = v5 + 1 → r (v5_1, v4)) else (if v4 = x1 then (post v6) else (∀ v4_1 : Int32, v4_1 = v4 + 1 → ∀ v5_2 : Int32, v5_2 = v5 + 1 → r (v5_2, v4_1))))))) n (0, 0))) else (post (-1))
abbrev rmX9_hit : Room := { frames := 2, cells := 0, slots := 0, locals := 45 }
theorem wd_X9_hit : Cond.instanceMethod yX9_hit ∈ BW ∧ Cond.selects yX9_hit.cls yX9_hit yX9_hit ∈ BW ∧ Cond.initialized yX9_hit.cls ∈ BW ∧ Cond.code yX9_hit cX9_hit 7 (some .int) ∈ BW := ⟨mw_3_69, mw_3_70, mw_1_1, mw_3_71⟩
set_option maxHeartbeats 4000000 in
set_option maxRecDepth 100000 in
theorem c_X9_hit {l : Launch} {D : va_G} {cy : Nat → ClassId} {ad : Nat → Nat} {Ad : Nat → Prop} (hAd : adok 103 Ad ad) (I : Nat → Int32) (L : Nat → Int64) (A : Nat → Nat → Int32) (B : Nat → Nat → Int64) (x1 : Int32)  (post : Int32 → Prop) (h : wX9_hit I L A B x1 post) : Met l yX9_hit (.code yX9_hit cX9_hit 7 (some .int) :: BW) rmX9_hit (va_Pc [.ref (ad 0), .int x1] (fun U => kC D cy U ∧ va_P D vwCl (wC cy ad I L A B) U.heap)) (qCi D cy ad Ad (fun r u => post r  ∧ I = u.1 ∧ L = u.2.1 ∧ A = u.2.2.1 ∧ B = u.2.2.2)) 0 0 Ad := by
  refine startCi (by decide) (Nat.le_of_ble_eq_true rfl) (lv := [(0, .ref (ad 0)), (1, .int x1)]) rfl (fun p e s m args below meth c Q ls hx hb hml hT hown hK hret hl hP hS => ?_)
  unfold wX9_hit at h
  refine lv_iload_n hx hb dX9_hit_0 rfl (lv_at hl 1 rfl) ?_
  refine lv_if_ge (tgt := 6) hx hb dX9_hit_1 (by decide) (fun hc => ?_) (fun hc => ?_)
  · rw [if_pos hc] at h
    refine lv_aload_n hx hb dX9_hit_6 rfl (lv_at hl 0 rfl) ?_
    refine va_get (T := TX9) hx hb hT inlX9 hown hK.1 hP 0 he_X9 rfl 2 (by decide) (hT _ mw_2_9) (fun _ h9 => h9) rfl dX9_hit_7 ?_
    refine callCl (k := 3) (As := []) (rest := []) (n := 0) (c_X7_hits hAd I L A B  _ h) hx hb hT hown hK hP hS mw_3_51 wd_X7_hits (by decide +kernel) ⟨rfl, rfl⟩ (by decide) rfl rfl he_X7 rfl hl.1 hml rfl (Nat.le_of_ble_eq_true rfl) dX9_hit_10 ⟨Nat.zero_le _, Nat.zero_le _⟩ (fun r10 u H locs h hP hS => ?_)
    obtain ⟨Iu, Lu, Au, Bu⟩ := u
    dsimp only at h hP
    obtain ⟨h, rfl, rfl, rfl, rfl⟩ := h
    try dsimp only at h
    refine lv_lstore_n (lv' := [(2, .long r10), (0, .ref (ad 0)), (1, .int x1)]) hx hb dX9_hit_13 rfl hl (by decide) rfl (fun ls hl => ?_)
    refine lv_iconst (v := 0) hx hb dX9_hit_14 (by decide) ?_
    refine lv_istore (lv' := [(4, .int 0), (2, .long r10), (0, .ref (ad 0)), (1, .int x1)]) hx hb dX9_hit_15 hl (by decide) rfl (fun ls hl => ?_)
    refine lv_iconst (v := 0) hx hb dX9_hit_17 (by decide) ?_
    refine lv_istore (lv' := [(5, .int 0), (4, .int 0), (2, .long r10), (0, .ref (ad 0)), (1, .int x1)]) hx hb dX9_hit_18 hl (by decide) rfl (fun ls hl => ?_)
    obtain ⟨F, n, h, hF, hG⟩ := lfix_ex h
    have LP : ∀ (n : Nat) (v5 : Int32) (v4 : Int32) (ls : Array Slot) (H : Heap) (locs : List Loc), F n (v5, v4) → lv_has ls 7 [(5, .int v5), (4, .int v4), (2, .long r10), (0, .ref (ad 0)), (1, .int x1)] → va_P D vwCl (wC cy ad I L A B) H → va_S Ad s.heap H locs → W p l e rmX9_hit s m args below meth c H locs 0 0 Q (F0 m 20 ls []) := by
      intro n
      induction n with
      | zero => intro v5 v4 ls H locs h _ _ _; exact absurd h (hF _)
      | succ n ih =>
        intro v5 v4 ls H locs h hl hP hS
        replace h := hG _ _ h
        try dsimp only at h
        refine lv_iload hx hb dX9_hit_20 (lv_at hl 0 rfl) ?_
        refine lv_aload_n hx hb dX9_hit_22 rfl (lv_at hl 3 rfl) ?_
        refine va_get (T := TX9) hx hb hT inlX9 hown hK.1 hP 0 he_X9 rfl 1 (by decide) (hT _ mw_2_8) (fun _ h9 => h9) rfl dX9_hit_23 ?_
        refine va_get (T := TX6) hx hb hT inlX6 hown hK.1 hP 2 he_X6 rfl 0 (by decide) (hT _ mw_1_88) (fun _ h9 => h9) rfl dX9_hit_26 ?_
        refine va_get (T := TX3) hx hb hT inlX3 hown hK.1 hP 7 (he_X3 (by decide)) rfl 2 (by decide) (hT _ mw_1_79) (fun _ h9 => h9) rfl dX9_hit_29 ?_
        refine lv_icmp_ge (tgt := 77) hx hb dX9_hit_32 (by decide) (fun hc_1 => ?_) (fun hc_1 => ?_)
        · rw [if_pos hc_1] at h
          refine lv_iconst (v := (-1)) hx hb dX9_hit_77 (by decide) ?_
          exact hret _ (I, L, A, B) dX9_hit_78 ⟨h, rfl, rfl, rfl, rfl⟩ hP hS
        · rw [if_neg hc_1] at h
          refine lv_aload_n hx hb dX9_hit_35 rfl (lv_at hl 3 rfl) ?_
          refine va_get (T := TX9) hx hb hT inlX9 hown hK.1 hP 0 he_X9 rfl 1 (by decide) (hT _ mw_2_8) (fun _ h9 => h9) rfl dX9_hit_36 ?_
          refine va_get (T := TX6) hx hb hT inlX6 hown hK.1 hP 2 he_X6 rfl 0 (by decide) (hT _ mw_1_88) (fun _ h9 => h9) rfl dX9_hit_39 ?_
          refine va_get (T := TX3) hx hb hT inlX3 hown hK.1 hP 7 (he_X3 (by decide)) rfl 0 (by decide) (hT _ mw_1_75) (fun _ h9 => h9) rfl dX9_hit_42 ?_
          refine lv_iload hx hb dX9_hit_45 (lv_at hl 0 rfl) ?_
          obtain ⟨hi, h⟩ := h
          refine lC_I hx hb hK.1 hP (by decide) rfl hi dX9_hit_47 ?_
          refine lv_topi (fun v6 ev6 => ?_)
          replace h := h v6 ev6
          refine lv_istore (lv' := [(6, .int v6), (5, .int v5), (4, .int v4), (2, .long r10), (0, .ref (ad 0)), (1, .int x1)]) hx hb dX9_hit_48 hl (by decide) rfl (fun ls hl => ?_)
          refine lv_lload_n hx hb dX9_hit_50 rfl (lv_at hl 3 rfl) ?_
          refine lv_iload hx hb dX9_hit_51 (lv_at hl 0 rfl) ?_
          refine callSCi (As := [.long r10, .int v6]) (rest := []) (n := 2) (c_X9_inSet r10 v6 _ h) hx hb hT hown hP hS mw_2_123 wd_X9_inSet (by decide +kernel) ⟨rfl, rfl⟩ (by decide) rfl hl.1 hml rfl (Nat.le_of_ble_eq_true rfl) dX9_hit_53 ⟨Nat.zero_le _, Nat.zero_le _⟩ (fun r53 H locs h hP hS => ?_)
          try dsimp only at h
          refine lv_if_eq (tgt := 71) hx hb dX9_hit_56 (by decide) (fun hc_2 => ?_) (fun hc_2 => ?_)
          · rw [if_pos hc_2] at h
            obtain ⟨v5_1, ev5_1⟩ : ∃ z : Int32, z = v5 + 1 := ⟨_, rfl⟩
            replace h := h v5_1 ev5_1
            refine lv_iinc (v := v5_1) (lv' := [(5, .int v5_1), (6, .int v6), (4, .int v4), (2, .long r10), (0, .ref (ad 0)), (1, .int x1)]) hx hb dX9_hit_71 hl (k := 1) rfl (by rw [ev5_1]; rfl) (by decide) rfl (fun ls hl => ?_)
            refine lv_goto (tgt := 20) hx hb dX9_hit_74 (by decide) ?_
            exact ih v5_1 v4 _ _ _ h (lv_sub hl [0, 2, 3, 4, 5] rfl) hP hS
          · rw [if_neg hc_2] at h
            refine lv_iload hx hb dX9_hit_59 (lv_at hl 2 rfl) ?_
            refine lv_iload_n hx hb dX9_hit_61 rfl (lv_at hl 5 rfl) ?_
            refine lv_icmp_ne (tgt := 68) hx hb dX9_hit_62 (by decide) (fun hc_3 => ?_) (fun hc_3 => ?_)
            · rw [if_neg hc_3] at h
              obtain ⟨v4_1, ev4_1⟩ : ∃ z : Int32, z = v4 + 1 := ⟨_, rfl⟩
              replace h := h v4_1 ev4_1
              refine lv_iinc (v := v4_1) (lv' := [(4, .int v4_1), (6, .int v6), (5, .int v5), (2, .long r10), (0, .ref (ad 0)), (1, .int x1)]) hx hb dX9_hit_68 hl (k := 2) rfl (by rw [ev4_1]; rfl) (by decide) rfl (fun ls hl => ?_)
              obtain ⟨v5_2, ev5_2⟩ : ∃ z : Int32, z = v5 + 1 := ⟨_, rfl⟩
              replace h := h v5_2 ev5_2
              refine lv_iinc (v := v5_2) (lv' := [(5, .int v5_2), (4, .int v4_1), (6, .int v6), (2, .long r10), (0, .ref (ad 0)), (1, .int x1)]) hx hb dX9_hit_71 hl (k := 2) rfl (by rw [ev5_2]; rfl) (by decide) rfl (fun ls hl => ?_)
              refine lv_goto (tgt := 20) hx hb dX9_hit_74 (by decide) ?_
              exact ih v5_2 v4_1 _ _ _ h (lv_sub hl [0, 1, 3, 4, 5] rfl) hP hS
            · rw [if_pos hc_3] at h
              refine lv_iload hx hb dX9_hit_65 (lv_at hl 0 rfl) ?_
              exact hret _ (I, L, A, B) dX9_hit_67 ⟨h, rfl, rfl, rfl, rfl⟩ hP hS
    exact LP _ 0 0 _ _ _ h (lv_sub hl [0, 1, 2, 3, 4] rfl) hP hS
  · rw [if_neg hc] at h
    refine lv_iconst (v := (-1)) hx hb dX9_hit_4 (by decide) ?_
    exact hret _ (I, L, A, B) dX9_hit_5 ⟨h, rfl, rfl, rfl, rfl⟩ hP hS
theorem dX9_near_0 : decode cX9_near 0 = .ok (.aload_n 0, 1) := by decide +kernel
theorem dX9_near_1 : decode cX9_near 1 = .ok (.getfield 28, 3) := by decide +kernel
theorem dX9_near_4 : decode cX9_near 4 = .ok (.iload_n 1, 1) := by decide +kernel
theorem dX9_near_5 : decode cX9_near 5 = .ok (.invokevirtual 178, 3) := by decide +kernel
theorem dX9_near_8 : decode cX9_near 8 = .ok (.ifCond .eq 18, 3) := by decide +kernel
theorem dX9_near_11 : decode cX9_near 11 = .ok (.aload_n 0, 1) := by decide +kernel
theorem dX9_near_12 : decode cX9_near 12 = .ok (.getfield 28, 3) := by decide +kernel
theorem dX9_near_15 : decode cX9_near 15 = .ok (.iload_n 1, 1) := by decide +kernel
theorem dX9_near_16 : decode cX9_near 16 = .ok (.iload_n 1, 1) := by decide +kernel
theorem dX9_near_17 : decode cX9_near 17 = .ok (.invokevirtual 238, 3) := by decide +kernel
theorem dX9_near_20 : decode cX9_near 20 = .ok (.invokestatic 201, 3) := by decide +kernel
theorem dX9_near_23 : decode cX9_near 23 = .ok (.goto 4, 3) := by decide +kernel
theorem dX9_near_26 : decode cX9_near 26 = .ok (.iconst (-1), 1) := by decide +kernel
theorem dX9_near_27 : decode cX9_near 27 = .ok (.ireturn, 1) := by decide +kernel
def wX9_near (I : Nat → Int32) (L : Nat → Int64) (A : Nat → Nat → Int32) (B : Nat → Nat → Int64) (x1 : Int32) (post : Int32 → Prop) : Prop := wX7_knows I L A B x1 (fun r5 => if r5 = 0 then (post (-1)) else (wX7_lifted I L A B x1 x1 (fun r17 => wJ13_bitCount_95d88 r17 (fun r20 => post r20))))
abbrev rmX9_near : Room := { frames := 1, cells := 0, slots := 0, locals := 25 }
theorem wd_X9_near : Cond.instanceMethod yX9_near ∈ BW ∧ Cond.selects yX9_near.cls yX9_near yX9_near ∈ BW ∧ Cond.initialized yX9_near.cls ∈ BW ∧ Cond.code yX9_near cX9_near 2 (some .int) ∈ BW := ⟨mw_3_73, mw_3_74, mw_1_1, mw_3_75⟩
set_option maxHeartbeats 4000000 in
set_option maxRecDepth 100000 in
theorem c_X9_near {l : Launch} {D : va_G} {cy : Nat → ClassId} {ad : Nat → Nat} {Ad : Nat → Prop} (hAd : adok 103 Ad ad) (I : Nat → Int32) (L : Nat → Int64) (A : Nat → Nat → Int32) (B : Nat → Nat → Int64) (x1 : Int32)  (post : Int32 → Prop) (h : wX9_near I L A B x1 post) : Met l yX9_near (.code yX9_near cX9_near 2 (some .int) :: BW) rmX9_near (va_Pc [.ref (ad 0), .int x1] (fun U => kC D cy U ∧ va_P D vwCl (wC cy ad I L A B) U.heap)) (qCi D cy ad Ad (fun r u => post r  ∧ I = u.1 ∧ L = u.2.1 ∧ A = u.2.2.1 ∧ B = u.2.2.2)) 0 0 Ad := by
  refine startCi (by decide) (Nat.le_of_ble_eq_true rfl) (lv := [(0, .ref (ad 0)), (1, .int x1)]) rfl (fun p e s m args below meth c Q ls hx hb hml hT hown hK hret hl hP hS => ?_)
  unfold wX9_near at h
  refine lv_aload_n hx hb dX9_near_0 rfl (lv_at hl 0 rfl) ?_
  refine va_get (T := TX9) hx hb hT inlX9 hown hK.1 hP 0 he_X9 rfl 2 (by decide) (hT _ mw_2_9) (fun _ h9 => h9) rfl dX9_near_1 ?_
  refine lv_iload_n hx hb dX9_near_4 rfl (lv_at hl 1 rfl) ?_
  refine callCi (k := 3) (As := [.int x1]) (rest := []) (n := 1) (c_X7_knows hAd I L A B x1 _ h) hx hb hT hown hK hP hS mw_3_17 wd_X7_knows (by decide +kernel) ⟨rfl, rfl⟩ (by decide) rfl rfl he_X7 rfl hl.1 hml rfl (Nat.le_of_ble_eq_true rfl) dX9_near_5 ⟨Nat.zero_le _, Nat.zero_le _⟩ (fun r5 u H locs h hP hS => ?_)
  obtain ⟨Iu, Lu, Au, Bu⟩ := u
  dsimp only at h hP
  obtain ⟨h, rfl, rfl, rfl, rfl⟩ := h
  try dsimp only at h
  refine lv_if_eq (tgt := 26) hx hb dX9_near_8 (by decide) (fun hc => ?_) (fun hc => ?_)
  · rw [if_pos hc] at h
    refine lv_iconst (v := (-1)) hx hb dX9_near_26 (by decide) ?_
    exact hret _ (I, L, A, B) dX9_near_27 ⟨h, rfl, rfl, rfl, rfl⟩ hP hS
  · rw [if_neg hc] at h
    refine lv_aload_n hx hb dX9_near_11 rfl (lv_at hl 0 rfl) ?_
    refine va_get (T := TX9) hx hb hT inlX9 hown hK.1 hP 0 he_X9 rfl 2 (by decide) (hT _ mw_2_9) (fun _ h9 => h9) rfl dX9_near_12 ?_
    refine lv_iload_n hx hb dX9_near_15 rfl (lv_at hl 1 rfl) ?_
    refine lv_iload_n hx hb dX9_near_16 rfl (lv_at hl 1 rfl) ?_
    refine callCl (k := 3) (As := [.int x1, .int x1]) (rest := []) (n := 2) (c_X7_lifted hAd I L A B x1 x1 _ h) hx hb hT hown hK hP hS mw_3_76 wd_X7_lifted (by decide +kernel) ⟨rfl, rfl⟩ (by decide) rfl rfl he_X7 rfl hl.1 hml rfl (Nat.le_of_ble_eq_true rfl) dX9_near_17 ⟨Nat.zero_le _, Nat.zero_le _⟩ (fun r17 u H locs h hP hS => ?_)
    obtain ⟨Iu_1, Lu_1, Au_1, Bu_1⟩ := u
    dsimp only at h hP
    obtain ⟨h, rfl, rfl, rfl, rfl⟩ := h
    try dsimp only at h
    refine callSCi (As := [.long r17]) (rest := []) (n := 1) (c_J13_bitCount_95d88 r17 _ h) hx hb hT hown hP hS mw_3_40 wd_J13_bitCount_95d88 (by decide +kernel) ⟨rfl, rfl⟩ (by decide) rfl hl.1 hml rfl (Nat.le_of_ble_eq_true rfl) dX9_near_20 ⟨Nat.zero_le _, Nat.zero_le _⟩ (fun r20 H locs h hP hS => ?_)
    try dsimp only at h
    refine lv_goto (tgt := 27) hx hb dX9_near_23 (by decide) ?_
    exact hret _ (I, L, A, B) dX9_near_27 ⟨h, rfl, rfl, rfl, rfl⟩ hP hS
theorem dX9_shown_0 : decode cX9_shown 0 = .ok (.aload_n 0, 1) := by decide +kernel
theorem dX9_shown_1 : decode cX9_shown 1 = .ok (.getfield 10, 3) := by decide +kernel
theorem dX9_shown_4 : decode cX9_shown 4 = .ok (.iload_n 1, 1) := by decide +kernel
theorem dX9_shown_5 : decode cX9_shown 5 = .ok (.invokevirtual 93, 3) := by decide +kernel
theorem dX9_shown_8 : decode cX9_shown 8 = .ok (.ifCond .eq 14, 3) := by decide +kernel
theorem dX9_shown_11 : decode cX9_shown 11 = .ok (.aload_n 0, 1) := by decide +kernel
theorem dX9_shown_12 : decode cX9_shown 12 = .ok (.getfield 28, 3) := by decide +kernel
theorem dX9_shown_15 : decode cX9_shown 15 = .ok (.iload_n 1, 1) := by decide +kernel
theorem dX9_shown_16 : decode cX9_shown 16 = .ok (.invokevirtual 242, 3) := by decide +kernel
theorem dX9_shown_19 : decode cX9_shown 19 = .ok (.goto 4, 3) := by decide +kernel
theorem dX9_shown_22 : decode cX9_shown 22 = .ok (.iconst (-1), 1) := by decide +kernel
theorem dX9_shown_23 : decode cX9_shown 23 = .ok (.ireturn, 1) := by decide +kernel
def wX9_shown (I : Nat → Int32) (L : Nat → Int64) (A : Nat → Nat → Int32) (B : Nat → Nat → Int64) (x1 : Int32) (post : Int32 → Prop) : Prop := wX2_knows I L A B x1 (fun r5 => if r5 = 0 then (post (-1)) else (wX7_showing I L A B x1 (fun r16 => post r16)))
abbrev rmX9_shown : Room := { frames := 4, cells := 0, slots := 0, locals := 87 }
theorem wd_X9_shown : Cond.instanceMethod yX9_shown ∈ BW ∧ Cond.selects yX9_shown.cls yX9_shown yX9_shown ∈ BW ∧ Cond.initialized yX9_shown.cls ∈ BW ∧ Cond.code yX9_shown cX9_shown 2 (some .int) ∈ BW := ⟨mw_3_78, mw_3_79, mw_1_1, mw_3_80⟩
set_option maxHeartbeats 4000000 in
set_option maxRecDepth 100000 in
theorem c_X9_shown {l : Launch} {D : va_G} {cy : Nat → ClassId} {ad : Nat → Nat} {Ad : Nat → Prop} (hAd : adok 103 Ad ad) (I : Nat → Int32) (L : Nat → Int64) (A : Nat → Nat → Int32) (B : Nat → Nat → Int64) (x1 : Int32)  (post : Int32 → Prop) (h : wX9_shown I L A B x1 post) : Met l yX9_shown (.code yX9_shown cX9_shown 2 (some .int) :: BW) rmX9_shown (va_Pc [.ref (ad 0), .int x1] (fun U => kC D cy U ∧ va_P D vwCl (wC cy ad I L A B) U.heap)) (qCi D cy ad Ad (fun r u => post r  ∧ I = u.1 ∧ L = u.2.1 ∧ A = u.2.2.1 ∧ B = u.2.2.2)) 0 0 Ad := by
  refine startCi (by decide) (Nat.le_of_ble_eq_true rfl) (lv := [(0, .ref (ad 0)), (1, .int x1)]) rfl (fun p e s m args below meth c Q ls hx hb hml hT hown hK hret hl hP hS => ?_)
  unfold wX9_shown at h
  refine lv_aload_n hx hb dX9_shown_0 rfl (lv_at hl 0 rfl) ?_
  refine va_get (T := TX9) hx hb hT inlX9 hown hK.1 hP 0 he_X9 rfl 0 (by decide) (hT _ mw_2_7) (fun _ h9 => h9) rfl dX9_shown_1 ?_
  refine lv_iload_n hx hb dX9_shown_4 rfl (lv_at hl 1 rfl) ?_
  refine callCi (k := 1) (As := [.int x1]) (rest := []) (n := 1) (c_X2_knows hAd I L A B x1 _ h) hx hb hT hown hK hP hS mw_2_101 wd_X2_knows (by decide +kernel) ⟨rfl, rfl⟩ (by decide) rfl rfl he_X2 rfl hl.1 hml rfl (Nat.le_of_ble_eq_true rfl) dX9_shown_5 ⟨Nat.zero_le _, Nat.zero_le _⟩ (fun r5 u H locs h hP hS => ?_)
  obtain ⟨Iu, Lu, Au, Bu⟩ := u
  dsimp only at h hP
  obtain ⟨h, rfl, rfl, rfl, rfl⟩ := h
  try dsimp only at h
  refine lv_if_eq (tgt := 22) hx hb dX9_shown_8 (by decide) (fun hc => ?_) (fun hc => ?_)
  · rw [if_pos hc] at h
    refine lv_iconst (v := (-1)) hx hb dX9_shown_22 (by decide) ?_
    exact hret _ (I, L, A, B) dX9_shown_23 ⟨h, rfl, rfl, rfl, rfl⟩ hP hS
  · rw [if_neg hc] at h
    refine lv_aload_n hx hb dX9_shown_11 rfl (lv_at hl 0 rfl) ?_
    refine va_get (T := TX9) hx hb hT inlX9 hown hK.1 hP 0 he_X9 rfl 2 (by decide) (hT _ mw_2_9) (fun _ h9 => h9) rfl dX9_shown_12 ?_
    refine lv_iload_n hx hb dX9_shown_15 rfl (lv_at hl 1 rfl) ?_
    refine callCi (k := 3) (As := [.int x1]) (rest := []) (n := 1) (c_X7_showing hAd I L A B x1 _ h) hx hb hT hown hK hP hS mw_3_81 wd_X7_showing (by decide +kernel) ⟨rfl, rfl⟩ (by decide) rfl rfl he_X7 rfl hl.1 hml rfl (Nat.le_of_ble_eq_true rfl) dX9_shown_16 ⟨Nat.zero_le _, Nat.zero_le _⟩ (fun r16 u H locs h hP hS => ?_)
    obtain ⟨Iu_1, Lu_1, Au_1, Bu_1⟩ := u
    dsimp only at h hP
    obtain ⟨h, rfl, rfl, rfl, rfl⟩ := h
    try dsimp only at h
    refine lv_goto (tgt := 23) hx hb dX9_shown_19 (by decide) ?_
    exact hret _ (I, L, A, B) dX9_shown_23 ⟨h, rfl, rfl, rfl, rfl⟩ hP hS
theorem dX9_shownMissing_0 : decode cX9_shownMissing 0 = .ok (.aload_n 0, 1) := by decide +kernel
theorem dX9_shownMissing_1 : decode cX9_shownMissing 1 = .ok (.getfield 28, 3) := by decide +kernel
theorem dX9_shownMissing_4 : decode cX9_shownMissing 4 = .ok (.iload_n 1, 1) := by decide +kernel
theorem dX9_shownMissing_5 : decode cX9_shownMissing 5 = .ok (.invokevirtual 178, 3) := by decide +kernel
theorem dX9_shownMissing_8 : decode cX9_shownMissing 8 = .ok (.ifCond .ne 5, 3) := by decide +kernel
theorem dX9_shownMissing_11 : decode cX9_shownMissing 11 = .ok (.iconst (-1), 1) := by decide +kernel
theorem dX9_shownMissing_12 : decode cX9_shownMissing 12 = .ok (.ireturn, 1) := by decide +kernel
theorem dX9_shownMissing_13 : decode cX9_shownMissing 13 = .ok (.aload_n 0, 1) := by decide +kernel
theorem dX9_shownMissing_14 : decode cX9_shownMissing 14 = .ok (.getfield 28, 3) := by decide +kernel
theorem dX9_shownMissing_17 : decode cX9_shownMissing 17 = .ok (.iload_n 1, 1) := by decide +kernel
theorem dX9_shownMissing_18 : decode cX9_shownMissing 18 = .ok (.invokevirtual 245, 3) := by decide +kernel
theorem dX9_shownMissing_21 : decode cX9_shownMissing 21 = .ok (.aload_n 0, 1) := by decide +kernel
theorem dX9_shownMissing_22 : decode cX9_shownMissing 22 = .ok (.getfield 28, 3) := by decide +kernel
theorem dX9_shownMissing_25 : decode cX9_shownMissing 25 = .ok (.iload_n 1, 1) := by decide +kernel
theorem dX9_shownMissing_26 : decode cX9_shownMissing 26 = .ok (.invokevirtual 248, 3) := by decide +kernel
theorem dX9_shownMissing_29 : decode cX9_shownMissing 29 = .ok (.land, 1) := by decide +kernel
theorem dX9_shownMissing_30 : decode cX9_shownMissing 30 = .ok (.invokestatic 201, 3) := by decide +kernel
theorem dX9_shownMissing_33 : decode cX9_shownMissing 33 = .ok (.ireturn, 1) := by decide +kernel
def wX9_shownMissing (I : Nat → Int32) (L : Nat → Int64) (A : Nat → Nat → Int32) (B : Nat → Nat → Int64) (x1 : Int32) (post : Int32 → Prop) : Prop := wX7_knows I L A B x1 (fun r5 => if r5 = 0 then (post (-1)) else (wX7_audience I L A B x1 (fun r18 => wX7_absentOn I L A B x1 (fun r26 => wJ13_bitCount_95d88 (r18 &&& r26) (fun r30 => post r30)))))
abbrev rmX9_shownMissing : Room := { frames := 3, cells := 0, slots := 0, locals := 66 }
theorem wd_X9_shownMissing : Cond.instanceMethod yX9_shownMissing ∈ BW ∧ Cond.selects yX9_shownMissing.cls yX9_shownMissing yX9_shownMissing ∈ BW ∧ Cond.initialized yX9_shownMissing.cls ∈ BW ∧ Cond.code yX9_shownMissing cX9_shownMissing 2 (some .int) ∈ BW := ⟨mw_3_92, mw_3_93, mw_1_1, mw_3_94⟩
set_option maxHeartbeats 4000000 in
set_option maxRecDepth 100000 in
theorem c_X9_shownMissing {l : Launch} {D : va_G} {cy : Nat → ClassId} {ad : Nat → Nat} {Ad : Nat → Prop} (hAd : adok 103 Ad ad) (I : Nat → Int32) (L : Nat → Int64) (A : Nat → Nat → Int32) (B : Nat → Nat → Int64) (x1 : Int32)  (post : Int32 → Prop) (h : wX9_shownMissing I L A B x1 post) : Met l yX9_shownMissing (.code yX9_shownMissing cX9_shownMissing 2 (some .int) :: BW) rmX9_shownMissing (va_Pc [.ref (ad 0), .int x1] (fun U => kC D cy U ∧ va_P D vwCl (wC cy ad I L A B) U.heap)) (qCi D cy ad Ad (fun r u => post r  ∧ I = u.1 ∧ L = u.2.1 ∧ A = u.2.2.1 ∧ B = u.2.2.2)) 0 0 Ad := by
  refine startCi (by decide) (Nat.le_of_ble_eq_true rfl) (lv := [(0, .ref (ad 0)), (1, .int x1)]) rfl (fun p e s m args below meth c Q ls hx hb hml hT hown hK hret hl hP hS => ?_)
  unfold wX9_shownMissing at h
  refine lv_aload_n hx hb dX9_shownMissing_0 rfl (lv_at hl 0 rfl) ?_
  refine va_get (T := TX9) hx hb hT inlX9 hown hK.1 hP 0 he_X9 rfl 2 (by decide) (hT _ mw_2_9) (fun _ h9 => h9) rfl dX9_shownMissing_1 ?_
  refine lv_iload_n hx hb dX9_shownMissing_4 rfl (lv_at hl 1 rfl) ?_
  refine callCi (k := 3) (As := [.int x1]) (rest := []) (n := 1) (c_X7_knows hAd I L A B x1 _ h) hx hb hT hown hK hP hS mw_3_17 wd_X7_knows (by decide +kernel) ⟨rfl, rfl⟩ (by decide) rfl rfl he_X7 rfl hl.1 hml rfl (Nat.le_of_ble_eq_true rfl) dX9_shownMissing_5 ⟨Nat.zero_le _, Nat.zero_le _⟩ (fun r5 u H locs h hP hS => ?_)
  obtain ⟨Iu, Lu, Au, Bu⟩ := u
  dsimp only at h hP
  obtain ⟨h, rfl, rfl, rfl, rfl⟩ := h
  try dsimp only at h
  refine lv_if_ne (tgt := 13) hx hb dX9_shownMissing_8 (by decide) (fun hc => ?_) (fun hc => ?_)
  · rw [if_neg hc] at h
    refine lv_aload_n hx hb dX9_shownMissing_13 rfl (lv_at hl 0 rfl) ?_
    refine va_get (T := TX9) hx hb hT inlX9 hown hK.1 hP 0 he_X9 rfl 2 (by decide) (hT _ mw_2_9) (fun _ h9 => h9) rfl dX9_shownMissing_14 ?_
    refine lv_iload_n hx hb dX9_shownMissing_17 rfl (lv_at hl 1 rfl) ?_
    refine callCl (k := 3) (As := [.int x1]) (rest := []) (n := 1) (c_X7_audience hAd I L A B x1 _ h) hx hb hT hown hK hP hS mw_3_95 wd_X7_audience (by decide +kernel) ⟨rfl, rfl⟩ (by decide) rfl rfl he_X7 rfl hl.1 hml rfl (Nat.le_of_ble_eq_true rfl) dX9_shownMissing_18 ⟨Nat.zero_le _, Nat.zero_le _⟩ (fun r18 u H locs h hP hS => ?_)
    obtain ⟨Iu_1, Lu_1, Au_1, Bu_1⟩ := u
    dsimp only at h hP
    obtain ⟨h, rfl, rfl, rfl, rfl⟩ := h
    try dsimp only at h
    refine lv_aload_n hx hb dX9_shownMissing_21 rfl (lv_at hl 0 rfl) ?_
    refine va_get (T := TX9) hx hb hT inlX9 hown hK.1 hP 0 he_X9 rfl 2 (by decide) (hT _ mw_2_9) (fun _ h9 => h9) rfl dX9_shownMissing_22 ?_
    refine lv_iload_n hx hb dX9_shownMissing_25 rfl (lv_at hl 1 rfl) ?_
    refine callCl (k := 3) (As := [.int x1]) (rest := [.long r18]) (n := 1) (c_X7_absentOn hAd I L A B x1 _ h) hx hb hT hown hK hP hS mw_3_96 wd_X7_absentOn (by decide +kernel) ⟨rfl, rfl⟩ (by decide) rfl rfl he_X7 rfl hl.1 hml rfl (Nat.le_of_ble_eq_true rfl) dX9_shownMissing_26 ⟨Nat.zero_le _, Nat.zero_le _⟩ (fun r26 u H locs h hP hS => ?_)
    obtain ⟨Iu_2, Lu_2, Au_2, Bu_2⟩ := u
    dsimp only at h hP
    obtain ⟨h, rfl, rfl, rfl, rfl⟩ := h
    try dsimp only at h
    refine lv_land hx hb dX9_shownMissing_29 ?_
    refine callSCi (As := [.long (r18 &&& r26)]) (rest := []) (n := 1) (c_J13_bitCount_95d88 (r18 &&& r26) _ h) hx hb hT hown hP hS mw_3_40 wd_J13_bitCount_95d88 (by decide +kernel) ⟨rfl, rfl⟩ (by decide) rfl hl.1 hml rfl (Nat.le_of_ble_eq_true rfl) dX9_shownMissing_30 ⟨Nat.zero_le _, Nat.zero_le _⟩ (fun r30 H locs h hP hS => ?_)
    try dsimp only at h
    exact hret _ (I, L, A, B) dX9_shownMissing_33 ⟨h, rfl, rfl, rfl, rfl⟩ hP hS
  · rw [if_pos hc] at h
    refine lv_iconst (v := (-1)) hx hb dX9_shownMissing_11 (by decide) ?_
    exact hret _ (I, L, A, B) dX9_shownMissing_12 ⟨h, rfl, rfl, rfl, rfl⟩ hP hS
theorem dX9_click_0 : decode cX9_click 0 = .ok (.aload_n 0, 1) := by decide +kernel
theorem dX9_click_1 : decode cX9_click 1 = .ok (.getfield 10, 3) := by decide +kernel
theorem dX9_click_4 : decode cX9_click 4 = .ok (.iload_n 1, 1) := by decide +kernel
theorem dX9_click_5 : decode cX9_click 5 = .ok (.invokevirtual 93, 3) := by decide +kernel
theorem dX9_click_8 : decode cX9_click 8 = .ok (.ifCond .eq 12, 3) := by decide +kernel
theorem dX9_click_11 : decode cX9_click 11 = .ok (.iload_n 2, 1) := by decide +kernel
theorem dX9_click_12 : decode cX9_click 12 = .ok (.ifCond .lt 8, 3) := by decide +kernel
theorem dX9_click_15 : decode cX9_click 15 = .ok (.iload_n 2, 1) := by decide +kernel
theorem dX9_click_16 : decode cX9_click 16 = .ok (.iconst 2, 1) := by decide +kernel
theorem dX9_click_17 : decode cX9_click 17 = .ok (.if_icmp .le 5, 3) := by decide +kernel
theorem dX9_click_20 : decode cX9_click 20 = .ok (.iconst (-1), 1) := by decide +kernel
theorem dX9_click_21 : decode cX9_click 21 = .ok (.ireturn, 1) := by decide +kernel
theorem dX9_click_22 : decode cX9_click 22 = .ok (.aload_n 0, 1) := by decide +kernel
theorem dX9_click_23 : decode cX9_click 23 = .ok (.getfield 10, 3) := by decide +kernel
theorem dX9_click_26 : decode cX9_click 26 = .ok (.getfield 96, 3) := by decide +kernel
theorem dX9_click_29 : decode cX9_click 29 = .ok (.iload_n 1, 1) := by decide +kernel
theorem dX9_click_30 : decode cX9_click 30 = .ok (.iaload, 1) := by decide +kernel
theorem dX9_click_31 : decode cX9_click 31 = .ok (.istore_n 3, 1) := by decide +kernel
theorem dX9_click_32 : decode cX9_click 32 = .ok (.aload_n 0, 1) := by decide +kernel
theorem dX9_click_33 : decode cX9_click 33 = .ok (.getfield 58, 3) := by decide +kernel
theorem dX9_click_36 : decode cX9_click 36 = .ok (.aload_n 0, 1) := by decide +kernel
theorem dX9_click_37 : decode cX9_click 37 = .ok (.getfield 28, 3) := by decide +kernel
theorem dX9_click_40 : decode cX9_click 40 = .ok (.getfield 134, 3) := by decide +kernel
theorem dX9_click_43 : decode cX9_click 43 = .ok (.iload_n 3, 1) := by decide +kernel
theorem dX9_click_44 : decode cX9_click 44 = .ok (.aaload, 1) := by decide +kernel
theorem dX9_click_45 : decode cX9_click 45 = .ok (.getfield 159, 3) := by decide +kernel
theorem dX9_click_48 : decode cX9_click 48 = .ok (.invokevirtual 251, 3) := by decide +kernel
theorem dX9_click_51 : decode cX9_click 51 = .ok (.iload_n 2, 1) := by decide +kernel
theorem dX9_click_52 : decode cX9_click 52 = .ok (.ifCond .ne 25, 3) := by decide +kernel
theorem dX9_click_55 : decode cX9_click 55 = .ok (.aload_n 0, 1) := by decide +kernel
theorem dX9_click_56 : decode cX9_click 56 = .ok (.getfield 28, 3) := by decide +kernel
theorem dX9_click_59 : decode cX9_click 59 = .ok (.getfield 134, 3) := by decide +kernel
theorem dX9_click_62 : decode cX9_click 62 = .ok (.iload_n 3, 1) := by decide +kernel
theorem dX9_click_63 : decode cX9_click 63 = .ok (.aaload, 1) := by decide +kernel
theorem dX9_click_64 : decode cX9_click 64 = .ok (.getfield 255, 3) := by decide +kernel
theorem dX9_click_67 : decode cX9_click 67 = .ok (.ifCond .ne 10, 3) := by decide +kernel
theorem dX9_click_70 : decode cX9_click 70 = .ok (.aload_n 0, 1) := by decide +kernel
theorem dX9_click_71 : decode cX9_click 71 = .ok (.getfield 58, 3) := by decide +kernel
theorem dX9_click_74 : decode cX9_click 74 = .ok (.invokevirtual 187, 3) := by decide +kernel
theorem dX9_click_77 : decode cX9_click 77 = .ok (.iload_n 2, 1) := by decide +kernel
theorem dX9_click_78 : decode cX9_click 78 = .ok (.iconst 2, 1) := by decide +kernel
theorem dX9_click_79 : decode cX9_click 79 = .ok (.if_icmp .ne 26, 3) := by decide +kernel
theorem dX9_click_82 : decode cX9_click 82 = .ok (.aload_n 0, 1) := by decide +kernel
theorem dX9_click_83 : decode cX9_click 83 = .ok (.getfield 58, 3) := by decide +kernel
theorem dX9_click_86 : decode cX9_click 86 = .ok (.dup, 1) := by decide +kernel
theorem dX9_click_87 : decode cX9_click 87 = .ok (.getfield 162, 3) := by decide +kernel
theorem dX9_click_90 : decode cX9_click 90 = .ok (.iload_n 1, 1) := by decide +kernel
theorem dX9_click_91 : decode cX9_click 91 = .ok (.invokestatic 147, 3) := by decide +kernel
theorem dX9_click_94 : decode cX9_click 94 = .ok (.ldc2_w 154, 3) := by decide +kernel
theorem dX9_click_97 : decode cX9_click 97 = .ok (.lxor, 1) := by decide +kernel
theorem dX9_click_98 : decode cX9_click 98 = .ok (.land, 1) := by decide +kernel
theorem dX9_click_99 : decode cX9_click 99 = .ok (.putfield 162, 3) := by decide +kernel
theorem dX9_click_102 : decode cX9_click 102 = .ok (.goto 19, 3) := by decide +kernel
theorem dX9_click_105 : decode cX9_click 105 = .ok (.aload_n 0, 1) := by decide +kernel
theorem dX9_click_106 : decode cX9_click 106 = .ok (.getfield 58, 3) := by decide +kernel
theorem dX9_click_109 : decode cX9_click 109 = .ok (.dup, 1) := by decide +kernel
theorem dX9_click_110 : decode cX9_click 110 = .ok (.getfield 162, 3) := by decide +kernel
theorem dX9_click_113 : decode cX9_click 113 = .ok (.iload_n 1, 1) := by decide +kernel
theorem dX9_click_114 : decode cX9_click 114 = .ok (.invokestatic 147, 3) := by decide +kernel
theorem dX9_click_117 : decode cX9_click 117 = .ok (.lor, 1) := by decide +kernel
theorem dX9_click_118 : decode cX9_click 118 = .ok (.putfield 162, 3) := by decide +kernel
theorem dX9_click_121 : decode cX9_click 121 = .ok (.aload_n 0, 1) := by decide +kernel
theorem dX9_click_122 : decode cX9_click 122 = .ok (.getfield 28, 3) := by decide +kernel
theorem dX9_click_125 : decode cX9_click 125 = .ok (.iload_n 3, 1) := by decide +kernel
theorem dX9_click_126 : decode cX9_click 126 = .ok (.iload_n 3, 1) := by decide +kernel
theorem dX9_click_127 : decode cX9_click 127 = .ok (.invokevirtual 238, 3) := by decide +kernel
theorem dX9_click_130 : decode cX9_click 130 = .ok (.aload_n 0, 1) := by decide +kernel
theorem dX9_click_131 : decode cX9_click 131 = .ok (.getfield 28, 3) := by decide +kernel
theorem dX9_click_134 : decode cX9_click 134 = .ok (.iload_n 3, 1) := by decide +kernel
theorem dX9_click_135 : decode cX9_click 135 = .ok (.aload_n 0, 1) := by decide +kernel
theorem dX9_click_136 : decode cX9_click 136 = .ok (.getfield 58, 3) := by decide +kernel
theorem dX9_click_139 : decode cX9_click 139 = .ok (.invokevirtual 258, 3) := by decide +kernel
theorem dX9_click_142 : decode cX9_click 142 = .ok (.land, 1) := by decide +kernel
theorem dX9_click_143 : decode cX9_click 143 = .ok (.invokestatic 201, 3) := by decide +kernel
theorem dX9_click_146 : decode cX9_click 146 = .ok (.ireturn, 1) := by decide +kernel
def wX9_click (I : Nat → Int32) (L : Nat → Int64) (A : Nat → Nat → Int32) (B : Nat → Nat → Int64) (x1 : Int32) (x2 : Int32) (post : Int32 → (Nat → Int32) → (Nat → Int64) → (Nat → Nat → Int32) → Prop) : Prop := wX2_knows I L A B x1 (fun r5 => if r5 = 0 then (post (-1) I L A) else (if x2 < 0 then (post (-1) I L A) else (if x2 ≤ 2 then (vp_in x1 40 ∧ (∀ v3 : Int32, v3 = A 36 x1.toNatClampNeg → vp_in v3 5 ∧ (wX5_copy I L A B 19 (9 + v3.toNatClampNeg + 5) (fun I_1 L_1 A_1 => jn (fun (z : (Nat → Int32) × (Nat → Int64)) => match z with | (I_2, L_2) => jn (fun (L_3 : (Nat → Int64)) => wX7_lifted I_2 L_3 A_1 B v3 v3 (fun r127 => wX7_sift I_2 L_3 A_1 B v3 19 (fun r139 => wJ13_bitCount_95d88 (r127 &&& r139) (fun r143 => post r143 I_2 L_3 A_1)))) (fun k_1 => if x2 = 2 then (wX9_bit x1 (fun r91 => (∀ L_5, L_5 = va_up L_2 19 ((L_2 19) &&& (r91 ^^^ (-1))) → k_1 L_5))) else (wX9_bit x1 (fun r114 => (∀ L_4, L_4 = va_up L_2 19 ((L_2 19) ||| r114) → k_1 L_4))))) (fun k => if x2 = 0 then (vp_in v3 5 ∧ (if (I_1 (9 + v3.toNatClampNeg)) = 0 then (wX5_clear I_1 L_1 A_1 B 19  (fun I_3 L_6 => k (I_3, L_6))) else (k (I_1, L_1)))) else (k (I_1, L_1))))))) else (post (-1) I L A))))
abbrev rmX9_click : Room := { frames := 3, cells := 0, slots := 0, locals := 73 }
theorem wd_X9_click : Cond.instanceMethod yX9_click ∈ BW ∧ Cond.selects yX9_click.cls yX9_click yX9_click ∈ BW ∧ Cond.initialized yX9_click.cls ∈ BW ∧ Cond.code yX9_click cX9_click 4 (some .int) ∈ BW := ⟨mw_3_98, mw_3_99, mw_1_1, mw_3_100⟩
set_option maxHeartbeats 4000000 in
set_option maxRecDepth 100000 in
theorem c_X9_click {l : Launch} {D : va_G} {cy : Nat → ClassId} {ad : Nat → Nat} {Ad : Nat → Prop} (hAd : adok 103 Ad ad) (I : Nat → Int32) (L : Nat → Int64) (A : Nat → Nat → Int32) (B : Nat → Nat → Int64) (x1 : Int32) (x2 : Int32)  (post : Int32 → (Nat → Int32) → (Nat → Int64) → (Nat → Nat → Int32) → Prop) (h : wX9_click I L A B x1 x2 post) : Met l yX9_click (.code yX9_click cX9_click 4 (some .int) :: BW) rmX9_click (va_Pc [.ref (ad 0), .int x1, .int x2] (fun U => kC D cy U ∧ va_P D vwCl (wC cy ad I L A B) U.heap)) (qCi D cy ad Ad (fun r u => post r u.1 u.2.1 u.2.2.1 ∧ B = u.2.2.2)) 0 0 Ad := by
  refine startCi (by decide) (Nat.le_of_ble_eq_true rfl) (lv := [(0, .ref (ad 0)), (1, .int x1), (2, .int x2)]) rfl (fun p e s m args below meth c Q ls hx hb hml hT hown hK hret hl hP hS => ?_)
  unfold wX9_click at h
  refine lv_aload_n hx hb dX9_click_0 rfl (lv_at hl 0 rfl) ?_
  refine va_get (T := TX9) hx hb hT inlX9 hown hK.1 hP 0 he_X9 rfl 0 (by decide) (hT _ mw_2_7) (fun _ h9 => h9) rfl dX9_click_1 ?_
  refine lv_iload_n hx hb dX9_click_4 rfl (lv_at hl 1 rfl) ?_
  refine callCi (k := 1) (As := [.int x1]) (rest := []) (n := 1) (c_X2_knows hAd I L A B x1 _ h) hx hb hT hown hK hP hS mw_2_101 wd_X2_knows (by decide +kernel) ⟨rfl, rfl⟩ (by decide) rfl rfl he_X2 rfl hl.1 hml rfl (Nat.le_of_ble_eq_true rfl) dX9_click_5 ⟨Nat.zero_le _, Nat.zero_le _⟩ (fun r5 u H locs h hP hS => ?_)
  obtain ⟨Iu, Lu, Au, Bu⟩ := u
  dsimp only at h hP
  obtain ⟨h, rfl, rfl, rfl, rfl⟩ := h
  try dsimp only at h
  refine lv_if_eq (tgt := 20) hx hb dX9_click_8 (by decide) (fun hc => ?_) (fun hc => ?_)
  · rw [if_pos hc] at h
    refine lv_iconst (v := (-1)) hx hb dX9_click_20 (by decide) ?_
    exact hret _ (I, L, A, B) dX9_click_21 ⟨h, rfl⟩ hP hS
  · rw [if_neg hc] at h
    refine lv_iload_n hx hb dX9_click_11 rfl (lv_at hl 2 rfl) ?_
    refine lv_if_lt (tgt := 20) hx hb dX9_click_12 (by decide) (fun hc_1 => ?_) (fun hc_1 => ?_)
    · rw [if_pos hc_1] at h
      refine lv_iconst (v := (-1)) hx hb dX9_click_20 (by decide) ?_
      exact hret _ (I, L, A, B) dX9_click_21 ⟨h, rfl⟩ hP hS
    · rw [if_neg hc_1] at h
      refine lv_iload_n hx hb dX9_click_15 rfl (lv_at hl 2 rfl) ?_
      refine lv_iconst (v := 2) hx hb dX9_click_16 (by decide) ?_
      refine lv_icmp_le (tgt := 22) hx hb dX9_click_17 (by decide) (fun hc_2 => ?_) (fun hc_2 => ?_)
      · rw [if_pos hc_2] at h
        refine lv_aload_n hx hb dX9_click_22 rfl (lv_at hl 0 rfl) ?_
        refine va_get (T := TX9) hx hb hT inlX9 hown hK.1 hP 0 he_X9 rfl 0 (by decide) (hT _ mw_2_7) (fun _ h9 => h9) rfl dX9_click_23 ?_
        refine va_get (T := TX2) hx hb hT inlX2 hown hK.1 hP 1 he_X2 rfl 0 (by decide) (hT _ mw_1_34) (fun _ h9 => h9) rfl dX9_click_26 ?_
        refine lv_iload_n hx hb dX9_click_29 rfl (lv_at hl 1 rfl) ?_
        obtain ⟨hi, h⟩ := h
        refine lC_I hx hb hK.1 hP (by decide) rfl hi dX9_click_30 ?_
        refine lv_topi (fun v3 ev3 => ?_)
        replace h := h v3 ev3
        refine lv_istore_n (lv' := [(3, .int v3), (0, .ref (ad 0)), (1, .int x1), (2, .int x2)]) hx hb dX9_click_31 rfl hl (by decide) rfl (fun ls hl => ?_)
        refine lv_aload_n hx hb dX9_click_32 rfl (lv_at hl 1 rfl) ?_
        refine va_get (T := TX9) hx hb hT inlX9 hown hK.1 hP 0 he_X9 rfl 6 (by decide) (hT _ mw_2_13) (fun _ h9 => h9) rfl dX9_click_33 ?_
        refine lv_aload_n hx hb dX9_click_36 rfl (lv_at hl 1 rfl) ?_
        refine va_get (T := TX9) hx hb hT inlX9 hown hK.1 hP 0 he_X9 rfl 2 (by decide) (hT _ mw_2_9) (fun _ h9 => h9) rfl dX9_click_37 ?_
        refine va_get (T := TX7) hx hb hT inlX7 hown hK.1 hP 3 he_X7 rfl 2 (by decide) (hT _ mw_1_166) (fun _ h9 => h9) rfl dX9_click_40 ?_
        refine lv_iload_n hx hb dX9_click_43 rfl (lv_at hl 0 rfl) ?_
        obtain ⟨hi_1, h⟩ := h
        have hj := vp_lt hi_1
        refine lC_X hx hb hK.1 hP hi_1 dX9_click_44 ?_
        refine va_get (T := TX0) hx hb hT inlX0 hown hK.1 hP (9 + v3.toNatClampNeg) (he_X0 (by omega)) rfl 1 (by decide) (hT _ mw_1_148) (fun _ h9 => h9) rfl dX9_click_45 ?_
        refine callCv (k := 19) (As := [.ref (ad (9 + v3.toNatClampNeg + 5))]) (rest := []) (n := 1) (c_X5_copy hAd I L A B 19 (9 + v3.toNatClampNeg + 5) (by decide) (by omega) _ h) hx hb hT hown hK hP hS mw_3_101 wd_X5_copy (by decide +kernel) ⟨rfl, rfl⟩ (by decide) rfl rfl (he_X5 (by decide)) rfl hl.1 hml rfl (Nat.le_of_ble_eq_true rfl) dX9_click_48 ⟨Nat.zero_le _, Nat.zero_le _⟩ (fun u H locs h hP hS => ?_)
        obtain ⟨I_1, L_1, A_1, Bu_1⟩ := u
        dsimp only at h hP
        obtain ⟨h, rfl⟩ := h
        try dsimp only at h
        refine lv_iload_n hx hb dX9_click_51 rfl (lv_at hl 3 rfl) ?_
        obtain ⟨k, hk, h⟩ := jn_ex h
        try dsimp only at h
        have J : ∀ (I_2 : Nat → Int32) (L_2 : Nat → Int64), k (I_2, L_2) → ∀ (ls : Array Slot) (H : Heap) (locs : List Loc), lv_has ls 4 [(3, .int v3), (0, .ref (ad 0)), (1, .int x1), (2, .int x2)] → va_P D vwCl (wC cy ad I_2 L_2 A_1 B) H → va_S Ad s.heap H locs → W p l e rmX9_click s m args below meth c H locs 0 0 Q (F0 m 77 ls []) := by
          intro I_2 L_2 h ls H locs hl hP hS
          replace h := hk _ h
          try dsimp only at h
          refine lv_iload_n hx hb dX9_click_77 rfl (lv_at hl 3 rfl) ?_
          refine lv_iconst (v := 2) hx hb dX9_click_78 (by decide) ?_
          obtain ⟨k_1, hk_1, h⟩ := jn_ex h
          try dsimp only at h
          have J_1 : ∀ (L_3 : Nat → Int64), k_1 L_3 → ∀ (ls : Array Slot) (H : Heap) (locs : List Loc), lv_has ls 4 [(3, .int v3), (0, .ref (ad 0))] → va_P D vwCl (wC cy ad I_2 L_3 A_1 B) H → va_S Ad s.heap H locs → W p l e rmX9_click s m args below meth c H locs 0 0 Q (F0 m 121 ls []) := by
            intro L_3 h ls H locs hl hP hS
            replace h := hk_1 _ h
            try dsimp only at h
            refine lv_aload_n hx hb dX9_click_121 rfl (lv_at hl 1 rfl) ?_
            refine va_get (T := TX9) hx hb hT inlX9 hown hK.1 hP 0 he_X9 rfl 2 (by decide) (hT _ mw_2_9) (fun _ h9 => h9) rfl dX9_click_122 ?_
            refine lv_iload_n hx hb dX9_click_125 rfl (lv_at hl 0 rfl) ?_
            refine lv_iload_n hx hb dX9_click_126 rfl (lv_at hl 0 rfl) ?_
            refine callCl (k := 3) (As := [.int v3, .int v3]) (rest := []) (n := 2) (c_X7_lifted hAd I_2 L_3 A_1 B v3 v3 _ h) hx hb hT hown hK hP hS mw_3_76 wd_X7_lifted (by decide +kernel) ⟨rfl, rfl⟩ (by decide) rfl rfl he_X7 rfl hl.1 hml rfl (Nat.le_of_ble_eq_true rfl) dX9_click_127 ⟨Nat.zero_le _, Nat.zero_le _⟩ (fun r127 u H locs h hP hS => ?_)
            obtain ⟨Iu_1, Lu_1, Au_1, Bu_2⟩ := u
            dsimp only at h hP
            obtain ⟨h, rfl, rfl, rfl, rfl⟩ := h
            try dsimp only at h
            refine lv_aload_n hx hb dX9_click_130 rfl (lv_at hl 1 rfl) ?_
            refine va_get (T := TX9) hx hb hT inlX9 hown hK.1 hP 0 he_X9 rfl 2 (by decide) (hT _ mw_2_9) (fun _ h9 => h9) rfl dX9_click_131 ?_
            refine lv_iload_n hx hb dX9_click_134 rfl (lv_at hl 0 rfl) ?_
            refine lv_aload_n hx hb dX9_click_135 rfl (lv_at hl 1 rfl) ?_
            refine va_get (T := TX9) hx hb hT inlX9 hown hK.1 hP 0 he_X9 rfl 6 (by decide) (hT _ mw_2_13) (fun _ h9 => h9) rfl dX9_click_136 ?_
            refine callCl (k := 3) (As := [.int v3, .ref (ad 19)]) (rest := [.long r127]) (n := 2) (c_X7_sift hAd I_2 L_3 A_1 B v3 19 (by decide) _ h) hx hb hT hown hK hP hS mw_3_102 wd_X7_sift (by decide +kernel) ⟨rfl, rfl⟩ (by decide) rfl rfl he_X7 rfl hl.1 hml rfl (Nat.le_of_ble_eq_true rfl) dX9_click_139 ⟨Nat.zero_le _, Nat.zero_le _⟩ (fun r139 u H locs h hP hS => ?_)
            obtain ⟨Iu_2, Lu_2, Au_2, Bu_3⟩ := u
            dsimp only at h hP
            obtain ⟨h, rfl, rfl, rfl, rfl⟩ := h
            try dsimp only at h
            refine lv_land hx hb dX9_click_142 ?_
            refine callSCi (As := [.long (r127 &&& r139)]) (rest := []) (n := 1) (c_J13_bitCount_95d88 (r127 &&& r139) _ h) hx hb hT hown hP hS mw_3_40 wd_J13_bitCount_95d88 (by decide +kernel) ⟨rfl, rfl⟩ (by decide) rfl hl.1 hml rfl (Nat.le_of_ble_eq_true rfl) dX9_click_143 ⟨Nat.zero_le _, Nat.zero_le _⟩ (fun r143 H locs h hP hS => ?_)
            try dsimp only at h
            exact hret _ (I_2, L_3, A_1, B) dX9_click_146 ⟨h, rfl⟩ hP hS
          refine lv_icmp_ne (tgt := 105) hx hb dX9_click_79 (by decide) (fun hc_3 => ?_) (fun hc_3 => ?_)
          · rw [if_neg hc_3] at h
            refine lv_aload_n hx hb dX9_click_105 rfl (lv_at hl 1 rfl) ?_
            refine va_get (T := TX9) hx hb hT inlX9 hown hK.1 hP 0 he_X9 rfl 6 (by decide) (hT _ mw_2_13) (fun _ h9 => h9) rfl dX9_click_106 ?_
            refine lv_dup hx hb dX9_click_109 rfl ?_
            refine va_get (T := TX5) hx hb hT inlX5 hown hK.1 hP 19 (he_X5 (by decide)) rfl 0 (by decide) (hT _ mw_1_122) (fun _ h9 => h9) rfl dX9_click_110 ?_
            refine lv_iload_n hx hb dX9_click_113 rfl (lv_at hl 2 rfl) ?_
            refine callSCl (As := [.int x1]) (rest := [.long (L_2 19), .ref (ad 19)]) (n := 1) (c_X9_bit x1 _ h) hx hb hT hown hP hS mw_2_195 wd_X9_bit (by decide +kernel) ⟨rfl, rfl⟩ (by decide) rfl hl.1 hml rfl (Nat.le_of_ble_eq_true rfl) dX9_click_114 ⟨Nat.zero_le _, Nat.zero_le _⟩ (fun r114 H locs h hP hS => ?_)
            try dsimp only at h
            refine lv_lor hx hb dX9_click_117 ?_
            refine pC_X5_categories (by decide) hAd hx hb hT hown hK.1 hP hS (hT _ mw_1_122) dX9_click_118 (fun H locs hP hS => ?_)
            obtain ⟨L_4, eL_4⟩ : ∃ z, z = va_up L_2 19 ((L_2 19) ||| r114) := ⟨_, rfl⟩
            rw [← eL_4] at hP
            replace h := h L_4 eL_4
            exact J_1 L_4 h _ _ _ (lv_sub hl [0, 1] rfl) hP hS
          · rw [if_pos hc_3] at h
            refine lv_aload_n hx hb dX9_click_82 rfl (lv_at hl 1 rfl) ?_
            refine va_get (T := TX9) hx hb hT inlX9 hown hK.1 hP 0 he_X9 rfl 6 (by decide) (hT _ mw_2_13) (fun _ h9 => h9) rfl dX9_click_83 ?_
            refine lv_dup hx hb dX9_click_86 rfl ?_
            refine va_get (T := TX5) hx hb hT inlX5 hown hK.1 hP 19 (he_X5 (by decide)) rfl 0 (by decide) (hT _ mw_1_122) (fun _ h9 => h9) rfl dX9_click_87 ?_
            refine lv_iload_n hx hb dX9_click_90 rfl (lv_at hl 2 rfl) ?_
            refine callSCl (As := [.int x1]) (rest := [.long (L_2 19), .ref (ad 19)]) (n := 1) (c_X9_bit x1 _ h) hx hb hT hown hP hS mw_2_195 wd_X9_bit (by decide +kernel) ⟨rfl, rfl⟩ (by decide) rfl hl.1 hml rfl (Nat.le_of_ble_eq_true rfl) dX9_click_91 ⟨Nat.zero_le _, Nat.zero_le _⟩ (fun r91 H locs h hP hS => ?_)
            try dsimp only at h
            refine lv_ldc2 (v := (-1)) hx hb hown (hT _ mw_2_204) dX9_click_94 ?_
            refine lv_lxor hx hb dX9_click_97 ?_
            refine lv_land hx hb dX9_click_98 ?_
            refine pC_X5_categories (by decide) hAd hx hb hT hown hK.1 hP hS (hT _ mw_1_122) dX9_click_99 (fun H locs hP hS => ?_)
            obtain ⟨L_5, eL_5⟩ : ∃ z, z = va_up L_2 19 ((L_2 19) &&& (r91 ^^^ (-1))) := ⟨_, rfl⟩
            rw [← eL_5] at hP
            replace h := h L_5 eL_5
            refine lv_goto (tgt := 121) hx hb dX9_click_102 (by decide) ?_
            exact J_1 L_5 h _ _ _ (lv_sub hl [0, 1] rfl) hP hS
        refine lv_if_ne (tgt := 77) hx hb dX9_click_52 (by decide) (fun hc_4 => ?_) (fun hc_4 => ?_)
        · rw [if_neg hc_4] at h
          exact J I_1 L_1 h _ _ _ (lv_sub hl [0, 1, 2, 3] rfl) hP hS
        · rw [if_pos hc_4] at h
          refine lv_aload_n hx hb dX9_click_55 rfl (lv_at hl 1 rfl) ?_
          refine va_get (T := TX9) hx hb hT inlX9 hown hK.1 hP 0 he_X9 rfl 2 (by decide) (hT _ mw_2_9) (fun _ h9 => h9) rfl dX9_click_56 ?_
          refine va_get (T := TX7) hx hb hT inlX7 hown hK.1 hP 3 he_X7 rfl 2 (by decide) (hT _ mw_1_166) (fun _ h9 => h9) rfl dX9_click_59 ?_
          refine lv_iload_n hx hb dX9_click_62 rfl (lv_at hl 0 rfl) ?_
          obtain ⟨hi_2, h⟩ := h
          have hj_1 := vp_lt hi_2
          refine lC_X hx hb hK.1 hP hi_2 dX9_click_63 ?_
          refine va_get (T := TX0) hx hb hT inlX0 hown hK.1 hP (9 + v3.toNatClampNeg) (he_X0 (by omega)) rfl 0 (by decide) (hT _ mw_1_144) (fun _ h9 => h9) rfl dX9_click_64 ?_
          refine lv_if_ne (tgt := 77) hx hb dX9_click_67 (by decide) (fun hc_5 => ?_) (fun hc_5 => ?_)
          · rw [if_neg hc_5] at h
            exact J I_1 L_1 h _ _ _ (lv_sub hl [0, 1, 2, 3] rfl) hP hS
          · rw [if_pos hc_5] at h
            refine lv_aload_n hx hb dX9_click_70 rfl (lv_at hl 1 rfl) ?_
            refine va_get (T := TX9) hx hb hT inlX9 hown hK.1 hP 0 he_X9 rfl 6 (by decide) (hT _ mw_2_13) (fun _ h9 => h9) rfl dX9_click_71 ?_
            refine callCv (k := 19) (As := []) (rest := []) (n := 0) (c_X5_clear hAd I_1 L_1 A_1 B 19  (by decide) _ h) hx hb hT hown hK hP hS mw_3_23 wd_X5_clear (by decide +kernel) ⟨rfl, rfl⟩ (by decide) rfl rfl (he_X5 (by decide)) rfl hl.1 hml rfl (Nat.le_of_ble_eq_true rfl) dX9_click_74 ⟨Nat.zero_le _, Nat.zero_le _⟩ (fun u H locs h hP hS => ?_)
            obtain ⟨I_3, L_6, Au_3, Bu_4⟩ := u
            dsimp only at h hP
            obtain ⟨h, rfl, rfl⟩ := h
            try dsimp only at h
            exact J I_3 L_6 h _ _ _ (lv_sub hl [0, 1, 2, 3] rfl) hP hS
      · rw [if_neg hc_2] at h
        refine lv_iconst (v := (-1)) hx hb dX9_click_20 (by decide) ?_
        exact hret _ (I, L, A, B) dX9_click_21 ⟨h, rfl⟩ hP hS
theorem dX9_lift_0 : decode cX9_lift 0 = .ok (.aload_n 0, 1) := by decide +kernel
theorem dX9_lift_1 : decode cX9_lift 1 = .ok (.getfield 28, 3) := by decide +kernel
theorem dX9_lift_4 : decode cX9_lift 4 = .ok (.iload_n 1, 1) := by decide +kernel
theorem dX9_lift_5 : decode cX9_lift 5 = .ok (.invokevirtual 178, 3) := by decide +kernel
theorem dX9_lift_8 : decode cX9_lift 8 = .ok (.ifCond .eq 14, 3) := by decide +kernel
theorem dX9_lift_11 : decode cX9_lift 11 = .ok (.aload_n 0, 1) := by decide +kernel
theorem dX9_lift_12 : decode cX9_lift 12 = .ok (.getfield 28, 3) := by decide +kernel
theorem dX9_lift_15 : decode cX9_lift 15 = .ok (.iload_n 2, 1) := by decide +kernel
theorem dX9_lift_16 : decode cX9_lift 16 = .ok (.invokevirtual 178, 3) := by decide +kernel
theorem dX9_lift_19 : decode cX9_lift 19 = .ok (.ifCond .ne 5, 3) := by decide +kernel
theorem dX9_lift_22 : decode cX9_lift 22 = .ok (.iconst (-1), 1) := by decide +kernel
theorem dX9_lift_23 : decode cX9_lift 23 = .ok (.ireturn, 1) := by decide +kernel
theorem dX9_lift_24 : decode cX9_lift 24 = .ok (.aload_n 0, 1) := by decide +kernel
theorem dX9_lift_25 : decode cX9_lift 25 = .ok (.getfield 28, 3) := by decide +kernel
theorem dX9_lift_28 : decode cX9_lift 28 = .ok (.iload_n 1, 1) := by decide +kernel
theorem dX9_lift_29 : decode cX9_lift 29 = .ok (.iload_n 2, 1) := by decide +kernel
theorem dX9_lift_30 : decode cX9_lift 30 = .ok (.invokevirtual 238, 3) := by decide +kernel
theorem dX9_lift_33 : decode cX9_lift 33 = .ok (.invokestatic 201, 3) := by decide +kernel
theorem dX9_lift_36 : decode cX9_lift 36 = .ok (.ireturn, 1) := by decide +kernel
def wX9_lift (I : Nat → Int32) (L : Nat → Int64) (A : Nat → Nat → Int32) (B : Nat → Nat → Int64) (x1 : Int32) (x2 : Int32) (post : Int32 → Prop) : Prop := wX7_knows I L A B x1 (fun r5 => if r5 = 0 then (post (-1)) else (wX7_knows I L A B x2 (fun r16 => if r16 = 0 then (post (-1)) else (wX7_lifted I L A B x1 x2 (fun r30 => wJ13_bitCount_95d88 r30 (fun r33 => post r33))))))
abbrev rmX9_lift : Room := { frames := 1, cells := 0, slots := 0, locals := 25 }
theorem wd_X9_lift : Cond.instanceMethod yX9_lift ∈ BW ∧ Cond.selects yX9_lift.cls yX9_lift yX9_lift ∈ BW ∧ Cond.initialized yX9_lift.cls ∈ BW ∧ Cond.code yX9_lift cX9_lift 3 (some .int) ∈ BW := ⟨mw_3_104, mw_3_105, mw_1_1, mw_3_106⟩
set_option maxHeartbeats 4000000 in
set_option maxRecDepth 100000 in
theorem c_X9_lift {l : Launch} {D : va_G} {cy : Nat → ClassId} {ad : Nat → Nat} {Ad : Nat → Prop} (hAd : adok 103 Ad ad) (I : Nat → Int32) (L : Nat → Int64) (A : Nat → Nat → Int32) (B : Nat → Nat → Int64) (x1 : Int32) (x2 : Int32)  (post : Int32 → Prop) (h : wX9_lift I L A B x1 x2 post) : Met l yX9_lift (.code yX9_lift cX9_lift 3 (some .int) :: BW) rmX9_lift (va_Pc [.ref (ad 0), .int x1, .int x2] (fun U => kC D cy U ∧ va_P D vwCl (wC cy ad I L A B) U.heap)) (qCi D cy ad Ad (fun r u => post r  ∧ I = u.1 ∧ L = u.2.1 ∧ A = u.2.2.1 ∧ B = u.2.2.2)) 0 0 Ad := by
  refine startCi (by decide) (Nat.le_of_ble_eq_true rfl) (lv := [(0, .ref (ad 0)), (1, .int x1), (2, .int x2)]) rfl (fun p e s m args below meth c Q ls hx hb hml hT hown hK hret hl hP hS => ?_)
  unfold wX9_lift at h
  refine lv_aload_n hx hb dX9_lift_0 rfl (lv_at hl 0 rfl) ?_
  refine va_get (T := TX9) hx hb hT inlX9 hown hK.1 hP 0 he_X9 rfl 2 (by decide) (hT _ mw_2_9) (fun _ h9 => h9) rfl dX9_lift_1 ?_
  refine lv_iload_n hx hb dX9_lift_4 rfl (lv_at hl 1 rfl) ?_
  refine callCi (k := 3) (As := [.int x1]) (rest := []) (n := 1) (c_X7_knows hAd I L A B x1 _ h) hx hb hT hown hK hP hS mw_3_17 wd_X7_knows (by decide +kernel) ⟨rfl, rfl⟩ (by decide) rfl rfl he_X7 rfl hl.1 hml rfl (Nat.le_of_ble_eq_true rfl) dX9_lift_5 ⟨Nat.zero_le _, Nat.zero_le _⟩ (fun r5 u H locs h hP hS => ?_)
  obtain ⟨Iu, Lu, Au, Bu⟩ := u
  dsimp only at h hP
  obtain ⟨h, rfl, rfl, rfl, rfl⟩ := h
  try dsimp only at h
  refine lv_if_eq (tgt := 22) hx hb dX9_lift_8 (by decide) (fun hc => ?_) (fun hc => ?_)
  · rw [if_pos hc] at h
    refine lv_iconst (v := (-1)) hx hb dX9_lift_22 (by decide) ?_
    exact hret _ (I, L, A, B) dX9_lift_23 ⟨h, rfl, rfl, rfl, rfl⟩ hP hS
  · rw [if_neg hc] at h
    refine lv_aload_n hx hb dX9_lift_11 rfl (lv_at hl 0 rfl) ?_
    refine va_get (T := TX9) hx hb hT inlX9 hown hK.1 hP 0 he_X9 rfl 2 (by decide) (hT _ mw_2_9) (fun _ h9 => h9) rfl dX9_lift_12 ?_
    refine lv_iload_n hx hb dX9_lift_15 rfl (lv_at hl 2 rfl) ?_
    refine callCi (k := 3) (As := [.int x2]) (rest := []) (n := 1) (c_X7_knows hAd I L A B x2 _ h) hx hb hT hown hK hP hS mw_3_17 wd_X7_knows (by decide +kernel) ⟨rfl, rfl⟩ (by decide) rfl rfl he_X7 rfl hl.1 hml rfl (Nat.le_of_ble_eq_true rfl) dX9_lift_16 ⟨Nat.zero_le _, Nat.zero_le _⟩ (fun r16 u H locs h hP hS => ?_)
    obtain ⟨Iu_1, Lu_1, Au_1, Bu_1⟩ := u
    dsimp only at h hP
    obtain ⟨h, rfl, rfl, rfl, rfl⟩ := h
    try dsimp only at h
    refine lv_if_ne (tgt := 24) hx hb dX9_lift_19 (by decide) (fun hc_1 => ?_) (fun hc_1 => ?_)
    · rw [if_neg hc_1] at h
      refine lv_aload_n hx hb dX9_lift_24 rfl (lv_at hl 0 rfl) ?_
      refine va_get (T := TX9) hx hb hT inlX9 hown hK.1 hP 0 he_X9 rfl 2 (by decide) (hT _ mw_2_9) (fun _ h9 => h9) rfl dX9_lift_25 ?_
      refine lv_iload_n hx hb dX9_lift_28 rfl (lv_at hl 1 rfl) ?_
      refine lv_iload_n hx hb dX9_lift_29 rfl (lv_at hl 2 rfl) ?_
      refine callCl (k := 3) (As := [.int x1, .int x2]) (rest := []) (n := 2) (c_X7_lifted hAd I L A B x1 x2 _ h) hx hb hT hown hK hP hS mw_3_76 wd_X7_lifted (by decide +kernel) ⟨rfl, rfl⟩ (by decide) rfl rfl he_X7 rfl hl.1 hml rfl (Nat.le_of_ble_eq_true rfl) dX9_lift_30 ⟨Nat.zero_le _, Nat.zero_le _⟩ (fun r30 u H locs h hP hS => ?_)
      obtain ⟨Iu_2, Lu_2, Au_2, Bu_2⟩ := u
      dsimp only at h hP
      obtain ⟨h, rfl, rfl, rfl, rfl⟩ := h
      try dsimp only at h
      refine callSCi (As := [.long r30]) (rest := []) (n := 1) (c_J13_bitCount_95d88 r30 _ h) hx hb hT hown hP hS mw_3_40 wd_J13_bitCount_95d88 (by decide +kernel) ⟨rfl, rfl⟩ (by decide) rfl hl.1 hml rfl (Nat.le_of_ble_eq_true rfl) dX9_lift_33 ⟨Nat.zero_le _, Nat.zero_le _⟩ (fun r33 H locs h hP hS => ?_)
      try dsimp only at h
      exact hret _ (I, L, A, B) dX9_lift_36 ⟨h, rfl, rfl, rfl, rfl⟩ hP hS
    · rw [if_pos hc_1] at h
      refine lv_iconst (v := (-1)) hx hb dX9_lift_22 (by decide) ?_
      exact hret _ (I, L, A, B) dX9_lift_23 ⟨h, rfl, rfl, rfl, rfl⟩ hP hS
theorem dX9_sums_0 : decode cX9_sums 0 = .ok (.aload_n 0, 1) := by decide +kernel
theorem dX9_sums_1 : decode cX9_sums 1 = .ok (.getfield 10, 3) := by decide +kernel
theorem dX9_sums_4 : decode cX9_sums 4 = .ok (.iload_n 1, 1) := by decide +kernel
theorem dX9_sums_5 : decode cX9_sums 5 = .ok (.invokevirtual 93, 3) := by decide +kernel
theorem dX9_sums_8 : decode cX9_sums 8 = .ok (.ifCond .eq 12, 3) := by decide +kernel
theorem dX9_sums_11 : decode cX9_sums 11 = .ok (.iload_n 2, 1) := by decide +kernel
theorem dX9_sums_12 : decode cX9_sums 12 = .ok (.ifCond .lt 8, 3) := by decide +kernel
theorem dX9_sums_15 : decode cX9_sums 15 = .ok (.iload_n 2, 1) := by decide +kernel
theorem dX9_sums_16 : decode cX9_sums 16 = .ok (.iconst 1, 1) := by decide +kernel
theorem dX9_sums_17 : decode cX9_sums 17 = .ok (.if_icmp .le 5, 3) := by decide +kernel
theorem dX9_sums_20 : decode cX9_sums 20 = .ok (.iconst (-1), 1) := by decide +kernel
theorem dX9_sums_21 : decode cX9_sums 21 = .ok (.ireturn, 1) := by decide +kernel
theorem dX9_sums_22 : decode cX9_sums 22 = .ok (.aload_n 0, 1) := by decide +kernel
theorem dX9_sums_23 : decode cX9_sums 23 = .ok (.getfield 28, 3) := by decide +kernel
theorem dX9_sums_26 : decode cX9_sums 26 = .ok (.aload_n 0, 1) := by decide +kernel
theorem dX9_sums_27 : decode cX9_sums 27 = .ok (.getfield 10, 3) := by decide +kernel
theorem dX9_sums_30 : decode cX9_sums 30 = .ok (.getfield 96, 3) := by decide +kernel
theorem dX9_sums_33 : decode cX9_sums 33 = .ok (.iload_n 1, 1) := by decide +kernel
theorem dX9_sums_34 : decode cX9_sums 34 = .ok (.iaload, 1) := by decide +kernel
theorem dX9_sums_35 : decode cX9_sums 35 = .ok (.invokevirtual 245, 3) := by decide +kernel
theorem dX9_sums_38 : decode cX9_sums 38 = .ok (.lstore_n 3, 1) := by decide +kernel
theorem dX9_sums_39 : decode cX9_sums 39 = .ok (.lload_n 3, 1) := by decide +kernel
theorem dX9_sums_40 : decode cX9_sums 40 = .ok (.aload_n 0, 1) := by decide +kernel
theorem dX9_sums_41 : decode cX9_sums 41 = .ok (.getfield 10, 3) := by decide +kernel
theorem dX9_sums_44 : decode cX9_sums 44 = .ok (.getfield 125, 3) := by decide +kernel
theorem dX9_sums_47 : decode cX9_sums 47 = .ok (.iload_n 1, 1) := by decide +kernel
theorem dX9_sums_48 : decode cX9_sums 48 = .ok (.laload, 1) := by decide +kernel
theorem dX9_sums_49 : decode cX9_sums 49 = .ok (.land, 1) := by decide +kernel
theorem dX9_sums_50 : decode cX9_sums 50 = .ok (.invokestatic 201, 3) := by decide +kernel
theorem dX9_sums_53 : decode cX9_sums 53 = .ok (.istore 5, 2) := by decide +kernel
theorem dX9_sums_55 : decode cX9_sums 55 = .ok (.iload_n 2, 1) := by decide +kernel
theorem dX9_sums_56 : decode cX9_sums 56 = .ok (.ifCond .ne 6, 3) := by decide +kernel
theorem dX9_sums_59 : decode cX9_sums 59 = .ok (.iload 5, 2) := by decide +kernel
theorem dX9_sums_61 : decode cX9_sums 61 = .ok (.ireturn, 1) := by decide +kernel
theorem dX9_sums_62 : decode cX9_sums 62 = .ok (.iload 5, 2) := by decide +kernel
theorem dX9_sums_64 : decode cX9_sums 64 = .ok (.istore 6, 2) := by decide +kernel
theorem dX9_sums_66 : decode cX9_sums 66 = .ok (.iconst 0, 1) := by decide +kernel
theorem dX9_sums_67 : decode cX9_sums 67 = .ok (.istore 7, 2) := by decide +kernel
theorem dX9_sums_69 : decode cX9_sums 69 = .ok (.iload 7, 2) := by decide +kernel
theorem dX9_sums_71 : decode cX9_sums 71 = .ok (.aload_n 0, 1) := by decide +kernel
theorem dX9_sums_72 : decode cX9_sums 72 = .ok (.getfield 10, 3) := by decide +kernel
theorem dX9_sums_75 : decode cX9_sums 75 = .ok (.getfield 81, 3) := by decide +kernel
theorem dX9_sums_78 : decode cX9_sums 78 = .ok (.if_icmp .ge 43, 3) := by decide +kernel
theorem dX9_sums_81 : decode cX9_sums 81 = .ok (.aload_n 0, 1) := by decide +kernel
theorem dX9_sums_82 : decode cX9_sums 82 = .ok (.getfield 10, 3) := by decide +kernel
theorem dX9_sums_85 : decode cX9_sums 85 = .ok (.getfield 195, 3) := by decide +kernel
theorem dX9_sums_88 : decode cX9_sums 88 = .ok (.iload 7, 2) := by decide +kernel
theorem dX9_sums_90 : decode cX9_sums 90 = .ok (.iaload, 1) := by decide +kernel
theorem dX9_sums_91 : decode cX9_sums 91 = .ok (.iload_n 1, 1) := by decide +kernel
theorem dX9_sums_92 : decode cX9_sums 92 = .ok (.if_icmp .ne 23, 3) := by decide +kernel
theorem dX9_sums_95 : decode cX9_sums 95 = .ok (.iload 6, 2) := by decide +kernel
theorem dX9_sums_97 : decode cX9_sums 97 = .ok (.lload_n 3, 1) := by decide +kernel
theorem dX9_sums_98 : decode cX9_sums 98 = .ok (.aload_n 0, 1) := by decide +kernel
theorem dX9_sums_99 : decode cX9_sums 99 = .ok (.getfield 10, 3) := by decide +kernel
theorem dX9_sums_102 : decode cX9_sums 102 = .ok (.getfield 224, 3) := by decide +kernel
theorem dX9_sums_105 : decode cX9_sums 105 = .ok (.iload 7, 2) := by decide +kernel
theorem dX9_sums_107 : decode cX9_sums 107 = .ok (.laload, 1) := by decide +kernel
theorem dX9_sums_108 : decode cX9_sums 108 = .ok (.land, 1) := by decide +kernel
theorem dX9_sums_109 : decode cX9_sums 109 = .ok (.invokestatic 201, 3) := by decide +kernel
theorem dX9_sums_112 : decode cX9_sums 112 = .ok (.iadd, 1) := by decide +kernel
theorem dX9_sums_113 : decode cX9_sums 113 = .ok (.istore 6, 2) := by decide +kernel
theorem dX9_sums_115 : decode cX9_sums 115 = .ok (.iinc 7 1, 3) := by decide +kernel
theorem dX9_sums_118 : decode cX9_sums 118 = .ok (.goto (-49), 3) := by decide +kernel
theorem dX9_sums_121 : decode cX9_sums 121 = .ok (.iload 6, 2) := by decide +kernel
theorem dX9_sums_123 : decode cX9_sums 123 = .ok (.lload_n 3, 1) := by decide +kernel
theorem dX9_sums_124 : decode cX9_sums 124 = .ok (.aload_n 0, 1) := by decide +kernel
theorem dX9_sums_125 : decode cX9_sums 125 = .ok (.getfield 10, 3) := by decide +kernel
theorem dX9_sums_128 : decode cX9_sums 128 = .ok (.getfield 224, 3) := by decide +kernel
theorem dX9_sums_131 : decode cX9_sums 131 = .ok (.iload_n 1, 1) := by decide +kernel
theorem dX9_sums_132 : decode cX9_sums 132 = .ok (.laload, 1) := by decide +kernel
theorem dX9_sums_133 : decode cX9_sums 133 = .ok (.land, 1) := by decide +kernel
theorem dX9_sums_134 : decode cX9_sums 134 = .ok (.invokestatic 201, 3) := by decide +kernel
theorem dX9_sums_137 : decode cX9_sums 137 = .ok (.isub, 1) := by decide +kernel
theorem dX9_sums_138 : decode cX9_sums 138 = .ok (.ireturn, 1) := by decide +kernel
def wX9_sums (I : Nat → Int32) (L : Nat → Int64) (A : Nat → Nat → Int32) (B : Nat → Nat → Int64) (x1 : Int32) (x2 : Int32) (post : Int32 → Prop) : Prop := wX2_knows I L A B x1 (fun r5 => if r5 = 0 then (post (-1)) else (if x2 < 0 then (post (-1)) else (if x2 ≤ 1 then (vp_in x1 40 ∧ (wX7_audience I L A B (A 36 x1.toNatClampNeg) (fun r35 => vp_in x1 40 ∧ (wJ13_bitCount_95d88 (r35 &&& (B 39 x1.toNatClampNeg)) (fun r50 => if x2 = 0 then (post r50) else (∃ n, lfix (fun (r : (Int32 × Int32) → Prop) (v7, v6) => if (I 1) ≤ v7 then (vp_in x1 40 ∧ (wJ13_bitCount_95d88 (r35 &&& (B 40 x1.toNatClampNeg)) (fun r134 => post (v6 - r134)))) else (vp_in v7 40 ∧ (if (A 37 v7.toNatClampNeg) = x1 then (vp_in v7 40 ∧ (wJ13_bitCount_95d88 (r35 &&& (B 40 v7.toNatClampNeg)) (fun r109 => ∀ v6_1 : Int32, v6_1 = v6 + r109 → ∀ v7_2 : Int32, v7_2 = v7 + 1 → r (v7_2, v6_1)))) else (∀ v7_1 : Int32, v7_1 = v7 + 1 → r (v7_1, v6))))) n (0, r50))))))) else (post (-1)))))
abbrev rmX9_sums : Room := { frames := 3, cells := 0, slots := 0, locals := 66 }
theorem wd_X9_sums : Cond.instanceMethod yX9_sums ∈ BW ∧ Cond.selects yX9_sums.cls yX9_sums yX9_sums ∈ BW ∧ Cond.initialized yX9_sums.cls ∈ BW ∧ Cond.code yX9_sums cX9_sums 8 (some .int) ∈ BW := ⟨mw_3_108, mw_3_109, mw_1_1, mw_3_110⟩
set_option maxHeartbeats 4000000 in
set_option maxRecDepth 100000 in
theorem c_X9_sums {l : Launch} {D : va_G} {cy : Nat → ClassId} {ad : Nat → Nat} {Ad : Nat → Prop} (hAd : adok 103 Ad ad) (I : Nat → Int32) (L : Nat → Int64) (A : Nat → Nat → Int32) (B : Nat → Nat → Int64) (x1 : Int32) (x2 : Int32)  (post : Int32 → Prop) (h : wX9_sums I L A B x1 x2 post) : Met l yX9_sums (.code yX9_sums cX9_sums 8 (some .int) :: BW) rmX9_sums (va_Pc [.ref (ad 0), .int x1, .int x2] (fun U => kC D cy U ∧ va_P D vwCl (wC cy ad I L A B) U.heap)) (qCi D cy ad Ad (fun r u => post r  ∧ I = u.1 ∧ L = u.2.1 ∧ A = u.2.2.1 ∧ B = u.2.2.2)) 0 0 Ad := by
  refine startCi (by decide) (Nat.le_of_ble_eq_true rfl) (lv := [(0, .ref (ad 0)), (1, .int x1), (2, .int x2)]) rfl (fun p e s m args below meth c Q ls hx hb hml hT hown hK hret hl hP hS => ?_)
  unfold wX9_sums at h
  refine lv_aload_n hx hb dX9_sums_0 rfl (lv_at hl 0 rfl) ?_
  refine va_get (T := TX9) hx hb hT inlX9 hown hK.1 hP 0 he_X9 rfl 0 (by decide) (hT _ mw_2_7) (fun _ h9 => h9) rfl dX9_sums_1 ?_
  refine lv_iload_n hx hb dX9_sums_4 rfl (lv_at hl 1 rfl) ?_
  refine callCi (k := 1) (As := [.int x1]) (rest := []) (n := 1) (c_X2_knows hAd I L A B x1 _ h) hx hb hT hown hK hP hS mw_2_101 wd_X2_knows (by decide +kernel) ⟨rfl, rfl⟩ (by decide) rfl rfl he_X2 rfl hl.1 hml rfl (Nat.le_of_ble_eq_true rfl) dX9_sums_5 ⟨Nat.zero_le _, Nat.zero_le _⟩ (fun r5 u H locs h hP hS => ?_)
  obtain ⟨Iu, Lu, Au, Bu⟩ := u
  dsimp only at h hP
  obtain ⟨h, rfl, rfl, rfl, rfl⟩ := h
  try dsimp only at h
  refine lv_if_eq (tgt := 20) hx hb dX9_sums_8 (by decide) (fun hc => ?_) (fun hc => ?_)
  · rw [if_pos hc] at h
    refine lv_iconst (v := (-1)) hx hb dX9_sums_20 (by decide) ?_
    exact hret _ (I, L, A, B) dX9_sums_21 ⟨h, rfl, rfl, rfl, rfl⟩ hP hS
  · rw [if_neg hc] at h
    refine lv_iload_n hx hb dX9_sums_11 rfl (lv_at hl 2 rfl) ?_
    refine lv_if_lt (tgt := 20) hx hb dX9_sums_12 (by decide) (fun hc_1 => ?_) (fun hc_1 => ?_)
    · rw [if_pos hc_1] at h
      refine lv_iconst (v := (-1)) hx hb dX9_sums_20 (by decide) ?_
      exact hret _ (I, L, A, B) dX9_sums_21 ⟨h, rfl, rfl, rfl, rfl⟩ hP hS
    · rw [if_neg hc_1] at h
      refine lv_iload_n hx hb dX9_sums_15 rfl (lv_at hl 2 rfl) ?_
      refine lv_iconst (v := 1) hx hb dX9_sums_16 (by decide) ?_
      refine lv_icmp_le (tgt := 22) hx hb dX9_sums_17 (by decide) (fun hc_2 => ?_) (fun hc_2 => ?_)
      · rw [if_pos hc_2] at h
        refine lv_aload_n hx hb dX9_sums_22 rfl (lv_at hl 0 rfl) ?_
        refine va_get (T := TX9) hx hb hT inlX9 hown hK.1 hP 0 he_X9 rfl 2 (by decide) (hT _ mw_2_9) (fun _ h9 => h9) rfl dX9_sums_23 ?_
        refine lv_aload_n hx hb dX9_sums_26 rfl (lv_at hl 0 rfl) ?_
        refine va_get (T := TX9) hx hb hT inlX9 hown hK.1 hP 0 he_X9 rfl 0 (by decide) (hT _ mw_2_7) (fun _ h9 => h9) rfl dX9_sums_27 ?_
        refine va_get (T := TX2) hx hb hT inlX2 hown hK.1 hP 1 he_X2 rfl 0 (by decide) (hT _ mw_1_34) (fun _ h9 => h9) rfl dX9_sums_30 ?_
        refine lv_iload_n hx hb dX9_sums_33 rfl (lv_at hl 1 rfl) ?_
        obtain ⟨hi, h⟩ := h
        refine lC_I hx hb hK.1 hP (by decide) rfl hi dX9_sums_34 ?_
        refine callCl (k := 3) (As := [.int (A 36 x1.toNatClampNeg)]) (rest := []) (n := 1) (c_X7_audience hAd I L A B (A 36 x1.toNatClampNeg) _ h) hx hb hT hown hK hP hS mw_3_95 wd_X7_audience (by decide +kernel) ⟨rfl, rfl⟩ (by decide) rfl rfl he_X7 rfl hl.1 hml rfl (Nat.le_of_ble_eq_true rfl) dX9_sums_35 ⟨Nat.zero_le _, Nat.zero_le _⟩ (fun r35 u H locs h hP hS => ?_)
        obtain ⟨Iu_1, Lu_1, Au_1, Bu_1⟩ := u
        dsimp only at h hP
        obtain ⟨h, rfl, rfl, rfl, rfl⟩ := h
        try dsimp only at h
        refine lv_lstore_n (lv' := [(3, .long r35), (0, .ref (ad 0)), (1, .int x1), (2, .int x2)]) hx hb dX9_sums_38 rfl hl (by decide) rfl (fun ls hl => ?_)
        refine lv_lload_n hx hb dX9_sums_39 rfl (lv_at hl 0 rfl) ?_
        refine lv_aload_n hx hb dX9_sums_40 rfl (lv_at hl 1 rfl) ?_
        refine va_get (T := TX9) hx hb hT inlX9 hown hK.1 hP 0 he_X9 rfl 0 (by decide) (hT _ mw_2_7) (fun _ h9 => h9) rfl dX9_sums_41 ?_
        refine va_get (T := TX2) hx hb hT inlX2 hown hK.1 hP 1 he_X2 rfl 3 (by decide) (hT _ mw_1_41) (fun _ h9 => h9) rfl dX9_sums_44 ?_
        refine lv_iload_n hx hb dX9_sums_47 rfl (lv_at hl 2 rfl) ?_
        obtain ⟨hi_1, h⟩ := h
        refine lC_J hx hb hK.1 hP (by decide) rfl hi_1 dX9_sums_48 ?_
        refine lv_land hx hb dX9_sums_49 ?_
        refine callSCi (As := [.long (r35 &&& (B 39 x1.toNatClampNeg))]) (rest := []) (n := 1) (c_J13_bitCount_95d88 (r35 &&& (B 39 x1.toNatClampNeg)) _ h) hx hb hT hown hP hS mw_3_40 wd_J13_bitCount_95d88 (by decide +kernel) ⟨rfl, rfl⟩ (by decide) rfl hl.1 hml rfl (Nat.le_of_ble_eq_true rfl) dX9_sums_50 ⟨Nat.zero_le _, Nat.zero_le _⟩ (fun r50 H locs h hP hS => ?_)
        try dsimp only at h
        refine lv_istore (lv' := [(5, .int r50), (3, .long r35), (0, .ref (ad 0)), (1, .int x1), (2, .int x2)]) hx hb dX9_sums_53 hl (by decide) rfl (fun ls hl => ?_)
        refine lv_iload_n hx hb dX9_sums_55 rfl (lv_at hl 4 rfl) ?_
        refine lv_if_ne (tgt := 62) hx hb dX9_sums_56 (by decide) (fun hc_3 => ?_) (fun hc_3 => ?_)
        · rw [if_neg hc_3] at h
          refine lv_iload hx hb dX9_sums_62 (lv_at hl 0 rfl) ?_
          refine lv_istore (lv' := [(6, .int r50), (5, .int r50), (3, .long r35), (0, .ref (ad 0)), (1, .int x1), (2, .int x2)]) hx hb dX9_sums_64 hl (by decide) rfl (fun ls hl => ?_)
          refine lv_iconst (v := 0) hx hb dX9_sums_66 (by decide) ?_
          refine lv_istore (lv' := [(7, .int 0), (6, .int r50), (5, .int r50), (3, .long r35), (0, .ref (ad 0)), (1, .int x1), (2, .int x2)]) hx hb dX9_sums_67 hl (by decide) rfl (fun ls hl => ?_)
          obtain ⟨F, n, h, hF, hG⟩ := lfix_ex h
          have LP : ∀ (n : Nat) (v7 : Int32) (v6 : Int32) (ls : Array Slot) (H : Heap) (locs : List Loc), F n (v7, v6) → lv_has ls 8 [(7, .int v7), (6, .int v6), (3, .long r35), (0, .ref (ad 0)), (1, .int x1)] → va_P D vwCl (wC cy ad I L A B) H → va_S Ad s.heap H locs → W p l e rmX9_sums s m args below meth c H locs 0 0 Q (F0 m 69 ls []) := by
            intro n
            induction n with
            | zero => intro v7 v6 ls H locs h _ _ _; exact absurd h (hF _)
            | succ n ih =>
              intro v7 v6 ls H locs h hl hP hS
              replace h := hG _ _ h
              try dsimp only at h
              refine lv_iload hx hb dX9_sums_69 (lv_at hl 0 rfl) ?_
              refine lv_aload_n hx hb dX9_sums_71 rfl (lv_at hl 3 rfl) ?_
              refine va_get (T := TX9) hx hb hT inlX9 hown hK.1 hP 0 he_X9 rfl 0 (by decide) (hT _ mw_2_7) (fun _ h9 => h9) rfl dX9_sums_72 ?_
              refine va_get (T := TX2) hx hb hT inlX2 hown hK.1 hP 1 he_X2 rfl 5 (by decide) (hT _ mw_1_46) (fun _ h9 => h9) rfl dX9_sums_75 ?_
              refine lv_icmp_ge (tgt := 121) hx hb dX9_sums_78 (by decide) (fun hc_4 => ?_) (fun hc_4 => ?_)
              · rw [if_pos hc_4] at h
                refine lv_iload hx hb dX9_sums_121 (lv_at hl 1 rfl) ?_
                refine lv_lload_n hx hb dX9_sums_123 rfl (lv_at hl 2 rfl) ?_
                refine lv_aload_n hx hb dX9_sums_124 rfl (lv_at hl 3 rfl) ?_
                refine va_get (T := TX9) hx hb hT inlX9 hown hK.1 hP 0 he_X9 rfl 0 (by decide) (hT _ mw_2_7) (fun _ h9 => h9) rfl dX9_sums_125 ?_
                refine va_get (T := TX2) hx hb hT inlX2 hown hK.1 hP 1 he_X2 rfl 4 (by decide) (hT _ mw_1_44) (fun _ h9 => h9) rfl dX9_sums_128 ?_
                refine lv_iload_n hx hb dX9_sums_131 rfl (lv_at hl 4 rfl) ?_
                obtain ⟨hi_2, h⟩ := h
                refine lC_J hx hb hK.1 hP (by decide) rfl hi_2 dX9_sums_132 ?_
                refine lv_land hx hb dX9_sums_133 ?_
                refine callSCi (As := [.long (r35 &&& (B 40 x1.toNatClampNeg))]) (rest := [.int v6]) (n := 1) (c_J13_bitCount_95d88 (r35 &&& (B 40 x1.toNatClampNeg)) _ h) hx hb hT hown hP hS mw_3_40 wd_J13_bitCount_95d88 (by decide +kernel) ⟨rfl, rfl⟩ (by decide) rfl hl.1 hml rfl (Nat.le_of_ble_eq_true rfl) dX9_sums_134 ⟨Nat.zero_le _, Nat.zero_le _⟩ (fun r134 H locs h hP hS => ?_)
                try dsimp only at h
                refine lv_isub hx hb dX9_sums_137 ?_
                exact hret _ (I, L, A, B) dX9_sums_138 ⟨h, rfl, rfl, rfl, rfl⟩ hP hS
              · rw [if_neg hc_4] at h
                refine lv_aload_n hx hb dX9_sums_81 rfl (lv_at hl 3 rfl) ?_
                refine va_get (T := TX9) hx hb hT inlX9 hown hK.1 hP 0 he_X9 rfl 0 (by decide) (hT _ mw_2_7) (fun _ h9 => h9) rfl dX9_sums_82 ?_
                refine va_get (T := TX2) hx hb hT inlX2 hown hK.1 hP 1 he_X2 rfl 1 (by decide) (hT _ mw_1_37) (fun _ h9 => h9) rfl dX9_sums_85 ?_
                refine lv_iload hx hb dX9_sums_88 (lv_at hl 0 rfl) ?_
                obtain ⟨hi_3, h⟩ := h
                refine lC_I hx hb hK.1 hP (by decide) rfl hi_3 dX9_sums_90 ?_
                refine lv_iload_n hx hb dX9_sums_91 rfl (lv_at hl 4 rfl) ?_
                refine lv_icmp_ne (tgt := 115) hx hb dX9_sums_92 (by decide) (fun hc_5 => ?_) (fun hc_5 => ?_)
                · rw [if_neg hc_5] at h
                  obtain ⟨v7_1, ev7_1⟩ : ∃ z : Int32, z = v7 + 1 := ⟨_, rfl⟩
                  replace h := h v7_1 ev7_1
                  refine lv_iinc (v := v7_1) (lv' := [(7, .int v7_1), (6, .int v6), (3, .long r35), (0, .ref (ad 0)), (1, .int x1)]) hx hb dX9_sums_115 hl (k := 0) rfl (by rw [ev7_1]; rfl) (by decide) rfl (fun ls hl => ?_)
                  refine lv_goto (tgt := 69) hx hb dX9_sums_118 (by decide) ?_
                  exact ih v7_1 v6 _ _ _ h (lv_sub hl [0, 1, 2, 3, 4] rfl) hP hS
                · rw [if_pos hc_5] at h
                  refine lv_iload hx hb dX9_sums_95 (lv_at hl 1 rfl) ?_
                  refine lv_lload_n hx hb dX9_sums_97 rfl (lv_at hl 2 rfl) ?_
                  refine lv_aload_n hx hb dX9_sums_98 rfl (lv_at hl 3 rfl) ?_
                  refine va_get (T := TX9) hx hb hT inlX9 hown hK.1 hP 0 he_X9 rfl 0 (by decide) (hT _ mw_2_7) (fun _ h9 => h9) rfl dX9_sums_99 ?_
                  refine va_get (T := TX2) hx hb hT inlX2 hown hK.1 hP 1 he_X2 rfl 4 (by decide) (hT _ mw_1_44) (fun _ h9 => h9) rfl dX9_sums_102 ?_
                  refine lv_iload hx hb dX9_sums_105 (lv_at hl 0 rfl) ?_
                  obtain ⟨hi_4, h⟩ := h
                  refine lC_J hx hb hK.1 hP (by decide) rfl hi_4 dX9_sums_107 ?_
                  refine lv_land hx hb dX9_sums_108 ?_
                  refine callSCi (As := [.long (r35 &&& (B 40 v7.toNatClampNeg))]) (rest := [.int v6]) (n := 1) (c_J13_bitCount_95d88 (r35 &&& (B 40 v7.toNatClampNeg)) _ h) hx hb hT hown hP hS mw_3_40 wd_J13_bitCount_95d88 (by decide +kernel) ⟨rfl, rfl⟩ (by decide) rfl hl.1 hml rfl (Nat.le_of_ble_eq_true rfl) dX9_sums_109 ⟨Nat.zero_le _, Nat.zero_le _⟩ (fun r109 H locs h hP hS => ?_)
                  try dsimp only at h
                  refine lv_iadd hx hb dX9_sums_112 ?_
                  refine lv_topi (fun v6_1 ev6_1 => ?_)
                  replace h := h v6_1 ev6_1
                  refine lv_istore (lv' := [(6, .int v6_1), (7, .int v7), (3, .long r35), (0, .ref (ad 0)), (1, .int x1)]) hx hb dX9_sums_113 hl (by decide) rfl (fun ls hl => ?_)
                  obtain ⟨v7_2, ev7_2⟩ : ∃ z : Int32, z = v7 + 1 := ⟨_, rfl⟩
                  replace h := h v7_2 ev7_2
                  refine lv_iinc (v := v7_2) (lv' := [(7, .int v7_2), (6, .int v6_1), (3, .long r35), (0, .ref (ad 0)), (1, .int x1)]) hx hb dX9_sums_115 hl (k := 1) rfl (by rw [ev7_2]; rfl) (by decide) rfl (fun ls hl => ?_)
                  refine lv_goto (tgt := 69) hx hb dX9_sums_118 (by decide) ?_
                  exact ih v7_2 v6_1 _ _ _ h (lv_sub hl [0, 1, 2, 3, 4] rfl) hP hS
          exact LP _ 0 r50 _ _ _ h (lv_sub hl [0, 1, 3, 4, 5] rfl) hP hS
        · rw [if_pos hc_3] at h
          refine lv_iload hx hb dX9_sums_59 (lv_at hl 0 rfl) ?_
          exact hret _ (I, L, A, B) dX9_sums_61 ⟨h, rfl, rfl, rfl, rfl⟩ hP hS
      · rw [if_neg hc_2] at h
        refine lv_iconst (v := (-1)) hx hb dX9_sums_20 (by decide) ?_
        exact hret _ (I, L, A, B) dX9_sums_21 ⟨h, rfl, rfl, rfl, rfl⟩ hP hS
theorem dX9_sets_0 : decode cX9_sets 0 = .ok (.aload_n 0, 1) := by decide +kernel
theorem dX9_sets_1 : decode cX9_sets 1 = .ok (.getfield 28, 3) := by decide +kernel
theorem dX9_sets_4 : decode cX9_sets 4 = .ok (.iload_n 1, 1) := by decide +kernel
theorem dX9_sets_5 : decode cX9_sets 5 = .ok (.invokevirtual 77, 3) := by decide +kernel
theorem dX9_sets_8 : decode cX9_sets 8 = .ok (.ifCond .eq 12, 3) := by decide +kernel
theorem dX9_sets_11 : decode cX9_sets 11 = .ok (.iload_n 2, 1) := by decide +kernel
theorem dX9_sets_12 : decode cX9_sets 12 = .ok (.ifCond .lt 8, 3) := by decide +kernel
theorem dX9_sets_15 : decode cX9_sets 15 = .ok (.iload_n 2, 1) := by decide +kernel
theorem dX9_sets_16 : decode cX9_sets 16 = .ok (.iconst 1, 1) := by decide +kernel
theorem dX9_sets_17 : decode cX9_sets 17 = .ok (.if_icmp .le 5, 3) := by decide +kernel
theorem dX9_sets_20 : decode cX9_sets 20 = .ok (.lconst 0, 1) := by decide +kernel
theorem dX9_sets_21 : decode cX9_sets 21 = .ok (.lreturn, 1) := by decide +kernel
theorem dX9_sets_22 : decode cX9_sets 22 = .ok (.aload_n 0, 1) := by decide +kernel
theorem dX9_sets_23 : decode cX9_sets 23 = .ok (.getfield 28, 3) := by decide +kernel
theorem dX9_sets_26 : decode cX9_sets 26 = .ok (.iload_n 1, 1) := by decide +kernel
theorem dX9_sets_27 : decode cX9_sets 27 = .ok (.invokevirtual 245, 3) := by decide +kernel
theorem dX9_sets_30 : decode cX9_sets 30 = .ok (.lstore_n 3, 1) := by decide +kernel
theorem dX9_sets_31 : decode cX9_sets 31 = .ok (.lconst 0, 1) := by decide +kernel
theorem dX9_sets_32 : decode cX9_sets 32 = .ok (.lstore 5, 2) := by decide +kernel
theorem dX9_sets_34 : decode cX9_sets 34 = .ok (.iconst 0, 1) := by decide +kernel
theorem dX9_sets_35 : decode cX9_sets 35 = .ok (.istore 7, 2) := by decide +kernel
theorem dX9_sets_37 : decode cX9_sets 37 = .ok (.iload 7, 2) := by decide +kernel
theorem dX9_sets_39 : decode cX9_sets 39 = .ok (.aload_n 0, 1) := by decide +kernel
theorem dX9_sets_40 : decode cX9_sets 40 = .ok (.getfield 10, 3) := by decide +kernel
theorem dX9_sets_43 : decode cX9_sets 43 = .ok (.getfield 81, 3) := by decide +kernel
theorem dX9_sets_46 : decode cX9_sets 46 = .ok (.if_icmp .ge 74, 3) := by decide +kernel
theorem dX9_sets_49 : decode cX9_sets 49 = .ok (.aload_n 0, 1) := by decide +kernel
theorem dX9_sets_50 : decode cX9_sets 50 = .ok (.getfield 10, 3) := by decide +kernel
theorem dX9_sets_53 : decode cX9_sets 53 = .ok (.getfield 96, 3) := by decide +kernel
theorem dX9_sets_56 : decode cX9_sets 56 = .ok (.iload 7, 2) := by decide +kernel
theorem dX9_sets_58 : decode cX9_sets 58 = .ok (.iaload, 1) := by decide +kernel
theorem dX9_sets_59 : decode cX9_sets 59 = .ok (.iload_n 1, 1) := by decide +kernel
theorem dX9_sets_60 : decode cX9_sets 60 = .ok (.if_icmp .eq 6, 3) := by decide +kernel
theorem dX9_sets_63 : decode cX9_sets 63 = .ok (.goto 51, 3) := by decide +kernel
theorem dX9_sets_66 : decode cX9_sets 66 = .ok (.iload_n 2, 1) := by decide +kernel
theorem dX9_sets_67 : decode cX9_sets 67 = .ok (.ifCond .ne 18, 3) := by decide +kernel
theorem dX9_sets_70 : decode cX9_sets 70 = .ok (.lload_n 3, 1) := by decide +kernel
theorem dX9_sets_71 : decode cX9_sets 71 = .ok (.aload_n 0, 1) := by decide +kernel
theorem dX9_sets_72 : decode cX9_sets 72 = .ok (.getfield 10, 3) := by decide +kernel
theorem dX9_sets_75 : decode cX9_sets 75 = .ok (.getfield 224, 3) := by decide +kernel
theorem dX9_sets_78 : decode cX9_sets 78 = .ok (.iload 7, 2) := by decide +kernel
theorem dX9_sets_80 : decode cX9_sets 80 = .ok (.laload, 1) := by decide +kernel
theorem dX9_sets_81 : decode cX9_sets 81 = .ok (.land, 1) := by decide +kernel
theorem dX9_sets_82 : decode cX9_sets 82 = .ok (.goto 13, 3) := by decide +kernel
theorem dX9_sets_85 : decode cX9_sets 85 = .ok (.aload_n 0, 1) := by decide +kernel
theorem dX9_sets_86 : decode cX9_sets 86 = .ok (.getfield 10, 3) := by decide +kernel
theorem dX9_sets_89 : decode cX9_sets 89 = .ok (.getfield 100, 3) := by decide +kernel
theorem dX9_sets_92 : decode cX9_sets 92 = .ok (.iload 7, 2) := by decide +kernel
theorem dX9_sets_94 : decode cX9_sets 94 = .ok (.laload, 1) := by decide +kernel
theorem dX9_sets_95 : decode cX9_sets 95 = .ok (.lstore 8, 2) := by decide +kernel
theorem dX9_sets_97 : decode cX9_sets 97 = .ok (.lload 8, 2) := by decide +kernel
theorem dX9_sets_99 : decode cX9_sets 99 = .ok (.lconst 0, 1) := by decide +kernel
theorem dX9_sets_100 : decode cX9_sets 100 = .ok (.lcmp, 1) := by decide +kernel
theorem dX9_sets_101 : decode cX9_sets 101 = .ok (.ifCond .ne 13, 3) := by decide +kernel
theorem dX9_sets_104 : decode cX9_sets 104 = .ok (.lload 5, 2) := by decide +kernel
theorem dX9_sets_106 : decode cX9_sets 106 = .ok (.iload 7, 2) := by decide +kernel
theorem dX9_sets_108 : decode cX9_sets 108 = .ok (.invokestatic 147, 3) := by decide +kernel
theorem dX9_sets_111 : decode cX9_sets 111 = .ok (.lor, 1) := by decide +kernel
theorem dX9_sets_112 : decode cX9_sets 112 = .ok (.lstore 5, 2) := by decide +kernel
theorem dX9_sets_114 : decode cX9_sets 114 = .ok (.iinc 7 1, 3) := by decide +kernel
theorem dX9_sets_117 : decode cX9_sets 117 = .ok (.goto (-80), 3) := by decide +kernel
theorem dX9_sets_120 : decode cX9_sets 120 = .ok (.lload 5, 2) := by decide +kernel
theorem dX9_sets_122 : decode cX9_sets 122 = .ok (.lreturn, 1) := by decide +kernel
def wX9_sets (I : Nat → Int32) (L : Nat → Int64) (A : Nat → Nat → Int32) (B : Nat → Nat → Int64) (x1 : Int32) (x2 : Int32) (post : Int64 → Prop) : Prop := wX7_isTree I L A B x1 (fun r5 => if r5 = 0 then (post 0) else (if x2 < 0 then (post 0) else (if x2 ≤ 1 then (wX7_audience I L A B x1 (fun r27 => ∃ n, lfix (fun (r : (Int32 × Int64) → Prop) (v7, v5) => if (I 1) ≤ v7 then (post v5) else (vp_in v7 40 ∧ (if (A 36 v7.toNatClampNeg) = x1 then (jn (fun (t : Int64) => if (lg_cmp t 0) = 0 then (wX9_bit v7 (fun r108 => ∀ v5_1 : Int64, v5_1 = v5 ||| r108 → ∀ v7_2 : Int32, v7_2 = v7 + 1 → r (v7_2, v5_1))) else (∀ v7_1 : Int32, v7_1 = v7 + 1 → r (v7_1, v5))) (fun k => if x2 = 0 then (vp_in v7 40 ∧ (k (r27 &&& (B 40 v7.toNatClampNeg)))) else (vp_in v7 40 ∧ (k (B 38 v7.toNatClampNeg))))) else (∀ v7_3 : Int32, v7_3 = v7 + 1 → r (v7_3, v5))))) n (0, 0))) else (post 0))))
abbrev rmX9_sets : Room := { frames := 3, cells := 0, slots := 0, locals := 66 }
theorem wd_X9_sets : Cond.instanceMethod yX9_sets ∈ BW ∧ Cond.selects yX9_sets.cls yX9_sets yX9_sets ∈ BW ∧ Cond.initialized yX9_sets.cls ∈ BW ∧ Cond.code yX9_sets cX9_sets 10 (some .long) ∈ BW := ⟨mw_3_112, mw_3_113, mw_1_1, mw_3_114⟩
set_option maxHeartbeats 4000000 in
set_option maxRecDepth 100000 in
theorem c_X9_sets {l : Launch} {D : va_G} {cy : Nat → ClassId} {ad : Nat → Nat} {Ad : Nat → Prop} (hAd : adok 103 Ad ad) (I : Nat → Int32) (L : Nat → Int64) (A : Nat → Nat → Int32) (B : Nat → Nat → Int64) (x1 : Int32) (x2 : Int32)  (post : Int64 → Prop) (h : wX9_sets I L A B x1 x2 post) : Met l yX9_sets (.code yX9_sets cX9_sets 10 (some .long) :: BW) rmX9_sets (va_Pc [.ref (ad 0), .int x1, .int x2] (fun U => kC D cy U ∧ va_P D vwCl (wC cy ad I L A B) U.heap)) (qCl D cy ad Ad (fun r u => post r  ∧ I = u.1 ∧ L = u.2.1 ∧ A = u.2.2.1 ∧ B = u.2.2.2)) 0 0 Ad := by
  refine startCl (by decide) (Nat.le_of_ble_eq_true rfl) (lv := [(0, .ref (ad 0)), (1, .int x1), (2, .int x2)]) rfl (fun p e s m args below meth c Q ls hx hb hml hT hown hK hret hl hP hS => ?_)
  unfold wX9_sets at h
  refine lv_aload_n hx hb dX9_sets_0 rfl (lv_at hl 0 rfl) ?_
  refine va_get (T := TX9) hx hb hT inlX9 hown hK.1 hP 0 he_X9 rfl 2 (by decide) (hT _ mw_2_9) (fun _ h9 => h9) rfl dX9_sets_1 ?_
  refine lv_iload_n hx hb dX9_sets_4 rfl (lv_at hl 1 rfl) ?_
  refine callCi (k := 3) (As := [.int x1]) (rest := []) (n := 1) (c_X7_isTree hAd I L A B x1 _ h) hx hb hT hown hK hP hS mw_2_89 wd_X7_isTree (by decide +kernel) ⟨rfl, rfl⟩ (by decide) rfl rfl he_X7 rfl hl.1 hml rfl (Nat.le_of_ble_eq_true rfl) dX9_sets_5 ⟨Nat.zero_le _, Nat.zero_le _⟩ (fun r5 u H locs h hP hS => ?_)
  obtain ⟨Iu, Lu, Au, Bu⟩ := u
  dsimp only at h hP
  obtain ⟨h, rfl, rfl, rfl, rfl⟩ := h
  try dsimp only at h
  refine lv_if_eq (tgt := 20) hx hb dX9_sets_8 (by decide) (fun hc => ?_) (fun hc => ?_)
  · rw [if_pos hc] at h
    refine lv_lconst (v := 0) hx hb dX9_sets_20 (by decide) ?_
    exact hret _ (I, L, A, B) dX9_sets_21 ⟨h, rfl, rfl, rfl, rfl⟩ hP hS
  · rw [if_neg hc] at h
    refine lv_iload_n hx hb dX9_sets_11 rfl (lv_at hl 2 rfl) ?_
    refine lv_if_lt (tgt := 20) hx hb dX9_sets_12 (by decide) (fun hc_1 => ?_) (fun hc_1 => ?_)
    · rw [if_pos hc_1] at h
      refine lv_lconst (v := 0) hx hb dX9_sets_20 (by decide) ?_
      exact hret _ (I, L, A, B) dX9_sets_21 ⟨h, rfl, rfl, rfl, rfl⟩ hP hS
    · rw [if_neg hc_1] at h
      refine lv_iload_n hx hb dX9_sets_15 rfl (lv_at hl 2 rfl) ?_
      refine lv_iconst (v := 1) hx hb dX9_sets_16 (by decide) ?_
      refine lv_icmp_le (tgt := 22) hx hb dX9_sets_17 (by decide) (fun hc_2 => ?_) (fun hc_2 => ?_)
      · rw [if_pos hc_2] at h
        refine lv_aload_n hx hb dX9_sets_22 rfl (lv_at hl 0 rfl) ?_
        refine va_get (T := TX9) hx hb hT inlX9 hown hK.1 hP 0 he_X9 rfl 2 (by decide) (hT _ mw_2_9) (fun _ h9 => h9) rfl dX9_sets_23 ?_
        refine lv_iload_n hx hb dX9_sets_26 rfl (lv_at hl 1 rfl) ?_
        refine callCl (k := 3) (As := [.int x1]) (rest := []) (n := 1) (c_X7_audience hAd I L A B x1 _ h) hx hb hT hown hK hP hS mw_3_95 wd_X7_audience (by decide +kernel) ⟨rfl, rfl⟩ (by decide) rfl rfl he_X7 rfl hl.1 hml rfl (Nat.le_of_ble_eq_true rfl) dX9_sets_27 ⟨Nat.zero_le _, Nat.zero_le _⟩ (fun r27 u H locs h hP hS => ?_)
        obtain ⟨Iu_1, Lu_1, Au_1, Bu_1⟩ := u
        dsimp only at h hP
        obtain ⟨h, rfl, rfl, rfl, rfl⟩ := h
        try dsimp only at h
        refine lv_lstore_n (lv' := [(3, .long r27), (0, .ref (ad 0)), (1, .int x1), (2, .int x2)]) hx hb dX9_sets_30 rfl hl (by decide) rfl (fun ls hl => ?_)
        refine lv_lconst (v := 0) hx hb dX9_sets_31 (by decide) ?_
        refine lv_lstore (lv' := [(5, .long 0), (3, .long r27), (0, .ref (ad 0)), (1, .int x1), (2, .int x2)]) hx hb dX9_sets_32 hl (by decide) rfl (fun ls hl => ?_)
        refine lv_iconst (v := 0) hx hb dX9_sets_34 (by decide) ?_
        refine lv_istore (lv' := [(7, .int 0), (5, .long 0), (3, .long r27), (0, .ref (ad 0)), (1, .int x1), (2, .int x2)]) hx hb dX9_sets_35 hl (by decide) rfl (fun ls hl => ?_)
        obtain ⟨F, n, h, hF, hG⟩ := lfix_ex h
        have LP : ∀ (n : Nat) (v7 : Int32) (v5 : Int64) (ls : Array Slot) (H : Heap) (locs : List Loc), F n (v7, v5) → lv_has ls 10 [(7, .int v7), (5, .long v5), (3, .long r27), (0, .ref (ad 0)), (1, .int x1), (2, .int x2)] → va_P D vwCl (wC cy ad I L A B) H → va_S Ad s.heap H locs → W p l e rmX9_sets s m args below meth c H locs 0 0 Q (F0 m 37 ls []) := by
          intro n
          induction n with
          | zero => intro v7 v5 ls H locs h _ _ _; exact absurd h (hF _)
          | succ n ih =>
            intro v7 v5 ls H locs h hl hP hS
            replace h := hG _ _ h
            try dsimp only at h
            refine lv_iload hx hb dX9_sets_37 (lv_at hl 0 rfl) ?_
            refine lv_aload_n hx hb dX9_sets_39 rfl (lv_at hl 3 rfl) ?_
            refine va_get (T := TX9) hx hb hT inlX9 hown hK.1 hP 0 he_X9 rfl 0 (by decide) (hT _ mw_2_7) (fun _ h9 => h9) rfl dX9_sets_40 ?_
            refine va_get (T := TX2) hx hb hT inlX2 hown hK.1 hP 1 he_X2 rfl 5 (by decide) (hT _ mw_1_46) (fun _ h9 => h9) rfl dX9_sets_43 ?_
            refine lv_icmp_ge (tgt := 120) hx hb dX9_sets_46 (by decide) (fun hc_3 => ?_) (fun hc_3 => ?_)
            · rw [if_pos hc_3] at h
              refine lv_lload hx hb dX9_sets_120 (lv_at hl 1 rfl) ?_
              exact hret _ (I, L, A, B) dX9_sets_122 ⟨h, rfl, rfl, rfl, rfl⟩ hP hS
            · rw [if_neg hc_3] at h
              refine lv_aload_n hx hb dX9_sets_49 rfl (lv_at hl 3 rfl) ?_
              refine va_get (T := TX9) hx hb hT inlX9 hown hK.1 hP 0 he_X9 rfl 0 (by decide) (hT _ mw_2_7) (fun _ h9 => h9) rfl dX9_sets_50 ?_
              refine va_get (T := TX2) hx hb hT inlX2 hown hK.1 hP 1 he_X2 rfl 0 (by decide) (hT _ mw_1_34) (fun _ h9 => h9) rfl dX9_sets_53 ?_
              refine lv_iload hx hb dX9_sets_56 (lv_at hl 0 rfl) ?_
              obtain ⟨hi, h⟩ := h
              refine lC_I hx hb hK.1 hP (by decide) rfl hi dX9_sets_58 ?_
              refine lv_iload_n hx hb dX9_sets_59 rfl (lv_at hl 4 rfl) ?_
              refine lv_icmp_eq (tgt := 66) hx hb dX9_sets_60 (by decide) (fun hc_4 => ?_) (fun hc_4 => ?_)
              · rw [if_pos hc_4] at h
                refine lv_iload_n hx hb dX9_sets_66 rfl (lv_at hl 5 rfl) ?_
                obtain ⟨k, hk, h⟩ := jn_ex h
                try dsimp only at h
                have J : ∀ (t : Int64), k t → ∀ (ls : Array Slot) (H : Heap) (locs : List Loc), lv_has ls 10 [(7, .int v7), (5, .long v5), (3, .long r27), (0, .ref (ad 0)), (1, .int x1), (2, .int x2)] → va_P D vwCl (wC cy ad I L A B) H → va_S Ad s.heap H locs → W p l e rmX9_sets s m args below meth c H locs 0 0 Q (F0 m 95 ls [.long t]) := by
                  intro t h ls H locs hl hP hS
                  replace h := hk _ h
                  try dsimp only at h
                  refine lv_lstore (lv' := [(8, .long t), (7, .int v7), (5, .long v5), (3, .long r27), (0, .ref (ad 0)), (1, .int x1), (2, .int x2)]) hx hb dX9_sets_95 hl (by decide) rfl (fun ls hl => ?_)
                  refine lv_lload hx hb dX9_sets_97 (lv_at hl 0 rfl) ?_
                  refine lv_lconst (v := 0) hx hb dX9_sets_99 (by decide) ?_
                  refine W.lcmp hx hb dX9_sets_100 ?_
                  refine lv_if_ne (tgt := 114) hx hb dX9_sets_101 (by decide) (fun hc_5 => ?_) (fun hc_5 => ?_)
                  · rw [if_neg hc_5] at h
                    obtain ⟨v7_1, ev7_1⟩ : ∃ z : Int32, z = v7 + 1 := ⟨_, rfl⟩
                    replace h := h v7_1 ev7_1
                    refine lv_iinc (v := v7_1) (lv' := [(7, .int v7_1), (8, .long t), (5, .long v5), (3, .long r27), (0, .ref (ad 0)), (1, .int x1), (2, .int x2)]) hx hb dX9_sets_114 hl (k := 1) rfl (by rw [ev7_1]; rfl) (by decide) rfl (fun ls hl => ?_)
                    refine lv_goto (tgt := 37) hx hb dX9_sets_117 (by decide) ?_
                    exact ih v7_1 v5 _ _ _ h (lv_sub hl [0, 2, 3, 4, 5, 6] rfl) hP hS
                  · rw [if_pos hc_5] at h
                    refine lv_lload hx hb dX9_sets_104 (lv_at hl 2 rfl) ?_
                    refine lv_iload hx hb dX9_sets_106 (lv_at hl 1 rfl) ?_
                    refine callSCl (As := [.int v7]) (rest := [.long v5]) (n := 1) (c_X9_bit v7 _ h) hx hb hT hown hP hS mw_2_195 wd_X9_bit (by decide +kernel) ⟨rfl, rfl⟩ (by decide) rfl hl.1 hml rfl (Nat.le_of_ble_eq_true rfl) dX9_sets_108 ⟨Nat.zero_le _, Nat.zero_le _⟩ (fun r108 H locs h hP hS => ?_)
                    try dsimp only at h
                    refine lv_lor hx hb dX9_sets_111 ?_
                    refine lv_topl (fun v5_1 ev5_1 => ?_)
                    replace h := h v5_1 ev5_1
                    refine lv_lstore (lv' := [(5, .long v5_1), (8, .long t), (7, .int v7), (3, .long r27), (0, .ref (ad 0)), (1, .int x1), (2, .int x2)]) hx hb dX9_sets_112 hl (by decide) rfl (fun ls hl => ?_)
                    obtain ⟨v7_2, ev7_2⟩ : ∃ z : Int32, z = v7 + 1 := ⟨_, rfl⟩
                    replace h := h v7_2 ev7_2
                    refine lv_iinc (v := v7_2) (lv' := [(7, .int v7_2), (5, .long v5_1), (8, .long t), (3, .long r27), (0, .ref (ad 0)), (1, .int x1), (2, .int x2)]) hx hb dX9_sets_114 hl (k := 2) rfl (by rw [ev7_2]; rfl) (by decide) rfl (fun ls hl => ?_)
                    refine lv_goto (tgt := 37) hx hb dX9_sets_117 (by decide) ?_
                    exact ih v7_2 v5_1 _ _ _ h (lv_sub hl [0, 1, 3, 4, 5, 6] rfl) hP hS
                refine lv_if_ne (tgt := 85) hx hb dX9_sets_67 (by decide) (fun hc_6 => ?_) (fun hc_6 => ?_)
                · rw [if_neg hc_6] at h
                  refine lv_aload_n hx hb dX9_sets_85 rfl (lv_at hl 3 rfl) ?_
                  refine va_get (T := TX9) hx hb hT inlX9 hown hK.1 hP 0 he_X9 rfl 0 (by decide) (hT _ mw_2_7) (fun _ h9 => h9) rfl dX9_sets_86 ?_
                  refine va_get (T := TX2) hx hb hT inlX2 hown hK.1 hP 1 he_X2 rfl 2 (by decide) (hT _ mw_1_39) (fun _ h9 => h9) rfl dX9_sets_89 ?_
                  refine lv_iload hx hb dX9_sets_92 (lv_at hl 0 rfl) ?_
                  obtain ⟨hi_1, h⟩ := h
                  refine lC_J hx hb hK.1 hP (by decide) rfl hi_1 dX9_sets_94 ?_
                  exact J (B 38 v7.toNatClampNeg) h _ _ _ (lv_sub hl [0, 1, 2, 3, 4, 5] rfl) hP hS
                · rw [if_pos hc_6] at h
                  refine lv_lload_n hx hb dX9_sets_70 rfl (lv_at hl 2 rfl) ?_
                  refine lv_aload_n hx hb dX9_sets_71 rfl (lv_at hl 3 rfl) ?_
                  refine va_get (T := TX9) hx hb hT inlX9 hown hK.1 hP 0 he_X9 rfl 0 (by decide) (hT _ mw_2_7) (fun _ h9 => h9) rfl dX9_sets_72 ?_
                  refine va_get (T := TX2) hx hb hT inlX2 hown hK.1 hP 1 he_X2 rfl 4 (by decide) (hT _ mw_1_44) (fun _ h9 => h9) rfl dX9_sets_75 ?_
                  refine lv_iload hx hb dX9_sets_78 (lv_at hl 0 rfl) ?_
                  obtain ⟨hi_2, h⟩ := h
                  refine lC_J hx hb hK.1 hP (by decide) rfl hi_2 dX9_sets_80 ?_
                  refine lv_land hx hb dX9_sets_81 ?_
                  refine lv_goto (tgt := 95) hx hb dX9_sets_82 (by decide) ?_
                  exact J (r27 &&& (B 40 v7.toNatClampNeg)) h _ _ _ (lv_sub hl [0, 1, 2, 3, 4, 5] rfl) hP hS
              · rw [if_neg hc_4] at h
                refine lv_goto (tgt := 114) hx hb dX9_sets_63 (by decide) ?_
                obtain ⟨v7_3, ev7_3⟩ : ∃ z : Int32, z = v7 + 1 := ⟨_, rfl⟩
                replace h := h v7_3 ev7_3
                refine lv_iinc (v := v7_3) (lv' := [(7, .int v7_3), (5, .long v5), (3, .long r27), (0, .ref (ad 0)), (1, .int x1), (2, .int x2)]) hx hb dX9_sets_114 hl (k := 0) rfl (by rw [ev7_3]; rfl) (by decide) rfl (fun ls hl => ?_)
                refine lv_goto (tgt := 37) hx hb dX9_sets_117 (by decide) ?_
                exact ih v7_3 v5 _ _ _ h (lv_sub hl [0, 1, 2, 3, 4, 5] rfl) hP hS
        exact LP _ 0 0 _ _ _ h (lv_sub hl [0, 1, 2, 3, 4, 5] rfl) hP hS
      · rw [if_neg hc_2] at h
        refine lv_lconst (v := 0) hx hb dX9_sets_20 (by decide) ?_
        exact hret _ (I, L, A, B) dX9_sets_21 ⟨h, rfl, rfl, rfl, rfl⟩ hP hS
theorem dX9_canBin_0 : decode cX9_canBin 0 = .ok (.aload_n 0, 1) := by decide +kernel
theorem dX9_canBin_1 : decode cX9_canBin 1 = .ok (.getfield 28, 3) := by decide +kernel
theorem dX9_canBin_4 : decode cX9_canBin 4 = .ok (.iload_n 1, 1) := by decide +kernel
theorem dX9_canBin_5 : decode cX9_canBin 5 = .ok (.invokevirtual 131, 3) := by decide +kernel
theorem dX9_canBin_8 : decode cX9_canBin 8 = .ok (.ifCond .eq 18, 3) := by decide +kernel
theorem dX9_canBin_11 : decode cX9_canBin 11 = .ok (.iload_n 2, 1) := by decide +kernel
theorem dX9_canBin_12 : decode cX9_canBin 12 = .ok (.iconst 1, 1) := by decide +kernel
theorem dX9_canBin_13 : decode cX9_canBin 13 = .ok (.if_icmp .lt 13, 3) := by decide +kernel
theorem dX9_canBin_16 : decode cX9_canBin 16 = .ok (.iload_n 2, 1) := by decide +kernel
theorem dX9_canBin_17 : decode cX9_canBin 17 = .ok (.bipush 8, 2) := by decide +kernel
theorem dX9_canBin_19 : decode cX9_canBin 19 = .ok (.if_icmp .gt 7, 3) := by decide +kernel
theorem dX9_canBin_22 : decode cX9_canBin 22 = .ok (.iconst 1, 1) := by decide +kernel
theorem dX9_canBin_23 : decode cX9_canBin 23 = .ok (.goto 4, 3) := by decide +kernel
theorem dX9_canBin_26 : decode cX9_canBin 26 = .ok (.iconst 0, 1) := by decide +kernel
theorem dX9_canBin_27 : decode cX9_canBin 27 = .ok (.ireturn, 1) := by decide +kernel
def wX9_canBin (I : Nat → Int32) (L : Nat → Int64) (A : Nat → Nat → Int32) (B : Nat → Nat → Int64) (x1 : Int32) (x2 : Int32) (post : Int32 → Prop) : Prop := wX7_isNumeric I L A B x1 (fun r5 => if r5 = 0 then (post 0) else (if x2 < 1 then (post 0) else (if 8 < x2 then (post 0) else (post 1))))
abbrev rmX9_canBin : Room := { frames := 2, cells := 0, slots := 0, locals := 42 }
theorem wd_X9_canBin : Cond.instanceMethod yX9_canBin ∈ BW ∧ Cond.selects yX9_canBin.cls yX9_canBin yX9_canBin ∈ BW ∧ Cond.initialized yX9_canBin.cls ∈ BW ∧ Cond.code yX9_canBin cX9_canBin 3 (some .boolean) ∈ BW := ⟨mw_3_121, mp_8, mw_1_1, mw_3_122⟩
set_option maxHeartbeats 4000000 in
set_option maxRecDepth 100000 in
theorem c_X9_canBin {l : Launch} {D : va_G} {cy : Nat → ClassId} {ad : Nat → Nat} {Ad : Nat → Prop} (hAd : adok 103 Ad ad) (I : Nat → Int32) (L : Nat → Int64) (A : Nat → Nat → Int32) (B : Nat → Nat → Int64) (x1 : Int32) (x2 : Int32)  (post : Int32 → Prop) (h : wX9_canBin I L A B x1 x2 post) : Met l yX9_canBin (.code yX9_canBin cX9_canBin 3 (some .boolean) :: BW) rmX9_canBin (va_Pc [.ref (ad 0), .int x1, .int x2] (fun U => kC D cy U ∧ va_P D vwCl (wC cy ad I L A B) U.heap)) (qCi D cy ad Ad (fun r u => post r  ∧ I = u.1 ∧ L = u.2.1 ∧ A = u.2.2.1 ∧ B = u.2.2.2)) 0 0 Ad := by
  refine startCz (by decide) (Nat.le_of_ble_eq_true rfl) (lv := [(0, .ref (ad 0)), (1, .int x1), (2, .int x2)]) rfl (fun p e s m args below meth c Q ls hx hb hml hT hown hK hret hl hP hS => ?_)
  unfold wX9_canBin at h
  refine lv_aload_n hx hb dX9_canBin_0 rfl (lv_at hl 0 rfl) ?_
  refine va_get (T := TX9) hx hb hT inlX9 hown hK.1 hP 0 he_X9 rfl 2 (by decide) (hT _ mw_2_9) (fun _ h9 => h9) rfl dX9_canBin_1 ?_
  refine lv_iload_n hx hb dX9_canBin_4 rfl (lv_at hl 1 rfl) ?_
  refine callCi (k := 3) (As := [.int x1]) (rest := []) (n := 1) (c_X7_isNumeric hAd I L A B x1 _ h) hx hb hT hown hK hP hS mw_2_191 wd_X7_isNumeric (by decide +kernel) ⟨rfl, rfl⟩ (by decide) rfl rfl he_X7 rfl hl.1 hml rfl (Nat.le_of_ble_eq_true rfl) dX9_canBin_5 ⟨Nat.zero_le _, Nat.zero_le _⟩ (fun r5 u H locs h hP hS => ?_)
  obtain ⟨Iu, Lu, Au, Bu⟩ := u
  dsimp only at h hP
  obtain ⟨h, rfl, rfl, rfl, rfl⟩ := h
  try dsimp only at h
  refine lv_if_eq (tgt := 26) hx hb dX9_canBin_8 (by decide) (fun hc => ?_) (fun hc => ?_)
  · rw [if_pos hc] at h
    refine lv_iconst (v := 0) hx hb dX9_canBin_26 (by decide) ?_
    exact hret _ (I, L, A, B) zb_0 dX9_canBin_27 ⟨h, rfl, rfl, rfl, rfl⟩ hP hS
  · rw [if_neg hc] at h
    refine lv_iload_n hx hb dX9_canBin_11 rfl (lv_at hl 2 rfl) ?_
    refine lv_iconst (v := 1) hx hb dX9_canBin_12 (by decide) ?_
    refine lv_icmp_lt (tgt := 26) hx hb dX9_canBin_13 (by decide) (fun hc_1 => ?_) (fun hc_1 => ?_)
    · rw [if_pos hc_1] at h
      refine lv_iconst (v := 0) hx hb dX9_canBin_26 (by decide) ?_
      exact hret _ (I, L, A, B) zb_0 dX9_canBin_27 ⟨h, rfl, rfl, rfl, rfl⟩ hP hS
    · rw [if_neg hc_1] at h
      refine lv_iload_n hx hb dX9_canBin_16 rfl (lv_at hl 2 rfl) ?_
      refine lv_bipush (v := 8) hx hb dX9_canBin_17 (by decide) ?_
      refine lv_icmp_gt (tgt := 26) hx hb dX9_canBin_19 (by decide) (fun hc_2 => ?_) (fun hc_2 => ?_)
      · rw [if_pos hc_2] at h
        refine lv_iconst (v := 0) hx hb dX9_canBin_26 (by decide) ?_
        exact hret _ (I, L, A, B) zb_0 dX9_canBin_27 ⟨h, rfl, rfl, rfl, rfl⟩ hP hS
      · rw [if_neg hc_2] at h
        refine lv_iconst (v := 1) hx hb dX9_canBin_22 (by decide) ?_
        refine lv_goto (tgt := 27) hx hb dX9_canBin_23 (by decide) ?_
        exact hret _ (I, L, A, B) zb_1 dX9_canBin_27 ⟨h, rfl, rfl, rfl, rfl⟩ hP hS
theorem dX9_fillRow_0 : decode cX9_fillRow 0 = .ok (.lload_n 2, 1) := by decide +kernel
theorem dX9_fillRow_1 : decode cX9_fillRow 1 = .ok (.aload_n 0, 1) := by decide +kernel
theorem dX9_fillRow_2 : decode cX9_fillRow 2 = .ok (.getfield 28, 3) := by decide +kernel
theorem dX9_fillRow_5 : decode cX9_fillRow 5 = .ok (.getfield 134, 3) := by decide +kernel
theorem dX9_fillRow_8 : decode cX9_fillRow 8 = .ok (.iload_n 1, 1) := by decide +kernel
theorem dX9_fillRow_9 : decode cX9_fillRow 9 = .ok (.aaload, 1) := by decide +kernel
theorem dX9_fillRow_10 : decode cX9_fillRow 10 = .ok (.getfield 143, 3) := by decide +kernel
theorem dX9_fillRow_13 : decode cX9_fillRow 13 = .ok (.land, 1) := by decide +kernel
theorem dX9_fillRow_14 : decode cX9_fillRow 14 = .ok (.lstore 4, 2) := by decide +kernel
theorem dX9_fillRow_16 : decode cX9_fillRow 16 = .ok (.aload_n 0, 1) := by decide +kernel
theorem dX9_fillRow_17 : decode cX9_fillRow 17 = .ok (.getfield 51, 3) := by decide +kernel
theorem dX9_fillRow_20 : decode cX9_fillRow 20 = .ok (.invokevirtual 338, 3) := by decide +kernel
theorem dX9_fillRow_23 : decode cX9_fillRow 23 = .ok (.iconst 0, 1) := by decide +kernel
theorem dX9_fillRow_24 : decode cX9_fillRow 24 = .ok (.istore 6, 2) := by decide +kernel
theorem dX9_fillRow_26 : decode cX9_fillRow 26 = .ok (.iload 6, 2) := by decide +kernel
theorem dX9_fillRow_28 : decode cX9_fillRow 28 = .ok (.aload_n 0, 1) := by decide +kernel
theorem dX9_fillRow_29 : decode cX9_fillRow 29 = .ok (.getfield 19, 3) := by decide +kernel
theorem dX9_fillRow_32 : decode cX9_fillRow 32 = .ok (.getfield 118, 3) := by decide +kernel
theorem dX9_fillRow_35 : decode cX9_fillRow 35 = .ok (.if_icmp .ge 41, 3) := by decide +kernel
theorem dX9_fillRow_38 : decode cX9_fillRow 38 = .ok (.lload 4, 2) := by decide +kernel
theorem dX9_fillRow_40 : decode cX9_fillRow 40 = .ok (.iload 6, 2) := by decide +kernel
theorem dX9_fillRow_42 : decode cX9_fillRow 42 = .ok (.invokestatic 104, 3) := by decide +kernel
theorem dX9_fillRow_45 : decode cX9_fillRow 45 = .ok (.ifCond .eq 25, 3) := by decide +kernel
theorem dX9_fillRow_48 : decode cX9_fillRow 48 = .ok (.aload_n 0, 1) := by decide +kernel
theorem dX9_fillRow_49 : decode cX9_fillRow 49 = .ok (.getfield 51, 3) := by decide +kernel
theorem dX9_fillRow_52 : decode cX9_fillRow 52 = .ok (.aload_n 0, 1) := by decide +kernel
theorem dX9_fillRow_53 : decode cX9_fillRow 53 = .ok (.getfield 28, 3) := by decide +kernel
theorem dX9_fillRow_56 : decode cX9_fillRow 56 = .ok (.getfield 134, 3) := by decide +kernel
theorem dX9_fillRow_59 : decode cX9_fillRow 59 = .ok (.iload_n 1, 1) := by decide +kernel
theorem dX9_fillRow_60 : decode cX9_fillRow 60 = .ok (.aaload, 1) := by decide +kernel
theorem dX9_fillRow_61 : decode cX9_fillRow 61 = .ok (.getfield 138, 3) := by decide +kernel
theorem dX9_fillRow_64 : decode cX9_fillRow 64 = .ok (.iload 6, 2) := by decide +kernel
theorem dX9_fillRow_66 : decode cX9_fillRow 66 = .ok (.iaload, 1) := by decide +kernel
theorem dX9_fillRow_67 : decode cX9_fillRow 67 = .ok (.invokevirtual 339, 3) := by decide +kernel
theorem dX9_fillRow_70 : decode cX9_fillRow 70 = .ok (.iinc 6 1, 3) := by decide +kernel
theorem dX9_fillRow_73 : decode cX9_fillRow 73 = .ok (.goto (-47), 3) := by decide +kernel
theorem dX9_fillRow_76 : decode cX9_fillRow 76 = .ok (.return_, 1) := by decide +kernel
def wX9_fillRow (I : Nat → Int32) (L : Nat → Int64) (A : Nat → Nat → Int32) (B : Nat → Nat → Int64) (x1 : Int32) (x2 : Int64) (post : (Nat → Int32) → (Nat → Nat → Int32) → Prop) : Prop := vp_in x1 5 ∧ (∀ v4 : Int64, v4 = x2 &&& (L (9 + x1.toNatClampNeg)) → wX4_clear I L A B  (fun I_1 => ∃ n, lfix (fun (r : (Int32 × (Nat → Int32) × (Nat → Nat → Int32)) → Prop) (v6, I_2, A_1) => if (I_2 2) ≤ v6 then (post I_2 A_1) else (wX9_inSet v4 v6 (fun r42 => if r42 = 0 then (∀ v6_1 : Int32, v6_1 = v6 + 1 → r (v6_1, I_2, A_1)) else (vp_in x1 5 ∧ (vp_in v6 40 ∧ (wX4_put I_2 L A_1 B (A_1 (9 + x1.toNatClampNeg + 45) v6.toNatClampNeg) (fun I_3 A_2 => ∀ v6_2 : Int32, v6_2 = v6 + 1 → r (v6_2, I_3, A_2)))))))) n (0, I_1, A)))
abbrev rmX9_fillRow : Room := { frames := 1, cells := 0, slots := 0, locals := 22 }
theorem wd_X9_fillRow : Cond.instanceMethod yX9_fillRow ∈ BW ∧ Cond.selects yX9_fillRow.cls yX9_fillRow yX9_fillRow ∈ BW ∧ Cond.initialized yX9_fillRow.cls ∈ BW ∧ Cond.code yX9_fillRow cX9_fillRow 7 (none : Option Jvm.ClassFile.FieldType) ∈ BW := ⟨mw_3_125, mp_9, mw_1_1, mw_3_126⟩
set_option maxHeartbeats 4000000 in
set_option maxRecDepth 100000 in
theorem c_X9_fillRow {l : Launch} {D : va_G} {cy : Nat → ClassId} {ad : Nat → Nat} {Ad : Nat → Prop} (hAd : adok 103 Ad ad) (I : Nat → Int32) (L : Nat → Int64) (A : Nat → Nat → Int32) (B : Nat → Nat → Int64) (x1 : Int32) (x2 : Int64)  (post : (Nat → Int32) → (Nat → Nat → Int32) → Prop) (h : wX9_fillRow I L A B x1 x2 post) : Met l yX9_fillRow (.code yX9_fillRow cX9_fillRow 7 (none : Option Jvm.ClassFile.FieldType) :: BW) rmX9_fillRow (va_Pc [.ref (ad 0), .int x1, .long x2] (fun U => kC D cy U ∧ va_P D vwCl (wC cy ad I L A B) U.heap)) (qCv D cy ad Ad (fun u => post u.1 u.2.2.1 ∧ L = u.2.1 ∧ B = u.2.2.2)) 0 0 Ad := by
  refine startCv (by decide) (Nat.le_of_ble_eq_true rfl) (lv := [(0, .ref (ad 0)), (1, .int x1), (2, .long x2)]) rfl (fun p e s m args below meth c Q ls hx hb hml hT hown hK hret hl hP hS => ?_)
  unfold wX9_fillRow at h
  refine lv_lload_n hx hb dX9_fillRow_0 rfl (lv_at hl 2 rfl) ?_
  refine lv_aload_n hx hb dX9_fillRow_1 rfl (lv_at hl 0 rfl) ?_
  refine va_get (T := TX9) hx hb hT inlX9 hown hK.1 hP 0 he_X9 rfl 2 (by decide) (hT _ mw_2_9) (fun _ h9 => h9) rfl dX9_fillRow_2 ?_
  refine va_get (T := TX7) hx hb hT inlX7 hown hK.1 hP 3 he_X7 rfl 2 (by decide) (hT _ mw_1_166) (fun _ h9 => h9) rfl dX9_fillRow_5 ?_
  refine lv_iload_n hx hb dX9_fillRow_8 rfl (lv_at hl 1 rfl) ?_
  obtain ⟨hi, h⟩ := h
  have hj := vp_lt hi
  refine lC_X hx hb hK.1 hP hi dX9_fillRow_9 ?_
  refine va_get (T := TX0) hx hb hT inlX0 hown hK.1 hP (9 + x1.toNatClampNeg) (he_X0 (by omega)) rfl 3 (by decide) (hT _ mw_1_152) (fun _ h9 => h9) rfl dX9_fillRow_10 ?_
  refine lv_land hx hb dX9_fillRow_13 ?_
  refine lv_topl (fun v4 ev4 => ?_)
  replace h := h v4 ev4
  refine lv_lstore (lv' := [(4, .long v4), (0, .ref (ad 0)), (1, .int x1), (2, .long x2)]) hx hb dX9_fillRow_14 hl (by decide) rfl (fun ls hl => ?_)
  refine lv_aload_n hx hb dX9_fillRow_16 rfl (lv_at hl 1 rfl) ?_
  refine va_get (T := TX9) hx hb hT inlX9 hown hK.1 hP 0 he_X9 rfl 5 (by decide) (hT _ mw_2_12) (fun _ h9 => h9) rfl dX9_fillRow_17 ?_
  refine callCv (k := 5) (As := []) (rest := []) (n := 0) (c_X4_clear hAd I L A B  _ h) hx hb hT hown hK hP hS mw_3_127 wd_X4_clear (by decide +kernel) ⟨rfl, rfl⟩ (by decide) rfl rfl he_X4 rfl hl.1 hml rfl (Nat.le_of_ble_eq_true rfl) dX9_fillRow_20 ⟨Nat.zero_le _, Nat.zero_le _⟩ (fun u H locs h hP hS => ?_)
  obtain ⟨I_1, Lu, Au, Bu⟩ := u
  dsimp only at h hP
  obtain ⟨h, rfl, rfl, rfl⟩ := h
  try dsimp only at h
  refine lv_iconst (v := 0) hx hb dX9_fillRow_23 (by decide) ?_
  refine lv_istore (lv' := [(6, .int 0), (4, .long v4), (0, .ref (ad 0)), (1, .int x1), (2, .long x2)]) hx hb dX9_fillRow_24 hl (by decide) rfl (fun ls hl => ?_)
  obtain ⟨F, n, h, hF, hG⟩ := lfix_ex h
  have LP : ∀ (n : Nat) (v6 : Int32) (I_2 : Nat → Int32) (A_1 : Nat → Nat → Int32) (ls : Array Slot) (H : Heap) (locs : List Loc), F n (v6, I_2, A_1) → lv_has ls 7 [(6, .int v6), (4, .long v4), (0, .ref (ad 0)), (1, .int x1)] → va_P D vwCl (wC cy ad I_2 L A_1 B) H → va_S Ad s.heap H locs → W p l e rmX9_fillRow s m args below meth c H locs 0 0 Q (F0 m 26 ls []) := by
    intro n
    induction n with
    | zero => intro v6 I_2 A_1 ls H locs h _ _ _; exact absurd h (hF _)
    | succ n ih =>
      intro v6 I_2 A_1 ls H locs h hl hP hS
      replace h := hG _ _ h
      try dsimp only at h
      refine lv_iload hx hb dX9_fillRow_26 (lv_at hl 0 rfl) ?_
      refine lv_aload_n hx hb dX9_fillRow_28 rfl (lv_at hl 2 rfl) ?_
      refine va_get (T := TX9) hx hb hT inlX9 hown hK.1 hP 0 he_X9 rfl 1 (by decide) (hT _ mw_2_8) (fun _ h9 => h9) rfl dX9_fillRow_29 ?_
      refine va_get (T := TX6) hx hb hT inlX6 hown hK.1 hP 2 he_X6 rfl 2 (by decide) (hT _ mw_1_92) (fun _ h9 => h9) rfl dX9_fillRow_32 ?_
      refine lv_icmp_ge (tgt := 76) hx hb dX9_fillRow_35 (by decide) (fun hc => ?_) (fun hc => ?_)
      · rw [if_pos hc] at h
        exact hret (I_2, L, A_1, B) dX9_fillRow_76 ⟨h, rfl, rfl⟩ hP hS
      · rw [if_neg hc] at h
        refine lv_lload hx hb dX9_fillRow_38 (lv_at hl 1 rfl) ?_
        refine lv_iload hx hb dX9_fillRow_40 (lv_at hl 0 rfl) ?_
        refine callSCi (As := [.long v4, .int v6]) (rest := []) (n := 2) (c_X9_inSet v4 v6 _ h) hx hb hT hown hP hS mw_2_123 wd_X9_inSet (by decide +kernel) ⟨rfl, rfl⟩ (by decide) rfl hl.1 hml rfl (Nat.le_of_ble_eq_true rfl) dX9_fillRow_42 ⟨Nat.zero_le _, Nat.zero_le _⟩ (fun r42 H locs h hP hS => ?_)
        try dsimp only at h
        refine lv_if_eq (tgt := 70) hx hb dX9_fillRow_45 (by decide) (fun hc_1 => ?_) (fun hc_1 => ?_)
        · rw [if_pos hc_1] at h
          obtain ⟨v6_1, ev6_1⟩ : ∃ z : Int32, z = v6 + 1 := ⟨_, rfl⟩
          replace h := h v6_1 ev6_1
          refine lv_iinc (v := v6_1) (lv' := [(6, .int v6_1), (4, .long v4), (0, .ref (ad 0)), (1, .int x1)]) hx hb dX9_fillRow_70 hl (k := 0) rfl (by rw [ev6_1]; rfl) (by decide) rfl (fun ls hl => ?_)
          refine lv_goto (tgt := 26) hx hb dX9_fillRow_73 (by decide) ?_
          exact ih v6_1 I_2 A_1 _ _ _ h (lv_sub hl [0, 1, 2, 3] rfl) hP hS
        · rw [if_neg hc_1] at h
          refine lv_aload_n hx hb dX9_fillRow_48 rfl (lv_at hl 2 rfl) ?_
          refine va_get (T := TX9) hx hb hT inlX9 hown hK.1 hP 0 he_X9 rfl 5 (by decide) (hT _ mw_2_12) (fun _ h9 => h9) rfl dX9_fillRow_49 ?_
          refine lv_aload_n hx hb dX9_fillRow_52 rfl (lv_at hl 2 rfl) ?_
          refine va_get (T := TX9) hx hb hT inlX9 hown hK.1 hP 0 he_X9 rfl 2 (by decide) (hT _ mw_2_9) (fun _ h9 => h9) rfl dX9_fillRow_53 ?_
          refine va_get (T := TX7) hx hb hT inlX7 hown hK.1 hP 3 he_X7 rfl 2 (by decide) (hT _ mw_1_166) (fun _ h9 => h9) rfl dX9_fillRow_56 ?_
          refine lv_iload_n hx hb dX9_fillRow_59 rfl (lv_at hl 3 rfl) ?_
          obtain ⟨hi_1, h⟩ := h
          have hj_1 := vp_lt hi_1
          refine lC_X hx hb hK.1 hP hi_1 dX9_fillRow_60 ?_
          refine va_get (T := TX0) hx hb hT inlX0 hown hK.1 hP (9 + x1.toNatClampNeg) (he_X0 (by omega)) rfl 2 (by decide) (hT _ mw_1_150) (fun _ h9 => h9) rfl dX9_fillRow_61 ?_
          refine lv_iload hx hb dX9_fillRow_64 (lv_at hl 0 rfl) ?_
          obtain ⟨hi_2, h⟩ := h
          refine lC_I hx hb hK.1 hP (by omega) (eC_R40 (Or.inr (by omega))) hi_2 dX9_fillRow_66 ?_
          refine callCv (k := 5) (As := [.int (A_1 (9 + x1.toNatClampNeg + 45) v6.toNatClampNeg)]) (rest := []) (n := 1) (c_X4_put hAd I_2 L A_1 B (A_1 (9 + x1.toNatClampNeg + 45) v6.toNatClampNeg) _ h) hx hb hT hown hK hP hS mw_3_131 wd_X4_put (by decide +kernel) ⟨rfl, rfl⟩ (by decide) rfl rfl he_X4 rfl hl.1 hml rfl (Nat.le_of_ble_eq_true rfl) dX9_fillRow_67 ⟨Nat.zero_le _, Nat.zero_le _⟩ (fun u H locs h hP hS => ?_)
          obtain ⟨I_3, Lu_1, A_2, Bu_1⟩ := u
          dsimp only at h hP
          obtain ⟨h, rfl, rfl⟩ := h
          try dsimp only at h
          obtain ⟨v6_2, ev6_2⟩ : ∃ z : Int32, z = v6 + 1 := ⟨_, rfl⟩
          replace h := h v6_2 ev6_2
          refine lv_iinc (v := v6_2) (lv' := [(6, .int v6_2), (4, .long v4), (0, .ref (ad 0)), (1, .int x1)]) hx hb dX9_fillRow_70 hl (k := 0) rfl (by rw [ev6_2]; rfl) (by decide) rfl (fun ls hl => ?_)
          refine lv_goto (tgt := 26) hx hb dX9_fillRow_73 (by decide) ?_
          exact ih v6_2 I_3 A_2 _ _ _ h (lv_sub hl [0, 1, 2, 3] rfl) hP hS
  exact LP _ 0 I_1 A _ _ _ h (lv_sub hl [0, 1, 2, 3] rfl) hP hS
