theorem dX10_thrown_0 : decode cX10_thrown 0 = .ok (.aload_n 0, 1) := by decide +kernel
theorem dX10_thrown_1 : decode cX10_thrown 1 = .ok (.getfield 56, 3) := by decide +kernel
theorem dX10_thrown_4 : decode cX10_thrown 4 = .ok (.ireturn, 1) := by decide +kernel
def wX10_thrown (I : Nat → Int32) (A : Nat → Nat → Int32)  (post : Int32 → Prop) : Prop := post (I 0)
abbrev rmX10_thrown : Room := { frames := 0, cells := 0, slots := 0, locals := 0 }
theorem wd_X10_thrown : Cond.instanceMethod yX10_thrown ∈ BW ∧ Cond.selects yX10_thrown.cls yX10_thrown yX10_thrown ∈ BW ∧ Cond.initialized yX10_thrown.cls ∈ BW ∧ Cond.code yX10_thrown cX10_thrown 1 (some .int) ∈ BW := ⟨mw_4_206, mw_4_207, mw_1_11, mw_4_208⟩
set_option maxHeartbeats 4000000 in
set_option maxRecDepth 100000 in
theorem c_X10_thrown {l : Launch} {D : va_G} {cy : Nat → ClassId} {ad : Nat → Nat} {Ad : Nat → Prop} (hAd : adok 16 Ad ad) (I : Nat → Int32) (A : Nat → Nat → Int32)   (post : Int32 → Prop) (h : wX10_thrown I A  post) : Met l yX10_thrown (.code yX10_thrown cX10_thrown 1 (some .int) :: BW) rmX10_thrown (va_Pc [.ref (ad 0)] (fun U => kC D cy U ∧ va_P D vwCl (wM cy ad I A) U.heap)) (qMi D cy ad Ad (fun r u => post r  ∧ I = u.1 ∧ A = u.2)) 0 0 Ad := by
  refine startMi (by decide) (Nat.le_of_ble_eq_true rfl) (lv := [(0, .ref (ad 0))]) rfl (fun p e s m args below meth c Q ls hx hb hml hT hown hK hret hl hP hS => ?_)
  unfold wX10_thrown at h
  refine lv_aload_n hx hb dX10_thrown_0 rfl (lv_at hl 0 rfl) ?_
  refine va_get (T := TX10) hx hb hT inlX10 hown hK.1 hP 0 he_X10 rfl 0 (by decide) (hT _ mw_4_137) (fun _ h9 => h9) rfl dX10_thrown_1 ?_
  exact hret _ (I, A) dX10_thrown_4 ⟨h, rfl, rfl⟩ hP hS
theorem dX10_isAxis_0 : decode cX10_isAxis 0 = .ok (.iload_n 1, 1) := by decide +kernel
theorem dX10_isAxis_1 : decode cX10_isAxis 1 = .ok (.ifCond .lt 15, 3) := by decide +kernel
theorem dX10_isAxis_4 : decode cX10_isAxis 4 = .ok (.iload_n 1, 1) := by decide +kernel
theorem dX10_isAxis_5 : decode cX10_isAxis 5 = .ok (.aload_n 0, 1) := by decide +kernel
theorem dX10_isAxis_6 : decode cX10_isAxis 6 = .ok (.getfield 60, 3) := by decide +kernel
theorem dX10_isAxis_9 : decode cX10_isAxis 9 = .ok (.if_icmp .ge 7, 3) := by decide +kernel
theorem dX10_isAxis_12 : decode cX10_isAxis 12 = .ok (.iconst 1, 1) := by decide +kernel
theorem dX10_isAxis_13 : decode cX10_isAxis 13 = .ok (.goto 4, 3) := by decide +kernel
theorem dX10_isAxis_16 : decode cX10_isAxis 16 = .ok (.iconst 0, 1) := by decide +kernel
theorem dX10_isAxis_17 : decode cX10_isAxis 17 = .ok (.ireturn, 1) := by decide +kernel
def wX10_isAxis (I : Nat → Int32) (A : Nat → Nat → Int32) (x1 : Int32) (post : Int32 → Prop) : Prop := if x1 < 0 then (post 0) else (if (I 1) ≤ x1 then (post 0) else (post 1))
abbrev rmX10_isAxis : Room := { frames := 0, cells := 0, slots := 0, locals := 0 }
theorem wd_X10_isAxis : Cond.instanceMethod yX10_isAxis ∈ BW ∧ Cond.selects yX10_isAxis.cls yX10_isAxis yX10_isAxis ∈ BW ∧ Cond.initialized yX10_isAxis.cls ∈ BW ∧ Cond.code yX10_isAxis cX10_isAxis 2 (some .boolean) ∈ BW := ⟨mw_4_226, mp_19, mw_1_11, mw_4_227⟩
set_option maxHeartbeats 4000000 in
set_option maxRecDepth 100000 in
theorem c_X10_isAxis {l : Launch} {D : va_G} {cy : Nat → ClassId} {ad : Nat → Nat} {Ad : Nat → Prop} (hAd : adok 16 Ad ad) (I : Nat → Int32) (A : Nat → Nat → Int32) (x1 : Int32)  (post : Int32 → Prop) (h : wX10_isAxis I A x1 post) : Met l yX10_isAxis (.code yX10_isAxis cX10_isAxis 2 (some .boolean) :: BW) rmX10_isAxis (va_Pc [.ref (ad 0), .int x1] (fun U => kC D cy U ∧ va_P D vwCl (wM cy ad I A) U.heap)) (qMi D cy ad Ad (fun r u => post r  ∧ I = u.1 ∧ A = u.2)) 0 0 Ad := by
  refine startMz (by decide) (Nat.le_of_ble_eq_true rfl) (lv := [(0, .ref (ad 0)), (1, .int x1)]) rfl (fun p e s m args below meth c Q ls hx hb hml hT hown hK hret hl hP hS => ?_)
  unfold wX10_isAxis at h
  refine lv_iload_n hx hb dX10_isAxis_0 rfl (lv_at hl 1 rfl) ?_
  refine lv_if_lt (tgt := 16) hx hb dX10_isAxis_1 (by decide) (fun hc => ?_) (fun hc => ?_)
  · rw [if_pos hc] at h
    refine lv_iconst (v := 0) hx hb dX10_isAxis_16 (by decide) ?_
    exact hret _ (I, A) zb_0 dX10_isAxis_17 ⟨h, rfl, rfl⟩ hP hS
  · rw [if_neg hc] at h
    refine lv_iload_n hx hb dX10_isAxis_4 rfl (lv_at hl 1 rfl) ?_
    refine lv_aload_n hx hb dX10_isAxis_5 rfl (lv_at hl 0 rfl) ?_
    refine va_get (T := TX10) hx hb hT inlX10 hown hK.1 hP 0 he_X10 rfl 1 (by decide) (hT _ mw_4_138) (fun _ h9 => h9) rfl dX10_isAxis_6 ?_
    refine lv_icmp_ge (tgt := 16) hx hb dX10_isAxis_9 (by decide) (fun hc_1 => ?_) (fun hc_1 => ?_)
    · rw [if_pos hc_1] at h
      refine lv_iconst (v := 0) hx hb dX10_isAxis_16 (by decide) ?_
      exact hret _ (I, A) zb_0 dX10_isAxis_17 ⟨h, rfl, rfl⟩ hP hS
    · rw [if_neg hc_1] at h
      refine lv_iconst (v := 1) hx hb dX10_isAxis_12 (by decide) ?_
      refine lv_goto (tgt := 17) hx hb dX10_isAxis_13 (by decide) ?_
      exact hret _ (I, A) zb_1 dX10_isAxis_17 ⟨h, rfl, rfl⟩ hP hS
theorem dX10_isTree_0 : decode cX10_isTree 0 = .ok (.aload_n 0, 1) := by decide +kernel
theorem dX10_isTree_1 : decode cX10_isTree 1 = .ok (.iload_n 1, 1) := by decide +kernel
theorem dX10_isTree_2 : decode cX10_isTree 2 = .ok (.invokevirtual 63, 3) := by decide +kernel
theorem dX10_isTree_5 : decode cX10_isTree 5 = .ok (.ifCond .eq 17, 3) := by decide +kernel
theorem dX10_isTree_8 : decode cX10_isTree 8 = .ok (.aload_n 0, 1) := by decide +kernel
theorem dX10_isTree_9 : decode cX10_isTree 9 = .ok (.getfield 7, 3) := by decide +kernel
theorem dX10_isTree_12 : decode cX10_isTree 12 = .ok (.iload_n 1, 1) := by decide +kernel
theorem dX10_isTree_13 : decode cX10_isTree 13 = .ok (.iaload, 1) := by decide +kernel
theorem dX10_isTree_14 : decode cX10_isTree 14 = .ok (.iconst 2, 1) := by decide +kernel
theorem dX10_isTree_15 : decode cX10_isTree 15 = .ok (.if_icmp .eq 7, 3) := by decide +kernel
theorem dX10_isTree_18 : decode cX10_isTree 18 = .ok (.iconst 1, 1) := by decide +kernel
theorem dX10_isTree_19 : decode cX10_isTree 19 = .ok (.goto 4, 3) := by decide +kernel
theorem dX10_isTree_22 : decode cX10_isTree 22 = .ok (.iconst 0, 1) := by decide +kernel
theorem dX10_isTree_23 : decode cX10_isTree 23 = .ok (.ireturn, 1) := by decide +kernel
def wX10_isTree (I : Nat → Int32) (A : Nat → Nat → Int32) (x1 : Int32) (post : Int32 → Prop) : Prop := wX10_isAxis I A x1 (fun r2 => if r2 = 0 then (post 0) else (vp_in x1 5 ∧ (if (A 1 x1.toNatClampNeg) = 2 then (post 0) else (post 1))))
abbrev rmX10_isTree : Room := { frames := 1, cells := 0, slots := 0, locals := 21 }
theorem wd_X10_isTree : Cond.instanceMethod yX10_isTree ∈ BW ∧ Cond.selects yX10_isTree.cls yX10_isTree yX10_isTree ∈ BW ∧ Cond.initialized yX10_isTree.cls ∈ BW ∧ Cond.code yX10_isTree cX10_isTree 2 (some .boolean) ∈ BW := ⟨mw_4_222, mp_18, mw_1_11, mw_4_223⟩
set_option maxHeartbeats 4000000 in
set_option maxRecDepth 100000 in
theorem c_X10_isTree {l : Launch} {D : va_G} {cy : Nat → ClassId} {ad : Nat → Nat} {Ad : Nat → Prop} (hAd : adok 16 Ad ad) (I : Nat → Int32) (A : Nat → Nat → Int32) (x1 : Int32)  (post : Int32 → Prop) (h : wX10_isTree I A x1 post) : Met l yX10_isTree (.code yX10_isTree cX10_isTree 2 (some .boolean) :: BW) rmX10_isTree (va_Pc [.ref (ad 0), .int x1] (fun U => kC D cy U ∧ va_P D vwCl (wM cy ad I A) U.heap)) (qMi D cy ad Ad (fun r u => post r  ∧ I = u.1 ∧ A = u.2)) 0 0 Ad := by
  refine startMz (by decide) (Nat.le_of_ble_eq_true rfl) (lv := [(0, .ref (ad 0)), (1, .int x1)]) rfl (fun p e s m args below meth c Q ls hx hb hml hT hown hK hret hl hP hS => ?_)
  unfold wX10_isTree at h
  refine lv_aload_n hx hb dX10_isTree_0 rfl (lv_at hl 0 rfl) ?_
  refine lv_iload_n hx hb dX10_isTree_1 rfl (lv_at hl 1 rfl) ?_
  refine callMi (k := 0) (As := [.int x1]) (rest := []) (n := 1) (c_X10_isAxis hAd I A x1 _ h) hx hb hT hown hK hP hS mw_4_224 wd_X10_isAxis (by decide +kernel) ⟨rfl, rfl⟩ (by decide) rfl rfl he_X10 rfl hl.1 hml rfl (Nat.le_of_ble_eq_true rfl) dX10_isTree_2 ⟨Nat.zero_le _, Nat.zero_le _⟩ (fun r2 u H locs h hP hS => ?_)
  obtain ⟨Iu, Au⟩ := u
  dsimp only at h hP
  obtain ⟨h, rfl, rfl⟩ := h
  try dsimp only at h
  refine lv_if_eq (tgt := 22) hx hb dX10_isTree_5 (by decide) (fun hc => ?_) (fun hc => ?_)
  · rw [if_pos hc] at h
    refine lv_iconst (v := 0) hx hb dX10_isTree_22 (by decide) ?_
    exact hret _ (I, A) zb_0 dX10_isTree_23 ⟨h, rfl, rfl⟩ hP hS
  · rw [if_neg hc] at h
    refine lv_aload_n hx hb dX10_isTree_8 rfl (lv_at hl 0 rfl) ?_
    refine va_get (T := TX10) hx hb hT inlX10 hown hK.1 hP 0 he_X10 rfl 4 (by decide) (hT _ mw_4_141) (fun _ h9 => h9) rfl dX10_isTree_9 ?_
    refine lv_iload_n hx hb dX10_isTree_12 rfl (lv_at hl 1 rfl) ?_
    obtain ⟨hi, h⟩ := h
    refine lM_I hx hb hK.1 hP (by decide) rfl hi dX10_isTree_13 ?_
    refine lv_iconst (v := 2) hx hb dX10_isTree_14 (by decide) ?_
    refine lv_icmp_eq (tgt := 22) hx hb dX10_isTree_15 (by decide) (fun hc_1 => ?_) (fun hc_1 => ?_)
    · rw [if_pos hc_1] at h
      refine lv_iconst (v := 0) hx hb dX10_isTree_22 (by decide) ?_
      exact hret _ (I, A) zb_0 dX10_isTree_23 ⟨h, rfl, rfl⟩ hP hS
    · rw [if_neg hc_1] at h
      refine lv_iconst (v := 1) hx hb dX10_isTree_18 (by decide) ?_
      refine lv_goto (tgt := 23) hx hb dX10_isTree_19 (by decide) ?_
      exact hret _ (I, A) zb_1 dX10_isTree_23 ⟨h, rfl, rfl⟩ hP hS
theorem dX10_isNumber_0 : decode cX10_isNumber 0 = .ok (.aload_n 0, 1) := by decide +kernel
theorem dX10_isNumber_1 : decode cX10_isNumber 1 = .ok (.iload_n 1, 1) := by decide +kernel
theorem dX10_isNumber_2 : decode cX10_isNumber 2 = .ok (.invokevirtual 63, 3) := by decide +kernel
theorem dX10_isNumber_5 : decode cX10_isNumber 5 = .ok (.ifCond .eq 17, 3) := by decide +kernel
theorem dX10_isNumber_8 : decode cX10_isNumber 8 = .ok (.aload_n 0, 1) := by decide +kernel
theorem dX10_isNumber_9 : decode cX10_isNumber 9 = .ok (.getfield 7, 3) := by decide +kernel
theorem dX10_isNumber_12 : decode cX10_isNumber 12 = .ok (.iload_n 1, 1) := by decide +kernel
theorem dX10_isNumber_13 : decode cX10_isNumber 13 = .ok (.iaload, 1) := by decide +kernel
theorem dX10_isNumber_14 : decode cX10_isNumber 14 = .ok (.iconst 2, 1) := by decide +kernel
theorem dX10_isNumber_15 : decode cX10_isNumber 15 = .ok (.if_icmp .ne 7, 3) := by decide +kernel
theorem dX10_isNumber_18 : decode cX10_isNumber 18 = .ok (.iconst 1, 1) := by decide +kernel
theorem dX10_isNumber_19 : decode cX10_isNumber 19 = .ok (.goto 4, 3) := by decide +kernel
theorem dX10_isNumber_22 : decode cX10_isNumber 22 = .ok (.iconst 0, 1) := by decide +kernel
theorem dX10_isNumber_23 : decode cX10_isNumber 23 = .ok (.ireturn, 1) := by decide +kernel
def wX10_isNumber (I : Nat → Int32) (A : Nat → Nat → Int32) (x1 : Int32) (post : Int32 → Prop) : Prop := wX10_isAxis I A x1 (fun r2 => if r2 = 0 then (post 0) else (vp_in x1 5 ∧ (if (A 1 x1.toNatClampNeg) = 2 then (post 1) else (post 0))))
abbrev rmX10_isNumber : Room := { frames := 1, cells := 0, slots := 0, locals := 21 }
theorem wd_X10_isNumber : Cond.instanceMethod yX10_isNumber ∈ BW ∧ Cond.selects yX10_isNumber.cls yX10_isNumber yX10_isNumber ∈ BW ∧ Cond.initialized yX10_isNumber.cls ∈ BW ∧ Cond.code yX10_isNumber cX10_isNumber 2 (some .boolean) ∈ BW := ⟨mw_5_30, mp_26, mw_1_11, mw_5_31⟩
set_option maxHeartbeats 4000000 in
set_option maxRecDepth 100000 in
theorem c_X10_isNumber {l : Launch} {D : va_G} {cy : Nat → ClassId} {ad : Nat → Nat} {Ad : Nat → Prop} (hAd : adok 16 Ad ad) (I : Nat → Int32) (A : Nat → Nat → Int32) (x1 : Int32)  (post : Int32 → Prop) (h : wX10_isNumber I A x1 post) : Met l yX10_isNumber (.code yX10_isNumber cX10_isNumber 2 (some .boolean) :: BW) rmX10_isNumber (va_Pc [.ref (ad 0), .int x1] (fun U => kC D cy U ∧ va_P D vwCl (wM cy ad I A) U.heap)) (qMi D cy ad Ad (fun r u => post r  ∧ I = u.1 ∧ A = u.2)) 0 0 Ad := by
  refine startMz (by decide) (Nat.le_of_ble_eq_true rfl) (lv := [(0, .ref (ad 0)), (1, .int x1)]) rfl (fun p e s m args below meth c Q ls hx hb hml hT hown hK hret hl hP hS => ?_)
  unfold wX10_isNumber at h
  refine lv_aload_n hx hb dX10_isNumber_0 rfl (lv_at hl 0 rfl) ?_
  refine lv_iload_n hx hb dX10_isNumber_1 rfl (lv_at hl 1 rfl) ?_
  refine callMi (k := 0) (As := [.int x1]) (rest := []) (n := 1) (c_X10_isAxis hAd I A x1 _ h) hx hb hT hown hK hP hS mw_4_224 wd_X10_isAxis (by decide +kernel) ⟨rfl, rfl⟩ (by decide) rfl rfl he_X10 rfl hl.1 hml rfl (Nat.le_of_ble_eq_true rfl) dX10_isNumber_2 ⟨Nat.zero_le _, Nat.zero_le _⟩ (fun r2 u H locs h hP hS => ?_)
  obtain ⟨Iu, Au⟩ := u
  dsimp only at h hP
  obtain ⟨h, rfl, rfl⟩ := h
  try dsimp only at h
  refine lv_if_eq (tgt := 22) hx hb dX10_isNumber_5 (by decide) (fun hc => ?_) (fun hc => ?_)
  · rw [if_pos hc] at h
    refine lv_iconst (v := 0) hx hb dX10_isNumber_22 (by decide) ?_
    exact hret _ (I, A) zb_0 dX10_isNumber_23 ⟨h, rfl, rfl⟩ hP hS
  · rw [if_neg hc] at h
    refine lv_aload_n hx hb dX10_isNumber_8 rfl (lv_at hl 0 rfl) ?_
    refine va_get (T := TX10) hx hb hT inlX10 hown hK.1 hP 0 he_X10 rfl 4 (by decide) (hT _ mw_4_141) (fun _ h9 => h9) rfl dX10_isNumber_9 ?_
    refine lv_iload_n hx hb dX10_isNumber_12 rfl (lv_at hl 1 rfl) ?_
    obtain ⟨hi, h⟩ := h
    refine lM_I hx hb hK.1 hP (by decide) rfl hi dX10_isNumber_13 ?_
    refine lv_iconst (v := 2) hx hb dX10_isNumber_14 (by decide) ?_
    refine lv_icmp_ne (tgt := 22) hx hb dX10_isNumber_15 (by decide) (fun hc_1 => ?_) (fun hc_1 => ?_)
    · rw [if_neg hc_1] at h
      refine lv_iconst (v := 0) hx hb dX10_isNumber_22 (by decide) ?_
      exact hret _ (I, A) zb_0 dX10_isNumber_23 ⟨h, rfl, rfl⟩ hP hS
    · rw [if_pos hc_1] at h
      refine lv_iconst (v := 1) hx hb dX10_isNumber_18 (by decide) ?_
      refine lv_goto (tgt := 23) hx hb dX10_isNumber_19 (by decide) ?_
      exact hret _ (I, A) zb_1 dX10_isNumber_23 ⟨h, rfl, rfl⟩ hP hS
theorem dX10_isCategory_0 : decode cX10_isCategory 0 = .ok (.iload_n 1, 1) := by decide +kernel
theorem dX10_isCategory_1 : decode cX10_isCategory 1 = .ok (.ifCond .lt 15, 3) := by decide +kernel
theorem dX10_isCategory_4 : decode cX10_isCategory 4 = .ok (.iload_n 1, 1) := by decide +kernel
theorem dX10_isCategory_5 : decode cX10_isCategory 5 = .ok (.aload_n 0, 1) := by decide +kernel
theorem dX10_isCategory_6 : decode cX10_isCategory 6 = .ok (.getfield 67, 3) := by decide +kernel
theorem dX10_isCategory_9 : decode cX10_isCategory 9 = .ok (.if_icmp .ge 7, 3) := by decide +kernel
theorem dX10_isCategory_12 : decode cX10_isCategory 12 = .ok (.iconst 1, 1) := by decide +kernel
theorem dX10_isCategory_13 : decode cX10_isCategory 13 = .ok (.goto 4, 3) := by decide +kernel
theorem dX10_isCategory_16 : decode cX10_isCategory 16 = .ok (.iconst 0, 1) := by decide +kernel
theorem dX10_isCategory_17 : decode cX10_isCategory 17 = .ok (.ireturn, 1) := by decide +kernel
def wX10_isCategory (I : Nat → Int32) (A : Nat → Nat → Int32) (x1 : Int32) (post : Int32 → Prop) : Prop := if x1 < 0 then (post 0) else (if (I 2) ≤ x1 then (post 0) else (post 1))
abbrev rmX10_isCategory : Room := { frames := 0, cells := 0, slots := 0, locals := 0 }
theorem wd_X10_isCategory : Cond.instanceMethod yX10_isCategory ∈ BW ∧ Cond.selects yX10_isCategory.cls yX10_isCategory yX10_isCategory ∈ BW ∧ Cond.initialized yX10_isCategory.cls ∈ BW ∧ Cond.code yX10_isCategory cX10_isCategory 2 (some .boolean) ∈ BW := ⟨mw_4_234, mp_21, mw_1_11, mw_4_235⟩
set_option maxHeartbeats 4000000 in
set_option maxRecDepth 100000 in
theorem c_X10_isCategory {l : Launch} {D : va_G} {cy : Nat → ClassId} {ad : Nat → Nat} {Ad : Nat → Prop} (hAd : adok 16 Ad ad) (I : Nat → Int32) (A : Nat → Nat → Int32) (x1 : Int32)  (post : Int32 → Prop) (h : wX10_isCategory I A x1 post) : Met l yX10_isCategory (.code yX10_isCategory cX10_isCategory 2 (some .boolean) :: BW) rmX10_isCategory (va_Pc [.ref (ad 0), .int x1] (fun U => kC D cy U ∧ va_P D vwCl (wM cy ad I A) U.heap)) (qMi D cy ad Ad (fun r u => post r  ∧ I = u.1 ∧ A = u.2)) 0 0 Ad := by
  refine startMz (by decide) (Nat.le_of_ble_eq_true rfl) (lv := [(0, .ref (ad 0)), (1, .int x1)]) rfl (fun p e s m args below meth c Q ls hx hb hml hT hown hK hret hl hP hS => ?_)
  unfold wX10_isCategory at h
  refine lv_iload_n hx hb dX10_isCategory_0 rfl (lv_at hl 1 rfl) ?_
  refine lv_if_lt (tgt := 16) hx hb dX10_isCategory_1 (by decide) (fun hc => ?_) (fun hc => ?_)
  · rw [if_pos hc] at h
    refine lv_iconst (v := 0) hx hb dX10_isCategory_16 (by decide) ?_
    exact hret _ (I, A) zb_0 dX10_isCategory_17 ⟨h, rfl, rfl⟩ hP hS
  · rw [if_neg hc] at h
    refine lv_iload_n hx hb dX10_isCategory_4 rfl (lv_at hl 1 rfl) ?_
    refine lv_aload_n hx hb dX10_isCategory_5 rfl (lv_at hl 0 rfl) ?_
    refine va_get (T := TX10) hx hb hT inlX10 hown hK.1 hP 0 he_X10 rfl 2 (by decide) (hT _ mw_4_139) (fun _ h9 => h9) rfl dX10_isCategory_6 ?_
    refine lv_icmp_ge (tgt := 16) hx hb dX10_isCategory_9 (by decide) (fun hc_1 => ?_) (fun hc_1 => ?_)
    · rw [if_pos hc_1] at h
      refine lv_iconst (v := 0) hx hb dX10_isCategory_16 (by decide) ?_
      exact hret _ (I, A) zb_0 dX10_isCategory_17 ⟨h, rfl, rfl⟩ hP hS
    · rw [if_neg hc_1] at h
      refine lv_iconst (v := 1) hx hb dX10_isCategory_12 (by decide) ?_
      refine lv_goto (tgt := 17) hx hb dX10_isCategory_13 (by decide) ?_
      exact hret _ (I, A) zb_1 dX10_isCategory_17 ⟨h, rfl, rfl⟩ hP hS
theorem dX10_isThere_0 : decode cX10_isThere 0 = .ok (.iload_n 1, 1) := by decide +kernel
theorem dX10_isThere_1 : decode cX10_isThere 1 = .ok (.ifCond .lt 24, 3) := by decide +kernel
theorem dX10_isThere_4 : decode cX10_isThere 4 = .ok (.iload_n 1, 1) := by decide +kernel
theorem dX10_isThere_5 : decode cX10_isThere 5 = .ok (.aload_n 0, 1) := by decide +kernel
theorem dX10_isThere_6 : decode cX10_isThere 6 = .ok (.getfield 70, 3) := by decide +kernel
theorem dX10_isThere_9 : decode cX10_isThere 9 = .ok (.if_icmp .ge 16, 3) := by decide +kernel
theorem dX10_isThere_12 : decode cX10_isThere 12 = .ok (.aload_n 0, 1) := by decide +kernel
theorem dX10_isThere_13 : decode cX10_isThere 13 = .ok (.getfield 22, 3) := by decide +kernel
theorem dX10_isThere_16 : decode cX10_isThere 16 = .ok (.iload_n 1, 1) := by decide +kernel
theorem dX10_isThere_17 : decode cX10_isThere 17 = .ok (.baload, 1) := by decide +kernel
theorem dX10_isThere_18 : decode cX10_isThere 18 = .ok (.ifCond .eq 7, 3) := by decide +kernel
theorem dX10_isThere_21 : decode cX10_isThere 21 = .ok (.iconst 1, 1) := by decide +kernel
theorem dX10_isThere_22 : decode cX10_isThere 22 = .ok (.goto 4, 3) := by decide +kernel
theorem dX10_isThere_25 : decode cX10_isThere 25 = .ok (.iconst 0, 1) := by decide +kernel
theorem dX10_isThere_26 : decode cX10_isThere 26 = .ok (.ireturn, 1) := by decide +kernel
def wX10_isThere (I : Nat → Int32) (A : Nat → Nat → Int32) (x1 : Int32) (post : Int32 → Prop) : Prop := if x1 < 0 then (post 0) else (if (I 3) ≤ x1 then (post 0) else (vp_in x1 40 ∧ (if (A 5 x1.toNatClampNeg) = 0 then (post 0) else (post 1))))
abbrev rmX10_isThere : Room := { frames := 0, cells := 0, slots := 0, locals := 0 }
theorem wd_X10_isThere : Cond.instanceMethod yX10_isThere ∈ BW ∧ Cond.selects yX10_isThere.cls yX10_isThere yX10_isThere ∈ BW ∧ Cond.initialized yX10_isThere.cls ∈ BW ∧ Cond.code yX10_isThere cX10_isThere 2 (some .boolean) ∈ BW := ⟨mw_5_22, mp_25, mw_1_11, mw_5_23⟩
set_option maxHeartbeats 4000000 in
set_option maxRecDepth 100000 in
theorem c_X10_isThere {l : Launch} {D : va_G} {cy : Nat → ClassId} {ad : Nat → Nat} {Ad : Nat → Prop} (hAd : adok 16 Ad ad) (I : Nat → Int32) (A : Nat → Nat → Int32) (x1 : Int32)  (post : Int32 → Prop) (h : wX10_isThere I A x1 post) : Met l yX10_isThere (.code yX10_isThere cX10_isThere 2 (some .boolean) :: BW) rmX10_isThere (va_Pc [.ref (ad 0), .int x1] (fun U => kC D cy U ∧ va_P D vwCl (wM cy ad I A) U.heap)) (qMi D cy ad Ad (fun r u => post r  ∧ I = u.1 ∧ A = u.2)) 0 0 Ad := by
  refine startMz (by decide) (Nat.le_of_ble_eq_true rfl) (lv := [(0, .ref (ad 0)), (1, .int x1)]) rfl (fun p e s m args below meth c Q ls hx hb hml hT hown hK hret hl hP hS => ?_)
  unfold wX10_isThere at h
  refine lv_iload_n hx hb dX10_isThere_0 rfl (lv_at hl 1 rfl) ?_
  refine lv_if_lt (tgt := 25) hx hb dX10_isThere_1 (by decide) (fun hc => ?_) (fun hc => ?_)
  · rw [if_pos hc] at h
    refine lv_iconst (v := 0) hx hb dX10_isThere_25 (by decide) ?_
    exact hret _ (I, A) zb_0 dX10_isThere_26 ⟨h, rfl, rfl⟩ hP hS
  · rw [if_neg hc] at h
    refine lv_iload_n hx hb dX10_isThere_4 rfl (lv_at hl 1 rfl) ?_
    refine lv_aload_n hx hb dX10_isThere_5 rfl (lv_at hl 0 rfl) ?_
    refine va_get (T := TX10) hx hb hT inlX10 hown hK.1 hP 0 he_X10 rfl 3 (by decide) (hT _ mw_4_140) (fun _ h9 => h9) rfl dX10_isThere_6 ?_
    refine lv_icmp_ge (tgt := 25) hx hb dX10_isThere_9 (by decide) (fun hc_1 => ?_) (fun hc_1 => ?_)
    · rw [if_pos hc_1] at h
      refine lv_iconst (v := 0) hx hb dX10_isThere_25 (by decide) ?_
      exact hret _ (I, A) zb_0 dX10_isThere_26 ⟨h, rfl, rfl⟩ hP hS
    · rw [if_neg hc_1] at h
      refine lv_aload_n hx hb dX10_isThere_12 rfl (lv_at hl 0 rfl) ?_
      refine va_get (T := TX10) hx hb hT inlX10 hown hK.1 hP 0 he_X10 rfl 8 (by decide) (hT _ mw_4_145) (fun _ h9 => h9) rfl dX10_isThere_13 ?_
      refine lv_iload_n hx hb dX10_isThere_16 rfl (lv_at hl 1 rfl) ?_
      obtain ⟨hi, h⟩ := h
      refine lM_Z hx hb hK.1 hP (by decide) rfl hi dX10_isThere_17 ?_
      refine lv_if_eq (tgt := 25) hx hb dX10_isThere_18 (by decide) (fun hc_2 => ?_) (fun hc_2 => ?_)
      · rw [if_pos hc_2] at h
        refine lv_iconst (v := 0) hx hb dX10_isThere_25 (by decide) ?_
        exact hret _ (I, A) zb_0 dX10_isThere_26 ⟨h, rfl, rfl⟩ hP hS
      · rw [if_neg hc_2] at h
        refine lv_iconst (v := 1) hx hb dX10_isThere_21 (by decide) ?_
        refine lv_goto (tgt := 26) hx hb dX10_isThere_22 (by decide) ?_
        exact hret _ (I, A) zb_1 dX10_isThere_26 ⟨h, rfl, rfl⟩ hP hS
theorem dX10_level_0 : decode cX10_level 0 = .ok (.iconst 0, 1) := by decide +kernel
theorem dX10_level_1 : decode cX10_level 1 = .ok (.istore_n 2, 1) := by decide +kernel
theorem dX10_level_2 : decode cX10_level 2 = .ok (.aload_n 0, 1) := by decide +kernel
theorem dX10_level_3 : decode cX10_level 3 = .ok (.getfield 16, 3) := by decide +kernel
theorem dX10_level_6 : decode cX10_level 6 = .ok (.iload_n 1, 1) := by decide +kernel
theorem dX10_level_7 : decode cX10_level 7 = .ok (.iaload, 1) := by decide +kernel
theorem dX10_level_8 : decode cX10_level 8 = .ok (.istore_n 3, 1) := by decide +kernel
theorem dX10_level_9 : decode cX10_level 9 = .ok (.iload_n 3, 1) := by decide +kernel
theorem dX10_level_10 : decode cX10_level 10 = .ok (.ifCond .lt 16, 3) := by decide +kernel
theorem dX10_level_13 : decode cX10_level 13 = .ok (.iinc 2 1, 3) := by decide +kernel
theorem dX10_level_16 : decode cX10_level 16 = .ok (.aload_n 0, 1) := by decide +kernel
theorem dX10_level_17 : decode cX10_level 17 = .ok (.getfield 16, 3) := by decide +kernel
theorem dX10_level_20 : decode cX10_level 20 = .ok (.iload_n 3, 1) := by decide +kernel
theorem dX10_level_21 : decode cX10_level 21 = .ok (.iaload, 1) := by decide +kernel
theorem dX10_level_22 : decode cX10_level 22 = .ok (.istore_n 3, 1) := by decide +kernel
theorem dX10_level_23 : decode cX10_level 23 = .ok (.goto (-14), 3) := by decide +kernel
theorem dX10_level_26 : decode cX10_level 26 = .ok (.iload_n 2, 1) := by decide +kernel
theorem dX10_level_27 : decode cX10_level 27 = .ok (.ireturn, 1) := by decide +kernel
def wX10_level (I : Nat → Int32) (A : Nat → Nat → Int32) (x1 : Int32) (post : Int32 → Prop) : Prop := vp_in x1 40 ∧ (∀ v3 : Int32, v3 = A 3 x1.toNatClampNeg → ∃ n, lfix (fun (r : (Int32 × Int32) → Prop) (v3_1, v2) => if v3_1 < 0 then (post v2) else (∀ v2_1 : Int32, v2_1 = v2 + 1 → vp_in v3_1 40 ∧ (∀ v3_2 : Int32, v3_2 = A 3 v3_1.toNatClampNeg → r (v3_2, v2_1)))) n (v3, 0))
abbrev rmX10_level : Room := { frames := 0, cells := 0, slots := 0, locals := 0 }
theorem wd_X10_level : Cond.instanceMethod yX10_level ∈ BW ∧ Cond.selects yX10_level.cls yX10_level yX10_level ∈ BW ∧ Cond.initialized yX10_level.cls ∈ BW ∧ Cond.code yX10_level cX10_level 4 (some .int) ∈ BW := ⟨mw_4_238, mp_22, mw_1_11, mw_4_239⟩
set_option maxHeartbeats 4000000 in
set_option maxRecDepth 100000 in
theorem c_X10_level {l : Launch} {D : va_G} {cy : Nat → ClassId} {ad : Nat → Nat} {Ad : Nat → Prop} (hAd : adok 16 Ad ad) (I : Nat → Int32) (A : Nat → Nat → Int32) (x1 : Int32)  (post : Int32 → Prop) (h : wX10_level I A x1 post) : Met l yX10_level (.code yX10_level cX10_level 4 (some .int) :: BW) rmX10_level (va_Pc [.ref (ad 0), .int x1] (fun U => kC D cy U ∧ va_P D vwCl (wM cy ad I A) U.heap)) (qMi D cy ad Ad (fun r u => post r  ∧ I = u.1 ∧ A = u.2)) 0 0 Ad := by
  refine startMi (by decide) (Nat.le_of_ble_eq_true rfl) (lv := [(0, .ref (ad 0)), (1, .int x1)]) rfl (fun p e s m args below meth c Q ls hx hb hml hT hown hK hret hl hP hS => ?_)
  unfold wX10_level at h
  refine lv_iconst (v := 0) hx hb dX10_level_0 (by decide) ?_
  refine lv_istore_n (lv' := [(2, .int 0), (0, .ref (ad 0)), (1, .int x1)]) hx hb dX10_level_1 rfl hl (by decide) rfl (fun ls hl => ?_)
  refine lv_aload_n hx hb dX10_level_2 rfl (lv_at hl 1 rfl) ?_
  refine va_get (T := TX10) hx hb hT inlX10 hown hK.1 hP 0 he_X10 rfl 6 (by decide) (hT _ mw_4_143) (fun _ h9 => h9) rfl dX10_level_3 ?_
  refine lv_iload_n hx hb dX10_level_6 rfl (lv_at hl 2 rfl) ?_
  obtain ⟨hi, h⟩ := h
  refine lM_I hx hb hK.1 hP (by decide) rfl hi dX10_level_7 ?_
  refine lv_topi (fun v3 ev3 => ?_)
  replace h := h v3 ev3
  refine lv_istore_n (lv' := [(3, .int v3), (2, .int 0), (0, .ref (ad 0)), (1, .int x1)]) hx hb dX10_level_8 rfl hl (by decide) rfl (fun ls hl => ?_)
  obtain ⟨F, n, h, hF, hG⟩ := lfix_ex h
  have LP : ∀ (n : Nat) (v3_1 : Int32) (v2 : Int32) (ls : Array Slot) (H : Heap) (locs : List Loc), F n (v3_1, v2) → lv_has ls 4 [(3, .int v3_1), (2, .int v2), (0, .ref (ad 0))] → va_P D vwCl (wM cy ad I A) H → va_S Ad s.heap H locs → W p l e rmX10_level s m args below meth c H locs 0 0 Q (F0 m 9 ls []) := by
    intro n
    induction n with
    | zero => intro v3_1 v2 ls H locs h _ _ _; exact absurd h (hF _)
    | succ n ih =>
      intro v3_1 v2 ls H locs h hl hP hS
      replace h := hG _ _ h
      try dsimp only at h
      refine lv_iload_n hx hb dX10_level_9 rfl (lv_at hl 0 rfl) ?_
      refine lv_if_lt (tgt := 26) hx hb dX10_level_10 (by decide) (fun hc => ?_) (fun hc => ?_)
      · rw [if_pos hc] at h
        refine lv_iload_n hx hb dX10_level_26 rfl (lv_at hl 1 rfl) ?_
        exact hret _ (I, A) dX10_level_27 ⟨h, rfl, rfl⟩ hP hS
      · rw [if_neg hc] at h
        obtain ⟨v2_1, ev2_1⟩ : ∃ z : Int32, z = v2 + 1 := ⟨_, rfl⟩
        replace h := h v2_1 ev2_1
        refine lv_iinc (v := v2_1) (lv' := [(2, .int v2_1), (3, .int v3_1), (0, .ref (ad 0))]) hx hb dX10_level_13 hl (k := 1) rfl (by rw [ev2_1]; rfl) (by decide) rfl (fun ls hl => ?_)
        refine lv_aload_n hx hb dX10_level_16 rfl (lv_at hl 2 rfl) ?_
        refine va_get (T := TX10) hx hb hT inlX10 hown hK.1 hP 0 he_X10 rfl 6 (by decide) (hT _ mw_4_143) (fun _ h9 => h9) rfl dX10_level_17 ?_
        refine lv_iload_n hx hb dX10_level_20 rfl (lv_at hl 1 rfl) ?_
        obtain ⟨hi_1, h⟩ := h
        refine lM_I hx hb hK.1 hP (by decide) rfl hi_1 dX10_level_21 ?_
        refine lv_topi (fun v3_2 ev3_2 => ?_)
        replace h := h v3_2 ev3_2
        refine lv_istore_n (lv' := [(3, .int v3_2), (2, .int v2_1), (0, .ref (ad 0))]) hx hb dX10_level_22 rfl hl (by decide) rfl (fun ls hl => ?_)
        refine lv_goto (tgt := 9) hx hb dX10_level_23 (by decide) ?_
        exact ih v3_2 v2_1 _ _ _ h (lv_sub hl [0, 1, 2] rfl) hP hS
  exact LP _ v3 0 _ _ _ h (lv_sub hl [0, 1, 2] rfl) hP hS
theorem dX10_isIn_0 : decode cX10_isIn 0 = .ok (.iload_n 1, 1) := by decide +kernel
theorem dX10_isIn_1 : decode cX10_isIn 1 = .ok (.istore_n 3, 1) := by decide +kernel
theorem dX10_isIn_2 : decode cX10_isIn 2 = .ok (.iload_n 3, 1) := by decide +kernel
theorem dX10_isIn_3 : decode cX10_isIn 3 = .ok (.ifCond .lt 18, 3) := by decide +kernel
theorem dX10_isIn_6 : decode cX10_isIn 6 = .ok (.iload_n 3, 1) := by decide +kernel
theorem dX10_isIn_7 : decode cX10_isIn 7 = .ok (.iload_n 2, 1) := by decide +kernel
theorem dX10_isIn_8 : decode cX10_isIn 8 = .ok (.if_icmp .eq 13, 3) := by decide +kernel
theorem dX10_isIn_11 : decode cX10_isIn 11 = .ok (.aload_n 0, 1) := by decide +kernel
theorem dX10_isIn_12 : decode cX10_isIn 12 = .ok (.getfield 16, 3) := by decide +kernel
theorem dX10_isIn_15 : decode cX10_isIn 15 = .ok (.iload_n 3, 1) := by decide +kernel
theorem dX10_isIn_16 : decode cX10_isIn 16 = .ok (.iaload, 1) := by decide +kernel
theorem dX10_isIn_17 : decode cX10_isIn 17 = .ok (.istore_n 3, 1) := by decide +kernel
theorem dX10_isIn_18 : decode cX10_isIn 18 = .ok (.goto (-16), 3) := by decide +kernel
theorem dX10_isIn_21 : decode cX10_isIn 21 = .ok (.iload_n 3, 1) := by decide +kernel
theorem dX10_isIn_22 : decode cX10_isIn 22 = .ok (.iload_n 2, 1) := by decide +kernel
theorem dX10_isIn_23 : decode cX10_isIn 23 = .ok (.if_icmp .ne 7, 3) := by decide +kernel
theorem dX10_isIn_26 : decode cX10_isIn 26 = .ok (.iconst 1, 1) := by decide +kernel
theorem dX10_isIn_27 : decode cX10_isIn 27 = .ok (.goto 4, 3) := by decide +kernel
theorem dX10_isIn_30 : decode cX10_isIn 30 = .ok (.iconst 0, 1) := by decide +kernel
theorem dX10_isIn_31 : decode cX10_isIn 31 = .ok (.ireturn, 1) := by decide +kernel
def wX10_isIn (I : Nat → Int32) (A : Nat → Nat → Int32) (x1 : Int32) (x2 : Int32) (post : Int32 → Prop) : Prop := ∃ n, lfix (fun (r : Int32 → Prop) v3 => jn (fun (_ : Unit) => if v3 = x2 then (post 1) else (post 0)) (fun k => if v3 < 0 then (k ()) else (if v3 = x2 then (k ()) else (vp_in v3 40 ∧ (∀ v3_1 : Int32, v3_1 = A 3 v3.toNatClampNeg → r v3_1))))) n x1
abbrev rmX10_isIn : Room := { frames := 0, cells := 0, slots := 0, locals := 0 }
theorem wd_X10_isIn : Cond.instanceMethod yX10_isIn ∈ BW ∧ Cond.selects yX10_isIn.cls yX10_isIn yX10_isIn ∈ BW ∧ Cond.initialized yX10_isIn.cls ∈ BW ∧ Cond.code yX10_isIn cX10_isIn 4 (some .boolean) ∈ BW := ⟨mw_5_6, mp_23, mw_1_11, mw_5_7⟩
set_option maxHeartbeats 4000000 in
set_option maxRecDepth 100000 in
theorem c_X10_isIn {l : Launch} {D : va_G} {cy : Nat → ClassId} {ad : Nat → Nat} {Ad : Nat → Prop} (hAd : adok 16 Ad ad) (I : Nat → Int32) (A : Nat → Nat → Int32) (x1 : Int32) (x2 : Int32)  (post : Int32 → Prop) (h : wX10_isIn I A x1 x2 post) : Met l yX10_isIn (.code yX10_isIn cX10_isIn 4 (some .boolean) :: BW) rmX10_isIn (va_Pc [.ref (ad 0), .int x1, .int x2] (fun U => kC D cy U ∧ va_P D vwCl (wM cy ad I A) U.heap)) (qMi D cy ad Ad (fun r u => post r  ∧ I = u.1 ∧ A = u.2)) 0 0 Ad := by
  refine startMz (by decide) (Nat.le_of_ble_eq_true rfl) (lv := [(0, .ref (ad 0)), (1, .int x1), (2, .int x2)]) rfl (fun p e s m args below meth c Q ls hx hb hml hT hown hK hret hl hP hS => ?_)
  unfold wX10_isIn at h
  refine lv_iload_n hx hb dX10_isIn_0 rfl (lv_at hl 1 rfl) ?_
  refine lv_istore_n (lv' := [(3, .int x1), (0, .ref (ad 0)), (1, .int x1), (2, .int x2)]) hx hb dX10_isIn_1 rfl hl (by decide) rfl (fun ls hl => ?_)
  obtain ⟨F, n, h, hF, hG⟩ := lfix_ex h
  have LP : ∀ (n : Nat) (v3 : Int32) (ls : Array Slot) (H : Heap) (locs : List Loc), F n v3 → lv_has ls 4 [(3, .int v3), (0, .ref (ad 0)), (2, .int x2)] → va_P D vwCl (wM cy ad I A) H → va_S Ad s.heap H locs → W p l e rmX10_isIn s m args below meth c H locs 0 0 Q (F0 m 2 ls []) := by
    intro n
    induction n with
    | zero => intro v3 ls H locs h _ _ _; exact absurd h (hF _)
    | succ n ih =>
      intro v3 ls H locs h hl hP hS
      replace h := hG _ _ h
      try dsimp only at h
      refine lv_iload_n hx hb dX10_isIn_2 rfl (lv_at hl 0 rfl) ?_
      obtain ⟨k, hk, h⟩ := jn_ex h
      try dsimp only at h
      have J : k () → ∀ (ls : Array Slot) (H : Heap) (locs : List Loc), lv_has ls 4 [(3, .int v3), (2, .int x2)] → va_P D vwCl (wM cy ad I A) H → va_S Ad s.heap H locs → W p l e rmX10_isIn s m args below meth c H locs 0 0 Q (F0 m 21 ls []) := by
        intro  h ls H locs hl hP hS
        replace h := hk _ h
        try dsimp only at h
        refine lv_iload_n hx hb dX10_isIn_21 rfl (lv_at hl 0 rfl) ?_
        refine lv_iload_n hx hb dX10_isIn_22 rfl (lv_at hl 1 rfl) ?_
        refine lv_icmp_ne (tgt := 30) hx hb dX10_isIn_23 (by decide) (fun hc => ?_) (fun hc => ?_)
        · rw [if_neg hc] at h
          refine lv_iconst (v := 0) hx hb dX10_isIn_30 (by decide) ?_
          exact hret _ (I, A) zb_0 dX10_isIn_31 ⟨h, rfl, rfl⟩ hP hS
        · rw [if_pos hc] at h
          refine lv_iconst (v := 1) hx hb dX10_isIn_26 (by decide) ?_
          refine lv_goto (tgt := 31) hx hb dX10_isIn_27 (by decide) ?_
          exact hret _ (I, A) zb_1 dX10_isIn_31 ⟨h, rfl, rfl⟩ hP hS
      refine lv_if_lt (tgt := 21) hx hb dX10_isIn_3 (by decide) (fun hc_1 => ?_) (fun hc_1 => ?_)
      · rw [if_pos hc_1] at h
        exact J  h _ _ _ (lv_sub hl [0, 2] rfl) hP hS
      · rw [if_neg hc_1] at h
        refine lv_iload_n hx hb dX10_isIn_6 rfl (lv_at hl 0 rfl) ?_
        refine lv_iload_n hx hb dX10_isIn_7 rfl (lv_at hl 2 rfl) ?_
        refine lv_icmp_eq (tgt := 21) hx hb dX10_isIn_8 (by decide) (fun hc_2 => ?_) (fun hc_2 => ?_)
        · rw [if_pos hc_2] at h
          exact J  h _ _ _ (lv_sub hl [0, 2] rfl) hP hS
        · rw [if_neg hc_2] at h
          refine lv_aload_n hx hb dX10_isIn_11 rfl (lv_at hl 1 rfl) ?_
          refine va_get (T := TX10) hx hb hT inlX10 hown hK.1 hP 0 he_X10 rfl 6 (by decide) (hT _ mw_4_143) (fun _ h9 => h9) rfl dX10_isIn_12 ?_
          refine lv_iload_n hx hb dX10_isIn_15 rfl (lv_at hl 0 rfl) ?_
          obtain ⟨hi, h⟩ := h
          refine lM_I hx hb hK.1 hP (by decide) rfl hi dX10_isIn_16 ?_
          refine lv_topi (fun v3_1 ev3_1 => ?_)
          replace h := h v3_1 ev3_1
          refine lv_istore_n (lv' := [(3, .int v3_1), (0, .ref (ad 0)), (2, .int x2)]) hx hb dX10_isIn_17 rfl hl (by decide) rfl (fun ls hl => ?_)
          refine lv_goto (tgt := 2) hx hb dX10_isIn_18 (by decide) ?_
          exact ih v3_1 _ _ _ h (lv_sub hl [0, 1, 2] rfl) hP hS
  exact LP _ x1 _ _ _ h (lv_sub hl [0, 1, 3] rfl) hP hS
theorem dX10_axis_0 : decode cX10_axis 0 = .ok (.aload_n 0, 1) := by decide +kernel
theorem dX10_axis_1 : decode cX10_axis 1 = .ok (.iconst 0, 1) := by decide +kernel
theorem dX10_axis_2 : decode cX10_axis 2 = .ok (.putfield 56, 3) := by decide +kernel
theorem dX10_axis_5 : decode cX10_axis 5 = .ok (.iload_n 1, 1) := by decide +kernel
theorem dX10_axis_6 : decode cX10_axis 6 = .ok (.iconst 0, 1) := by decide +kernel
theorem dX10_axis_7 : decode cX10_axis 7 = .ok (.iconst 2, 1) := by decide +kernel
theorem dX10_axis_8 : decode cX10_axis 8 = .ok (.invokestatic 73, 3) := by decide +kernel
theorem dX10_axis_11 : decode cX10_axis 11 = .ok (.ifCond .eq 11, 3) := by decide +kernel
theorem dX10_axis_14 : decode cX10_axis 14 = .ok (.aload_n 0, 1) := by decide +kernel
theorem dX10_axis_15 : decode cX10_axis 15 = .ok (.getfield 60, 3) := by decide +kernel
theorem dX10_axis_18 : decode cX10_axis 18 = .ok (.iconst 5, 1) := by decide +kernel
theorem dX10_axis_19 : decode cX10_axis 19 = .ok (.if_icmp .ne 5, 3) := by decide +kernel
theorem dX10_axis_22 : decode cX10_axis 22 = .ok (.iconst (-1), 1) := by decide +kernel
theorem dX10_axis_23 : decode cX10_axis 23 = .ok (.ireturn, 1) := by decide +kernel
theorem dX10_axis_24 : decode cX10_axis 24 = .ok (.aload_n 0, 1) := by decide +kernel
theorem dX10_axis_25 : decode cX10_axis 25 = .ok (.getfield 7, 3) := by decide +kernel
theorem dX10_axis_28 : decode cX10_axis 28 = .ok (.aload_n 0, 1) := by decide +kernel
theorem dX10_axis_29 : decode cX10_axis 29 = .ok (.getfield 60, 3) := by decide +kernel
theorem dX10_axis_32 : decode cX10_axis 32 = .ok (.iload_n 1, 1) := by decide +kernel
theorem dX10_axis_33 : decode cX10_axis 33 = .ok (.iastore, 1) := by decide +kernel
theorem dX10_axis_34 : decode cX10_axis 34 = .ok (.aload_n 0, 1) := by decide +kernel
theorem dX10_axis_35 : decode cX10_axis 35 = .ok (.dup, 1) := by decide +kernel
theorem dX10_axis_36 : decode cX10_axis 36 = .ok (.getfield 60, 3) := by decide +kernel
theorem dX10_axis_39 : decode cX10_axis 39 = .ok (.iconst 1, 1) := by decide +kernel
theorem dX10_axis_40 : decode cX10_axis 40 = .ok (.iadd, 1) := by decide +kernel
theorem dX10_axis_41 : decode cX10_axis 41 = .ok (.putfield 60, 3) := by decide +kernel
theorem dX10_axis_44 : decode cX10_axis 44 = .ok (.aload_n 0, 1) := by decide +kernel
theorem dX10_axis_45 : decode cX10_axis 45 = .ok (.getfield 60, 3) := by decide +kernel
theorem dX10_axis_48 : decode cX10_axis 48 = .ok (.iconst 1, 1) := by decide +kernel
theorem dX10_axis_49 : decode cX10_axis 49 = .ok (.isub, 1) := by decide +kernel
theorem dX10_axis_50 : decode cX10_axis 50 = .ok (.ireturn, 1) := by decide +kernel
def wX10_axis (I : Nat → Int32) (A : Nat → Nat → Int32) (x1 : Int32) (post : Int32 → (Nat → Int32) → (Nat → Nat → Int32) → Prop) : Prop := (∀ I_1, I_1 = va_up I 0 0 → wX10_within x1 0 2 (fun r8 => if r8 = 0 then (post (-1) I_1 A) else (if (I_1 1) = 5 then (post (-1) I_1 A) else (vp_in (I_1 1) 5 ∧ (∀ A_1, A_1 = va_up A 1 (upd (A 1) (I_1 1).toNatClampNeg x1) → (∀ I_2, I_2 = va_up I_1 1 ((I_1 1) + 1) → post ((I_2 1) - 1) I_2 A_1))))))
abbrev rmX10_axis : Room := { frames := 1, cells := 0, slots := 0, locals := 22 }
theorem wd_X10_axis : Cond.instanceMethod yX10_axis ∈ BW ∧ Cond.selects yX10_axis.cls yX10_axis yX10_axis ∈ BW ∧ Cond.initialized yX10_axis.cls ∈ BW ∧ Cond.code yX10_axis cX10_axis 2 (some .int) ∈ BW := ⟨mw_4_210, mw_4_211, mw_1_11, mw_4_212⟩
set_option maxHeartbeats 4000000 in
set_option maxRecDepth 100000 in
theorem c_X10_axis {l : Launch} {D : va_G} {cy : Nat → ClassId} {ad : Nat → Nat} {Ad : Nat → Prop} (hAd : adok 16 Ad ad) (I : Nat → Int32) (A : Nat → Nat → Int32) (x1 : Int32)  (post : Int32 → (Nat → Int32) → (Nat → Nat → Int32) → Prop) (h : wX10_axis I A x1 post) : Met l yX10_axis (.code yX10_axis cX10_axis 2 (some .int) :: BW) rmX10_axis (va_Pc [.ref (ad 0), .int x1] (fun U => kC D cy U ∧ va_P D vwCl (wM cy ad I A) U.heap)) (qMi D cy ad Ad (fun r u => post r u.1 u.2)) 0 0 Ad := by
  refine startMi (by decide) (Nat.le_of_ble_eq_true rfl) (lv := [(0, .ref (ad 0)), (1, .int x1)]) rfl (fun p e s m args below meth c Q ls hx hb hml hT hown hK hret hl hP hS => ?_)
  unfold wX10_axis at h
  refine lv_aload_n hx hb dX10_axis_0 rfl (lv_at hl 0 rfl) ?_
  refine lv_iconst (v := 0) hx hb dX10_axis_1 (by decide) ?_
  refine pM_X10_thrown hAd hx hb hT hown hK.1 hP hS (hT _ mw_4_137) dX10_axis_2 (fun H locs hP hS => ?_)
  obtain ⟨I_1, eI_1⟩ : ∃ z, z = va_up I 0 0 := ⟨_, rfl⟩
  rw [← eI_1] at hP
  replace h := h I_1 eI_1
  refine lv_iload_n hx hb dX10_axis_5 rfl (lv_at hl 1 rfl) ?_
  refine lv_iconst (v := 0) hx hb dX10_axis_6 (by decide) ?_
  refine lv_iconst (v := 2) hx hb dX10_axis_7 (by decide) ?_
  refine callSMi (As := [.int x1, .int 0, .int 2]) (rest := []) (n := 3) (c_X10_within x1 0 2 _ h) hx hb hT hown hP hS mw_4_213 wd_X10_within (by decide +kernel) ⟨rfl, rfl⟩ (by decide) rfl hl.1 hml rfl (Nat.le_of_ble_eq_true rfl) dX10_axis_8 ⟨Nat.zero_le _, Nat.zero_le _⟩ (fun r8 H locs h hP hS => ?_)
  try dsimp only at h
  refine lv_if_eq (tgt := 22) hx hb dX10_axis_11 (by decide) (fun hc => ?_) (fun hc => ?_)
  · rw [if_pos hc] at h
    refine lv_iconst (v := (-1)) hx hb dX10_axis_22 (by decide) ?_
    exact hret _ (I_1, A) dX10_axis_23 h hP hS
  · rw [if_neg hc] at h
    refine lv_aload_n hx hb dX10_axis_14 rfl (lv_at hl 0 rfl) ?_
    refine va_get (T := TX10) hx hb hT inlX10 hown hK.1 hP 0 he_X10 rfl 1 (by decide) (hT _ mw_4_138) (fun _ h9 => h9) rfl dX10_axis_15 ?_
    refine lv_iconst (v := 5) hx hb dX10_axis_18 (by decide) ?_
    refine lv_icmp_ne (tgt := 24) hx hb dX10_axis_19 (by decide) (fun hc_1 => ?_) (fun hc_1 => ?_)
    · rw [if_neg hc_1] at h
      refine lv_aload_n hx hb dX10_axis_24 rfl (lv_at hl 0 rfl) ?_
      refine va_get (T := TX10) hx hb hT inlX10 hown hK.1 hP 0 he_X10 rfl 4 (by decide) (hT _ mw_4_141) (fun _ h9 => h9) rfl dX10_axis_25 ?_
      refine lv_aload_n hx hb dX10_axis_28 rfl (lv_at hl 0 rfl) ?_
      refine va_get (T := TX10) hx hb hT inlX10 hown hK.1 hP 0 he_X10 rfl 1 (by decide) (hT _ mw_4_138) (fun _ h9 => h9) rfl dX10_axis_29 ?_
      refine lv_iload_n hx hb dX10_axis_32 rfl (lv_at hl 1 rfl) ?_
      obtain ⟨hi, h⟩ := h
      refine sM_I hAd hx hb hK.1 hP hS (by decide) (fun _ => rfl) hi dX10_axis_33 (fun H locs hP hS => ?_)
      obtain ⟨A_1, eA_1⟩ : ∃ z, z = va_up A 1 (upd (A 1) (I_1 1).toNatClampNeg x1) := ⟨_, rfl⟩
      rw [← eA_1] at hP
      replace h := h A_1 eA_1
      refine lv_aload_n hx hb dX10_axis_34 rfl (lv_at hl 0 rfl) ?_
      refine lv_dup hx hb dX10_axis_35 rfl ?_
      refine va_get (T := TX10) hx hb hT inlX10 hown hK.1 hP 0 he_X10 rfl 1 (by decide) (hT _ mw_4_138) (fun _ h9 => h9) rfl dX10_axis_36 ?_
      refine lv_iconst (v := 1) hx hb dX10_axis_39 (by decide) ?_
      refine lv_iadd hx hb dX10_axis_40 ?_
      refine pM_X10_axes hAd hx hb hT hown hK.1 hP hS (hT _ mw_4_138) dX10_axis_41 (fun H locs hP hS => ?_)
      obtain ⟨I_2, eI_2⟩ : ∃ z, z = va_up I_1 1 ((I_1 1) + 1) := ⟨_, rfl⟩
      rw [← eI_2] at hP
      replace h := h I_2 eI_2
      refine lv_aload_n hx hb dX10_axis_44 rfl (lv_at hl 0 rfl) ?_
      refine va_get (T := TX10) hx hb hT inlX10 hown hK.1 hP 0 he_X10 rfl 1 (by decide) (hT _ mw_4_138) (fun _ h9 => h9) rfl dX10_axis_45 ?_
      refine lv_iconst (v := 1) hx hb dX10_axis_48 (by decide) ?_
      refine lv_isub hx hb dX10_axis_49 ?_
      exact hret _ (I_2, A_1) dX10_axis_50 h hP hS
    · rw [if_pos hc_1] at h
      refine lv_iconst (v := (-1)) hx hb dX10_axis_22 (by decide) ?_
      exact hret _ (I_1, A) dX10_axis_23 h hP hS
theorem dX10_canBe_0 : decode cX10_canBe 0 = .ok (.iload_n 2, 1) := by decide +kernel
theorem dX10_canBe_1 : decode cX10_canBe 1 = .ok (.iconst (-1), 1) := by decide +kernel
theorem dX10_canBe_2 : decode cX10_canBe 2 = .ok (.if_icmp .eq 21, 3) := by decide +kernel
theorem dX10_canBe_5 : decode cX10_canBe 5 = .ok (.aload_n 0, 1) := by decide +kernel
theorem dX10_canBe_6 : decode cX10_canBe 6 = .ok (.iload_n 2, 1) := by decide +kernel
theorem dX10_canBe_7 : decode cX10_canBe 7 = .ok (.invokevirtual 77, 3) := by decide +kernel
theorem dX10_canBe_10 : decode cX10_canBe 10 = .ok (.ifCond .eq 17, 3) := by decide +kernel
theorem dX10_canBe_13 : decode cX10_canBe 13 = .ok (.aload_n 0, 1) := by decide +kernel
theorem dX10_canBe_14 : decode cX10_canBe 14 = .ok (.getfield 13, 3) := by decide +kernel
theorem dX10_canBe_17 : decode cX10_canBe 17 = .ok (.iload_n 2, 1) := by decide +kernel
theorem dX10_canBe_18 : decode cX10_canBe 18 = .ok (.iaload, 1) := by decide +kernel
theorem dX10_canBe_19 : decode cX10_canBe 19 = .ok (.iload_n 1, 1) := by decide +kernel
theorem dX10_canBe_20 : decode cX10_canBe 20 = .ok (.if_icmp .ne 7, 3) := by decide +kernel
theorem dX10_canBe_23 : decode cX10_canBe 23 = .ok (.iconst 1, 1) := by decide +kernel
theorem dX10_canBe_24 : decode cX10_canBe 24 = .ok (.goto 4, 3) := by decide +kernel
theorem dX10_canBe_27 : decode cX10_canBe 27 = .ok (.iconst 0, 1) := by decide +kernel
theorem dX10_canBe_28 : decode cX10_canBe 28 = .ok (.ireturn, 1) := by decide +kernel
def wX10_canBe (I : Nat → Int32) (A : Nat → Nat → Int32) (x1 : Int32) (x2 : Int32) (post : Int32 → Prop) : Prop := if x2 = (-1) then (post 1) else (wX10_isCategory I A x2 (fun r7 => if r7 = 0 then (post 0) else (vp_in x2 40 ∧ (if (A 2 x2.toNatClampNeg) = x1 then (post 1) else (post 0)))))
abbrev rmX10_canBe : Room := { frames := 1, cells := 0, slots := 0, locals := 21 }
theorem wd_X10_canBe : Cond.instanceMethod yX10_canBe ∈ BW ∧ Cond.selects yX10_canBe.cls yX10_canBe yX10_canBe ∈ BW ∧ Cond.initialized yX10_canBe.cls ∈ BW ∧ Cond.code yX10_canBe cX10_canBe 3 (some .boolean) ∈ BW := ⟨mw_4_230, mp_20, mw_1_11, mw_4_231⟩
set_option maxHeartbeats 4000000 in
set_option maxRecDepth 100000 in
theorem c_X10_canBe {l : Launch} {D : va_G} {cy : Nat → ClassId} {ad : Nat → Nat} {Ad : Nat → Prop} (hAd : adok 16 Ad ad) (I : Nat → Int32) (A : Nat → Nat → Int32) (x1 : Int32) (x2 : Int32)  (post : Int32 → Prop) (h : wX10_canBe I A x1 x2 post) : Met l yX10_canBe (.code yX10_canBe cX10_canBe 3 (some .boolean) :: BW) rmX10_canBe (va_Pc [.ref (ad 0), .int x1, .int x2] (fun U => kC D cy U ∧ va_P D vwCl (wM cy ad I A) U.heap)) (qMi D cy ad Ad (fun r u => post r  ∧ I = u.1 ∧ A = u.2)) 0 0 Ad := by
  refine startMz (by decide) (Nat.le_of_ble_eq_true rfl) (lv := [(0, .ref (ad 0)), (1, .int x1), (2, .int x2)]) rfl (fun p e s m args below meth c Q ls hx hb hml hT hown hK hret hl hP hS => ?_)
  unfold wX10_canBe at h
  refine lv_iload_n hx hb dX10_canBe_0 rfl (lv_at hl 2 rfl) ?_
  refine lv_iconst (v := (-1)) hx hb dX10_canBe_1 (by decide) ?_
  refine lv_icmp_eq (tgt := 23) hx hb dX10_canBe_2 (by decide) (fun hc => ?_) (fun hc => ?_)
  · rw [if_pos hc] at h
    refine lv_iconst (v := 1) hx hb dX10_canBe_23 (by decide) ?_
    refine lv_goto (tgt := 28) hx hb dX10_canBe_24 (by decide) ?_
    exact hret _ (I, A) zb_1 dX10_canBe_28 ⟨h, rfl, rfl⟩ hP hS
  · rw [if_neg hc] at h
    refine lv_aload_n hx hb dX10_canBe_5 rfl (lv_at hl 0 rfl) ?_
    refine lv_iload_n hx hb dX10_canBe_6 rfl (lv_at hl 2 rfl) ?_
    refine callMi (k := 0) (As := [.int x2]) (rest := []) (n := 1) (c_X10_isCategory hAd I A x2 _ h) hx hb hT hown hK hP hS mw_4_232 wd_X10_isCategory (by decide +kernel) ⟨rfl, rfl⟩ (by decide) rfl rfl he_X10 rfl hl.1 hml rfl (Nat.le_of_ble_eq_true rfl) dX10_canBe_7 ⟨Nat.zero_le _, Nat.zero_le _⟩ (fun r7 u H locs h hP hS => ?_)
    obtain ⟨Iu, Au⟩ := u
    dsimp only at h hP
    obtain ⟨h, rfl, rfl⟩ := h
    try dsimp only at h
    refine lv_if_eq (tgt := 27) hx hb dX10_canBe_10 (by decide) (fun hc_1 => ?_) (fun hc_1 => ?_)
    · rw [if_pos hc_1] at h
      refine lv_iconst (v := 0) hx hb dX10_canBe_27 (by decide) ?_
      exact hret _ (I, A) zb_0 dX10_canBe_28 ⟨h, rfl, rfl⟩ hP hS
    · rw [if_neg hc_1] at h
      refine lv_aload_n hx hb dX10_canBe_13 rfl (lv_at hl 0 rfl) ?_
      refine va_get (T := TX10) hx hb hT inlX10 hown hK.1 hP 0 he_X10 rfl 5 (by decide) (hT _ mw_4_142) (fun _ h9 => h9) rfl dX10_canBe_14 ?_
      refine lv_iload_n hx hb dX10_canBe_17 rfl (lv_at hl 2 rfl) ?_
      obtain ⟨hi, h⟩ := h
      refine lM_I hx hb hK.1 hP (by decide) rfl hi dX10_canBe_18 ?_
      refine lv_iload_n hx hb dX10_canBe_19 rfl (lv_at hl 1 rfl) ?_
      refine lv_icmp_ne (tgt := 27) hx hb dX10_canBe_20 (by decide) (fun hc_2 => ?_) (fun hc_2 => ?_)
      · rw [if_neg hc_2] at h
        refine lv_iconst (v := 0) hx hb dX10_canBe_27 (by decide) ?_
        exact hret _ (I, A) zb_0 dX10_canBe_28 ⟨h, rfl, rfl⟩ hP hS
      · rw [if_pos hc_2] at h
        refine lv_iconst (v := 1) hx hb dX10_canBe_23 (by decide) ?_
        refine lv_goto (tgt := 28) hx hb dX10_canBe_24 (by decide) ?_
        exact hret _ (I, A) zb_1 dX10_canBe_28 ⟨h, rfl, rfl⟩ hP hS
theorem dX10_category_0 : decode cX10_category 0 = .ok (.aload_n 0, 1) := by decide +kernel
theorem dX10_category_1 : decode cX10_category 1 = .ok (.iconst 0, 1) := by decide +kernel
theorem dX10_category_2 : decode cX10_category 2 = .ok (.putfield 56, 3) := by decide +kernel
theorem dX10_category_5 : decode cX10_category 5 = .ok (.aload_n 0, 1) := by decide +kernel
theorem dX10_category_6 : decode cX10_category 6 = .ok (.iload_n 1, 1) := by decide +kernel
theorem dX10_category_7 : decode cX10_category 7 = .ok (.invokevirtual 80, 3) := by decide +kernel
theorem dX10_category_10 : decode cX10_category 10 = .ok (.ifCond .eq 34, 3) := by decide +kernel
theorem dX10_category_13 : decode cX10_category 13 = .ok (.aload_n 0, 1) := by decide +kernel
theorem dX10_category_14 : decode cX10_category 14 = .ok (.iload_n 1, 1) := by decide +kernel
theorem dX10_category_15 : decode cX10_category 15 = .ok (.iload_n 2, 1) := by decide +kernel
theorem dX10_category_16 : decode cX10_category 16 = .ok (.invokevirtual 83, 3) := by decide +kernel
theorem dX10_category_19 : decode cX10_category 19 = .ok (.ifCond .eq 25, 3) := by decide +kernel
theorem dX10_category_22 : decode cX10_category 22 = .ok (.aload_n 0, 1) := by decide +kernel
theorem dX10_category_23 : decode cX10_category 23 = .ok (.getfield 67, 3) := by decide +kernel
theorem dX10_category_26 : decode cX10_category 26 = .ok (.bipush 40, 2) := by decide +kernel
theorem dX10_category_28 : decode cX10_category 28 = .ok (.if_icmp .eq 16, 3) := by decide +kernel
theorem dX10_category_31 : decode cX10_category 31 = .ok (.iload_n 2, 1) := by decide +kernel
theorem dX10_category_32 : decode cX10_category 32 = .ok (.ifCond .lt 14, 3) := by decide +kernel
theorem dX10_category_35 : decode cX10_category 35 = .ok (.aload_n 0, 1) := by decide +kernel
theorem dX10_category_36 : decode cX10_category 36 = .ok (.iload_n 2, 1) := by decide +kernel
theorem dX10_category_37 : decode cX10_category 37 = .ok (.invokevirtual 87, 3) := by decide +kernel
theorem dX10_category_40 : decode cX10_category 40 = .ok (.iconst 5, 1) := by decide +kernel
theorem dX10_category_41 : decode cX10_category 41 = .ok (.if_icmp .ne 5, 3) := by decide +kernel
theorem dX10_category_44 : decode cX10_category 44 = .ok (.iconst (-1), 1) := by decide +kernel
theorem dX10_category_45 : decode cX10_category 45 = .ok (.ireturn, 1) := by decide +kernel
theorem dX10_category_46 : decode cX10_category 46 = .ok (.aload_n 0, 1) := by decide +kernel
theorem dX10_category_47 : decode cX10_category 47 = .ok (.getfield 13, 3) := by decide +kernel
theorem dX10_category_50 : decode cX10_category 50 = .ok (.aload_n 0, 1) := by decide +kernel
theorem dX10_category_51 : decode cX10_category 51 = .ok (.getfield 67, 3) := by decide +kernel
theorem dX10_category_54 : decode cX10_category 54 = .ok (.iload_n 1, 1) := by decide +kernel
theorem dX10_category_55 : decode cX10_category 55 = .ok (.iastore, 1) := by decide +kernel
theorem dX10_category_56 : decode cX10_category 56 = .ok (.aload_n 0, 1) := by decide +kernel
theorem dX10_category_57 : decode cX10_category 57 = .ok (.getfield 16, 3) := by decide +kernel
theorem dX10_category_60 : decode cX10_category 60 = .ok (.aload_n 0, 1) := by decide +kernel
theorem dX10_category_61 : decode cX10_category 61 = .ok (.getfield 67, 3) := by decide +kernel
theorem dX10_category_64 : decode cX10_category 64 = .ok (.iload_n 2, 1) := by decide +kernel
theorem dX10_category_65 : decode cX10_category 65 = .ok (.iastore, 1) := by decide +kernel
theorem dX10_category_66 : decode cX10_category 66 = .ok (.aload_n 0, 1) := by decide +kernel
theorem dX10_category_67 : decode cX10_category 67 = .ok (.dup, 1) := by decide +kernel
theorem dX10_category_68 : decode cX10_category 68 = .ok (.getfield 67, 3) := by decide +kernel
theorem dX10_category_71 : decode cX10_category 71 = .ok (.iconst 1, 1) := by decide +kernel
theorem dX10_category_72 : decode cX10_category 72 = .ok (.iadd, 1) := by decide +kernel
theorem dX10_category_73 : decode cX10_category 73 = .ok (.putfield 67, 3) := by decide +kernel
theorem dX10_category_76 : decode cX10_category 76 = .ok (.aload_n 0, 1) := by decide +kernel
theorem dX10_category_77 : decode cX10_category 77 = .ok (.getfield 67, 3) := by decide +kernel
theorem dX10_category_80 : decode cX10_category 80 = .ok (.iconst 1, 1) := by decide +kernel
theorem dX10_category_81 : decode cX10_category 81 = .ok (.isub, 1) := by decide +kernel
theorem dX10_category_82 : decode cX10_category 82 = .ok (.ireturn, 1) := by decide +kernel
def wX10_category (I : Nat → Int32) (A : Nat → Nat → Int32) (x1 : Int32) (x2 : Int32) (post : Int32 → (Nat → Int32) → (Nat → Nat → Int32) → Prop) : Prop := (∀ I_1, I_1 = va_up I 0 0 → wX10_isTree I_1 A x1 (fun r7 => if r7 = 0 then (post (-1) I_1 A) else (wX10_canBe I_1 A x1 x2 (fun r16 => if r16 = 0 then (post (-1) I_1 A) else (if (I_1 2) = 40 then (post (-1) I_1 A) else (jn (fun (_ : Unit) => vp_in (I_1 2) 40 ∧ (∀ A_1, A_1 = va_up A 2 (upd (A 2) (I_1 2).toNatClampNeg x1) → vp_in (I_1 2) 40 ∧ (∀ A_2, A_2 = va_up A_1 3 (upd (A_1 3) (I_1 2).toNatClampNeg x2) → (∀ I_2, I_2 = va_up I_1 2 ((I_1 2) + 1) → post ((I_2 2) - 1) I_2 A_2)))) (fun k => if x2 < 0 then (k ()) else (wX10_level I_1 A x2 (fun r37 => if r37 = 5 then (post (-1) I_1 A) else (k ()))))))))))
abbrev rmX10_category : Room := { frames := 2, cells := 0, slots := 0, locals := 43 }
theorem wd_X10_category : Cond.instanceMethod yX10_category ∈ BW ∧ Cond.selects yX10_category.cls yX10_category yX10_category ∈ BW ∧ Cond.initialized yX10_category.cls ∈ BW ∧ Cond.code yX10_category cX10_category 3 (some .int) ∈ BW := ⟨mw_4_217, mw_4_218, mw_1_11, mw_4_219⟩
set_option maxHeartbeats 4000000 in
set_option maxRecDepth 100000 in
theorem c_X10_category {l : Launch} {D : va_G} {cy : Nat → ClassId} {ad : Nat → Nat} {Ad : Nat → Prop} (hAd : adok 16 Ad ad) (I : Nat → Int32) (A : Nat → Nat → Int32) (x1 : Int32) (x2 : Int32)  (post : Int32 → (Nat → Int32) → (Nat → Nat → Int32) → Prop) (h : wX10_category I A x1 x2 post) : Met l yX10_category (.code yX10_category cX10_category 3 (some .int) :: BW) rmX10_category (va_Pc [.ref (ad 0), .int x1, .int x2] (fun U => kC D cy U ∧ va_P D vwCl (wM cy ad I A) U.heap)) (qMi D cy ad Ad (fun r u => post r u.1 u.2)) 0 0 Ad := by
  refine startMi (by decide) (Nat.le_of_ble_eq_true rfl) (lv := [(0, .ref (ad 0)), (1, .int x1), (2, .int x2)]) rfl (fun p e s m args below meth c Q ls hx hb hml hT hown hK hret hl hP hS => ?_)
  unfold wX10_category at h
  refine lv_aload_n hx hb dX10_category_0 rfl (lv_at hl 0 rfl) ?_
  refine lv_iconst (v := 0) hx hb dX10_category_1 (by decide) ?_
  refine pM_X10_thrown hAd hx hb hT hown hK.1 hP hS (hT _ mw_4_137) dX10_category_2 (fun H locs hP hS => ?_)
  obtain ⟨I_1, eI_1⟩ : ∃ z, z = va_up I 0 0 := ⟨_, rfl⟩
  rw [← eI_1] at hP
  replace h := h I_1 eI_1
  refine lv_aload_n hx hb dX10_category_5 rfl (lv_at hl 0 rfl) ?_
  refine lv_iload_n hx hb dX10_category_6 rfl (lv_at hl 1 rfl) ?_
  refine callMi (k := 0) (As := [.int x1]) (rest := []) (n := 1) (c_X10_isTree hAd I_1 A x1 _ h) hx hb hT hown hK hP hS mw_4_220 wd_X10_isTree (by decide +kernel) ⟨rfl, rfl⟩ (by decide) rfl rfl he_X10 rfl hl.1 hml rfl (Nat.le_of_ble_eq_true rfl) dX10_category_7 ⟨Nat.zero_le _, Nat.zero_le _⟩ (fun r7 u H locs h hP hS => ?_)
  obtain ⟨Iu, Au⟩ := u
  dsimp only at h hP
  obtain ⟨h, rfl, rfl⟩ := h
  try dsimp only at h
  refine lv_if_eq (tgt := 44) hx hb dX10_category_10 (by decide) (fun hc => ?_) (fun hc => ?_)
  · rw [if_pos hc] at h
    refine lv_iconst (v := (-1)) hx hb dX10_category_44 (by decide) ?_
    exact hret _ (I_1, A) dX10_category_45 h hP hS
  · rw [if_neg hc] at h
    refine lv_aload_n hx hb dX10_category_13 rfl (lv_at hl 0 rfl) ?_
    refine lv_iload_n hx hb dX10_category_14 rfl (lv_at hl 1 rfl) ?_
    refine lv_iload_n hx hb dX10_category_15 rfl (lv_at hl 2 rfl) ?_
    refine callMi (k := 0) (As := [.int x1, .int x2]) (rest := []) (n := 2) (c_X10_canBe hAd I_1 A x1 x2 _ h) hx hb hT hown hK hP hS mw_4_228 wd_X10_canBe (by decide +kernel) ⟨rfl, rfl⟩ (by decide) rfl rfl he_X10 rfl hl.1 hml rfl (Nat.le_of_ble_eq_true rfl) dX10_category_16 ⟨Nat.zero_le _, Nat.zero_le _⟩ (fun r16 u H locs h hP hS => ?_)
    obtain ⟨Iu_1, Au_1⟩ := u
    dsimp only at h hP
    obtain ⟨h, rfl, rfl⟩ := h
    try dsimp only at h
    refine lv_if_eq (tgt := 44) hx hb dX10_category_19 (by decide) (fun hc_1 => ?_) (fun hc_1 => ?_)
    · rw [if_pos hc_1] at h
      refine lv_iconst (v := (-1)) hx hb dX10_category_44 (by decide) ?_
      exact hret _ (I_1, A) dX10_category_45 h hP hS
    · rw [if_neg hc_1] at h
      refine lv_aload_n hx hb dX10_category_22 rfl (lv_at hl 0 rfl) ?_
      refine va_get (T := TX10) hx hb hT inlX10 hown hK.1 hP 0 he_X10 rfl 2 (by decide) (hT _ mw_4_139) (fun _ h9 => h9) rfl dX10_category_23 ?_
      refine lv_bipush (v := 40) hx hb dX10_category_26 (by decide) ?_
      refine lv_icmp_eq (tgt := 44) hx hb dX10_category_28 (by decide) (fun hc_2 => ?_) (fun hc_2 => ?_)
      · rw [if_pos hc_2] at h
        refine lv_iconst (v := (-1)) hx hb dX10_category_44 (by decide) ?_
        exact hret _ (I_1, A) dX10_category_45 h hP hS
      · rw [if_neg hc_2] at h
        refine lv_iload_n hx hb dX10_category_31 rfl (lv_at hl 2 rfl) ?_
        obtain ⟨k, hk, h⟩ := jn_ex h
        try dsimp only at h
        have J : k () → ∀ (ls : Array Slot) (H : Heap) (locs : List Loc), lv_has ls 3 [(0, .ref (ad 0)), (1, .int x1), (2, .int x2)] → va_P D vwCl (wM cy ad I_1 A) H → va_S Ad s.heap H locs → W p l e rmX10_category s m args below meth c H locs 0 0 Q (F0 m 46 ls []) := by
          intro  h ls H locs hl hP hS
          replace h := hk _ h
          try dsimp only at h
          refine lv_aload_n hx hb dX10_category_46 rfl (lv_at hl 0 rfl) ?_
          refine va_get (T := TX10) hx hb hT inlX10 hown hK.1 hP 0 he_X10 rfl 5 (by decide) (hT _ mw_4_142) (fun _ h9 => h9) rfl dX10_category_47 ?_
          refine lv_aload_n hx hb dX10_category_50 rfl (lv_at hl 0 rfl) ?_
          refine va_get (T := TX10) hx hb hT inlX10 hown hK.1 hP 0 he_X10 rfl 2 (by decide) (hT _ mw_4_139) (fun _ h9 => h9) rfl dX10_category_51 ?_
          refine lv_iload_n hx hb dX10_category_54 rfl (lv_at hl 1 rfl) ?_
          obtain ⟨hi, h⟩ := h
          refine sM_I hAd hx hb hK.1 hP hS (by decide) (fun _ => rfl) hi dX10_category_55 (fun H locs hP hS => ?_)
          obtain ⟨A_1, eA_1⟩ : ∃ z, z = va_up A 2 (upd (A 2) (I_1 2).toNatClampNeg x1) := ⟨_, rfl⟩
          rw [← eA_1] at hP
          replace h := h A_1 eA_1
          refine lv_aload_n hx hb dX10_category_56 rfl (lv_at hl 0 rfl) ?_
          refine va_get (T := TX10) hx hb hT inlX10 hown hK.1 hP 0 he_X10 rfl 6 (by decide) (hT _ mw_4_143) (fun _ h9 => h9) rfl dX10_category_57 ?_
          refine lv_aload_n hx hb dX10_category_60 rfl (lv_at hl 0 rfl) ?_
          refine va_get (T := TX10) hx hb hT inlX10 hown hK.1 hP 0 he_X10 rfl 2 (by decide) (hT _ mw_4_139) (fun _ h9 => h9) rfl dX10_category_61 ?_
          refine lv_iload_n hx hb dX10_category_64 rfl (lv_at hl 2 rfl) ?_
          obtain ⟨hi_1, h⟩ := h
          refine sM_I hAd hx hb hK.1 hP hS (by decide) (fun _ => rfl) hi_1 dX10_category_65 (fun H locs hP hS => ?_)
          obtain ⟨A_2, eA_2⟩ : ∃ z, z = va_up A_1 3 (upd (A_1 3) (I_1 2).toNatClampNeg x2) := ⟨_, rfl⟩
          rw [← eA_2] at hP
          replace h := h A_2 eA_2
          refine lv_aload_n hx hb dX10_category_66 rfl (lv_at hl 0 rfl) ?_
          refine lv_dup hx hb dX10_category_67 rfl ?_
          refine va_get (T := TX10) hx hb hT inlX10 hown hK.1 hP 0 he_X10 rfl 2 (by decide) (hT _ mw_4_139) (fun _ h9 => h9) rfl dX10_category_68 ?_
          refine lv_iconst (v := 1) hx hb dX10_category_71 (by decide) ?_
          refine lv_iadd hx hb dX10_category_72 ?_
          refine pM_X10_categories hAd hx hb hT hown hK.1 hP hS (hT _ mw_4_139) dX10_category_73 (fun H locs hP hS => ?_)
          obtain ⟨I_2, eI_2⟩ : ∃ z, z = va_up I_1 2 ((I_1 2) + 1) := ⟨_, rfl⟩
          rw [← eI_2] at hP
          replace h := h I_2 eI_2
          refine lv_aload_n hx hb dX10_category_76 rfl (lv_at hl 0 rfl) ?_
          refine va_get (T := TX10) hx hb hT inlX10 hown hK.1 hP 0 he_X10 rfl 2 (by decide) (hT _ mw_4_139) (fun _ h9 => h9) rfl dX10_category_77 ?_
          refine lv_iconst (v := 1) hx hb dX10_category_80 (by decide) ?_
          refine lv_isub hx hb dX10_category_81 ?_
          exact hret _ (I_2, A_2) dX10_category_82 h hP hS
        refine lv_if_lt (tgt := 46) hx hb dX10_category_32 (by decide) (fun hc_3 => ?_) (fun hc_3 => ?_)
        · rw [if_pos hc_3] at h
          exact J  h _ _ _ (lv_sub hl [0, 1, 2] rfl) hP hS
        · rw [if_neg hc_3] at h
          refine lv_aload_n hx hb dX10_category_35 rfl (lv_at hl 0 rfl) ?_
          refine lv_iload_n hx hb dX10_category_36 rfl (lv_at hl 2 rfl) ?_
          refine callMi (k := 0) (As := [.int x2]) (rest := []) (n := 1) (c_X10_level hAd I_1 A x2 _ h) hx hb hT hown hK hP hS mw_4_236 wd_X10_level (by decide +kernel) ⟨rfl, rfl⟩ (by decide) rfl rfl he_X10 rfl hl.1 hml rfl (Nat.le_of_ble_eq_true rfl) dX10_category_37 ⟨Nat.zero_le _, Nat.zero_le _⟩ (fun r37 u H locs h hP hS => ?_)
          obtain ⟨Iu_2, Au_2⟩ := u
          dsimp only at h hP
          obtain ⟨h, rfl, rfl⟩ := h
          try dsimp only at h
          refine lv_iconst (v := 5) hx hb dX10_category_40 (by decide) ?_
          refine lv_icmp_ne (tgt := 46) hx hb dX10_category_41 (by decide) (fun hc_4 => ?_) (fun hc_4 => ?_)
          · rw [if_neg hc_4] at h
            exact J  h _ _ _ (lv_sub hl [0, 1, 2] rfl) hP hS
          · rw [if_pos hc_4] at h
            refine lv_iconst (v := (-1)) hx hb dX10_category_44 (by decide) ?_
            exact hret _ (I_1, A) dX10_category_45 h hP hS
theorem dX10_owns_0 : decode cX10_owns 0 = .ok (.iconst 0, 1) := by decide +kernel
theorem dX10_owns_1 : decode cX10_owns 1 = .ok (.istore_n 1, 1) := by decide +kernel
theorem dX10_owns_2 : decode cX10_owns 2 = .ok (.iload_n 1, 1) := by decide +kernel
theorem dX10_owns_3 : decode cX10_owns 3 = .ok (.sipush 1600, 3) := by decide +kernel
theorem dX10_owns_6 : decode cX10_owns 6 = .ok (.if_icmp .ge 16, 3) := by decide +kernel
theorem dX10_owns_9 : decode cX10_owns 9 = .ok (.aload_n 0, 1) := by decide +kernel
theorem dX10_owns_10 : decode cX10_owns 10 = .ok (.getfield 38, 3) := by decide +kernel
theorem dX10_owns_13 : decode cX10_owns 13 = .ok (.iload_n 1, 1) := by decide +kernel
theorem dX10_owns_14 : decode cX10_owns 14 = .ok (.iconst 0, 1) := by decide +kernel
theorem dX10_owns_15 : decode cX10_owns 15 = .ok (.bastore, 1) := by decide +kernel
theorem dX10_owns_16 : decode cX10_owns 16 = .ok (.iinc 1 1, 3) := by decide +kernel
theorem dX10_owns_19 : decode cX10_owns 19 = .ok (.goto (-17), 3) := by decide +kernel
theorem dX10_owns_22 : decode cX10_owns 22 = .ok (.iconst 0, 1) := by decide +kernel
theorem dX10_owns_23 : decode cX10_owns 23 = .ok (.istore_n 1, 1) := by decide +kernel
theorem dX10_owns_24 : decode cX10_owns 24 = .ok (.iload_n 1, 1) := by decide +kernel
theorem dX10_owns_25 : decode cX10_owns 25 = .ok (.aload_n 0, 1) := by decide +kernel
theorem dX10_owns_26 : decode cX10_owns 26 = .ok (.getfield 70, 3) := by decide +kernel
theorem dX10_owns_29 : decode cX10_owns 29 = .ok (.if_icmp .ge 67, 3) := by decide +kernel
theorem dX10_owns_32 : decode cX10_owns 32 = .ok (.iconst 0, 1) := by decide +kernel
theorem dX10_owns_33 : decode cX10_owns 33 = .ok (.istore_n 2, 1) := by decide +kernel
theorem dX10_owns_34 : decode cX10_owns 34 = .ok (.iload_n 2, 1) := by decide +kernel
theorem dX10_owns_35 : decode cX10_owns 35 = .ok (.aload_n 0, 1) := by decide +kernel
theorem dX10_owns_36 : decode cX10_owns 36 = .ok (.getfield 67, 3) := by decide +kernel
theorem dX10_owns_39 : decode cX10_owns 39 = .ok (.if_icmp .ge 51, 3) := by decide +kernel
theorem dX10_owns_42 : decode cX10_owns 42 = .ok (.iload_n 2, 1) := by decide +kernel
theorem dX10_owns_43 : decode cX10_owns 43 = .ok (.istore_n 3, 1) := by decide +kernel
theorem dX10_owns_44 : decode cX10_owns 44 = .ok (.iload_n 3, 1) := by decide +kernel
theorem dX10_owns_45 : decode cX10_owns 45 = .ok (.ifCond .lt 39, 3) := by decide +kernel
theorem dX10_owns_48 : decode cX10_owns 48 = .ok (.aload_n 0, 1) := by decide +kernel
theorem dX10_owns_49 : decode cX10_owns 49 = .ok (.getfield 26, 3) := by decide +kernel
theorem dX10_owns_52 : decode cX10_owns 52 = .ok (.bipush 40, 2) := by decide +kernel
theorem dX10_owns_54 : decode cX10_owns 54 = .ok (.iload_n 1, 1) := by decide +kernel
theorem dX10_owns_55 : decode cX10_owns 55 = .ok (.imul, 1) := by decide +kernel
theorem dX10_owns_56 : decode cX10_owns 56 = .ok (.iload_n 2, 1) := by decide +kernel
theorem dX10_owns_57 : decode cX10_owns 57 = .ok (.iadd, 1) := by decide +kernel
theorem dX10_owns_58 : decode cX10_owns 58 = .ok (.baload, 1) := by decide +kernel
theorem dX10_owns_59 : decode cX10_owns 59 = .ok (.ifCond .eq 25, 3) := by decide +kernel
theorem dX10_owns_62 : decode cX10_owns 62 = .ok (.aload_n 0, 1) := by decide +kernel
theorem dX10_owns_63 : decode cX10_owns 63 = .ok (.getfield 38, 3) := by decide +kernel
theorem dX10_owns_66 : decode cX10_owns 66 = .ok (.bipush 40, 2) := by decide +kernel
theorem dX10_owns_68 : decode cX10_owns 68 = .ok (.iload_n 1, 1) := by decide +kernel
theorem dX10_owns_69 : decode cX10_owns 69 = .ok (.imul, 1) := by decide +kernel
theorem dX10_owns_70 : decode cX10_owns 70 = .ok (.iload_n 3, 1) := by decide +kernel
theorem dX10_owns_71 : decode cX10_owns 71 = .ok (.iadd, 1) := by decide +kernel
theorem dX10_owns_72 : decode cX10_owns 72 = .ok (.iconst 1, 1) := by decide +kernel
theorem dX10_owns_73 : decode cX10_owns 73 = .ok (.bastore, 1) := by decide +kernel
theorem dX10_owns_74 : decode cX10_owns 74 = .ok (.aload_n 0, 1) := by decide +kernel
theorem dX10_owns_75 : decode cX10_owns 75 = .ok (.getfield 16, 3) := by decide +kernel
theorem dX10_owns_78 : decode cX10_owns 78 = .ok (.iload_n 3, 1) := by decide +kernel
theorem dX10_owns_79 : decode cX10_owns 79 = .ok (.iaload, 1) := by decide +kernel
theorem dX10_owns_80 : decode cX10_owns 80 = .ok (.istore_n 3, 1) := by decide +kernel
theorem dX10_owns_81 : decode cX10_owns 81 = .ok (.goto (-37), 3) := by decide +kernel
theorem dX10_owns_84 : decode cX10_owns 84 = .ok (.iinc 2 1, 3) := by decide +kernel
theorem dX10_owns_87 : decode cX10_owns 87 = .ok (.goto (-53), 3) := by decide +kernel
theorem dX10_owns_90 : decode cX10_owns 90 = .ok (.iinc 1 1, 3) := by decide +kernel
theorem dX10_owns_93 : decode cX10_owns 93 = .ok (.goto (-69), 3) := by decide +kernel
theorem dX10_owns_96 : decode cX10_owns 96 = .ok (.return_, 1) := by decide +kernel
def wX10_owns (I : Nat → Int32) (A : Nat → Nat → Int32)  (post : (Nat → Nat → Int32) → Prop) : Prop := ∃ n, lfix (fun (r : (Int32 × (Nat → Nat → Int32)) → Prop) (v1, A_1) => if 1600 ≤ v1 then (∃ n_1, lfix (fun (r_1 : (Int32 × (Nat → Nat → Int32)) → Prop) (v1_1, A_2) => if (I 3) ≤ v1_1 then (post A_2) else (∃ n_2, lfix (fun (r_2 : (Int32 × (Nat → Nat → Int32)) → Prop) (v2, A_3) => if (I 2) ≤ v2 then (∀ v1_2 : Int32, v1_2 = v1_1 + 1 → r_1 (v1_2, A_3)) else (∃ n_3, lfix (fun (r_3 : (Int32 × (Nat → Nat → Int32)) → Prop) (v3, A_4) => if v3 < 0 then (∀ v2_1 : Int32, v2_1 = v2 + 1 → r_2 (v2_1, A_4)) else (vp_in ((40 * v1_1) + v2) 1600 ∧ (if (A_4 6 ((40 * v1_1) + v2).toNatClampNeg) = 0 then (∀ v2_2 : Int32, v2_2 = v2 + 1 → r_2 (v2_2, A_4)) else (vp_in ((40 * v1_1) + v3) 1600 ∧ (∀ A_5, A_5 = va_up A_4 10 (upd (A_4 10) ((40 * v1_1) + v3).toNatClampNeg (vp_nar .boolean 1)) → vp_in v3 40 ∧ (∀ v3_1 : Int32, v3_1 = A_5 3 v3.toNatClampNeg → r_3 (v3_1, A_5))))))) n_3 (v2, A_3))) n_2 (0, A_2))) n_1 (0, A_1)) else (vp_in v1 1600 ∧ (∀ A_6, A_6 = va_up A_1 10 (upd (A_1 10) v1.toNatClampNeg (vp_nar .boolean 0)) → ∀ v1_3 : Int32, v1_3 = v1 + 1 → r (v1_3, A_6)))) n (0, A)
abbrev rmX10_owns : Room := { frames := 0, cells := 0, slots := 0, locals := 0 }
theorem wd_X10_owns : Cond.instanceMethod yX10_owns ∈ BW ∧ Cond.selects yX10_owns.cls yX10_owns yX10_owns ∈ BW ∧ Cond.initialized yX10_owns.cls ∈ BW ∧ Cond.code yX10_owns cX10_owns 4 (none : Option Jvm.ClassFile.FieldType) ∈ BW := ⟨mw_5_10, mp_24, mw_1_11, mw_5_11⟩
set_option maxHeartbeats 4000000 in
set_option maxRecDepth 100000 in
theorem c_X10_owns {l : Launch} {D : va_G} {cy : Nat → ClassId} {ad : Nat → Nat} {Ad : Nat → Prop} (hAd : adok 16 Ad ad) (I : Nat → Int32) (A : Nat → Nat → Int32)   (post : (Nat → Nat → Int32) → Prop) (h : wX10_owns I A  post) : Met l yX10_owns (.code yX10_owns cX10_owns 4 (none : Option Jvm.ClassFile.FieldType) :: BW) rmX10_owns (va_Pc [.ref (ad 0)] (fun U => kC D cy U ∧ va_P D vwCl (wM cy ad I A) U.heap)) (qMv D cy ad Ad (fun u => post u.2 ∧ I = u.1)) 0 0 Ad := by
  refine startMv (by decide) (Nat.le_of_ble_eq_true rfl) (lv := [(0, .ref (ad 0))]) rfl (fun p e s m args below meth c Q ls hx hb hml hT hown hK hret hl hP hS => ?_)
  unfold wX10_owns at h
  refine lv_iconst (v := 0) hx hb dX10_owns_0 (by decide) ?_
  refine lv_istore_n (lv' := [(1, .int 0), (0, .ref (ad 0))]) hx hb dX10_owns_1 rfl hl (by decide) rfl (fun ls hl => ?_)
  obtain ⟨F, n, h, hF, hG⟩ := lfix_ex h
  have LP : ∀ (n : Nat) (v1 : Int32) (A_1 : Nat → Nat → Int32) (ls : Array Slot) (H : Heap) (locs : List Loc), F n (v1, A_1) → lv_has ls 4 [(1, .int v1), (0, .ref (ad 0))] → va_P D vwCl (wM cy ad I A_1) H → va_S Ad s.heap H locs → W p l e rmX10_owns s m args below meth c H locs 0 0 Q (F0 m 2 ls []) := by
    intro n
    induction n with
    | zero => intro v1 A_1 ls H locs h _ _ _; exact absurd h (hF _)
    | succ n ih =>
      intro v1 A_1 ls H locs h hl hP hS
      replace h := hG _ _ h
      try dsimp only at h
      refine lv_iload_n hx hb dX10_owns_2 rfl (lv_at hl 0 rfl) ?_
      refine lv_sipush (v := 1600) hx hb dX10_owns_3 (by decide) ?_
      refine lv_icmp_ge (tgt := 22) hx hb dX10_owns_6 (by decide) (fun hc => ?_) (fun hc => ?_)
      · rw [if_pos hc] at h
        refine lv_iconst (v := 0) hx hb dX10_owns_22 (by decide) ?_
        refine lv_istore_n (lv' := [(1, .int 0), (0, .ref (ad 0))]) hx hb dX10_owns_23 rfl hl (by decide) rfl (fun ls hl => ?_)
        obtain ⟨F_1, n_1, h, hF_1, hG_1⟩ := lfix_ex h
        have LP_1 : ∀ (n_1 : Nat) (v1_1 : Int32) (A_2 : Nat → Nat → Int32) (ls : Array Slot) (H : Heap) (locs : List Loc), F_1 n_1 (v1_1, A_2) → lv_has ls 4 [(1, .int v1_1), (0, .ref (ad 0))] → va_P D vwCl (wM cy ad I A_2) H → va_S Ad s.heap H locs → W p l e rmX10_owns s m args below meth c H locs 0 0 Q (F0 m 24 ls []) := by
          intro n_1
          induction n_1 with
          | zero => intro v1_1 A_2 ls H locs h _ _ _; exact absurd h (hF_1 _)
          | succ n_1 ih_1 =>
            intro v1_1 A_2 ls H locs h hl hP hS
            replace h := hG_1 _ _ h
            try dsimp only at h
            refine lv_iload_n hx hb dX10_owns_24 rfl (lv_at hl 0 rfl) ?_
            refine lv_aload_n hx hb dX10_owns_25 rfl (lv_at hl 1 rfl) ?_
            refine va_get (T := TX10) hx hb hT inlX10 hown hK.1 hP 0 he_X10 rfl 3 (by decide) (hT _ mw_4_140) (fun _ h9 => h9) rfl dX10_owns_26 ?_
            refine lv_icmp_ge (tgt := 96) hx hb dX10_owns_29 (by decide) (fun hc_1 => ?_) (fun hc_1 => ?_)
            · rw [if_pos hc_1] at h
              exact hret (I, A_2) dX10_owns_96 ⟨h, rfl⟩ hP hS
            · rw [if_neg hc_1] at h
              refine lv_iconst (v := 0) hx hb dX10_owns_32 (by decide) ?_
              refine lv_istore_n (lv' := [(2, .int 0), (1, .int v1_1), (0, .ref (ad 0))]) hx hb dX10_owns_33 rfl hl (by decide) rfl (fun ls hl => ?_)
              obtain ⟨F_2, n_2, h, hF_2, hG_2⟩ := lfix_ex h
              have LP_2 : ∀ (n_2 : Nat) (v2 : Int32) (A_3 : Nat → Nat → Int32) (ls : Array Slot) (H : Heap) (locs : List Loc), F_2 n_2 (v2, A_3) → lv_has ls 4 [(2, .int v2), (1, .int v1_1), (0, .ref (ad 0))] → va_P D vwCl (wM cy ad I A_3) H → va_S Ad s.heap H locs → W p l e rmX10_owns s m args below meth c H locs 0 0 Q (F0 m 34 ls []) := by
                intro n_2
                induction n_2 with
                | zero => intro v2 A_3 ls H locs h _ _ _; exact absurd h (hF_2 _)
                | succ n_2 ih_2 =>
                  intro v2 A_3 ls H locs h hl hP hS
                  replace h := hG_2 _ _ h
                  try dsimp only at h
                  refine lv_iload_n hx hb dX10_owns_34 rfl (lv_at hl 0 rfl) ?_
                  refine lv_aload_n hx hb dX10_owns_35 rfl (lv_at hl 2 rfl) ?_
                  refine va_get (T := TX10) hx hb hT inlX10 hown hK.1 hP 0 he_X10 rfl 2 (by decide) (hT _ mw_4_139) (fun _ h9 => h9) rfl dX10_owns_36 ?_
                  refine lv_icmp_ge (tgt := 90) hx hb dX10_owns_39 (by decide) (fun hc_2 => ?_) (fun hc_2 => ?_)
                  · rw [if_pos hc_2] at h
                    obtain ⟨v1_2, ev1_2⟩ : ∃ z : Int32, z = v1_1 + 1 := ⟨_, rfl⟩
                    replace h := h v1_2 ev1_2
                    refine lv_iinc (v := v1_2) (lv' := [(1, .int v1_2), (2, .int v2), (0, .ref (ad 0))]) hx hb dX10_owns_90 hl (k := 1) rfl (by rw [ev1_2]; rfl) (by decide) rfl (fun ls hl => ?_)
                    refine lv_goto (tgt := 24) hx hb dX10_owns_93 (by decide) ?_
                    exact ih_1 v1_2 A_3 _ _ _ h (lv_sub hl [0, 2] rfl) hP hS
                  · rw [if_neg hc_2] at h
                    refine lv_iload_n hx hb dX10_owns_42 rfl (lv_at hl 0 rfl) ?_
                    refine lv_istore_n (lv' := [(3, .int v2), (2, .int v2), (1, .int v1_1), (0, .ref (ad 0))]) hx hb dX10_owns_43 rfl hl (by decide) rfl (fun ls hl => ?_)
                    obtain ⟨F_3, n_3, h, hF_3, hG_3⟩ := lfix_ex h
                    have LP_3 : ∀ (n_3 : Nat) (v3 : Int32) (A_4 : Nat → Nat → Int32) (ls : Array Slot) (H : Heap) (locs : List Loc), F_3 n_3 (v3, A_4) → lv_has ls 4 [(3, .int v3), (2, .int v2), (1, .int v1_1), (0, .ref (ad 0))] → va_P D vwCl (wM cy ad I A_4) H → va_S Ad s.heap H locs → W p l e rmX10_owns s m args below meth c H locs 0 0 Q (F0 m 44 ls []) := by
                      intro n_3
                      induction n_3 with
                      | zero => intro v3 A_4 ls H locs h _ _ _; exact absurd h (hF_3 _)
                      | succ n_3 ih_3 =>
                        intro v3 A_4 ls H locs h hl hP hS
                        replace h := hG_3 _ _ h
                        try dsimp only at h
                        refine lv_iload_n hx hb dX10_owns_44 rfl (lv_at hl 0 rfl) ?_
                        refine lv_if_lt (tgt := 84) hx hb dX10_owns_45 (by decide) (fun hc_3 => ?_) (fun hc_3 => ?_)
                        · rw [if_pos hc_3] at h
                          obtain ⟨v2_1, ev2_1⟩ : ∃ z : Int32, z = v2 + 1 := ⟨_, rfl⟩
                          replace h := h v2_1 ev2_1
                          refine lv_iinc (v := v2_1) (lv' := [(2, .int v2_1), (3, .int v3), (1, .int v1_1), (0, .ref (ad 0))]) hx hb dX10_owns_84 hl (k := 1) rfl (by rw [ev2_1]; rfl) (by decide) rfl (fun ls hl => ?_)
                          refine lv_goto (tgt := 34) hx hb dX10_owns_87 (by decide) ?_
                          exact ih_2 v2_1 A_4 _ _ _ h (lv_sub hl [0, 2, 3] rfl) hP hS
                        · rw [if_neg hc_3] at h
                          refine lv_aload_n hx hb dX10_owns_48 rfl (lv_at hl 3 rfl) ?_
                          refine va_get (T := TX10) hx hb hT inlX10 hown hK.1 hP 0 he_X10 rfl 9 (by decide) (hT _ mw_4_146) (fun _ h9 => h9) rfl dX10_owns_49 ?_
                          refine lv_bipush (v := 40) hx hb dX10_owns_52 (by decide) ?_
                          refine lv_iload_n hx hb dX10_owns_54 rfl (lv_at hl 2 rfl) ?_
                          refine lv_imul hx hb dX10_owns_55 ?_
                          refine lv_iload_n hx hb dX10_owns_56 rfl (lv_at hl 1 rfl) ?_
                          refine lv_iadd hx hb dX10_owns_57 ?_
                          obtain ⟨hi, h⟩ := h
                          refine lM_Z hx hb hK.1 hP (by decide) rfl hi dX10_owns_58 ?_
                          refine lv_if_eq (tgt := 84) hx hb dX10_owns_59 (by decide) (fun hc_4 => ?_) (fun hc_4 => ?_)
                          · rw [if_pos hc_4] at h
                            obtain ⟨v2_2, ev2_2⟩ : ∃ z : Int32, z = v2 + 1 := ⟨_, rfl⟩
                            replace h := h v2_2 ev2_2
                            refine lv_iinc (v := v2_2) (lv' := [(2, .int v2_2), (3, .int v3), (1, .int v1_1), (0, .ref (ad 0))]) hx hb dX10_owns_84 hl (k := 1) rfl (by rw [ev2_2]; rfl) (by decide) rfl (fun ls hl => ?_)
                            refine lv_goto (tgt := 34) hx hb dX10_owns_87 (by decide) ?_
                            exact ih_2 v2_2 A_4 _ _ _ h (lv_sub hl [0, 2, 3] rfl) hP hS
                          · rw [if_neg hc_4] at h
                            refine lv_aload_n hx hb dX10_owns_62 rfl (lv_at hl 3 rfl) ?_
                            refine va_get (T := TX10) hx hb hT inlX10 hown hK.1 hP 0 he_X10 rfl 14 (by decide) (hT _ mw_4_151) (fun _ h9 => h9) rfl dX10_owns_63 ?_
                            refine lv_bipush (v := 40) hx hb dX10_owns_66 (by decide) ?_
                            refine lv_iload_n hx hb dX10_owns_68 rfl (lv_at hl 2 rfl) ?_
                            refine lv_imul hx hb dX10_owns_69 ?_
                            refine lv_iload_n hx hb dX10_owns_70 rfl (lv_at hl 0 rfl) ?_
                            refine lv_iadd hx hb dX10_owns_71 ?_
                            refine lv_iconst (v := 1) hx hb dX10_owns_72 (by decide) ?_
                            obtain ⟨hi_1, h⟩ := h
                            refine sM_Z hAd hx hb hK.1 hP hS (by decide) (fun _ => rfl) hi_1 dX10_owns_73 (fun H locs hP hS => ?_)
                            obtain ⟨A_5, eA_5⟩ : ∃ z, z = va_up A_4 10 (upd (A_4 10) ((40 * v1_1) + v3).toNatClampNeg (vp_nar .boolean 1)) := ⟨_, rfl⟩
                            rw [← eA_5] at hP
                            replace h := h A_5 eA_5
                            refine lv_aload_n hx hb dX10_owns_74 rfl (lv_at hl 3 rfl) ?_
                            refine va_get (T := TX10) hx hb hT inlX10 hown hK.1 hP 0 he_X10 rfl 6 (by decide) (hT _ mw_4_143) (fun _ h9 => h9) rfl dX10_owns_75 ?_
                            refine lv_iload_n hx hb dX10_owns_78 rfl (lv_at hl 0 rfl) ?_
                            obtain ⟨hi_2, h⟩ := h
                            refine lM_I hx hb hK.1 hP (by decide) rfl hi_2 dX10_owns_79 ?_
                            refine lv_topi (fun v3_1 ev3_1 => ?_)
                            replace h := h v3_1 ev3_1
                            refine lv_istore_n (lv' := [(3, .int v3_1), (2, .int v2), (1, .int v1_1), (0, .ref (ad 0))]) hx hb dX10_owns_80 rfl hl (by decide) rfl (fun ls hl => ?_)
                            refine lv_goto (tgt := 44) hx hb dX10_owns_81 (by decide) ?_
                            exact ih_3 v3_1 A_5 _ _ _ h (lv_sub hl [0, 1, 2, 3] rfl) hP hS
                    exact LP_3 _ v2 A_3 _ _ _ h (lv_sub hl [0, 1, 2, 3] rfl) hP hS
              exact LP_2 _ 0 A_2 _ _ _ h (lv_sub hl [0, 1, 2] rfl) hP hS
        exact LP_1 _ 0 A_1 _ _ _ h (lv_sub hl [0, 1] rfl) hP hS
      · rw [if_neg hc] at h
        refine lv_aload_n hx hb dX10_owns_9 rfl (lv_at hl 1 rfl) ?_
        refine va_get (T := TX10) hx hb hT inlX10 hown hK.1 hP 0 he_X10 rfl 14 (by decide) (hT _ mw_4_151) (fun _ h9 => h9) rfl dX10_owns_10 ?_
        refine lv_iload_n hx hb dX10_owns_13 rfl (lv_at hl 0 rfl) ?_
        refine lv_iconst (v := 0) hx hb dX10_owns_14 (by decide) ?_
        obtain ⟨hi_3, h⟩ := h
        refine sM_Z hAd hx hb hK.1 hP hS (by decide) (fun _ => rfl) hi_3 dX10_owns_15 (fun H locs hP hS => ?_)
        obtain ⟨A_6, eA_6⟩ : ∃ z, z = va_up A_1 10 (upd (A_1 10) v1.toNatClampNeg (vp_nar .boolean 0)) := ⟨_, rfl⟩
        rw [← eA_6] at hP
        replace h := h A_6 eA_6
        obtain ⟨v1_3, ev1_3⟩ : ∃ z : Int32, z = v1 + 1 := ⟨_, rfl⟩
        replace h := h v1_3 ev1_3
        refine lv_iinc (v := v1_3) (lv' := [(1, .int v1_3), (0, .ref (ad 0))]) hx hb dX10_owns_16 hl (k := 0) rfl (by rw [ev1_3]; rfl) (by decide) rfl (fun ls hl => ?_)
        refine lv_goto (tgt := 2) hx hb dX10_owns_19 (by decide) ?_
        exact ih v1_3 A_6 _ _ _ h (lv_sub hl [0, 1] rfl) hP hS
  exact LP _ 0 A _ _ _ h (lv_sub hl [0, 1] rfl) hP hS
theorem dX10_move_0 : decode cX10_move 0 = .ok (.aload_n 0, 1) := by decide +kernel
theorem dX10_move_1 : decode cX10_move 1 = .ok (.iconst 0, 1) := by decide +kernel
theorem dX10_move_2 : decode cX10_move 2 = .ok (.putfield 56, 3) := by decide +kernel
theorem dX10_move_5 : decode cX10_move 5 = .ok (.aload_n 0, 1) := by decide +kernel
theorem dX10_move_6 : decode cX10_move 6 = .ok (.iload_n 1, 1) := by decide +kernel
theorem dX10_move_7 : decode cX10_move 7 = .ok (.invokevirtual 77, 3) := by decide +kernel
theorem dX10_move_10 : decode cX10_move 10 = .ok (.ifCond .eq 30, 3) := by decide +kernel
theorem dX10_move_13 : decode cX10_move 13 = .ok (.aload_n 0, 1) := by decide +kernel
theorem dX10_move_14 : decode cX10_move 14 = .ok (.aload_n 0, 1) := by decide +kernel
theorem dX10_move_15 : decode cX10_move 15 = .ok (.getfield 13, 3) := by decide +kernel
theorem dX10_move_18 : decode cX10_move 18 = .ok (.iload_n 1, 1) := by decide +kernel
theorem dX10_move_19 : decode cX10_move 19 = .ok (.iaload, 1) := by decide +kernel
theorem dX10_move_20 : decode cX10_move 20 = .ok (.iload_n 2, 1) := by decide +kernel
theorem dX10_move_21 : decode cX10_move 21 = .ok (.invokevirtual 83, 3) := by decide +kernel
theorem dX10_move_24 : decode cX10_move 24 = .ok (.ifCond .eq 16, 3) := by decide +kernel
theorem dX10_move_27 : decode cX10_move 27 = .ok (.iload_n 2, 1) := by decide +kernel
theorem dX10_move_28 : decode cX10_move 28 = .ok (.ifCond .lt 14, 3) := by decide +kernel
theorem dX10_move_31 : decode cX10_move 31 = .ok (.aload_n 0, 1) := by decide +kernel
theorem dX10_move_32 : decode cX10_move 32 = .ok (.iload_n 2, 1) := by decide +kernel
theorem dX10_move_33 : decode cX10_move 33 = .ok (.iload_n 1, 1) := by decide +kernel
theorem dX10_move_34 : decode cX10_move 34 = .ok (.invokevirtual 91, 3) := by decide +kernel
theorem dX10_move_37 : decode cX10_move 37 = .ok (.ifCond .eq 5, 3) := by decide +kernel
theorem dX10_move_40 : decode cX10_move 40 = .ok (.iconst 0, 1) := by decide +kernel
theorem dX10_move_41 : decode cX10_move 41 = .ok (.ireturn, 1) := by decide +kernel
theorem dX10_move_42 : decode cX10_move 42 = .ok (.aload_n 0, 1) := by decide +kernel
theorem dX10_move_43 : decode cX10_move 43 = .ok (.getfield 16, 3) := by decide +kernel
theorem dX10_move_46 : decode cX10_move 46 = .ok (.iload_n 1, 1) := by decide +kernel
theorem dX10_move_47 : decode cX10_move 47 = .ok (.iaload, 1) := by decide +kernel
theorem dX10_move_48 : decode cX10_move 48 = .ok (.istore_n 3, 1) := by decide +kernel
theorem dX10_move_49 : decode cX10_move 49 = .ok (.aload_n 0, 1) := by decide +kernel
theorem dX10_move_50 : decode cX10_move 50 = .ok (.getfield 16, 3) := by decide +kernel
theorem dX10_move_53 : decode cX10_move 53 = .ok (.iload_n 1, 1) := by decide +kernel
theorem dX10_move_54 : decode cX10_move 54 = .ok (.iload_n 2, 1) := by decide +kernel
theorem dX10_move_55 : decode cX10_move 55 = .ok (.iastore, 1) := by decide +kernel
theorem dX10_move_56 : decode cX10_move 56 = .ok (.iconst 0, 1) := by decide +kernel
theorem dX10_move_57 : decode cX10_move 57 = .ok (.istore 4, 2) := by decide +kernel
theorem dX10_move_59 : decode cX10_move 59 = .ok (.iconst 0, 1) := by decide +kernel
theorem dX10_move_60 : decode cX10_move 60 = .ok (.istore 5, 2) := by decide +kernel
theorem dX10_move_62 : decode cX10_move 62 = .ok (.iload 5, 2) := by decide +kernel
theorem dX10_move_64 : decode cX10_move 64 = .ok (.aload_n 0, 1) := by decide +kernel
theorem dX10_move_65 : decode cX10_move 65 = .ok (.getfield 67, 3) := by decide +kernel
theorem dX10_move_68 : decode cX10_move 68 = .ok (.if_icmp .ge 31, 3) := by decide +kernel
theorem dX10_move_71 : decode cX10_move 71 = .ok (.iload 4, 2) := by decide +kernel
theorem dX10_move_73 : decode cX10_move 73 = .ok (.ifCond .ne 13, 3) := by decide +kernel
theorem dX10_move_76 : decode cX10_move 76 = .ok (.aload_n 0, 1) := by decide +kernel
theorem dX10_move_77 : decode cX10_move 77 = .ok (.iload 5, 2) := by decide +kernel
theorem dX10_move_79 : decode cX10_move 79 = .ok (.invokevirtual 87, 3) := by decide +kernel
theorem dX10_move_82 : decode cX10_move 82 = .ok (.iconst 5, 1) := by decide +kernel
theorem dX10_move_83 : decode cX10_move 83 = .ok (.if_icmp .le 7, 3) := by decide +kernel
theorem dX10_move_86 : decode cX10_move 86 = .ok (.iconst 1, 1) := by decide +kernel
theorem dX10_move_87 : decode cX10_move 87 = .ok (.goto 4, 3) := by decide +kernel
theorem dX10_move_90 : decode cX10_move 90 = .ok (.iconst 0, 1) := by decide +kernel
theorem dX10_move_91 : decode cX10_move 91 = .ok (.istore 4, 2) := by decide +kernel
theorem dX10_move_93 : decode cX10_move 93 = .ok (.iinc 5 1, 3) := by decide +kernel
theorem dX10_move_96 : decode cX10_move 96 = .ok (.goto (-34), 3) := by decide +kernel
theorem dX10_move_99 : decode cX10_move 99 = .ok (.aload_n 0, 1) := by decide +kernel
theorem dX10_move_100 : decode cX10_move 100 = .ok (.getfield 16, 3) := by decide +kernel
theorem dX10_move_103 : decode cX10_move 103 = .ok (.iload_n 1, 1) := by decide +kernel
theorem dX10_move_104 : decode cX10_move 104 = .ok (.iload 4, 2) := by decide +kernel
theorem dX10_move_106 : decode cX10_move 106 = .ok (.ifCond .eq 7, 3) := by decide +kernel
theorem dX10_move_109 : decode cX10_move 109 = .ok (.iload_n 3, 1) := by decide +kernel
theorem dX10_move_110 : decode cX10_move 110 = .ok (.goto 4, 3) := by decide +kernel
theorem dX10_move_113 : decode cX10_move 113 = .ok (.iload_n 2, 1) := by decide +kernel
theorem dX10_move_114 : decode cX10_move 114 = .ok (.iastore, 1) := by decide +kernel
theorem dX10_move_115 : decode cX10_move 115 = .ok (.aload_n 0, 1) := by decide +kernel
theorem dX10_move_116 : decode cX10_move 116 = .ok (.invokevirtual 94, 3) := by decide +kernel
theorem dX10_move_119 : decode cX10_move 119 = .ok (.iload 4, 2) := by decide +kernel
theorem dX10_move_121 : decode cX10_move 121 = .ok (.ifCond .ne 7, 3) := by decide +kernel
theorem dX10_move_124 : decode cX10_move 124 = .ok (.iconst 1, 1) := by decide +kernel
theorem dX10_move_125 : decode cX10_move 125 = .ok (.goto 4, 3) := by decide +kernel
theorem dX10_move_128 : decode cX10_move 128 = .ok (.iconst 0, 1) := by decide +kernel
theorem dX10_move_129 : decode cX10_move 129 = .ok (.ireturn, 1) := by decide +kernel
def wX10_move (I : Nat → Int32) (A : Nat → Nat → Int32) (x1 : Int32) (x2 : Int32) (post : Int32 → (Nat → Int32) → (Nat → Nat → Int32) → Prop) : Prop := (∀ I_1, I_1 = va_up I 0 0 → wX10_isCategory I_1 A x1 (fun r7 => if r7 = 0 then (post 0 I_1 A) else (vp_in x1 40 ∧ (wX10_canBe I_1 A (A 2 x1.toNatClampNeg) x2 (fun r21 => if r21 = 0 then (post 0 I_1 A) else (jn (fun (_ : Unit) => vp_in x1 40 ∧ (∀ v3 : Int32, v3 = A 3 x1.toNatClampNeg → vp_in x1 40 ∧ (∀ A_1, A_1 = va_up A 3 (upd (A 3) x1.toNatClampNeg x2) → ∃ n, lfix (fun (r : (Int32 × Int32) → Prop) (v5, v4) => if (I_1 2) ≤ v5 then (jn (fun (t : Int32) => vp_in x1 40 ∧ (∀ A_2, A_2 = va_up A_1 3 (upd (A_1 3) x1.toNatClampNeg t) → wX10_owns I_1 A_2  (fun A_3 => if v4 = 0 then (post 1 I_1 A_3) else (post 0 I_1 A_3)))) (fun k_1 => if v4 = 0 then (k_1 x2) else (k_1 v3))) else (jn (fun (t_1 : Int32) => ∀ v5_1 : Int32, v5_1 = v5 + 1 → r (v5_1, t_1)) (fun k_2 => jn (fun (_ : Unit) => k_2 1) (fun k_3 => if v4 = 0 then (wX10_level I_1 A_1 v5 (fun r79 => if r79 ≤ 5 then (k_2 0) else (k_3 ()))) else (k_3 ()))))) n (0, 0)))) (fun k => if x2 < 0 then (k ()) else (wX10_isIn I_1 A x2 x1 (fun r34 => if r34 = 0 then (k ()) else (post 0 I_1 A))))))))))
abbrev rmX10_move : Room := { frames := 2, cells := 0, slots := 0, locals := 43 }
theorem wd_X10_move : Cond.instanceMethod yX10_move ∈ BW ∧ Cond.selects yX10_move.cls yX10_move yX10_move ∈ BW ∧ Cond.initialized yX10_move.cls ∈ BW ∧ Cond.code yX10_move cX10_move 6 (some .boolean) ∈ BW := ⟨mw_5_1, mw_5_2, mw_1_11, mw_5_3⟩
set_option maxHeartbeats 4000000 in
set_option maxRecDepth 100000 in
theorem c_X10_move {l : Launch} {D : va_G} {cy : Nat → ClassId} {ad : Nat → Nat} {Ad : Nat → Prop} (hAd : adok 16 Ad ad) (I : Nat → Int32) (A : Nat → Nat → Int32) (x1 : Int32) (x2 : Int32)  (post : Int32 → (Nat → Int32) → (Nat → Nat → Int32) → Prop) (h : wX10_move I A x1 x2 post) : Met l yX10_move (.code yX10_move cX10_move 6 (some .boolean) :: BW) rmX10_move (va_Pc [.ref (ad 0), .int x1, .int x2] (fun U => kC D cy U ∧ va_P D vwCl (wM cy ad I A) U.heap)) (qMi D cy ad Ad (fun r u => post r u.1 u.2)) 0 0 Ad := by
  refine startMz (by decide) (Nat.le_of_ble_eq_true rfl) (lv := [(0, .ref (ad 0)), (1, .int x1), (2, .int x2)]) rfl (fun p e s m args below meth c Q ls hx hb hml hT hown hK hret hl hP hS => ?_)
  unfold wX10_move at h
  refine lv_aload_n hx hb dX10_move_0 rfl (lv_at hl 0 rfl) ?_
  refine lv_iconst (v := 0) hx hb dX10_move_1 (by decide) ?_
  refine pM_X10_thrown hAd hx hb hT hown hK.1 hP hS (hT _ mw_4_137) dX10_move_2 (fun H locs hP hS => ?_)
  obtain ⟨I_1, eI_1⟩ : ∃ z, z = va_up I 0 0 := ⟨_, rfl⟩
  rw [← eI_1] at hP
  replace h := h I_1 eI_1
  refine lv_aload_n hx hb dX10_move_5 rfl (lv_at hl 0 rfl) ?_
  refine lv_iload_n hx hb dX10_move_6 rfl (lv_at hl 1 rfl) ?_
  refine callMi (k := 0) (As := [.int x1]) (rest := []) (n := 1) (c_X10_isCategory hAd I_1 A x1 _ h) hx hb hT hown hK hP hS mw_4_232 wd_X10_isCategory (by decide +kernel) ⟨rfl, rfl⟩ (by decide) rfl rfl he_X10 rfl hl.1 hml rfl (Nat.le_of_ble_eq_true rfl) dX10_move_7 ⟨Nat.zero_le _, Nat.zero_le _⟩ (fun r7 u H locs h hP hS => ?_)
  obtain ⟨Iu, Au⟩ := u
  dsimp only at h hP
  obtain ⟨h, rfl, rfl⟩ := h
  try dsimp only at h
  refine lv_if_eq (tgt := 40) hx hb dX10_move_10 (by decide) (fun hc => ?_) (fun hc => ?_)
  · rw [if_pos hc] at h
    refine lv_iconst (v := 0) hx hb dX10_move_40 (by decide) ?_
    exact hret _ (I_1, A) zb_0 dX10_move_41 h hP hS
  · rw [if_neg hc] at h
    refine lv_aload_n hx hb dX10_move_13 rfl (lv_at hl 0 rfl) ?_
    refine lv_aload_n hx hb dX10_move_14 rfl (lv_at hl 0 rfl) ?_
    refine va_get (T := TX10) hx hb hT inlX10 hown hK.1 hP 0 he_X10 rfl 5 (by decide) (hT _ mw_4_142) (fun _ h9 => h9) rfl dX10_move_15 ?_
    refine lv_iload_n hx hb dX10_move_18 rfl (lv_at hl 1 rfl) ?_
    obtain ⟨hi, h⟩ := h
    refine lM_I hx hb hK.1 hP (by decide) rfl hi dX10_move_19 ?_
    refine lv_iload_n hx hb dX10_move_20 rfl (lv_at hl 2 rfl) ?_
    refine callMi (k := 0) (As := [.int (A 2 x1.toNatClampNeg), .int x2]) (rest := []) (n := 2) (c_X10_canBe hAd I_1 A (A 2 x1.toNatClampNeg) x2 _ h) hx hb hT hown hK hP hS mw_4_228 wd_X10_canBe (by decide +kernel) ⟨rfl, rfl⟩ (by decide) rfl rfl he_X10 rfl hl.1 hml rfl (Nat.le_of_ble_eq_true rfl) dX10_move_21 ⟨Nat.zero_le _, Nat.zero_le _⟩ (fun r21 u H locs h hP hS => ?_)
    obtain ⟨Iu_1, Au_1⟩ := u
    dsimp only at h hP
    obtain ⟨h, rfl, rfl⟩ := h
    try dsimp only at h
    refine lv_if_eq (tgt := 40) hx hb dX10_move_24 (by decide) (fun hc_1 => ?_) (fun hc_1 => ?_)
    · rw [if_pos hc_1] at h
      refine lv_iconst (v := 0) hx hb dX10_move_40 (by decide) ?_
      exact hret _ (I_1, A) zb_0 dX10_move_41 h hP hS
    · rw [if_neg hc_1] at h
      refine lv_iload_n hx hb dX10_move_27 rfl (lv_at hl 2 rfl) ?_
      obtain ⟨k, hk, h⟩ := jn_ex h
      try dsimp only at h
      have J : k () → ∀ (ls : Array Slot) (H : Heap) (locs : List Loc), lv_has ls 6 [(0, .ref (ad 0)), (1, .int x1), (2, .int x2)] → va_P D vwCl (wM cy ad I_1 A) H → va_S Ad s.heap H locs → W p l e rmX10_move s m args below meth c H locs 0 0 Q (F0 m 42 ls []) := by
        intro  h ls H locs hl hP hS
        replace h := hk _ h
        try dsimp only at h
        refine lv_aload_n hx hb dX10_move_42 rfl (lv_at hl 0 rfl) ?_
        refine va_get (T := TX10) hx hb hT inlX10 hown hK.1 hP 0 he_X10 rfl 6 (by decide) (hT _ mw_4_143) (fun _ h9 => h9) rfl dX10_move_43 ?_
        refine lv_iload_n hx hb dX10_move_46 rfl (lv_at hl 1 rfl) ?_
        obtain ⟨hi_1, h⟩ := h
        refine lM_I hx hb hK.1 hP (by decide) rfl hi_1 dX10_move_47 ?_
        refine lv_topi (fun v3 ev3 => ?_)
        replace h := h v3 ev3
        refine lv_istore_n (lv' := [(3, .int v3), (0, .ref (ad 0)), (1, .int x1), (2, .int x2)]) hx hb dX10_move_48 rfl hl (by decide) rfl (fun ls hl => ?_)
        refine lv_aload_n hx hb dX10_move_49 rfl (lv_at hl 1 rfl) ?_
        refine va_get (T := TX10) hx hb hT inlX10 hown hK.1 hP 0 he_X10 rfl 6 (by decide) (hT _ mw_4_143) (fun _ h9 => h9) rfl dX10_move_50 ?_
        refine lv_iload_n hx hb dX10_move_53 rfl (lv_at hl 2 rfl) ?_
        refine lv_iload_n hx hb dX10_move_54 rfl (lv_at hl 3 rfl) ?_
        obtain ⟨hi_2, h⟩ := h
        refine sM_I hAd hx hb hK.1 hP hS (by decide) (fun _ => rfl) hi_2 dX10_move_55 (fun H locs hP hS => ?_)
        obtain ⟨A_1, eA_1⟩ : ∃ z, z = va_up A 3 (upd (A 3) x1.toNatClampNeg x2) := ⟨_, rfl⟩
        rw [← eA_1] at hP
        replace h := h A_1 eA_1
        refine lv_iconst (v := 0) hx hb dX10_move_56 (by decide) ?_
        refine lv_istore (lv' := [(4, .int 0), (3, .int v3), (0, .ref (ad 0)), (1, .int x1), (2, .int x2)]) hx hb dX10_move_57 hl (by decide) rfl (fun ls hl => ?_)
        refine lv_iconst (v := 0) hx hb dX10_move_59 (by decide) ?_
        refine lv_istore (lv' := [(5, .int 0), (4, .int 0), (3, .int v3), (0, .ref (ad 0)), (1, .int x1), (2, .int x2)]) hx hb dX10_move_60 hl (by decide) rfl (fun ls hl => ?_)
        obtain ⟨F, n, h, hF, hG⟩ := lfix_ex h
        have LP : ∀ (n : Nat) (v5 : Int32) (v4 : Int32) (ls : Array Slot) (H : Heap) (locs : List Loc), F n (v5, v4) → lv_has ls 6 [(5, .int v5), (4, .int v4), (3, .int v3), (0, .ref (ad 0)), (1, .int x1), (2, .int x2)] → va_P D vwCl (wM cy ad I_1 A_1) H → va_S Ad s.heap H locs → W p l e rmX10_move s m args below meth c H locs 0 0 Q (F0 m 62 ls []) := by
          intro n
          induction n with
          | zero => intro v5 v4 ls H locs h _ _ _; exact absurd h (hF _)
          | succ n ih =>
            intro v5 v4 ls H locs h hl hP hS
            replace h := hG _ _ h
            try dsimp only at h
            refine lv_iload hx hb dX10_move_62 (lv_at hl 0 rfl) ?_
            refine lv_aload_n hx hb dX10_move_64 rfl (lv_at hl 3 rfl) ?_
            refine va_get (T := TX10) hx hb hT inlX10 hown hK.1 hP 0 he_X10 rfl 2 (by decide) (hT _ mw_4_139) (fun _ h9 => h9) rfl dX10_move_65 ?_
            refine lv_icmp_ge (tgt := 99) hx hb dX10_move_68 (by decide) (fun hc_2 => ?_) (fun hc_2 => ?_)
            · rw [if_pos hc_2] at h
              refine lv_aload_n hx hb dX10_move_99 rfl (lv_at hl 3 rfl) ?_
              refine va_get (T := TX10) hx hb hT inlX10 hown hK.1 hP 0 he_X10 rfl 6 (by decide) (hT _ mw_4_143) (fun _ h9 => h9) rfl dX10_move_100 ?_
              refine lv_iload_n hx hb dX10_move_103 rfl (lv_at hl 4 rfl) ?_
              refine lv_iload hx hb dX10_move_104 (lv_at hl 1 rfl) ?_
              obtain ⟨k_1, hk_1, h⟩ := jn_ex h
              try dsimp only at h
              have J_1 : ∀ (t : Int32), k_1 t → ∀ (ls : Array Slot) (H : Heap) (locs : List Loc), lv_has ls 6 [(4, .int v4), (0, .ref (ad 0))] → va_P D vwCl (wM cy ad I_1 A_1) H → va_S Ad s.heap H locs → W p l e rmX10_move s m args below meth c H locs 0 0 Q (F0 m 114 ls [.int t, .int x1, .ref (ad 3)]) := by
                intro t h ls H locs hl hP hS
                replace h := hk_1 _ h
                try dsimp only at h
                obtain ⟨hi_3, h⟩ := h
                refine sM_I hAd hx hb hK.1 hP hS (by decide) (fun _ => rfl) hi_3 dX10_move_114 (fun H locs hP hS => ?_)
                obtain ⟨A_2, eA_2⟩ : ∃ z, z = va_up A_1 3 (upd (A_1 3) x1.toNatClampNeg t) := ⟨_, rfl⟩
                rw [← eA_2] at hP
                replace h := h A_2 eA_2
                refine lv_aload_n hx hb dX10_move_115 rfl (lv_at hl 1 rfl) ?_
                refine callMv (k := 0) (As := []) (rest := []) (n := 0) (c_X10_owns hAd I_1 A_2  _ h) hx hb hT hown hK hP hS mw_5_8 wd_X10_owns (by decide +kernel) ⟨rfl, rfl⟩ (by decide) rfl rfl he_X10 rfl hl.1 hml rfl (Nat.le_of_ble_eq_true rfl) dX10_move_116 ⟨Nat.zero_le _, Nat.zero_le _⟩ (fun u H locs h hP hS => ?_)
                obtain ⟨Iu_2, A_3⟩ := u
                dsimp only at h hP
                obtain ⟨h, rfl⟩ := h
                try dsimp only at h
                refine lv_iload hx hb dX10_move_119 (lv_at hl 0 rfl) ?_
                refine lv_if_ne (tgt := 128) hx hb dX10_move_121 (by decide) (fun hc_3 => ?_) (fun hc_3 => ?_)
                · rw [if_neg hc_3] at h
                  refine lv_iconst (v := 0) hx hb dX10_move_128 (by decide) ?_
                  exact hret _ (I_1, A_3) zb_0 dX10_move_129 h hP hS
                · rw [if_pos hc_3] at h
                  refine lv_iconst (v := 1) hx hb dX10_move_124 (by decide) ?_
                  refine lv_goto (tgt := 129) hx hb dX10_move_125 (by decide) ?_
                  exact hret _ (I_1, A_3) zb_1 dX10_move_129 h hP hS
              refine lv_if_eq (tgt := 113) hx hb dX10_move_106 (by decide) (fun hc_4 => ?_) (fun hc_4 => ?_)
              · rw [if_pos hc_4] at h
                refine lv_iload_n hx hb dX10_move_113 rfl (lv_at hl 5 rfl) ?_
                exact J_1 x2 h _ _ _ (lv_sub hl [1, 3] rfl) hP hS
              · rw [if_neg hc_4] at h
                refine lv_iload_n hx hb dX10_move_109 rfl (lv_at hl 2 rfl) ?_
                refine lv_goto (tgt := 114) hx hb dX10_move_110 (by decide) ?_
                exact J_1 v3 h _ _ _ (lv_sub hl [1, 3] rfl) hP hS
            · rw [if_neg hc_2] at h
              refine lv_iload hx hb dX10_move_71 (lv_at hl 1 rfl) ?_
              obtain ⟨k_2, hk_2, h⟩ := jn_ex h
              try dsimp only at h
              have J_2 : ∀ (t_1 : Int32), k_2 t_1 → ∀ (ls : Array Slot) (H : Heap) (locs : List Loc), lv_has ls 6 [(5, .int v5), (3, .int v3), (0, .ref (ad 0)), (1, .int x1), (2, .int x2)] → va_P D vwCl (wM cy ad I_1 A_1) H → va_S Ad s.heap H locs → W p l e rmX10_move s m args below meth c H locs 0 0 Q (F0 m 91 ls [.int t_1]) := by
                intro t_1 h ls H locs hl hP hS
                replace h := hk_2 _ h
                try dsimp only at h
                refine lv_istore (lv' := [(4, .int t_1), (5, .int v5), (3, .int v3), (0, .ref (ad 0)), (1, .int x1), (2, .int x2)]) hx hb dX10_move_91 hl (by decide) rfl (fun ls hl => ?_)
                obtain ⟨v5_1, ev5_1⟩ : ∃ z : Int32, z = v5 + 1 := ⟨_, rfl⟩
                replace h := h v5_1 ev5_1
                refine lv_iinc (v := v5_1) (lv' := [(5, .int v5_1), (4, .int t_1), (3, .int v3), (0, .ref (ad 0)), (1, .int x1), (2, .int x2)]) hx hb dX10_move_93 hl (k := 1) rfl (by rw [ev5_1]; rfl) (by decide) rfl (fun ls hl => ?_)
                refine lv_goto (tgt := 62) hx hb dX10_move_96 (by decide) ?_
                exact ih v5_1 t_1 _ _ _ h (lv_sub hl [0, 1, 2, 3, 4, 5] rfl) hP hS
              obtain ⟨k_3, hk_3, h⟩ := jn_ex h
              try dsimp only at h
              have J_3 : k_3 () → ∀ (ls : Array Slot) (H : Heap) (locs : List Loc), lv_has ls 6 [(5, .int v5), (3, .int v3), (0, .ref (ad 0)), (1, .int x1), (2, .int x2)] → va_P D vwCl (wM cy ad I_1 A_1) H → va_S Ad s.heap H locs → W p l e rmX10_move s m args below meth c H locs 0 0 Q (F0 m 86 ls []) := by
                intro  h ls H locs hl hP hS
                replace h := hk_3 _ h
                try dsimp only at h
                refine lv_iconst (v := 1) hx hb dX10_move_86 (by decide) ?_
                refine lv_goto (tgt := 91) hx hb dX10_move_87 (by decide) ?_
                exact J_2 1 h _ _ _ (lv_sub hl [0, 1, 2, 3, 4] rfl) hP hS
              refine lv_if_ne (tgt := 86) hx hb dX10_move_73 (by decide) (fun hc_5 => ?_) (fun hc_5 => ?_)
              · rw [if_neg hc_5] at h
                exact J_3  h _ _ _ (lv_sub hl [0, 2, 3, 4, 5] rfl) hP hS
              · rw [if_pos hc_5] at h
                refine lv_aload_n hx hb dX10_move_76 rfl (lv_at hl 3 rfl) ?_
                refine lv_iload hx hb dX10_move_77 (lv_at hl 0 rfl) ?_
                refine callMi (k := 0) (As := [.int v5]) (rest := []) (n := 1) (c_X10_level hAd I_1 A_1 v5 _ h) hx hb hT hown hK hP hS mw_4_236 wd_X10_level (by decide +kernel) ⟨rfl, rfl⟩ (by decide) rfl rfl he_X10 rfl hl.1 hml rfl (Nat.le_of_ble_eq_true rfl) dX10_move_79 ⟨Nat.zero_le _, Nat.zero_le _⟩ (fun r79 u H locs h hP hS => ?_)
                obtain ⟨Iu_3, Au_2⟩ := u
                dsimp only at h hP
                obtain ⟨h, rfl, rfl⟩ := h
                try dsimp only at h
                refine lv_iconst (v := 5) hx hb dX10_move_82 (by decide) ?_
                refine lv_icmp_le (tgt := 90) hx hb dX10_move_83 (by decide) (fun hc_6 => ?_) (fun hc_6 => ?_)
                · rw [if_pos hc_6] at h
                  refine lv_iconst (v := 0) hx hb dX10_move_90 (by decide) ?_
                  exact J_2 0 h _ _ _ (lv_sub hl [0, 2, 3, 4, 5] rfl) hP hS
                · rw [if_neg hc_6] at h
                  exact J_3  h _ _ _ (lv_sub hl [0, 2, 3, 4, 5] rfl) hP hS
        exact LP _ 0 0 _ _ _ h (lv_sub hl [0, 1, 2, 3, 4, 5] rfl) hP hS
      refine lv_if_lt (tgt := 42) hx hb dX10_move_28 (by decide) (fun hc_7 => ?_) (fun hc_7 => ?_)
      · rw [if_pos hc_7] at h
        exact J  h _ _ _ (lv_sub hl [0, 1, 2] rfl) hP hS
      · rw [if_neg hc_7] at h
        refine lv_aload_n hx hb dX10_move_31 rfl (lv_at hl 0 rfl) ?_
        refine lv_iload_n hx hb dX10_move_32 rfl (lv_at hl 2 rfl) ?_
        refine lv_iload_n hx hb dX10_move_33 rfl (lv_at hl 1 rfl) ?_
        refine callMi (k := 0) (As := [.int x2, .int x1]) (rest := []) (n := 2) (c_X10_isIn hAd I_1 A x2 x1 _ h) hx hb hT hown hK hP hS mw_5_4 wd_X10_isIn (by decide +kernel) ⟨rfl, rfl⟩ (by decide) rfl rfl he_X10 rfl hl.1 hml rfl (Nat.le_of_ble_eq_true rfl) dX10_move_34 ⟨Nat.zero_le _, Nat.zero_le _⟩ (fun r34 u H locs h hP hS => ?_)
        obtain ⟨Iu_4, Au_3⟩ := u
        dsimp only at h hP
        obtain ⟨h, rfl, rfl⟩ := h
        try dsimp only at h
        refine lv_if_eq (tgt := 42) hx hb dX10_move_37 (by decide) (fun hc_8 => ?_) (fun hc_8 => ?_)
        · rw [if_pos hc_8] at h
          exact J  h _ _ _ (lv_sub hl [0, 1, 2] rfl) hP hS
        · rw [if_neg hc_8] at h
          refine lv_iconst (v := 0) hx hb dX10_move_40 (by decide) ?_
          exact hret _ (I_1, A) zb_0 dX10_move_41 h hP hS
theorem dX10_document_0 : decode cX10_document 0 = .ok (.aload_n 0, 1) := by decide +kernel
theorem dX10_document_1 : decode cX10_document 1 = .ok (.iconst 0, 1) := by decide +kernel
theorem dX10_document_2 : decode cX10_document 2 = .ok (.putfield 56, 3) := by decide +kernel
theorem dX10_document_5 : decode cX10_document 5 = .ok (.iload_n 1, 1) := by decide +kernel
theorem dX10_document_6 : decode cX10_document 6 = .ok (.iconst 0, 1) := by decide +kernel
theorem dX10_document_7 : decode cX10_document 7 = .ok (.bipush 99, 2) := by decide +kernel
theorem dX10_document_9 : decode cX10_document 9 = .ok (.invokestatic 73, 3) := by decide +kernel
theorem dX10_document_12 : decode cX10_document 12 = .ok (.ifCond .eq 12, 3) := by decide +kernel
theorem dX10_document_15 : decode cX10_document 15 = .ok (.aload_n 0, 1) := by decide +kernel
theorem dX10_document_16 : decode cX10_document 16 = .ok (.getfield 70, 3) := by decide +kernel
theorem dX10_document_19 : decode cX10_document 19 = .ok (.bipush 40, 2) := by decide +kernel
theorem dX10_document_21 : decode cX10_document 21 = .ok (.if_icmp .ne 5, 3) := by decide +kernel
theorem dX10_document_24 : decode cX10_document 24 = .ok (.iconst (-1), 1) := by decide +kernel
theorem dX10_document_25 : decode cX10_document 25 = .ok (.ireturn, 1) := by decide +kernel
theorem dX10_document_26 : decode cX10_document 26 = .ok (.aload_n 0, 1) := by decide +kernel
theorem dX10_document_27 : decode cX10_document 27 = .ok (.getfield 19, 3) := by decide +kernel
theorem dX10_document_30 : decode cX10_document 30 = .ok (.aload_n 0, 1) := by decide +kernel
theorem dX10_document_31 : decode cX10_document 31 = .ok (.getfield 70, 3) := by decide +kernel
theorem dX10_document_34 : decode cX10_document 34 = .ok (.iload_n 1, 1) := by decide +kernel
theorem dX10_document_35 : decode cX10_document 35 = .ok (.iastore, 1) := by decide +kernel
theorem dX10_document_36 : decode cX10_document 36 = .ok (.aload_n 0, 1) := by decide +kernel
theorem dX10_document_37 : decode cX10_document 37 = .ok (.getfield 22, 3) := by decide +kernel
theorem dX10_document_40 : decode cX10_document 40 = .ok (.aload_n 0, 1) := by decide +kernel
theorem dX10_document_41 : decode cX10_document 41 = .ok (.getfield 70, 3) := by decide +kernel
theorem dX10_document_44 : decode cX10_document 44 = .ok (.iconst 1, 1) := by decide +kernel
theorem dX10_document_45 : decode cX10_document 45 = .ok (.bastore, 1) := by decide +kernel
theorem dX10_document_46 : decode cX10_document 46 = .ok (.aload_n 0, 1) := by decide +kernel
theorem dX10_document_47 : decode cX10_document 47 = .ok (.dup, 1) := by decide +kernel
theorem dX10_document_48 : decode cX10_document 48 = .ok (.getfield 70, 3) := by decide +kernel
theorem dX10_document_51 : decode cX10_document 51 = .ok (.iconst 1, 1) := by decide +kernel
theorem dX10_document_52 : decode cX10_document 52 = .ok (.iadd, 1) := by decide +kernel
theorem dX10_document_53 : decode cX10_document 53 = .ok (.putfield 70, 3) := by decide +kernel
theorem dX10_document_56 : decode cX10_document 56 = .ok (.aload_n 0, 1) := by decide +kernel
theorem dX10_document_57 : decode cX10_document 57 = .ok (.getfield 70, 3) := by decide +kernel
theorem dX10_document_60 : decode cX10_document 60 = .ok (.iconst 1, 1) := by decide +kernel
theorem dX10_document_61 : decode cX10_document 61 = .ok (.isub, 1) := by decide +kernel
theorem dX10_document_62 : decode cX10_document 62 = .ok (.ireturn, 1) := by decide +kernel
def wX10_document (I : Nat → Int32) (A : Nat → Nat → Int32) (x1 : Int32) (post : Int32 → (Nat → Int32) → (Nat → Nat → Int32) → Prop) : Prop := (∀ I_1, I_1 = va_up I 0 0 → wX10_within x1 0 99 (fun r9 => if r9 = 0 then (post (-1) I_1 A) else (if (I_1 3) = 40 then (post (-1) I_1 A) else (vp_in (I_1 3) 40 ∧ (∀ A_1, A_1 = va_up A 4 (upd (A 4) (I_1 3).toNatClampNeg x1) → vp_in (I_1 3) 40 ∧ (∀ A_2, A_2 = va_up A_1 5 (upd (A_1 5) (I_1 3).toNatClampNeg (vp_nar .boolean 1)) → (∀ I_2, I_2 = va_up I_1 3 ((I_1 3) + 1) → post ((I_2 3) - 1) I_2 A_2)))))))
abbrev rmX10_document : Room := { frames := 1, cells := 0, slots := 0, locals := 22 }
theorem wd_X10_document : Cond.instanceMethod yX10_document ∈ BW ∧ Cond.selects yX10_document.cls yX10_document yX10_document ∈ BW ∧ Cond.initialized yX10_document.cls ∈ BW ∧ Cond.code yX10_document cX10_document 2 (some .int) ∈ BW := ⟨mw_5_13, mw_5_14, mw_1_11, mw_5_15⟩
set_option maxHeartbeats 4000000 in
set_option maxRecDepth 100000 in
theorem c_X10_document {l : Launch} {D : va_G} {cy : Nat → ClassId} {ad : Nat → Nat} {Ad : Nat → Prop} (hAd : adok 16 Ad ad) (I : Nat → Int32) (A : Nat → Nat → Int32) (x1 : Int32)  (post : Int32 → (Nat → Int32) → (Nat → Nat → Int32) → Prop) (h : wX10_document I A x1 post) : Met l yX10_document (.code yX10_document cX10_document 2 (some .int) :: BW) rmX10_document (va_Pc [.ref (ad 0), .int x1] (fun U => kC D cy U ∧ va_P D vwCl (wM cy ad I A) U.heap)) (qMi D cy ad Ad (fun r u => post r u.1 u.2)) 0 0 Ad := by
  refine startMi (by decide) (Nat.le_of_ble_eq_true rfl) (lv := [(0, .ref (ad 0)), (1, .int x1)]) rfl (fun p e s m args below meth c Q ls hx hb hml hT hown hK hret hl hP hS => ?_)
  unfold wX10_document at h
  refine lv_aload_n hx hb dX10_document_0 rfl (lv_at hl 0 rfl) ?_
  refine lv_iconst (v := 0) hx hb dX10_document_1 (by decide) ?_
  refine pM_X10_thrown hAd hx hb hT hown hK.1 hP hS (hT _ mw_4_137) dX10_document_2 (fun H locs hP hS => ?_)
  obtain ⟨I_1, eI_1⟩ : ∃ z, z = va_up I 0 0 := ⟨_, rfl⟩
  rw [← eI_1] at hP
  replace h := h I_1 eI_1
  refine lv_iload_n hx hb dX10_document_5 rfl (lv_at hl 1 rfl) ?_
  refine lv_iconst (v := 0) hx hb dX10_document_6 (by decide) ?_
  refine lv_bipush (v := 99) hx hb dX10_document_7 (by decide) ?_
  refine callSMi (As := [.int x1, .int 0, .int 99]) (rest := []) (n := 3) (c_X10_within x1 0 99 _ h) hx hb hT hown hP hS mw_4_213 wd_X10_within (by decide +kernel) ⟨rfl, rfl⟩ (by decide) rfl hl.1 hml rfl (Nat.le_of_ble_eq_true rfl) dX10_document_9 ⟨Nat.zero_le _, Nat.zero_le _⟩ (fun r9 H locs h hP hS => ?_)
  try dsimp only at h
  refine lv_if_eq (tgt := 24) hx hb dX10_document_12 (by decide) (fun hc => ?_) (fun hc => ?_)
  · rw [if_pos hc] at h
    refine lv_iconst (v := (-1)) hx hb dX10_document_24 (by decide) ?_
    exact hret _ (I_1, A) dX10_document_25 h hP hS
  · rw [if_neg hc] at h
    refine lv_aload_n hx hb dX10_document_15 rfl (lv_at hl 0 rfl) ?_
    refine va_get (T := TX10) hx hb hT inlX10 hown hK.1 hP 0 he_X10 rfl 3 (by decide) (hT _ mw_4_140) (fun _ h9 => h9) rfl dX10_document_16 ?_
    refine lv_bipush (v := 40) hx hb dX10_document_19 (by decide) ?_
    refine lv_icmp_ne (tgt := 26) hx hb dX10_document_21 (by decide) (fun hc_1 => ?_) (fun hc_1 => ?_)
    · rw [if_neg hc_1] at h
      refine lv_aload_n hx hb dX10_document_26 rfl (lv_at hl 0 rfl) ?_
      refine va_get (T := TX10) hx hb hT inlX10 hown hK.1 hP 0 he_X10 rfl 7 (by decide) (hT _ mw_4_144) (fun _ h9 => h9) rfl dX10_document_27 ?_
      refine lv_aload_n hx hb dX10_document_30 rfl (lv_at hl 0 rfl) ?_
      refine va_get (T := TX10) hx hb hT inlX10 hown hK.1 hP 0 he_X10 rfl 3 (by decide) (hT _ mw_4_140) (fun _ h9 => h9) rfl dX10_document_31 ?_
      refine lv_iload_n hx hb dX10_document_34 rfl (lv_at hl 1 rfl) ?_
      obtain ⟨hi, h⟩ := h
      refine sM_I hAd hx hb hK.1 hP hS (by decide) (fun _ => rfl) hi dX10_document_35 (fun H locs hP hS => ?_)
      obtain ⟨A_1, eA_1⟩ : ∃ z, z = va_up A 4 (upd (A 4) (I_1 3).toNatClampNeg x1) := ⟨_, rfl⟩
      rw [← eA_1] at hP
      replace h := h A_1 eA_1
      refine lv_aload_n hx hb dX10_document_36 rfl (lv_at hl 0 rfl) ?_
      refine va_get (T := TX10) hx hb hT inlX10 hown hK.1 hP 0 he_X10 rfl 8 (by decide) (hT _ mw_4_145) (fun _ h9 => h9) rfl dX10_document_37 ?_
      refine lv_aload_n hx hb dX10_document_40 rfl (lv_at hl 0 rfl) ?_
      refine va_get (T := TX10) hx hb hT inlX10 hown hK.1 hP 0 he_X10 rfl 3 (by decide) (hT _ mw_4_140) (fun _ h9 => h9) rfl dX10_document_41 ?_
      refine lv_iconst (v := 1) hx hb dX10_document_44 (by decide) ?_
      obtain ⟨hi_1, h⟩ := h
      refine sM_Z hAd hx hb hK.1 hP hS (by decide) (fun _ => rfl) hi_1 dX10_document_45 (fun H locs hP hS => ?_)
      obtain ⟨A_2, eA_2⟩ : ∃ z, z = va_up A_1 5 (upd (A_1 5) (I_1 3).toNatClampNeg (vp_nar .boolean 1)) := ⟨_, rfl⟩
      rw [← eA_2] at hP
      replace h := h A_2 eA_2
      refine lv_aload_n hx hb dX10_document_46 rfl (lv_at hl 0 rfl) ?_
      refine lv_dup hx hb dX10_document_47 rfl ?_
      refine va_get (T := TX10) hx hb hT inlX10 hown hK.1 hP 0 he_X10 rfl 3 (by decide) (hT _ mw_4_140) (fun _ h9 => h9) rfl dX10_document_48 ?_
      refine lv_iconst (v := 1) hx hb dX10_document_51 (by decide) ?_
      refine lv_iadd hx hb dX10_document_52 ?_
      refine pM_X10_documents hAd hx hb hT hown hK.1 hP hS (hT _ mw_4_140) dX10_document_53 (fun H locs hP hS => ?_)
      obtain ⟨I_2, eI_2⟩ : ∃ z, z = va_up I_1 3 ((I_1 3) + 1) := ⟨_, rfl⟩
      rw [← eI_2] at hP
      replace h := h I_2 eI_2
      refine lv_aload_n hx hb dX10_document_56 rfl (lv_at hl 0 rfl) ?_
      refine va_get (T := TX10) hx hb hT inlX10 hown hK.1 hP 0 he_X10 rfl 3 (by decide) (hT _ mw_4_140) (fun _ h9 => h9) rfl dX10_document_57 ?_
      refine lv_iconst (v := 1) hx hb dX10_document_60 (by decide) ?_
      refine lv_isub hx hb dX10_document_61 ?_
      exact hret _ (I_2, A_2) dX10_document_62 h hP hS
    · rw [if_pos hc_1] at h
      refine lv_iconst (v := (-1)) hx hb dX10_document_24 (by decide) ?_
      exact hret _ (I_1, A) dX10_document_25 h hP hS
theorem dX10_tag_0 : decode cX10_tag 0 = .ok (.aload_n 0, 1) := by decide +kernel
theorem dX10_tag_1 : decode cX10_tag 1 = .ok (.iconst 0, 1) := by decide +kernel
theorem dX10_tag_2 : decode cX10_tag 2 = .ok (.putfield 56, 3) := by decide +kernel
theorem dX10_tag_5 : decode cX10_tag 5 = .ok (.aload_n 0, 1) := by decide +kernel
theorem dX10_tag_6 : decode cX10_tag 6 = .ok (.iload_n 1, 1) := by decide +kernel
theorem dX10_tag_7 : decode cX10_tag 7 = .ok (.invokevirtual 97, 3) := by decide +kernel
theorem dX10_tag_10 : decode cX10_tag 10 = .ok (.ifCond .eq 26, 3) := by decide +kernel
theorem dX10_tag_13 : decode cX10_tag 13 = .ok (.aload_n 0, 1) := by decide +kernel
theorem dX10_tag_14 : decode cX10_tag 14 = .ok (.iload_n 2, 1) := by decide +kernel
theorem dX10_tag_15 : decode cX10_tag 15 = .ok (.invokevirtual 77, 3) := by decide +kernel
theorem dX10_tag_18 : decode cX10_tag 18 = .ok (.ifCond .eq 18, 3) := by decide +kernel
theorem dX10_tag_21 : decode cX10_tag 21 = .ok (.aload_n 0, 1) := by decide +kernel
theorem dX10_tag_22 : decode cX10_tag 22 = .ok (.getfield 26, 3) := by decide +kernel
theorem dX10_tag_25 : decode cX10_tag 25 = .ok (.bipush 40, 2) := by decide +kernel
theorem dX10_tag_27 : decode cX10_tag 27 = .ok (.iload_n 1, 1) := by decide +kernel
theorem dX10_tag_28 : decode cX10_tag 28 = .ok (.imul, 1) := by decide +kernel
theorem dX10_tag_29 : decode cX10_tag 29 = .ok (.iload_n 2, 1) := by decide +kernel
theorem dX10_tag_30 : decode cX10_tag 30 = .ok (.iadd, 1) := by decide +kernel
theorem dX10_tag_31 : decode cX10_tag 31 = .ok (.baload, 1) := by decide +kernel
theorem dX10_tag_32 : decode cX10_tag 32 = .ok (.iload_n 3, 1) := by decide +kernel
theorem dX10_tag_33 : decode cX10_tag 33 = .ok (.if_icmp .ne 5, 3) := by decide +kernel
theorem dX10_tag_36 : decode cX10_tag 36 = .ok (.iconst 0, 1) := by decide +kernel
theorem dX10_tag_37 : decode cX10_tag 37 = .ok (.ireturn, 1) := by decide +kernel
theorem dX10_tag_38 : decode cX10_tag 38 = .ok (.aload_n 0, 1) := by decide +kernel
theorem dX10_tag_39 : decode cX10_tag 39 = .ok (.getfield 26, 3) := by decide +kernel
theorem dX10_tag_42 : decode cX10_tag 42 = .ok (.bipush 40, 2) := by decide +kernel
theorem dX10_tag_44 : decode cX10_tag 44 = .ok (.iload_n 1, 1) := by decide +kernel
theorem dX10_tag_45 : decode cX10_tag 45 = .ok (.imul, 1) := by decide +kernel
theorem dX10_tag_46 : decode cX10_tag 46 = .ok (.iload_n 2, 1) := by decide +kernel
theorem dX10_tag_47 : decode cX10_tag 47 = .ok (.iadd, 1) := by decide +kernel
theorem dX10_tag_48 : decode cX10_tag 48 = .ok (.iload_n 3, 1) := by decide +kernel
theorem dX10_tag_49 : decode cX10_tag 49 = .ok (.bastore, 1) := by decide +kernel
theorem dX10_tag_50 : decode cX10_tag 50 = .ok (.aload_n 0, 1) := by decide +kernel
theorem dX10_tag_51 : decode cX10_tag 51 = .ok (.invokevirtual 94, 3) := by decide +kernel
theorem dX10_tag_54 : decode cX10_tag 54 = .ok (.iconst 1, 1) := by decide +kernel
theorem dX10_tag_55 : decode cX10_tag 55 = .ok (.ireturn, 1) := by decide +kernel
def wX10_tag (I : Nat → Int32) (A : Nat → Nat → Int32) (x1 : Int32) (x2 : Int32) (x3 : Int32) (post : Int32 → (Nat → Int32) → (Nat → Nat → Int32) → Prop) : Prop := (∀ I_1, I_1 = va_up I 0 0 → wX10_isThere I_1 A x1 (fun r7 => if r7 = 0 then (post 0 I_1 A) else (wX10_isCategory I_1 A x2 (fun r15 => if r15 = 0 then (post 0 I_1 A) else (vp_in ((40 * x1) + x2) 1600 ∧ (if (A 6 ((40 * x1) + x2).toNatClampNeg) = x3 then (post 0 I_1 A) else (vp_in ((40 * x1) + x2) 1600 ∧ (∀ A_1, A_1 = va_up A 6 (upd (A 6) ((40 * x1) + x2).toNatClampNeg (vp_nar .boolean x3)) → wX10_owns I_1 A_1  (fun A_2 => post 1 I_1 A_2)))))))))
abbrev rmX10_tag : Room := { frames := 1, cells := 0, slots := 0, locals := 23 }
theorem wd_X10_tag : Cond.instanceMethod yX10_tag ∈ BW ∧ Cond.selects yX10_tag.cls yX10_tag yX10_tag ∈ BW ∧ Cond.initialized yX10_tag.cls ∈ BW ∧ Cond.code yX10_tag cX10_tag 4 (some .boolean) ∈ BW := ⟨mw_5_17, mw_5_18, mw_1_11, mw_5_19⟩
set_option maxHeartbeats 4000000 in
set_option maxRecDepth 100000 in
theorem c_X10_tag {l : Launch} {D : va_G} {cy : Nat → ClassId} {ad : Nat → Nat} {Ad : Nat → Prop} (hAd : adok 16 Ad ad) (I : Nat → Int32) (A : Nat → Nat → Int32) (x1 : Int32) (x2 : Int32) (x3 : Int32)  (post : Int32 → (Nat → Int32) → (Nat → Nat → Int32) → Prop) (h : wX10_tag I A x1 x2 x3 post) : Met l yX10_tag (.code yX10_tag cX10_tag 4 (some .boolean) :: BW) rmX10_tag (va_Pc [.ref (ad 0), .int x1, .int x2, .int x3] (fun U => kC D cy U ∧ va_P D vwCl (wM cy ad I A) U.heap)) (qMi D cy ad Ad (fun r u => post r u.1 u.2)) 0 0 Ad := by
  refine startMz (by decide) (Nat.le_of_ble_eq_true rfl) (lv := [(0, .ref (ad 0)), (1, .int x1), (2, .int x2), (3, .int x3)]) rfl (fun p e s m args below meth c Q ls hx hb hml hT hown hK hret hl hP hS => ?_)
  unfold wX10_tag at h
  refine lv_aload_n hx hb dX10_tag_0 rfl (lv_at hl 0 rfl) ?_
  refine lv_iconst (v := 0) hx hb dX10_tag_1 (by decide) ?_
  refine pM_X10_thrown hAd hx hb hT hown hK.1 hP hS (hT _ mw_4_137) dX10_tag_2 (fun H locs hP hS => ?_)
  obtain ⟨I_1, eI_1⟩ : ∃ z, z = va_up I 0 0 := ⟨_, rfl⟩
  rw [← eI_1] at hP
  replace h := h I_1 eI_1
  refine lv_aload_n hx hb dX10_tag_5 rfl (lv_at hl 0 rfl) ?_
  refine lv_iload_n hx hb dX10_tag_6 rfl (lv_at hl 1 rfl) ?_
  refine callMi (k := 0) (As := [.int x1]) (rest := []) (n := 1) (c_X10_isThere hAd I_1 A x1 _ h) hx hb hT hown hK hP hS mw_5_20 wd_X10_isThere (by decide +kernel) ⟨rfl, rfl⟩ (by decide) rfl rfl he_X10 rfl hl.1 hml rfl (Nat.le_of_ble_eq_true rfl) dX10_tag_7 ⟨Nat.zero_le _, Nat.zero_le _⟩ (fun r7 u H locs h hP hS => ?_)
  obtain ⟨Iu, Au⟩ := u
  dsimp only at h hP
  obtain ⟨h, rfl, rfl⟩ := h
  try dsimp only at h
  refine lv_if_eq (tgt := 36) hx hb dX10_tag_10 (by decide) (fun hc => ?_) (fun hc => ?_)
  · rw [if_pos hc] at h
    refine lv_iconst (v := 0) hx hb dX10_tag_36 (by decide) ?_
    exact hret _ (I_1, A) zb_0 dX10_tag_37 h hP hS
  · rw [if_neg hc] at h
    refine lv_aload_n hx hb dX10_tag_13 rfl (lv_at hl 0 rfl) ?_
    refine lv_iload_n hx hb dX10_tag_14 rfl (lv_at hl 2 rfl) ?_
    refine callMi (k := 0) (As := [.int x2]) (rest := []) (n := 1) (c_X10_isCategory hAd I_1 A x2 _ h) hx hb hT hown hK hP hS mw_4_232 wd_X10_isCategory (by decide +kernel) ⟨rfl, rfl⟩ (by decide) rfl rfl he_X10 rfl hl.1 hml rfl (Nat.le_of_ble_eq_true rfl) dX10_tag_15 ⟨Nat.zero_le _, Nat.zero_le _⟩ (fun r15 u H locs h hP hS => ?_)
    obtain ⟨Iu_1, Au_1⟩ := u
    dsimp only at h hP
    obtain ⟨h, rfl, rfl⟩ := h
    try dsimp only at h
    refine lv_if_eq (tgt := 36) hx hb dX10_tag_18 (by decide) (fun hc_1 => ?_) (fun hc_1 => ?_)
    · rw [if_pos hc_1] at h
      refine lv_iconst (v := 0) hx hb dX10_tag_36 (by decide) ?_
      exact hret _ (I_1, A) zb_0 dX10_tag_37 h hP hS
    · rw [if_neg hc_1] at h
      refine lv_aload_n hx hb dX10_tag_21 rfl (lv_at hl 0 rfl) ?_
      refine va_get (T := TX10) hx hb hT inlX10 hown hK.1 hP 0 he_X10 rfl 9 (by decide) (hT _ mw_4_146) (fun _ h9 => h9) rfl dX10_tag_22 ?_
      refine lv_bipush (v := 40) hx hb dX10_tag_25 (by decide) ?_
      refine lv_iload_n hx hb dX10_tag_27 rfl (lv_at hl 1 rfl) ?_
      refine lv_imul hx hb dX10_tag_28 ?_
      refine lv_iload_n hx hb dX10_tag_29 rfl (lv_at hl 2 rfl) ?_
      refine lv_iadd hx hb dX10_tag_30 ?_
      obtain ⟨hi, h⟩ := h
      refine lM_Z hx hb hK.1 hP (by decide) rfl hi dX10_tag_31 ?_
      refine lv_iload_n hx hb dX10_tag_32 rfl (lv_at hl 3 rfl) ?_
      refine lv_icmp_ne (tgt := 38) hx hb dX10_tag_33 (by decide) (fun hc_2 => ?_) (fun hc_2 => ?_)
      · rw [if_neg hc_2] at h
        refine lv_aload_n hx hb dX10_tag_38 rfl (lv_at hl 0 rfl) ?_
        refine va_get (T := TX10) hx hb hT inlX10 hown hK.1 hP 0 he_X10 rfl 9 (by decide) (hT _ mw_4_146) (fun _ h9 => h9) rfl dX10_tag_39 ?_
        refine lv_bipush (v := 40) hx hb dX10_tag_42 (by decide) ?_
        refine lv_iload_n hx hb dX10_tag_44 rfl (lv_at hl 1 rfl) ?_
        refine lv_imul hx hb dX10_tag_45 ?_
        refine lv_iload_n hx hb dX10_tag_46 rfl (lv_at hl 2 rfl) ?_
        refine lv_iadd hx hb dX10_tag_47 ?_
        refine lv_iload_n hx hb dX10_tag_48 rfl (lv_at hl 3 rfl) ?_
        obtain ⟨hi_1, h⟩ := h
        refine sM_Z hAd hx hb hK.1 hP hS (by decide) (fun _ => rfl) hi_1 dX10_tag_49 (fun H locs hP hS => ?_)
        obtain ⟨A_1, eA_1⟩ : ∃ z, z = va_up A 6 (upd (A 6) ((40 * x1) + x2).toNatClampNeg (vp_nar .boolean x3)) := ⟨_, rfl⟩
        rw [← eA_1] at hP
        replace h := h A_1 eA_1
        refine lv_aload_n hx hb dX10_tag_50 rfl (lv_at hl 0 rfl) ?_
        refine callMv (k := 0) (As := []) (rest := []) (n := 0) (c_X10_owns hAd I_1 A_1  _ h) hx hb hT hown hK hP hS mw_5_8 wd_X10_owns (by decide +kernel) ⟨rfl, rfl⟩ (by decide) rfl rfl he_X10 rfl hl.1 hml rfl (Nat.le_of_ble_eq_true rfl) dX10_tag_51 ⟨Nat.zero_le _, Nat.zero_le _⟩ (fun u H locs h hP hS => ?_)
        obtain ⟨Iu_2, A_2⟩ := u
        dsimp only at h hP
        obtain ⟨h, rfl⟩ := h
        try dsimp only at h
        refine lv_iconst (v := 1) hx hb dX10_tag_54 (by decide) ?_
        exact hret _ (I_1, A_2) zb_1 dX10_tag_55 h hP hS
      · rw [if_pos hc_2] at h
        refine lv_iconst (v := 0) hx hb dX10_tag_36 (by decide) ?_
        exact hret _ (I_1, A) zb_0 dX10_tag_37 h hP hS
theorem dX10_number_0 : decode cX10_number 0 = .ok (.aload_n 0, 1) := by decide +kernel
theorem dX10_number_1 : decode cX10_number 1 = .ok (.iconst 0, 1) := by decide +kernel
theorem dX10_number_2 : decode cX10_number 2 = .ok (.putfield 56, 3) := by decide +kernel
theorem dX10_number_5 : decode cX10_number 5 = .ok (.aload_n 0, 1) := by decide +kernel
theorem dX10_number_6 : decode cX10_number 6 = .ok (.iload_n 1, 1) := by decide +kernel
theorem dX10_number_7 : decode cX10_number 7 = .ok (.invokevirtual 97, 3) := by decide +kernel
theorem dX10_number_10 : decode cX10_number 10 = .ok (.ifCond .eq 24, 3) := by decide +kernel
theorem dX10_number_13 : decode cX10_number 13 = .ok (.aload_n 0, 1) := by decide +kernel
theorem dX10_number_14 : decode cX10_number 14 = .ok (.iload_n 2, 1) := by decide +kernel
theorem dX10_number_15 : decode cX10_number 15 = .ok (.invokevirtual 100, 3) := by decide +kernel
theorem dX10_number_18 : decode cX10_number 18 = .ok (.ifCond .eq 16, 3) := by decide +kernel
theorem dX10_number_21 : decode cX10_number 21 = .ok (.iload_n 3, 1) := by decide +kernel
theorem dX10_number_22 : decode cX10_number 22 = .ok (.sipush (-999), 3) := by decide +kernel
theorem dX10_number_25 : decode cX10_number 25 = .ok (.sipush 999, 3) := by decide +kernel
theorem dX10_number_28 : decode cX10_number 28 = .ok (.invokestatic 73, 3) := by decide +kernel
theorem dX10_number_31 : decode cX10_number 31 = .ok (.ifCond .ne 5, 3) := by decide +kernel
theorem dX10_number_34 : decode cX10_number 34 = .ok (.iconst 0, 1) := by decide +kernel
theorem dX10_number_35 : decode cX10_number 35 = .ok (.ireturn, 1) := by decide +kernel
theorem dX10_number_36 : decode cX10_number 36 = .ok (.aload_n 0, 1) := by decide +kernel
theorem dX10_number_37 : decode cX10_number 37 = .ok (.getfield 29, 3) := by decide +kernel
theorem dX10_number_40 : decode cX10_number 40 = .ok (.iconst 5, 1) := by decide +kernel
theorem dX10_number_41 : decode cX10_number 41 = .ok (.iload_n 1, 1) := by decide +kernel
theorem dX10_number_42 : decode cX10_number 42 = .ok (.imul, 1) := by decide +kernel
theorem dX10_number_43 : decode cX10_number 43 = .ok (.iload_n 2, 1) := by decide +kernel
theorem dX10_number_44 : decode cX10_number 44 = .ok (.iadd, 1) := by decide +kernel
theorem dX10_number_45 : decode cX10_number 45 = .ok (.iload_n 3, 1) := by decide +kernel
theorem dX10_number_46 : decode cX10_number 46 = .ok (.iastore, 1) := by decide +kernel
theorem dX10_number_47 : decode cX10_number 47 = .ok (.aload_n 0, 1) := by decide +kernel
theorem dX10_number_48 : decode cX10_number 48 = .ok (.getfield 32, 3) := by decide +kernel
theorem dX10_number_51 : decode cX10_number 51 = .ok (.iconst 5, 1) := by decide +kernel
theorem dX10_number_52 : decode cX10_number 52 = .ok (.iload_n 1, 1) := by decide +kernel
theorem dX10_number_53 : decode cX10_number 53 = .ok (.imul, 1) := by decide +kernel
theorem dX10_number_54 : decode cX10_number 54 = .ok (.iload_n 2, 1) := by decide +kernel
theorem dX10_number_55 : decode cX10_number 55 = .ok (.iadd, 1) := by decide +kernel
theorem dX10_number_56 : decode cX10_number 56 = .ok (.iconst 1, 1) := by decide +kernel
theorem dX10_number_57 : decode cX10_number 57 = .ok (.bastore, 1) := by decide +kernel
theorem dX10_number_58 : decode cX10_number 58 = .ok (.iconst 1, 1) := by decide +kernel
theorem dX10_number_59 : decode cX10_number 59 = .ok (.ireturn, 1) := by decide +kernel
def wX10_number (I : Nat → Int32) (A : Nat → Nat → Int32) (x1 : Int32) (x2 : Int32) (x3 : Int32) (post : Int32 → (Nat → Int32) → (Nat → Nat → Int32) → Prop) : Prop := (∀ I_1, I_1 = va_up I 0 0 → wX10_isThere I_1 A x1 (fun r7 => if r7 = 0 then (post 0 I_1 A) else (wX10_isNumber I_1 A x2 (fun r15 => if r15 = 0 then (post 0 I_1 A) else (wX10_within x3 (-999) 999 (fun r28 => if r28 = 0 then (post 0 I_1 A) else (vp_in ((5 * x1) + x2) 200 ∧ (∀ A_1, A_1 = va_up A 7 (upd (A 7) ((5 * x1) + x2).toNatClampNeg x3) → vp_in ((5 * x1) + x2) 200 ∧ (∀ A_2, A_2 = va_up A_1 8 (upd (A_1 8) ((5 * x1) + x2).toNatClampNeg (vp_nar .boolean 1)) → post 1 I_1 A_2)))))))))
abbrev rmX10_number : Room := { frames := 2, cells := 0, slots := 0, locals := 42 }
theorem wd_X10_number : Cond.instanceMethod yX10_number ∈ BW ∧ Cond.selects yX10_number.cls yX10_number yX10_number ∈ BW ∧ Cond.initialized yX10_number.cls ∈ BW ∧ Cond.code yX10_number cX10_number 4 (some .boolean) ∈ BW := ⟨mw_5_25, mw_5_26, mw_1_11, mw_5_27⟩
set_option maxHeartbeats 4000000 in
set_option maxRecDepth 100000 in
theorem c_X10_number {l : Launch} {D : va_G} {cy : Nat → ClassId} {ad : Nat → Nat} {Ad : Nat → Prop} (hAd : adok 16 Ad ad) (I : Nat → Int32) (A : Nat → Nat → Int32) (x1 : Int32) (x2 : Int32) (x3 : Int32)  (post : Int32 → (Nat → Int32) → (Nat → Nat → Int32) → Prop) (h : wX10_number I A x1 x2 x3 post) : Met l yX10_number (.code yX10_number cX10_number 4 (some .boolean) :: BW) rmX10_number (va_Pc [.ref (ad 0), .int x1, .int x2, .int x3] (fun U => kC D cy U ∧ va_P D vwCl (wM cy ad I A) U.heap)) (qMi D cy ad Ad (fun r u => post r u.1 u.2)) 0 0 Ad := by
  refine startMz (by decide) (Nat.le_of_ble_eq_true rfl) (lv := [(0, .ref (ad 0)), (1, .int x1), (2, .int x2), (3, .int x3)]) rfl (fun p e s m args below meth c Q ls hx hb hml hT hown hK hret hl hP hS => ?_)
  unfold wX10_number at h
  refine lv_aload_n hx hb dX10_number_0 rfl (lv_at hl 0 rfl) ?_
  refine lv_iconst (v := 0) hx hb dX10_number_1 (by decide) ?_
  refine pM_X10_thrown hAd hx hb hT hown hK.1 hP hS (hT _ mw_4_137) dX10_number_2 (fun H locs hP hS => ?_)
  obtain ⟨I_1, eI_1⟩ : ∃ z, z = va_up I 0 0 := ⟨_, rfl⟩
  rw [← eI_1] at hP
  replace h := h I_1 eI_1
  refine lv_aload_n hx hb dX10_number_5 rfl (lv_at hl 0 rfl) ?_
  refine lv_iload_n hx hb dX10_number_6 rfl (lv_at hl 1 rfl) ?_
  refine callMi (k := 0) (As := [.int x1]) (rest := []) (n := 1) (c_X10_isThere hAd I_1 A x1 _ h) hx hb hT hown hK hP hS mw_5_20 wd_X10_isThere (by decide +kernel) ⟨rfl, rfl⟩ (by decide) rfl rfl he_X10 rfl hl.1 hml rfl (Nat.le_of_ble_eq_true rfl) dX10_number_7 ⟨Nat.zero_le _, Nat.zero_le _⟩ (fun r7 u H locs h hP hS => ?_)
  obtain ⟨Iu, Au⟩ := u
  dsimp only at h hP
  obtain ⟨h, rfl, rfl⟩ := h
  try dsimp only at h
  refine lv_if_eq (tgt := 34) hx hb dX10_number_10 (by decide) (fun hc => ?_) (fun hc => ?_)
  · rw [if_pos hc] at h
    refine lv_iconst (v := 0) hx hb dX10_number_34 (by decide) ?_
    exact hret _ (I_1, A) zb_0 dX10_number_35 h hP hS
  · rw [if_neg hc] at h
    refine lv_aload_n hx hb dX10_number_13 rfl (lv_at hl 0 rfl) ?_
    refine lv_iload_n hx hb dX10_number_14 rfl (lv_at hl 2 rfl) ?_
    refine callMi (k := 0) (As := [.int x2]) (rest := []) (n := 1) (c_X10_isNumber hAd I_1 A x2 _ h) hx hb hT hown hK hP hS mw_5_28 wd_X10_isNumber (by decide +kernel) ⟨rfl, rfl⟩ (by decide) rfl rfl he_X10 rfl hl.1 hml rfl (Nat.le_of_ble_eq_true rfl) dX10_number_15 ⟨Nat.zero_le _, Nat.zero_le _⟩ (fun r15 u H locs h hP hS => ?_)
    obtain ⟨Iu_1, Au_1⟩ := u
    dsimp only at h hP
    obtain ⟨h, rfl, rfl⟩ := h
    try dsimp only at h
    refine lv_if_eq (tgt := 34) hx hb dX10_number_18 (by decide) (fun hc_1 => ?_) (fun hc_1 => ?_)
    · rw [if_pos hc_1] at h
      refine lv_iconst (v := 0) hx hb dX10_number_34 (by decide) ?_
      exact hret _ (I_1, A) zb_0 dX10_number_35 h hP hS
    · rw [if_neg hc_1] at h
      refine lv_iload_n hx hb dX10_number_21 rfl (lv_at hl 3 rfl) ?_
      refine lv_sipush (v := (-999)) hx hb dX10_number_22 (by decide) ?_
      refine lv_sipush (v := 999) hx hb dX10_number_25 (by decide) ?_
      refine callSMi (As := [.int x3, .int (-999), .int 999]) (rest := []) (n := 3) (c_X10_within x3 (-999) 999 _ h) hx hb hT hown hP hS mw_4_213 wd_X10_within (by decide +kernel) ⟨rfl, rfl⟩ (by decide) rfl hl.1 hml rfl (Nat.le_of_ble_eq_true rfl) dX10_number_28 ⟨Nat.zero_le _, Nat.zero_le _⟩ (fun r28 H locs h hP hS => ?_)
      try dsimp only at h
      refine lv_if_ne (tgt := 36) hx hb dX10_number_31 (by decide) (fun hc_2 => ?_) (fun hc_2 => ?_)
      · rw [if_neg hc_2] at h
        refine lv_aload_n hx hb dX10_number_36 rfl (lv_at hl 0 rfl) ?_
        refine va_get (T := TX10) hx hb hT inlX10 hown hK.1 hP 0 he_X10 rfl 10 (by decide) (hT _ mw_4_147) (fun _ h9 => h9) rfl dX10_number_37 ?_
        refine lv_iconst (v := 5) hx hb dX10_number_40 (by decide) ?_
        refine lv_iload_n hx hb dX10_number_41 rfl (lv_at hl 1 rfl) ?_
        refine lv_imul hx hb dX10_number_42 ?_
        refine lv_iload_n hx hb dX10_number_43 rfl (lv_at hl 2 rfl) ?_
        refine lv_iadd hx hb dX10_number_44 ?_
        refine lv_iload_n hx hb dX10_number_45 rfl (lv_at hl 3 rfl) ?_
        obtain ⟨hi, h⟩ := h
        refine sM_I hAd hx hb hK.1 hP hS (by decide) (fun _ => rfl) hi dX10_number_46 (fun H locs hP hS => ?_)
        obtain ⟨A_1, eA_1⟩ : ∃ z, z = va_up A 7 (upd (A 7) ((5 * x1) + x2).toNatClampNeg x3) := ⟨_, rfl⟩
        rw [← eA_1] at hP
        replace h := h A_1 eA_1
        refine lv_aload_n hx hb dX10_number_47 rfl (lv_at hl 0 rfl) ?_
        refine va_get (T := TX10) hx hb hT inlX10 hown hK.1 hP 0 he_X10 rfl 11 (by decide) (hT _ mw_4_148) (fun _ h9 => h9) rfl dX10_number_48 ?_
        refine lv_iconst (v := 5) hx hb dX10_number_51 (by decide) ?_
        refine lv_iload_n hx hb dX10_number_52 rfl (lv_at hl 1 rfl) ?_
        refine lv_imul hx hb dX10_number_53 ?_
        refine lv_iload_n hx hb dX10_number_54 rfl (lv_at hl 2 rfl) ?_
        refine lv_iadd hx hb dX10_number_55 ?_
        refine lv_iconst (v := 1) hx hb dX10_number_56 (by decide) ?_
        obtain ⟨hi_1, h⟩ := h
        refine sM_Z hAd hx hb hK.1 hP hS (by decide) (fun _ => rfl) hi_1 dX10_number_57 (fun H locs hP hS => ?_)
        obtain ⟨A_2, eA_2⟩ : ∃ z, z = va_up A_1 8 (upd (A_1 8) ((5 * x1) + x2).toNatClampNeg (vp_nar .boolean 1)) := ⟨_, rfl⟩
        rw [← eA_2] at hP
        replace h := h A_2 eA_2
        refine lv_iconst (v := 1) hx hb dX10_number_58 (by decide) ?_
        exact hret _ (I_1, A_2) zb_1 dX10_number_59 h hP hS
      · rw [if_pos hc_2] at h
        refine lv_iconst (v := 0) hx hb dX10_number_34 (by decide) ?_
        exact hret _ (I_1, A) zb_0 dX10_number_35 h hP hS
theorem dX10_isNumbered_0 : decode cX10_isNumbered 0 = .ok (.aload_n 0, 1) := by decide +kernel
theorem dX10_isNumbered_1 : decode cX10_isNumbered 1 = .ok (.iload_n 1, 1) := by decide +kernel
theorem dX10_isNumbered_2 : decode cX10_isNumbered 2 = .ok (.invokevirtual 97, 3) := by decide +kernel
theorem dX10_isNumbered_5 : decode cX10_isNumbered 5 = .ok (.ifCond .eq 28, 3) := by decide +kernel
theorem dX10_isNumbered_8 : decode cX10_isNumbered 8 = .ok (.aload_n 0, 1) := by decide +kernel
theorem dX10_isNumbered_9 : decode cX10_isNumbered 9 = .ok (.iload_n 2, 1) := by decide +kernel
theorem dX10_isNumbered_10 : decode cX10_isNumbered 10 = .ok (.invokevirtual 100, 3) := by decide +kernel
theorem dX10_isNumbered_13 : decode cX10_isNumbered 13 = .ok (.ifCond .eq 20, 3) := by decide +kernel
theorem dX10_isNumbered_16 : decode cX10_isNumbered 16 = .ok (.aload_n 0, 1) := by decide +kernel
theorem dX10_isNumbered_17 : decode cX10_isNumbered 17 = .ok (.getfield 32, 3) := by decide +kernel
theorem dX10_isNumbered_20 : decode cX10_isNumbered 20 = .ok (.iconst 5, 1) := by decide +kernel
theorem dX10_isNumbered_21 : decode cX10_isNumbered 21 = .ok (.iload_n 1, 1) := by decide +kernel
theorem dX10_isNumbered_22 : decode cX10_isNumbered 22 = .ok (.imul, 1) := by decide +kernel
theorem dX10_isNumbered_23 : decode cX10_isNumbered 23 = .ok (.iload_n 2, 1) := by decide +kernel
theorem dX10_isNumbered_24 : decode cX10_isNumbered 24 = .ok (.iadd, 1) := by decide +kernel
theorem dX10_isNumbered_25 : decode cX10_isNumbered 25 = .ok (.baload, 1) := by decide +kernel
theorem dX10_isNumbered_26 : decode cX10_isNumbered 26 = .ok (.ifCond .eq 7, 3) := by decide +kernel
theorem dX10_isNumbered_29 : decode cX10_isNumbered 29 = .ok (.iconst 1, 1) := by decide +kernel
theorem dX10_isNumbered_30 : decode cX10_isNumbered 30 = .ok (.goto 4, 3) := by decide +kernel
theorem dX10_isNumbered_33 : decode cX10_isNumbered 33 = .ok (.iconst 0, 1) := by decide +kernel
theorem dX10_isNumbered_34 : decode cX10_isNumbered 34 = .ok (.ireturn, 1) := by decide +kernel
def wX10_isNumbered (I : Nat → Int32) (A : Nat → Nat → Int32) (x1 : Int32) (x2 : Int32) (post : Int32 → Prop) : Prop := wX10_isThere I A x1 (fun r2 => if r2 = 0 then (post 0) else (wX10_isNumber I A x2 (fun r10 => if r10 = 0 then (post 0) else (vp_in ((5 * x1) + x2) 200 ∧ (if (A 8 ((5 * x1) + x2).toNatClampNeg) = 0 then (post 0) else (post 1))))))
abbrev rmX10_isNumbered : Room := { frames := 2, cells := 0, slots := 0, locals := 42 }
theorem wd_X10_isNumbered : Cond.instanceMethod yX10_isNumbered ∈ BW ∧ Cond.selects yX10_isNumbered.cls yX10_isNumbered yX10_isNumbered ∈ BW ∧ Cond.initialized yX10_isNumbered.cls ∈ BW ∧ Cond.code yX10_isNumbered cX10_isNumbered 3 (some .boolean) ∈ BW := ⟨mw_5_38, mp_27, mw_1_11, mw_5_39⟩
set_option maxHeartbeats 4000000 in
set_option maxRecDepth 100000 in
theorem c_X10_isNumbered {l : Launch} {D : va_G} {cy : Nat → ClassId} {ad : Nat → Nat} {Ad : Nat → Prop} (hAd : adok 16 Ad ad) (I : Nat → Int32) (A : Nat → Nat → Int32) (x1 : Int32) (x2 : Int32)  (post : Int32 → Prop) (h : wX10_isNumbered I A x1 x2 post) : Met l yX10_isNumbered (.code yX10_isNumbered cX10_isNumbered 3 (some .boolean) :: BW) rmX10_isNumbered (va_Pc [.ref (ad 0), .int x1, .int x2] (fun U => kC D cy U ∧ va_P D vwCl (wM cy ad I A) U.heap)) (qMi D cy ad Ad (fun r u => post r  ∧ I = u.1 ∧ A = u.2)) 0 0 Ad := by
  refine startMz (by decide) (Nat.le_of_ble_eq_true rfl) (lv := [(0, .ref (ad 0)), (1, .int x1), (2, .int x2)]) rfl (fun p e s m args below meth c Q ls hx hb hml hT hown hK hret hl hP hS => ?_)
  unfold wX10_isNumbered at h
  refine lv_aload_n hx hb dX10_isNumbered_0 rfl (lv_at hl 0 rfl) ?_
  refine lv_iload_n hx hb dX10_isNumbered_1 rfl (lv_at hl 1 rfl) ?_
  refine callMi (k := 0) (As := [.int x1]) (rest := []) (n := 1) (c_X10_isThere hAd I A x1 _ h) hx hb hT hown hK hP hS mw_5_20 wd_X10_isThere (by decide +kernel) ⟨rfl, rfl⟩ (by decide) rfl rfl he_X10 rfl hl.1 hml rfl (Nat.le_of_ble_eq_true rfl) dX10_isNumbered_2 ⟨Nat.zero_le _, Nat.zero_le _⟩ (fun r2 u H locs h hP hS => ?_)
  obtain ⟨Iu, Au⟩ := u
  dsimp only at h hP
  obtain ⟨h, rfl, rfl⟩ := h
  try dsimp only at h
  refine lv_if_eq (tgt := 33) hx hb dX10_isNumbered_5 (by decide) (fun hc => ?_) (fun hc => ?_)
  · rw [if_pos hc] at h
    refine lv_iconst (v := 0) hx hb dX10_isNumbered_33 (by decide) ?_
    exact hret _ (I, A) zb_0 dX10_isNumbered_34 ⟨h, rfl, rfl⟩ hP hS
  · rw [if_neg hc] at h
    refine lv_aload_n hx hb dX10_isNumbered_8 rfl (lv_at hl 0 rfl) ?_
    refine lv_iload_n hx hb dX10_isNumbered_9 rfl (lv_at hl 2 rfl) ?_
    refine callMi (k := 0) (As := [.int x2]) (rest := []) (n := 1) (c_X10_isNumber hAd I A x2 _ h) hx hb hT hown hK hP hS mw_5_28 wd_X10_isNumber (by decide +kernel) ⟨rfl, rfl⟩ (by decide) rfl rfl he_X10 rfl hl.1 hml rfl (Nat.le_of_ble_eq_true rfl) dX10_isNumbered_10 ⟨Nat.zero_le _, Nat.zero_le _⟩ (fun r10 u H locs h hP hS => ?_)
    obtain ⟨Iu_1, Au_1⟩ := u
    dsimp only at h hP
    obtain ⟨h, rfl, rfl⟩ := h
    try dsimp only at h
    refine lv_if_eq (tgt := 33) hx hb dX10_isNumbered_13 (by decide) (fun hc_1 => ?_) (fun hc_1 => ?_)
    · rw [if_pos hc_1] at h
      refine lv_iconst (v := 0) hx hb dX10_isNumbered_33 (by decide) ?_
      exact hret _ (I, A) zb_0 dX10_isNumbered_34 ⟨h, rfl, rfl⟩ hP hS
    · rw [if_neg hc_1] at h
      refine lv_aload_n hx hb dX10_isNumbered_16 rfl (lv_at hl 0 rfl) ?_
      refine va_get (T := TX10) hx hb hT inlX10 hown hK.1 hP 0 he_X10 rfl 11 (by decide) (hT _ mw_4_148) (fun _ h9 => h9) rfl dX10_isNumbered_17 ?_
      refine lv_iconst (v := 5) hx hb dX10_isNumbered_20 (by decide) ?_
      refine lv_iload_n hx hb dX10_isNumbered_21 rfl (lv_at hl 1 rfl) ?_
      refine lv_imul hx hb dX10_isNumbered_22 ?_
      refine lv_iload_n hx hb dX10_isNumbered_23 rfl (lv_at hl 2 rfl) ?_
      refine lv_iadd hx hb dX10_isNumbered_24 ?_
      obtain ⟨hi, h⟩ := h
      refine lM_Z hx hb hK.1 hP (by decide) rfl hi dX10_isNumbered_25 ?_
      refine lv_if_eq (tgt := 33) hx hb dX10_isNumbered_26 (by decide) (fun hc_2 => ?_) (fun hc_2 => ?_)
      · rw [if_pos hc_2] at h
        refine lv_iconst (v := 0) hx hb dX10_isNumbered_33 (by decide) ?_
        exact hret _ (I, A) zb_0 dX10_isNumbered_34 ⟨h, rfl, rfl⟩ hP hS
      · rw [if_neg hc_2] at h
        refine lv_iconst (v := 1) hx hb dX10_isNumbered_29 (by decide) ?_
        refine lv_goto (tgt := 34) hx hb dX10_isNumbered_30 (by decide) ?_
        exact hret _ (I, A) zb_1 dX10_isNumbered_34 ⟨h, rfl, rfl⟩ hP hS
theorem dX10_unnumber_0 : decode cX10_unnumber 0 = .ok (.aload_n 0, 1) := by decide +kernel
theorem dX10_unnumber_1 : decode cX10_unnumber 1 = .ok (.iconst 0, 1) := by decide +kernel
theorem dX10_unnumber_2 : decode cX10_unnumber 2 = .ok (.putfield 56, 3) := by decide +kernel
theorem dX10_unnumber_5 : decode cX10_unnumber 5 = .ok (.aload_n 0, 1) := by decide +kernel
theorem dX10_unnumber_6 : decode cX10_unnumber 6 = .ok (.iload_n 1, 1) := by decide +kernel
theorem dX10_unnumber_7 : decode cX10_unnumber 7 = .ok (.iload_n 2, 1) := by decide +kernel
theorem dX10_unnumber_8 : decode cX10_unnumber 8 = .ok (.invokevirtual 103, 3) := by decide +kernel
theorem dX10_unnumber_11 : decode cX10_unnumber 11 = .ok (.ifCond .ne 5, 3) := by decide +kernel
theorem dX10_unnumber_14 : decode cX10_unnumber 14 = .ok (.iconst 0, 1) := by decide +kernel
theorem dX10_unnumber_15 : decode cX10_unnumber 15 = .ok (.ireturn, 1) := by decide +kernel
theorem dX10_unnumber_16 : decode cX10_unnumber 16 = .ok (.aload_n 0, 1) := by decide +kernel
theorem dX10_unnumber_17 : decode cX10_unnumber 17 = .ok (.getfield 32, 3) := by decide +kernel
theorem dX10_unnumber_20 : decode cX10_unnumber 20 = .ok (.iconst 5, 1) := by decide +kernel
theorem dX10_unnumber_21 : decode cX10_unnumber 21 = .ok (.iload_n 1, 1) := by decide +kernel
theorem dX10_unnumber_22 : decode cX10_unnumber 22 = .ok (.imul, 1) := by decide +kernel
theorem dX10_unnumber_23 : decode cX10_unnumber 23 = .ok (.iload_n 2, 1) := by decide +kernel
theorem dX10_unnumber_24 : decode cX10_unnumber 24 = .ok (.iadd, 1) := by decide +kernel
theorem dX10_unnumber_25 : decode cX10_unnumber 25 = .ok (.iconst 0, 1) := by decide +kernel
theorem dX10_unnumber_26 : decode cX10_unnumber 26 = .ok (.bastore, 1) := by decide +kernel
theorem dX10_unnumber_27 : decode cX10_unnumber 27 = .ok (.iconst 1, 1) := by decide +kernel
theorem dX10_unnumber_28 : decode cX10_unnumber 28 = .ok (.ireturn, 1) := by decide +kernel
def wX10_unnumber (I : Nat → Int32) (A : Nat → Nat → Int32) (x1 : Int32) (x2 : Int32) (post : Int32 → (Nat → Int32) → (Nat → Nat → Int32) → Prop) : Prop := (∀ I_1, I_1 = va_up I 0 0 → wX10_isNumbered I_1 A x1 x2 (fun r8 => if r8 = 0 then (post 0 I_1 A) else (vp_in ((5 * x1) + x2) 200 ∧ (∀ A_1, A_1 = va_up A 8 (upd (A 8) ((5 * x1) + x2).toNatClampNeg (vp_nar .boolean 0)) → post 1 I_1 A_1))))
abbrev rmX10_unnumber : Room := { frames := 3, cells := 0, slots := 0, locals := 64 }
theorem wd_X10_unnumber : Cond.instanceMethod yX10_unnumber ∈ BW ∧ Cond.selects yX10_unnumber.cls yX10_unnumber yX10_unnumber ∈ BW ∧ Cond.initialized yX10_unnumber.cls ∈ BW ∧ Cond.code yX10_unnumber cX10_unnumber 3 (some .boolean) ∈ BW := ⟨mw_5_33, mw_5_34, mw_1_11, mw_5_35⟩
set_option maxHeartbeats 4000000 in
set_option maxRecDepth 100000 in
theorem c_X10_unnumber {l : Launch} {D : va_G} {cy : Nat → ClassId} {ad : Nat → Nat} {Ad : Nat → Prop} (hAd : adok 16 Ad ad) (I : Nat → Int32) (A : Nat → Nat → Int32) (x1 : Int32) (x2 : Int32)  (post : Int32 → (Nat → Int32) → (Nat → Nat → Int32) → Prop) (h : wX10_unnumber I A x1 x2 post) : Met l yX10_unnumber (.code yX10_unnumber cX10_unnumber 3 (some .boolean) :: BW) rmX10_unnumber (va_Pc [.ref (ad 0), .int x1, .int x2] (fun U => kC D cy U ∧ va_P D vwCl (wM cy ad I A) U.heap)) (qMi D cy ad Ad (fun r u => post r u.1 u.2)) 0 0 Ad := by
  refine startMz (by decide) (Nat.le_of_ble_eq_true rfl) (lv := [(0, .ref (ad 0)), (1, .int x1), (2, .int x2)]) rfl (fun p e s m args below meth c Q ls hx hb hml hT hown hK hret hl hP hS => ?_)
  unfold wX10_unnumber at h
  refine lv_aload_n hx hb dX10_unnumber_0 rfl (lv_at hl 0 rfl) ?_
  refine lv_iconst (v := 0) hx hb dX10_unnumber_1 (by decide) ?_
  refine pM_X10_thrown hAd hx hb hT hown hK.1 hP hS (hT _ mw_4_137) dX10_unnumber_2 (fun H locs hP hS => ?_)
  obtain ⟨I_1, eI_1⟩ : ∃ z, z = va_up I 0 0 := ⟨_, rfl⟩
  rw [← eI_1] at hP
  replace h := h I_1 eI_1
  refine lv_aload_n hx hb dX10_unnumber_5 rfl (lv_at hl 0 rfl) ?_
  refine lv_iload_n hx hb dX10_unnumber_6 rfl (lv_at hl 1 rfl) ?_
  refine lv_iload_n hx hb dX10_unnumber_7 rfl (lv_at hl 2 rfl) ?_
  refine callMi (k := 0) (As := [.int x1, .int x2]) (rest := []) (n := 2) (c_X10_isNumbered hAd I_1 A x1 x2 _ h) hx hb hT hown hK hP hS mw_5_36 wd_X10_isNumbered (by decide +kernel) ⟨rfl, rfl⟩ (by decide) rfl rfl he_X10 rfl hl.1 hml rfl (Nat.le_of_ble_eq_true rfl) dX10_unnumber_8 ⟨Nat.zero_le _, Nat.zero_le _⟩ (fun r8 u H locs h hP hS => ?_)
  obtain ⟨Iu, Au⟩ := u
  dsimp only at h hP
  obtain ⟨h, rfl, rfl⟩ := h
  try dsimp only at h
  refine lv_if_ne (tgt := 16) hx hb dX10_unnumber_11 (by decide) (fun hc => ?_) (fun hc => ?_)
  · rw [if_neg hc] at h
    refine lv_aload_n hx hb dX10_unnumber_16 rfl (lv_at hl 0 rfl) ?_
    refine va_get (T := TX10) hx hb hT inlX10 hown hK.1 hP 0 he_X10 rfl 11 (by decide) (hT _ mw_4_148) (fun _ h9 => h9) rfl dX10_unnumber_17 ?_
    refine lv_iconst (v := 5) hx hb dX10_unnumber_20 (by decide) ?_
    refine lv_iload_n hx hb dX10_unnumber_21 rfl (lv_at hl 1 rfl) ?_
    refine lv_imul hx hb dX10_unnumber_22 ?_
    refine lv_iload_n hx hb dX10_unnumber_23 rfl (lv_at hl 2 rfl) ?_
    refine lv_iadd hx hb dX10_unnumber_24 ?_
    refine lv_iconst (v := 0) hx hb dX10_unnumber_25 (by decide) ?_
    obtain ⟨hi, h⟩ := h
    refine sM_Z hAd hx hb hK.1 hP hS (by decide) (fun _ => rfl) hi dX10_unnumber_26 (fun H locs hP hS => ?_)
    obtain ⟨A_1, eA_1⟩ : ∃ z, z = va_up A 8 (upd (A 8) ((5 * x1) + x2).toNatClampNeg (vp_nar .boolean 0)) := ⟨_, rfl⟩
    rw [← eA_1] at hP
    replace h := h A_1 eA_1
    refine lv_iconst (v := 1) hx hb dX10_unnumber_27 (by decide) ?_
    exact hret _ (I_1, A_1) zb_1 dX10_unnumber_28 h hP hS
  · rw [if_pos hc] at h
    refine lv_iconst (v := 0) hx hb dX10_unnumber_14 (by decide) ?_
    exact hret _ (I_1, A) zb_0 dX10_unnumber_15 h hP hS
theorem dX10_remove_0 : decode cX10_remove 0 = .ok (.aload_n 0, 1) := by decide +kernel
theorem dX10_remove_1 : decode cX10_remove 1 = .ok (.iconst 0, 1) := by decide +kernel
theorem dX10_remove_2 : decode cX10_remove 2 = .ok (.putfield 56, 3) := by decide +kernel
theorem dX10_remove_5 : decode cX10_remove 5 = .ok (.aload_n 0, 1) := by decide +kernel
theorem dX10_remove_6 : decode cX10_remove 6 = .ok (.iload_n 1, 1) := by decide +kernel
theorem dX10_remove_7 : decode cX10_remove 7 = .ok (.invokevirtual 97, 3) := by decide +kernel
theorem dX10_remove_10 : decode cX10_remove 10 = .ok (.ifCond .ne 5, 3) := by decide +kernel
theorem dX10_remove_13 : decode cX10_remove 13 = .ok (.iconst 0, 1) := by decide +kernel
theorem dX10_remove_14 : decode cX10_remove 14 = .ok (.ireturn, 1) := by decide +kernel
theorem dX10_remove_15 : decode cX10_remove 15 = .ok (.aload_n 0, 1) := by decide +kernel
theorem dX10_remove_16 : decode cX10_remove 16 = .ok (.getfield 22, 3) := by decide +kernel
theorem dX10_remove_19 : decode cX10_remove 19 = .ok (.iload_n 1, 1) := by decide +kernel
theorem dX10_remove_20 : decode cX10_remove 20 = .ok (.iconst 0, 1) := by decide +kernel
theorem dX10_remove_21 : decode cX10_remove 21 = .ok (.bastore, 1) := by decide +kernel
theorem dX10_remove_22 : decode cX10_remove 22 = .ok (.iconst 1, 1) := by decide +kernel
theorem dX10_remove_23 : decode cX10_remove 23 = .ok (.ireturn, 1) := by decide +kernel
def wX10_remove (I : Nat → Int32) (A : Nat → Nat → Int32) (x1 : Int32) (post : Int32 → (Nat → Int32) → (Nat → Nat → Int32) → Prop) : Prop := (∀ I_1, I_1 = va_up I 0 0 → wX10_isThere I_1 A x1 (fun r7 => if r7 = 0 then (post 0 I_1 A) else (vp_in x1 40 ∧ (∀ A_1, A_1 = va_up A 5 (upd (A 5) x1.toNatClampNeg (vp_nar .boolean 0)) → post 1 I_1 A_1))))
abbrev rmX10_remove : Room := { frames := 1, cells := 0, slots := 0, locals := 21 }
theorem wd_X10_remove : Cond.instanceMethod yX10_remove ∈ BW ∧ Cond.selects yX10_remove.cls yX10_remove yX10_remove ∈ BW ∧ Cond.initialized yX10_remove.cls ∈ BW ∧ Cond.code yX10_remove cX10_remove 2 (some .boolean) ∈ BW := ⟨mw_5_41, mw_5_42, mw_1_11, mw_5_43⟩
set_option maxHeartbeats 4000000 in
set_option maxRecDepth 100000 in
theorem c_X10_remove {l : Launch} {D : va_G} {cy : Nat → ClassId} {ad : Nat → Nat} {Ad : Nat → Prop} (hAd : adok 16 Ad ad) (I : Nat → Int32) (A : Nat → Nat → Int32) (x1 : Int32)  (post : Int32 → (Nat → Int32) → (Nat → Nat → Int32) → Prop) (h : wX10_remove I A x1 post) : Met l yX10_remove (.code yX10_remove cX10_remove 2 (some .boolean) :: BW) rmX10_remove (va_Pc [.ref (ad 0), .int x1] (fun U => kC D cy U ∧ va_P D vwCl (wM cy ad I A) U.heap)) (qMi D cy ad Ad (fun r u => post r u.1 u.2)) 0 0 Ad := by
  refine startMz (by decide) (Nat.le_of_ble_eq_true rfl) (lv := [(0, .ref (ad 0)), (1, .int x1)]) rfl (fun p e s m args below meth c Q ls hx hb hml hT hown hK hret hl hP hS => ?_)
  unfold wX10_remove at h
  refine lv_aload_n hx hb dX10_remove_0 rfl (lv_at hl 0 rfl) ?_
  refine lv_iconst (v := 0) hx hb dX10_remove_1 (by decide) ?_
  refine pM_X10_thrown hAd hx hb hT hown hK.1 hP hS (hT _ mw_4_137) dX10_remove_2 (fun H locs hP hS => ?_)
  obtain ⟨I_1, eI_1⟩ : ∃ z, z = va_up I 0 0 := ⟨_, rfl⟩
  rw [← eI_1] at hP
  replace h := h I_1 eI_1
  refine lv_aload_n hx hb dX10_remove_5 rfl (lv_at hl 0 rfl) ?_
  refine lv_iload_n hx hb dX10_remove_6 rfl (lv_at hl 1 rfl) ?_
  refine callMi (k := 0) (As := [.int x1]) (rest := []) (n := 1) (c_X10_isThere hAd I_1 A x1 _ h) hx hb hT hown hK hP hS mw_5_20 wd_X10_isThere (by decide +kernel) ⟨rfl, rfl⟩ (by decide) rfl rfl he_X10 rfl hl.1 hml rfl (Nat.le_of_ble_eq_true rfl) dX10_remove_7 ⟨Nat.zero_le _, Nat.zero_le _⟩ (fun r7 u H locs h hP hS => ?_)
  obtain ⟨Iu, Au⟩ := u
  dsimp only at h hP
  obtain ⟨h, rfl, rfl⟩ := h
  try dsimp only at h
  refine lv_if_ne (tgt := 15) hx hb dX10_remove_10 (by decide) (fun hc => ?_) (fun hc => ?_)
  · rw [if_neg hc] at h
    refine lv_aload_n hx hb dX10_remove_15 rfl (lv_at hl 0 rfl) ?_
    refine va_get (T := TX10) hx hb hT inlX10 hown hK.1 hP 0 he_X10 rfl 8 (by decide) (hT _ mw_4_145) (fun _ h9 => h9) rfl dX10_remove_16 ?_
    refine lv_iload_n hx hb dX10_remove_19 rfl (lv_at hl 1 rfl) ?_
    refine lv_iconst (v := 0) hx hb dX10_remove_20 (by decide) ?_
    obtain ⟨hi, h⟩ := h
    refine sM_Z hAd hx hb hK.1 hP hS (by decide) (fun _ => rfl) hi dX10_remove_21 (fun H locs hP hS => ?_)
    obtain ⟨A_1, eA_1⟩ : ∃ z, z = va_up A 5 (upd (A 5) x1.toNatClampNeg (vp_nar .boolean 0)) := ⟨_, rfl⟩
    rw [← eA_1] at hP
    replace h := h A_1 eA_1
    refine lv_iconst (v := 1) hx hb dX10_remove_22 (by decide) ?_
    exact hret _ (I_1, A_1) zb_1 dX10_remove_23 h hP hS
  · rw [if_pos hc] at h
    refine lv_iconst (v := 0) hx hb dX10_remove_13 (by decide) ?_
    exact hret _ (I_1, A) zb_0 dX10_remove_14 h hP hS
theorem dX10_copies_0 : decode cX10_copies 0 = .ok (.iconst 0, 1) := by decide +kernel
theorem dX10_copies_1 : decode cX10_copies 1 = .ok (.istore_n 3, 1) := by decide +kernel
theorem dX10_copies_2 : decode cX10_copies 2 = .ok (.iload_n 3, 1) := by decide +kernel
theorem dX10_copies_3 : decode cX10_copies 3 = .ok (.bipush 80, 2) := by decide +kernel
theorem dX10_copies_5 : decode cX10_copies 5 = .ok (.if_icmp .ge 25, 3) := by decide +kernel
theorem dX10_copies_8 : decode cX10_copies 8 = .ok (.aload_n 0, 1) := by decide +kernel
theorem dX10_copies_9 : decode cX10_copies 9 = .ok (.getfield 35, 3) := by decide +kernel
theorem dX10_copies_12 : decode cX10_copies 12 = .ok (.iload_n 2, 1) := by decide +kernel
theorem dX10_copies_13 : decode cX10_copies 13 = .ok (.iload_n 3, 1) := by decide +kernel
theorem dX10_copies_14 : decode cX10_copies 14 = .ok (.iadd, 1) := by decide +kernel
theorem dX10_copies_15 : decode cX10_copies 15 = .ok (.aload_n 0, 1) := by decide +kernel
theorem dX10_copies_16 : decode cX10_copies 16 = .ok (.getfield 35, 3) := by decide +kernel
theorem dX10_copies_19 : decode cX10_copies 19 = .ok (.iload_n 1, 1) := by decide +kernel
theorem dX10_copies_20 : decode cX10_copies 20 = .ok (.iload_n 3, 1) := by decide +kernel
theorem dX10_copies_21 : decode cX10_copies 21 = .ok (.iadd, 1) := by decide +kernel
theorem dX10_copies_22 : decode cX10_copies 22 = .ok (.iaload, 1) := by decide +kernel
theorem dX10_copies_23 : decode cX10_copies 23 = .ok (.iastore, 1) := by decide +kernel
theorem dX10_copies_24 : decode cX10_copies 24 = .ok (.iinc 3 1, 3) := by decide +kernel
theorem dX10_copies_27 : decode cX10_copies 27 = .ok (.goto (-25), 3) := by decide +kernel
theorem dX10_copies_30 : decode cX10_copies 30 = .ok (.return_, 1) := by decide +kernel
def wX10_copies (I : Nat → Int32) (A : Nat → Nat → Int32) (x1 : Int32) (x2 : Int32) (post : (Nat → Nat → Int32) → Prop) : Prop := ∃ n, lfix (fun (r : (Int32 × (Nat → Nat → Int32)) → Prop) (v3, A_1) => if 80 ≤ v3 then (post A_1) else (vp_in (x1 + v3) 1440 ∧ (vp_in (x2 + v3) 1440 ∧ (∀ A_2, A_2 = va_up A_1 9 (upd (A_1 9) (x2 + v3).toNatClampNeg (A_1 9 (x1 + v3).toNatClampNeg)) → ∀ v3_1 : Int32, v3_1 = v3 + 1 → r (v3_1, A_2))))) n (0, A)
abbrev rmX10_copies : Room := { frames := 0, cells := 0, slots := 0, locals := 0 }
theorem wd_X10_copies : Cond.instanceMethod yX10_copies ∈ BW ∧ Cond.selects yX10_copies.cls yX10_copies yX10_copies ∈ BW ∧ Cond.initialized yX10_copies.cls ∈ BW ∧ Cond.code yX10_copies cX10_copies 4 (none : Option Jvm.ClassFile.FieldType) ∈ BW := ⟨mw_5_54, mp_29, mw_1_11, mw_5_55⟩
set_option maxHeartbeats 4000000 in
set_option maxRecDepth 100000 in
theorem c_X10_copies {l : Launch} {D : va_G} {cy : Nat → ClassId} {ad : Nat → Nat} {Ad : Nat → Prop} (hAd : adok 16 Ad ad) (I : Nat → Int32) (A : Nat → Nat → Int32) (x1 : Int32) (x2 : Int32)  (post : (Nat → Nat → Int32) → Prop) (h : wX10_copies I A x1 x2 post) : Met l yX10_copies (.code yX10_copies cX10_copies 4 (none : Option Jvm.ClassFile.FieldType) :: BW) rmX10_copies (va_Pc [.ref (ad 0), .int x1, .int x2] (fun U => kC D cy U ∧ va_P D vwCl (wM cy ad I A) U.heap)) (qMv D cy ad Ad (fun u => post u.2 ∧ I = u.1)) 0 0 Ad := by
  refine startMv (by decide) (Nat.le_of_ble_eq_true rfl) (lv := [(0, .ref (ad 0)), (1, .int x1), (2, .int x2)]) rfl (fun p e s m args below meth c Q ls hx hb hml hT hown hK hret hl hP hS => ?_)
  unfold wX10_copies at h
  refine lv_iconst (v := 0) hx hb dX10_copies_0 (by decide) ?_
  refine lv_istore_n (lv' := [(3, .int 0), (0, .ref (ad 0)), (1, .int x1), (2, .int x2)]) hx hb dX10_copies_1 rfl hl (by decide) rfl (fun ls hl => ?_)
  obtain ⟨F, n, h, hF, hG⟩ := lfix_ex h
  have LP : ∀ (n : Nat) (v3 : Int32) (A_1 : Nat → Nat → Int32) (ls : Array Slot) (H : Heap) (locs : List Loc), F n (v3, A_1) → lv_has ls 4 [(3, .int v3), (0, .ref (ad 0)), (1, .int x1), (2, .int x2)] → va_P D vwCl (wM cy ad I A_1) H → va_S Ad s.heap H locs → W p l e rmX10_copies s m args below meth c H locs 0 0 Q (F0 m 2 ls []) := by
    intro n
    induction n with
    | zero => intro v3 A_1 ls H locs h _ _ _; exact absurd h (hF _)
    | succ n ih =>
      intro v3 A_1 ls H locs h hl hP hS
      replace h := hG _ _ h
      try dsimp only at h
      refine lv_iload_n hx hb dX10_copies_2 rfl (lv_at hl 0 rfl) ?_
      refine lv_bipush (v := 80) hx hb dX10_copies_3 (by decide) ?_
      refine lv_icmp_ge (tgt := 30) hx hb dX10_copies_5 (by decide) (fun hc => ?_) (fun hc => ?_)
      · rw [if_pos hc] at h
        exact hret (I, A_1) dX10_copies_30 ⟨h, rfl⟩ hP hS
      · rw [if_neg hc] at h
        refine lv_aload_n hx hb dX10_copies_8 rfl (lv_at hl 1 rfl) ?_
        refine va_get (T := TX10) hx hb hT inlX10 hown hK.1 hP 0 he_X10 rfl 12 (by decide) (hT _ mw_4_149) (fun _ h9 => h9) rfl dX10_copies_9 ?_
        refine lv_iload_n hx hb dX10_copies_12 rfl (lv_at hl 3 rfl) ?_
        refine lv_iload_n hx hb dX10_copies_13 rfl (lv_at hl 0 rfl) ?_
        refine lv_iadd hx hb dX10_copies_14 ?_
        refine lv_aload_n hx hb dX10_copies_15 rfl (lv_at hl 1 rfl) ?_
        refine va_get (T := TX10) hx hb hT inlX10 hown hK.1 hP 0 he_X10 rfl 12 (by decide) (hT _ mw_4_149) (fun _ h9 => h9) rfl dX10_copies_16 ?_
        refine lv_iload_n hx hb dX10_copies_19 rfl (lv_at hl 2 rfl) ?_
        refine lv_iload_n hx hb dX10_copies_20 rfl (lv_at hl 0 rfl) ?_
        refine lv_iadd hx hb dX10_copies_21 ?_
        obtain ⟨hi, h⟩ := h
        refine lM_I hx hb hK.1 hP (by decide) rfl hi dX10_copies_22 ?_
        obtain ⟨hi_1, h⟩ := h
        refine sM_I hAd hx hb hK.1 hP hS (by decide) (fun _ => rfl) hi_1 dX10_copies_23 (fun H locs hP hS => ?_)
        obtain ⟨A_2, eA_2⟩ : ∃ z, z = va_up A_1 9 (upd (A_1 9) (x2 + v3).toNatClampNeg (A_1 9 (x1 + v3).toNatClampNeg)) := ⟨_, rfl⟩
        rw [← eA_2] at hP
        replace h := h A_2 eA_2
        obtain ⟨v3_1, ev3_1⟩ : ∃ z : Int32, z = v3 + 1 := ⟨_, rfl⟩
        replace h := h v3_1 ev3_1
        refine lv_iinc (v := v3_1) (lv' := [(3, .int v3_1), (0, .ref (ad 0)), (1, .int x1), (2, .int x2)]) hx hb dX10_copies_24 hl (k := 0) rfl (by rw [ev3_1]; rfl) (by decide) rfl (fun ls hl => ?_)
        refine lv_goto (tgt := 2) hx hb dX10_copies_27 (by decide) ?_
        exact ih v3_1 A_2 _ _ _ h (lv_sub hl [0, 1, 2, 3] rfl) hP hS
  exact LP _ 0 A _ _ _ h (lv_sub hl [0, 1, 2, 3] rfl) hP hS
theorem dX10_keeps_0 : decode cX10_keeps 0 = .ok (.aload_n 0, 1) := by decide +kernel
theorem dX10_keeps_1 : decode cX10_keeps 1 = .ok (.getfield 106, 3) := by decide +kernel
theorem dX10_keeps_4 : decode cX10_keeps 4 = .ok (.bipush 16, 2) := by decide +kernel
theorem dX10_keeps_6 : decode cX10_keeps 6 = .ok (.if_icmp .ne 47, 3) := by decide +kernel
theorem dX10_keeps_9 : decode cX10_keeps 9 = .ok (.iconst 1, 1) := by decide +kernel
theorem dX10_keeps_10 : decode cX10_keeps 10 = .ok (.istore_n 1, 1) := by decide +kernel
theorem dX10_keeps_11 : decode cX10_keeps 11 = .ok (.iload_n 1, 1) := by decide +kernel
theorem dX10_keeps_12 : decode cX10_keeps 12 = .ok (.bipush 16, 2) := by decide +kernel
theorem dX10_keeps_14 : decode cX10_keeps 14 = .ok (.if_icmp .ge 29, 3) := by decide +kernel
theorem dX10_keeps_17 : decode cX10_keeps 17 = .ok (.aload_n 0, 1) := by decide +kernel
theorem dX10_keeps_18 : decode cX10_keeps 18 = .ok (.bipush 80, 2) := by decide +kernel
theorem dX10_keeps_20 : decode cX10_keeps 20 = .ok (.bipush 80, 2) := by decide +kernel
theorem dX10_keeps_22 : decode cX10_keeps 22 = .ok (.iload_n 1, 1) := by decide +kernel
theorem dX10_keeps_23 : decode cX10_keeps 23 = .ok (.imul, 1) := by decide +kernel
theorem dX10_keeps_24 : decode cX10_keeps 24 = .ok (.iadd, 1) := by decide +kernel
theorem dX10_keeps_25 : decode cX10_keeps 25 = .ok (.bipush 80, 2) := by decide +kernel
theorem dX10_keeps_27 : decode cX10_keeps 27 = .ok (.bipush 80, 2) := by decide +kernel
theorem dX10_keeps_29 : decode cX10_keeps 29 = .ok (.iload_n 1, 1) := by decide +kernel
theorem dX10_keeps_30 : decode cX10_keeps 30 = .ok (.iconst 1, 1) := by decide +kernel
theorem dX10_keeps_31 : decode cX10_keeps 31 = .ok (.isub, 1) := by decide +kernel
theorem dX10_keeps_32 : decode cX10_keeps 32 = .ok (.imul, 1) := by decide +kernel
theorem dX10_keeps_33 : decode cX10_keeps 33 = .ok (.iadd, 1) := by decide +kernel
theorem dX10_keeps_34 : decode cX10_keeps 34 = .ok (.invokevirtual 109, 3) := by decide +kernel
theorem dX10_keeps_37 : decode cX10_keeps 37 = .ok (.iinc 1 1, 3) := by decide +kernel
theorem dX10_keeps_40 : decode cX10_keeps 40 = .ok (.goto (-29), 3) := by decide +kernel
theorem dX10_keeps_43 : decode cX10_keeps 43 = .ok (.aload_n 0, 1) := by decide +kernel
theorem dX10_keeps_44 : decode cX10_keeps 44 = .ok (.dup, 1) := by decide +kernel
theorem dX10_keeps_45 : decode cX10_keeps 45 = .ok (.getfield 106, 3) := by decide +kernel
theorem dX10_keeps_48 : decode cX10_keeps 48 = .ok (.iconst 1, 1) := by decide +kernel
theorem dX10_keeps_49 : decode cX10_keeps 49 = .ok (.isub, 1) := by decide +kernel
theorem dX10_keeps_50 : decode cX10_keeps 50 = .ok (.putfield 106, 3) := by decide +kernel
theorem dX10_keeps_53 : decode cX10_keeps 53 = .ok (.aload_n 0, 1) := by decide +kernel
theorem dX10_keeps_54 : decode cX10_keeps 54 = .ok (.iconst 0, 1) := by decide +kernel
theorem dX10_keeps_55 : decode cX10_keeps 55 = .ok (.bipush 80, 2) := by decide +kernel
theorem dX10_keeps_57 : decode cX10_keeps 57 = .ok (.bipush 80, 2) := by decide +kernel
theorem dX10_keeps_59 : decode cX10_keeps 59 = .ok (.aload_n 0, 1) := by decide +kernel
theorem dX10_keeps_60 : decode cX10_keeps 60 = .ok (.getfield 106, 3) := by decide +kernel
theorem dX10_keeps_63 : decode cX10_keeps 63 = .ok (.imul, 1) := by decide +kernel
theorem dX10_keeps_64 : decode cX10_keeps 64 = .ok (.iadd, 1) := by decide +kernel
theorem dX10_keeps_65 : decode cX10_keeps 65 = .ok (.invokevirtual 109, 3) := by decide +kernel
theorem dX10_keeps_68 : decode cX10_keeps 68 = .ok (.aload_n 0, 1) := by decide +kernel
theorem dX10_keeps_69 : decode cX10_keeps 69 = .ok (.dup, 1) := by decide +kernel
theorem dX10_keeps_70 : decode cX10_keeps 70 = .ok (.getfield 106, 3) := by decide +kernel
theorem dX10_keeps_73 : decode cX10_keeps 73 = .ok (.iconst 1, 1) := by decide +kernel
theorem dX10_keeps_74 : decode cX10_keeps 74 = .ok (.iadd, 1) := by decide +kernel
theorem dX10_keeps_75 : decode cX10_keeps 75 = .ok (.putfield 106, 3) := by decide +kernel
theorem dX10_keeps_78 : decode cX10_keeps 78 = .ok (.return_, 1) := by decide +kernel
def wX10_keeps (I : Nat → Int32) (A : Nat → Nat → Int32)  (post : (Nat → Int32) → (Nat → Nat → Int32) → Prop) : Prop := jn (fun (z : (Nat → Int32) × (Nat → Nat → Int32)) => match z with | (I_1, A_1) => wX10_copies I_1 A_1 0 (80 + (80 * (I_1 4))) (fun A_2 => (∀ I_2, I_2 = va_up I_1 4 ((I_1 4) + 1) → post I_2 A_2))) (fun k => if (I 4) = 16 then (∃ n, lfix (fun (r : (Int32 × (Nat → Nat → Int32)) → Prop) (v1, A_3) => if 16 ≤ v1 then ((∀ I_3, I_3 = va_up I 4 ((I 4) - 1) → k (I_3, A_3))) else (wX10_copies I A_3 (80 + (80 * v1)) (80 + (80 * (v1 - 1))) (fun A_4 => ∀ v1_1 : Int32, v1_1 = v1 + 1 → r (v1_1, A_4)))) n (1, A)) else (k (I, A)))
abbrev rmX10_keeps : Room := { frames := 1, cells := 0, slots := 0, locals := 23 }
theorem wd_X10_keeps : Cond.instanceMethod yX10_keeps ∈ BW ∧ Cond.selects yX10_keeps.cls yX10_keeps yX10_keeps ∈ BW ∧ Cond.initialized yX10_keeps.cls ∈ BW ∧ Cond.code yX10_keeps cX10_keeps 2 (none : Option Jvm.ClassFile.FieldType) ∈ BW := ⟨mw_5_50, mp_28, mw_1_11, mw_5_51⟩
set_option maxHeartbeats 4000000 in
set_option maxRecDepth 100000 in
theorem c_X10_keeps {l : Launch} {D : va_G} {cy : Nat → ClassId} {ad : Nat → Nat} {Ad : Nat → Prop} (hAd : adok 16 Ad ad) (I : Nat → Int32) (A : Nat → Nat → Int32)   (post : (Nat → Int32) → (Nat → Nat → Int32) → Prop) (h : wX10_keeps I A  post) : Met l yX10_keeps (.code yX10_keeps cX10_keeps 2 (none : Option Jvm.ClassFile.FieldType) :: BW) rmX10_keeps (va_Pc [.ref (ad 0)] (fun U => kC D cy U ∧ va_P D vwCl (wM cy ad I A) U.heap)) (qMv D cy ad Ad (fun u => post u.1 u.2)) 0 0 Ad := by
  refine startMv (by decide) (Nat.le_of_ble_eq_true rfl) (lv := [(0, .ref (ad 0))]) rfl (fun p e s m args below meth c Q ls hx hb hml hT hown hK hret hl hP hS => ?_)
  unfold wX10_keeps at h
  refine lv_aload_n hx hb dX10_keeps_0 rfl (lv_at hl 0 rfl) ?_
  refine va_get (T := TX10) hx hb hT inlX10 hown hK.1 hP 0 he_X10 rfl 13 (by decide) (hT _ mw_4_150) (fun _ h9 => h9) rfl dX10_keeps_1 ?_
  refine lv_bipush (v := 16) hx hb dX10_keeps_4 (by decide) ?_
  obtain ⟨k, hk, h⟩ := jn_ex h
  try dsimp only at h
  have J : ∀ (I_1 : Nat → Int32) (A_1 : Nat → Nat → Int32), k (I_1, A_1) → ∀ (ls : Array Slot) (H : Heap) (locs : List Loc), lv_has ls 2 [(0, .ref (ad 0))] → va_P D vwCl (wM cy ad I_1 A_1) H → va_S Ad s.heap H locs → W p l e rmX10_keeps s m args below meth c H locs 0 0 Q (F0 m 53 ls []) := by
    intro I_1 A_1 h ls H locs hl hP hS
    replace h := hk _ h
    try dsimp only at h
    refine lv_aload_n hx hb dX10_keeps_53 rfl (lv_at hl 0 rfl) ?_
    refine lv_iconst (v := 0) hx hb dX10_keeps_54 (by decide) ?_
    refine lv_bipush (v := 80) hx hb dX10_keeps_55 (by decide) ?_
    refine lv_bipush (v := 80) hx hb dX10_keeps_57 (by decide) ?_
    refine lv_aload_n hx hb dX10_keeps_59 rfl (lv_at hl 0 rfl) ?_
    refine va_get (T := TX10) hx hb hT inlX10 hown hK.1 hP 0 he_X10 rfl 13 (by decide) (hT _ mw_4_150) (fun _ h9 => h9) rfl dX10_keeps_60 ?_
    refine lv_imul hx hb dX10_keeps_63 ?_
    refine lv_iadd hx hb dX10_keeps_64 ?_
    refine callMv (k := 0) (As := [.int 0, .int (80 + (80 * (I_1 4)))]) (rest := []) (n := 2) (c_X10_copies hAd I_1 A_1 0 (80 + (80 * (I_1 4))) _ h) hx hb hT hown hK hP hS mw_5_52 wd_X10_copies (by decide +kernel) ⟨rfl, rfl⟩ (by decide) rfl rfl he_X10 rfl hl.1 hml rfl (Nat.le_of_ble_eq_true rfl) dX10_keeps_65 ⟨Nat.zero_le _, Nat.zero_le _⟩ (fun u H locs h hP hS => ?_)
    obtain ⟨Iu, A_2⟩ := u
    dsimp only at h hP
    obtain ⟨h, rfl⟩ := h
    try dsimp only at h
    refine lv_aload_n hx hb dX10_keeps_68 rfl (lv_at hl 0 rfl) ?_
    refine lv_dup hx hb dX10_keeps_69 rfl ?_
    refine va_get (T := TX10) hx hb hT inlX10 hown hK.1 hP 0 he_X10 rfl 13 (by decide) (hT _ mw_4_150) (fun _ h9 => h9) rfl dX10_keeps_70 ?_
    refine lv_iconst (v := 1) hx hb dX10_keeps_73 (by decide) ?_
    refine lv_iadd hx hb dX10_keeps_74 ?_
    refine pM_X10_backs hAd hx hb hT hown hK.1 hP hS (hT _ mw_4_150) dX10_keeps_75 (fun H locs hP hS => ?_)
    obtain ⟨I_2, eI_2⟩ : ∃ z, z = va_up I_1 4 ((I_1 4) + 1) := ⟨_, rfl⟩
    rw [← eI_2] at hP
    replace h := h I_2 eI_2
    exact hret (I_2, A_2) dX10_keeps_78 h hP hS
  refine lv_icmp_ne (tgt := 53) hx hb dX10_keeps_6 (by decide) (fun hc => ?_) (fun hc => ?_)
  · rw [if_neg hc] at h
    exact J I A h _ _ _ (lv_sub hl [0] rfl) hP hS
  · rw [if_pos hc] at h
    refine lv_iconst (v := 1) hx hb dX10_keeps_9 (by decide) ?_
    refine lv_istore_n (lv' := [(1, .int 1), (0, .ref (ad 0))]) hx hb dX10_keeps_10 rfl hl (by decide) rfl (fun ls hl => ?_)
    obtain ⟨F, n, h, hF, hG⟩ := lfix_ex h
    have LP : ∀ (n : Nat) (v1 : Int32) (A_3 : Nat → Nat → Int32) (ls : Array Slot) (H : Heap) (locs : List Loc), F n (v1, A_3) → lv_has ls 2 [(1, .int v1), (0, .ref (ad 0))] → va_P D vwCl (wM cy ad I A_3) H → va_S Ad s.heap H locs → W p l e rmX10_keeps s m args below meth c H locs 0 0 Q (F0 m 11 ls []) := by
      intro n
      induction n with
      | zero => intro v1 A_3 ls H locs h _ _ _; exact absurd h (hF _)
      | succ n ih =>
        intro v1 A_3 ls H locs h hl hP hS
        replace h := hG _ _ h
        try dsimp only at h
        refine lv_iload_n hx hb dX10_keeps_11 rfl (lv_at hl 0 rfl) ?_
        refine lv_bipush (v := 16) hx hb dX10_keeps_12 (by decide) ?_
        refine lv_icmp_ge (tgt := 43) hx hb dX10_keeps_14 (by decide) (fun hc_1 => ?_) (fun hc_1 => ?_)
        · rw [if_pos hc_1] at h
          refine lv_aload_n hx hb dX10_keeps_43 rfl (lv_at hl 1 rfl) ?_
          refine lv_dup hx hb dX10_keeps_44 rfl ?_
          refine va_get (T := TX10) hx hb hT inlX10 hown hK.1 hP 0 he_X10 rfl 13 (by decide) (hT _ mw_4_150) (fun _ h9 => h9) rfl dX10_keeps_45 ?_
          refine lv_iconst (v := 1) hx hb dX10_keeps_48 (by decide) ?_
          refine lv_isub hx hb dX10_keeps_49 ?_
          refine pM_X10_backs hAd hx hb hT hown hK.1 hP hS (hT _ mw_4_150) dX10_keeps_50 (fun H locs hP hS => ?_)
          obtain ⟨I_3, eI_3⟩ : ∃ z, z = va_up I 4 ((I 4) - 1) := ⟨_, rfl⟩
          rw [← eI_3] at hP
          replace h := h I_3 eI_3
          exact J I_3 A_3 h _ _ _ (lv_sub hl [1] rfl) hP hS
        · rw [if_neg hc_1] at h
          refine lv_aload_n hx hb dX10_keeps_17 rfl (lv_at hl 1 rfl) ?_
          refine lv_bipush (v := 80) hx hb dX10_keeps_18 (by decide) ?_
          refine lv_bipush (v := 80) hx hb dX10_keeps_20 (by decide) ?_
          refine lv_iload_n hx hb dX10_keeps_22 rfl (lv_at hl 0 rfl) ?_
          refine lv_imul hx hb dX10_keeps_23 ?_
          refine lv_iadd hx hb dX10_keeps_24 ?_
          refine lv_bipush (v := 80) hx hb dX10_keeps_25 (by decide) ?_
          refine lv_bipush (v := 80) hx hb dX10_keeps_27 (by decide) ?_
          refine lv_iload_n hx hb dX10_keeps_29 rfl (lv_at hl 0 rfl) ?_
          refine lv_iconst (v := 1) hx hb dX10_keeps_30 (by decide) ?_
          refine lv_isub hx hb dX10_keeps_31 ?_
          refine lv_imul hx hb dX10_keeps_32 ?_
          refine lv_iadd hx hb dX10_keeps_33 ?_
          refine callMv (k := 0) (As := [.int (80 + (80 * v1)), .int (80 + (80 * (v1 - 1)))]) (rest := []) (n := 2) (c_X10_copies hAd I A_3 (80 + (80 * v1)) (80 + (80 * (v1 - 1))) _ h) hx hb hT hown hK hP hS mw_5_52 wd_X10_copies (by decide +kernel) ⟨rfl, rfl⟩ (by decide) rfl rfl he_X10 rfl hl.1 hml rfl (Nat.le_of_ble_eq_true rfl) dX10_keeps_34 ⟨Nat.zero_le _, Nat.zero_le _⟩ (fun u H locs h hP hS => ?_)
          obtain ⟨Iu_1, A_4⟩ := u
          dsimp only at h hP
          obtain ⟨h, rfl⟩ := h
          try dsimp only at h
          obtain ⟨v1_1, ev1_1⟩ : ∃ z : Int32, z = v1 + 1 := ⟨_, rfl⟩
          replace h := h v1_1 ev1_1
          refine lv_iinc (v := v1_1) (lv' := [(1, .int v1_1), (0, .ref (ad 0))]) hx hb dX10_keeps_37 hl (k := 0) rfl (by rw [ev1_1]; rfl) (by decide) rfl (fun ls hl => ?_)
          refine lv_goto (tgt := 11) hx hb dX10_keeps_40 (by decide) ?_
          exact ih v1_1 A_4 _ _ _ h (lv_sub hl [0, 1] rfl) hP hS
    exact LP _ 1 A _ _ _ h (lv_sub hl [0, 1] rfl) hP hS
theorem dX10_select_0 : decode cX10_select 0 = .ok (.aload_n 0, 1) := by decide +kernel
theorem dX10_select_1 : decode cX10_select 1 = .ok (.iconst 0, 1) := by decide +kernel
theorem dX10_select_2 : decode cX10_select 2 = .ok (.putfield 56, 3) := by decide +kernel
theorem dX10_select_5 : decode cX10_select 5 = .ok (.aload_n 0, 1) := by decide +kernel
theorem dX10_select_6 : decode cX10_select 6 = .ok (.iload_n 1, 1) := by decide +kernel
theorem dX10_select_7 : decode cX10_select 7 = .ok (.invokevirtual 77, 3) := by decide +kernel
theorem dX10_select_10 : decode cX10_select 10 = .ok (.ifCond .eq 22, 3) := by decide +kernel
theorem dX10_select_13 : decode cX10_select 13 = .ok (.aload_n 0, 1) := by decide +kernel
theorem dX10_select_14 : decode cX10_select 14 = .ok (.getfield 35, 3) := by decide +kernel
theorem dX10_select_17 : decode cX10_select 17 = .ok (.iload_n 1, 1) := by decide +kernel
theorem dX10_select_18 : decode cX10_select 18 = .ok (.iaload, 1) := by decide +kernel
theorem dX10_select_19 : decode cX10_select 19 = .ok (.iconst 1, 1) := by decide +kernel
theorem dX10_select_20 : decode cX10_select 20 = .ok (.if_icmp .ne 7, 3) := by decide +kernel
theorem dX10_select_23 : decode cX10_select 23 = .ok (.iconst 1, 1) := by decide +kernel
theorem dX10_select_24 : decode cX10_select 24 = .ok (.goto 4, 3) := by decide +kernel
theorem dX10_select_27 : decode cX10_select 27 = .ok (.iconst 0, 1) := by decide +kernel
theorem dX10_select_28 : decode cX10_select 28 = .ok (.iload_n 2, 1) := by decide +kernel
theorem dX10_select_29 : decode cX10_select 29 = .ok (.if_icmp .ne 5, 3) := by decide +kernel
theorem dX10_select_32 : decode cX10_select 32 = .ok (.iconst 0, 1) := by decide +kernel
theorem dX10_select_33 : decode cX10_select 33 = .ok (.ireturn, 1) := by decide +kernel
theorem dX10_select_34 : decode cX10_select 34 = .ok (.aload_n 0, 1) := by decide +kernel
theorem dX10_select_35 : decode cX10_select 35 = .ok (.invokevirtual 113, 3) := by decide +kernel
theorem dX10_select_38 : decode cX10_select 38 = .ok (.aload_n 0, 1) := by decide +kernel
theorem dX10_select_39 : decode cX10_select 39 = .ok (.getfield 35, 3) := by decide +kernel
theorem dX10_select_42 : decode cX10_select 42 = .ok (.iload_n 1, 1) := by decide +kernel
theorem dX10_select_43 : decode cX10_select 43 = .ok (.iload_n 2, 1) := by decide +kernel
theorem dX10_select_44 : decode cX10_select 44 = .ok (.ifCond .eq 7, 3) := by decide +kernel
theorem dX10_select_47 : decode cX10_select 47 = .ok (.iconst 1, 1) := by decide +kernel
theorem dX10_select_48 : decode cX10_select 48 = .ok (.goto 4, 3) := by decide +kernel
theorem dX10_select_51 : decode cX10_select 51 = .ok (.iconst 0, 1) := by decide +kernel
theorem dX10_select_52 : decode cX10_select 52 = .ok (.iastore, 1) := by decide +kernel
theorem dX10_select_53 : decode cX10_select 53 = .ok (.iconst 1, 1) := by decide +kernel
theorem dX10_select_54 : decode cX10_select 54 = .ok (.ireturn, 1) := by decide +kernel
def wX10_select (I : Nat → Int32) (A : Nat → Nat → Int32) (x1 : Int32) (x2 : Int32) (post : Int32 → (Nat → Int32) → (Nat → Nat → Int32) → Prop) : Prop := (∀ I_1, I_1 = va_up I 0 0 → wX10_isCategory I_1 A x1 (fun r7 => if r7 = 0 then (post 0 I_1 A) else (vp_in x1 1440 ∧ (jn (fun (t : Int32) => if t = x2 then (post 0 I_1 A) else (wX10_keeps I_1 A  (fun I_2 A_1 => jn (fun (t_1 : Int32) => vp_in x1 1440 ∧ (∀ A_2, A_2 = va_up A_1 9 (upd (A_1 9) x1.toNatClampNeg t_1) → post 1 I_2 A_2)) (fun k_1 => if x2 = 0 then (k_1 0) else (k_1 1))))) (fun k => if (A 9 x1.toNatClampNeg) = 1 then (k 1) else (k 0))))))
abbrev rmX10_select : Room := { frames := 2, cells := 0, slots := 0, locals := 44 }
theorem wd_X10_select : Cond.instanceMethod yX10_select ∈ BW ∧ Cond.selects yX10_select.cls yX10_select yX10_select ∈ BW ∧ Cond.initialized yX10_select.cls ∈ BW ∧ Cond.code yX10_select cX10_select 3 (some .boolean) ∈ BW := ⟨mw_5_45, mw_5_46, mw_1_11, mw_5_47⟩
set_option maxHeartbeats 4000000 in
set_option maxRecDepth 100000 in
theorem c_X10_select {l : Launch} {D : va_G} {cy : Nat → ClassId} {ad : Nat → Nat} {Ad : Nat → Prop} (hAd : adok 16 Ad ad) (I : Nat → Int32) (A : Nat → Nat → Int32) (x1 : Int32) (x2 : Int32)  (post : Int32 → (Nat → Int32) → (Nat → Nat → Int32) → Prop) (h : wX10_select I A x1 x2 post) : Met l yX10_select (.code yX10_select cX10_select 3 (some .boolean) :: BW) rmX10_select (va_Pc [.ref (ad 0), .int x1, .int x2] (fun U => kC D cy U ∧ va_P D vwCl (wM cy ad I A) U.heap)) (qMi D cy ad Ad (fun r u => post r u.1 u.2)) 0 0 Ad := by
  refine startMz (by decide) (Nat.le_of_ble_eq_true rfl) (lv := [(0, .ref (ad 0)), (1, .int x1), (2, .int x2)]) rfl (fun p e s m args below meth c Q ls hx hb hml hT hown hK hret hl hP hS => ?_)
  unfold wX10_select at h
  refine lv_aload_n hx hb dX10_select_0 rfl (lv_at hl 0 rfl) ?_
  refine lv_iconst (v := 0) hx hb dX10_select_1 (by decide) ?_
  refine pM_X10_thrown hAd hx hb hT hown hK.1 hP hS (hT _ mw_4_137) dX10_select_2 (fun H locs hP hS => ?_)
  obtain ⟨I_1, eI_1⟩ : ∃ z, z = va_up I 0 0 := ⟨_, rfl⟩
  rw [← eI_1] at hP
  replace h := h I_1 eI_1
  refine lv_aload_n hx hb dX10_select_5 rfl (lv_at hl 0 rfl) ?_
  refine lv_iload_n hx hb dX10_select_6 rfl (lv_at hl 1 rfl) ?_
  refine callMi (k := 0) (As := [.int x1]) (rest := []) (n := 1) (c_X10_isCategory hAd I_1 A x1 _ h) hx hb hT hown hK hP hS mw_4_232 wd_X10_isCategory (by decide +kernel) ⟨rfl, rfl⟩ (by decide) rfl rfl he_X10 rfl hl.1 hml rfl (Nat.le_of_ble_eq_true rfl) dX10_select_7 ⟨Nat.zero_le _, Nat.zero_le _⟩ (fun r7 u H locs h hP hS => ?_)
  obtain ⟨Iu, Au⟩ := u
  dsimp only at h hP
  obtain ⟨h, rfl, rfl⟩ := h
  try dsimp only at h
  refine lv_if_eq (tgt := 32) hx hb dX10_select_10 (by decide) (fun hc => ?_) (fun hc => ?_)
  · rw [if_pos hc] at h
    refine lv_iconst (v := 0) hx hb dX10_select_32 (by decide) ?_
    exact hret _ (I_1, A) zb_0 dX10_select_33 h hP hS
  · rw [if_neg hc] at h
    refine lv_aload_n hx hb dX10_select_13 rfl (lv_at hl 0 rfl) ?_
    refine va_get (T := TX10) hx hb hT inlX10 hown hK.1 hP 0 he_X10 rfl 12 (by decide) (hT _ mw_4_149) (fun _ h9 => h9) rfl dX10_select_14 ?_
    refine lv_iload_n hx hb dX10_select_17 rfl (lv_at hl 1 rfl) ?_
    obtain ⟨hi, h⟩ := h
    refine lM_I hx hb hK.1 hP (by decide) rfl hi dX10_select_18 ?_
    refine lv_iconst (v := 1) hx hb dX10_select_19 (by decide) ?_
    obtain ⟨k, hk, h⟩ := jn_ex h
    try dsimp only at h
    have J : ∀ (t : Int32), k t → ∀ (ls : Array Slot) (H : Heap) (locs : List Loc), lv_has ls 3 [(0, .ref (ad 0)), (1, .int x1), (2, .int x2)] → va_P D vwCl (wM cy ad I_1 A) H → va_S Ad s.heap H locs → W p l e rmX10_select s m args below meth c H locs 0 0 Q (F0 m 28 ls [.int t]) := by
      intro t h ls H locs hl hP hS
      replace h := hk _ h
      try dsimp only at h
      refine lv_iload_n hx hb dX10_select_28 rfl (lv_at hl 2 rfl) ?_
      refine lv_icmp_ne (tgt := 34) hx hb dX10_select_29 (by decide) (fun hc_1 => ?_) (fun hc_1 => ?_)
      · rw [if_neg hc_1] at h
        refine lv_aload_n hx hb dX10_select_34 rfl (lv_at hl 0 rfl) ?_
        refine callMv (k := 0) (As := []) (rest := []) (n := 0) (c_X10_keeps hAd I_1 A  _ h) hx hb hT hown hK hP hS mw_5_48 wd_X10_keeps (by decide +kernel) ⟨rfl, rfl⟩ (by decide) rfl rfl he_X10 rfl hl.1 hml rfl (Nat.le_of_ble_eq_true rfl) dX10_select_35 ⟨Nat.zero_le _, Nat.zero_le _⟩ (fun u H locs h hP hS => ?_)
        obtain ⟨I_2, A_1⟩ := u
        dsimp only at h hP
        refine lv_aload_n hx hb dX10_select_38 rfl (lv_at hl 0 rfl) ?_
        refine va_get (T := TX10) hx hb hT inlX10 hown hK.1 hP 0 he_X10 rfl 12 (by decide) (hT _ mw_4_149) (fun _ h9 => h9) rfl dX10_select_39 ?_
        refine lv_iload_n hx hb dX10_select_42 rfl (lv_at hl 1 rfl) ?_
        refine lv_iload_n hx hb dX10_select_43 rfl (lv_at hl 2 rfl) ?_
        obtain ⟨k_1, hk_1, h⟩ := jn_ex h
        try dsimp only at h
        have J_1 : ∀ (t_1 : Int32), k_1 t_1 → ∀ (ls : Array Slot) (H : Heap) (locs : List Loc), lv_has ls 3 [] → va_P D vwCl (wM cy ad I_2 A_1) H → va_S Ad s.heap H locs → W p l e rmX10_select s m args below meth c H locs 0 0 Q (F0 m 52 ls [.int t_1, .int x1, .ref (ad 9)]) := by
          intro t_1 h ls H locs hl hP hS
          replace h := hk_1 _ h
          try dsimp only at h
          obtain ⟨hi_1, h⟩ := h
          refine sM_I hAd hx hb hK.1 hP hS (by decide) (fun _ => rfl) hi_1 dX10_select_52 (fun H locs hP hS => ?_)
          obtain ⟨A_2, eA_2⟩ : ∃ z, z = va_up A_1 9 (upd (A_1 9) x1.toNatClampNeg t_1) := ⟨_, rfl⟩
          rw [← eA_2] at hP
          replace h := h A_2 eA_2
          refine lv_iconst (v := 1) hx hb dX10_select_53 (by decide) ?_
          exact hret _ (I_2, A_2) zb_1 dX10_select_54 h hP hS
        refine lv_if_eq (tgt := 51) hx hb dX10_select_44 (by decide) (fun hc_2 => ?_) (fun hc_2 => ?_)
        · rw [if_pos hc_2] at h
          refine lv_iconst (v := 0) hx hb dX10_select_51 (by decide) ?_
          exact J_1 0 h _ _ _ (lv_sub hl [] rfl) hP hS
        · rw [if_neg hc_2] at h
          refine lv_iconst (v := 1) hx hb dX10_select_47 (by decide) ?_
          refine lv_goto (tgt := 52) hx hb dX10_select_48 (by decide) ?_
          exact J_1 1 h _ _ _ (lv_sub hl [] rfl) hP hS
      · rw [if_pos hc_1] at h
        refine lv_iconst (v := 0) hx hb dX10_select_32 (by decide) ?_
        exact hret _ (I_1, A) zb_0 dX10_select_33 h hP hS
    refine lv_icmp_ne (tgt := 27) hx hb dX10_select_20 (by decide) (fun hc_3 => ?_) (fun hc_3 => ?_)
    · rw [if_neg hc_3] at h
      refine lv_iconst (v := 0) hx hb dX10_select_27 (by decide) ?_
      exact J 0 h _ _ _ (lv_sub hl [0, 1, 2] rfl) hP hS
    · rw [if_pos hc_3] at h
      refine lv_iconst (v := 1) hx hb dX10_select_23 (by decide) ?_
      refine lv_goto (tgt := 28) hx hb dX10_select_24 (by decide) ?_
      exact J 1 h _ _ _ (lv_sub hl [0, 1, 2] rfl) hP hS
theorem dX10_range_0 : decode cX10_range 0 = .ok (.aload_n 0, 1) := by decide +kernel
theorem dX10_range_1 : decode cX10_range 1 = .ok (.iconst 0, 1) := by decide +kernel
theorem dX10_range_2 : decode cX10_range 2 = .ok (.putfield 56, 3) := by decide +kernel
theorem dX10_range_5 : decode cX10_range 5 = .ok (.aload_n 0, 1) := by decide +kernel
theorem dX10_range_6 : decode cX10_range 6 = .ok (.iload_n 1, 1) := by decide +kernel
theorem dX10_range_7 : decode cX10_range 7 = .ok (.invokevirtual 100, 3) := by decide +kernel
theorem dX10_range_10 : decode cX10_range 10 = .ok (.ifCond .eq 21, 3) := by decide +kernel
theorem dX10_range_13 : decode cX10_range 13 = .ok (.iload_n 2, 1) := by decide +kernel
theorem dX10_range_14 : decode cX10_range 14 = .ok (.iload_n 3, 1) := by decide +kernel
theorem dX10_range_15 : decode cX10_range 15 = .ok (.if_icmp .gt 16, 3) := by decide +kernel
theorem dX10_range_18 : decode cX10_range 18 = .ok (.aload_n 0, 1) := by decide +kernel
theorem dX10_range_19 : decode cX10_range 19 = .ok (.getfield 35, 3) := by decide +kernel
theorem dX10_range_22 : decode cX10_range 22 = .ok (.bipush 45, 2) := by decide +kernel
theorem dX10_range_24 : decode cX10_range 24 = .ok (.iload_n 1, 1) := by decide +kernel
theorem dX10_range_25 : decode cX10_range 25 = .ok (.iadd, 1) := by decide +kernel
theorem dX10_range_26 : decode cX10_range 26 = .ok (.iaload, 1) := by decide +kernel
theorem dX10_range_27 : decode cX10_range 27 = .ok (.iconst 3, 1) := by decide +kernel
theorem dX10_range_28 : decode cX10_range 28 = .ok (.if_icmp .ne 5, 3) := by decide +kernel
theorem dX10_range_31 : decode cX10_range 31 = .ok (.iconst (-1), 1) := by decide +kernel
theorem dX10_range_32 : decode cX10_range 32 = .ok (.ireturn, 1) := by decide +kernel
theorem dX10_range_33 : decode cX10_range 33 = .ok (.aload_n 0, 1) := by decide +kernel
theorem dX10_range_34 : decode cX10_range 34 = .ok (.invokevirtual 113, 3) := by decide +kernel
theorem dX10_range_37 : decode cX10_range 37 = .ok (.aload_n 0, 1) := by decide +kernel
theorem dX10_range_38 : decode cX10_range 38 = .ok (.getfield 35, 3) := by decide +kernel
theorem dX10_range_41 : decode cX10_range 41 = .ok (.bipush 45, 2) := by decide +kernel
theorem dX10_range_43 : decode cX10_range 43 = .ok (.iload_n 1, 1) := by decide +kernel
theorem dX10_range_44 : decode cX10_range 44 = .ok (.iadd, 1) := by decide +kernel
theorem dX10_range_45 : decode cX10_range 45 = .ok (.iaload, 1) := by decide +kernel
theorem dX10_range_46 : decode cX10_range 46 = .ok (.istore 4, 2) := by decide +kernel
theorem dX10_range_48 : decode cX10_range 48 = .ok (.bipush 50, 2) := by decide +kernel
theorem dX10_range_50 : decode cX10_range 50 = .ok (.iconst 2, 1) := by decide +kernel
theorem dX10_range_51 : decode cX10_range 51 = .ok (.iconst 3, 1) := by decide +kernel
theorem dX10_range_52 : decode cX10_range 52 = .ok (.iload_n 1, 1) := by decide +kernel
theorem dX10_range_53 : decode cX10_range 53 = .ok (.imul, 1) := by decide +kernel
theorem dX10_range_54 : decode cX10_range 54 = .ok (.iload 4, 2) := by decide +kernel
theorem dX10_range_56 : decode cX10_range 56 = .ok (.iadd, 1) := by decide +kernel
theorem dX10_range_57 : decode cX10_range 57 = .ok (.imul, 1) := by decide +kernel
theorem dX10_range_58 : decode cX10_range 58 = .ok (.iadd, 1) := by decide +kernel
theorem dX10_range_59 : decode cX10_range 59 = .ok (.istore 5, 2) := by decide +kernel
theorem dX10_range_61 : decode cX10_range 61 = .ok (.aload_n 0, 1) := by decide +kernel
theorem dX10_range_62 : decode cX10_range 62 = .ok (.getfield 35, 3) := by decide +kernel
theorem dX10_range_65 : decode cX10_range 65 = .ok (.iload 5, 2) := by decide +kernel
theorem dX10_range_67 : decode cX10_range 67 = .ok (.iload_n 2, 1) := by decide +kernel
theorem dX10_range_68 : decode cX10_range 68 = .ok (.iastore, 1) := by decide +kernel
theorem dX10_range_69 : decode cX10_range 69 = .ok (.aload_n 0, 1) := by decide +kernel
theorem dX10_range_70 : decode cX10_range 70 = .ok (.getfield 35, 3) := by decide +kernel
theorem dX10_range_73 : decode cX10_range 73 = .ok (.iload 5, 2) := by decide +kernel
theorem dX10_range_75 : decode cX10_range 75 = .ok (.iconst 1, 1) := by decide +kernel
theorem dX10_range_76 : decode cX10_range 76 = .ok (.iadd, 1) := by decide +kernel
theorem dX10_range_77 : decode cX10_range 77 = .ok (.iload_n 3, 1) := by decide +kernel
theorem dX10_range_78 : decode cX10_range 78 = .ok (.iastore, 1) := by decide +kernel
theorem dX10_range_79 : decode cX10_range 79 = .ok (.aload_n 0, 1) := by decide +kernel
theorem dX10_range_80 : decode cX10_range 80 = .ok (.getfield 35, 3) := by decide +kernel
theorem dX10_range_83 : decode cX10_range 83 = .ok (.bipush 45, 2) := by decide +kernel
theorem dX10_range_85 : decode cX10_range 85 = .ok (.iload_n 1, 1) := by decide +kernel
theorem dX10_range_86 : decode cX10_range 86 = .ok (.iadd, 1) := by decide +kernel
theorem dX10_range_87 : decode cX10_range 87 = .ok (.dup2, 1) := by decide +kernel
theorem dX10_range_88 : decode cX10_range 88 = .ok (.iaload, 1) := by decide +kernel
theorem dX10_range_89 : decode cX10_range 89 = .ok (.iconst 1, 1) := by decide +kernel
theorem dX10_range_90 : decode cX10_range 90 = .ok (.iadd, 1) := by decide +kernel
theorem dX10_range_91 : decode cX10_range 91 = .ok (.iastore, 1) := by decide +kernel
theorem dX10_range_92 : decode cX10_range 92 = .ok (.iload 4, 2) := by decide +kernel
theorem dX10_range_94 : decode cX10_range 94 = .ok (.ireturn, 1) := by decide +kernel
def wX10_range (I : Nat → Int32) (A : Nat → Nat → Int32) (x1 : Int32) (x2 : Int32) (x3 : Int32) (post : Int32 → (Nat → Int32) → (Nat → Nat → Int32) → Prop) : Prop := (∀ I_1, I_1 = va_up I 0 0 → wX10_isNumber I_1 A x1 (fun r7 => if r7 = 0 then (post (-1) I_1 A) else (if x3 < x2 then (post (-1) I_1 A) else (vp_in (45 + x1) 1440 ∧ (if (A 9 (45 + x1).toNatClampNeg) = 3 then (post (-1) I_1 A) else (wX10_keeps I_1 A  (fun I_2 A_1 => vp_in (45 + x1) 1440 ∧ (∀ v4 : Int32, v4 = A_1 9 (45 + x1).toNatClampNeg → ∀ v5 : Int32, v5 = 50 + (2 * ((3 * x1) + v4)) → vp_in v5 1440 ∧ (∀ A_2, A_2 = va_up A_1 9 (upd (A_1 9) v5.toNatClampNeg x2) → vp_in (v5 + 1) 1440 ∧ (∀ A_3, A_3 = va_up A_2 9 (upd (A_2 9) (v5 + 1).toNatClampNeg x3) → vp_in (45 + x1) 1440 ∧ (vp_in (45 + x1) 1440 ∧ (∀ A_4, A_4 = va_up A_3 9 (upd (A_3 9) (45 + x1).toNatClampNeg ((A_3 9 (45 + x1).toNatClampNeg) + 1)) → post v4 I_2 A_4))))))))))))
abbrev rmX10_range : Room := { frames := 2, cells := 0, slots := 0, locals := 44 }
theorem wd_X10_range : Cond.instanceMethod yX10_range ∈ BW ∧ Cond.selects yX10_range.cls yX10_range yX10_range ∈ BW ∧ Cond.initialized yX10_range.cls ∈ BW ∧ Cond.code yX10_range cX10_range 6 (some .int) ∈ BW := ⟨mw_5_57, mw_5_58, mw_1_11, mw_5_59⟩
set_option maxHeartbeats 4000000 in
set_option maxRecDepth 100000 in
theorem c_X10_range {l : Launch} {D : va_G} {cy : Nat → ClassId} {ad : Nat → Nat} {Ad : Nat → Prop} (hAd : adok 16 Ad ad) (I : Nat → Int32) (A : Nat → Nat → Int32) (x1 : Int32) (x2 : Int32) (x3 : Int32)  (post : Int32 → (Nat → Int32) → (Nat → Nat → Int32) → Prop) (h : wX10_range I A x1 x2 x3 post) : Met l yX10_range (.code yX10_range cX10_range 6 (some .int) :: BW) rmX10_range (va_Pc [.ref (ad 0), .int x1, .int x2, .int x3] (fun U => kC D cy U ∧ va_P D vwCl (wM cy ad I A) U.heap)) (qMi D cy ad Ad (fun r u => post r u.1 u.2)) 0 0 Ad := by
  refine startMi (by decide) (Nat.le_of_ble_eq_true rfl) (lv := [(0, .ref (ad 0)), (1, .int x1), (2, .int x2), (3, .int x3)]) rfl (fun p e s m args below meth c Q ls hx hb hml hT hown hK hret hl hP hS => ?_)
  unfold wX10_range at h
  refine lv_aload_n hx hb dX10_range_0 rfl (lv_at hl 0 rfl) ?_
  refine lv_iconst (v := 0) hx hb dX10_range_1 (by decide) ?_
  refine pM_X10_thrown hAd hx hb hT hown hK.1 hP hS (hT _ mw_4_137) dX10_range_2 (fun H locs hP hS => ?_)
  obtain ⟨I_1, eI_1⟩ : ∃ z, z = va_up I 0 0 := ⟨_, rfl⟩
  rw [← eI_1] at hP
  replace h := h I_1 eI_1
  refine lv_aload_n hx hb dX10_range_5 rfl (lv_at hl 0 rfl) ?_
  refine lv_iload_n hx hb dX10_range_6 rfl (lv_at hl 1 rfl) ?_
  refine callMi (k := 0) (As := [.int x1]) (rest := []) (n := 1) (c_X10_isNumber hAd I_1 A x1 _ h) hx hb hT hown hK hP hS mw_5_28 wd_X10_isNumber (by decide +kernel) ⟨rfl, rfl⟩ (by decide) rfl rfl he_X10 rfl hl.1 hml rfl (Nat.le_of_ble_eq_true rfl) dX10_range_7 ⟨Nat.zero_le _, Nat.zero_le _⟩ (fun r7 u H locs h hP hS => ?_)
  obtain ⟨Iu, Au⟩ := u
  dsimp only at h hP
  obtain ⟨h, rfl, rfl⟩ := h
  try dsimp only at h
  refine lv_if_eq (tgt := 31) hx hb dX10_range_10 (by decide) (fun hc => ?_) (fun hc => ?_)
  · rw [if_pos hc] at h
    refine lv_iconst (v := (-1)) hx hb dX10_range_31 (by decide) ?_
    exact hret _ (I_1, A) dX10_range_32 h hP hS
  · rw [if_neg hc] at h
    refine lv_iload_n hx hb dX10_range_13 rfl (lv_at hl 2 rfl) ?_
    refine lv_iload_n hx hb dX10_range_14 rfl (lv_at hl 3 rfl) ?_
    refine lv_icmp_gt (tgt := 31) hx hb dX10_range_15 (by decide) (fun hc_1 => ?_) (fun hc_1 => ?_)
    · rw [if_pos hc_1] at h
      refine lv_iconst (v := (-1)) hx hb dX10_range_31 (by decide) ?_
      exact hret _ (I_1, A) dX10_range_32 h hP hS
    · rw [if_neg hc_1] at h
      refine lv_aload_n hx hb dX10_range_18 rfl (lv_at hl 0 rfl) ?_
      refine va_get (T := TX10) hx hb hT inlX10 hown hK.1 hP 0 he_X10 rfl 12 (by decide) (hT _ mw_4_149) (fun _ h9 => h9) rfl dX10_range_19 ?_
      refine lv_bipush (v := 45) hx hb dX10_range_22 (by decide) ?_
      refine lv_iload_n hx hb dX10_range_24 rfl (lv_at hl 1 rfl) ?_
      refine lv_iadd hx hb dX10_range_25 ?_
      obtain ⟨hi, h⟩ := h
      refine lM_I hx hb hK.1 hP (by decide) rfl hi dX10_range_26 ?_
      refine lv_iconst (v := 3) hx hb dX10_range_27 (by decide) ?_
      refine lv_icmp_ne (tgt := 33) hx hb dX10_range_28 (by decide) (fun hc_2 => ?_) (fun hc_2 => ?_)
      · rw [if_neg hc_2] at h
        refine lv_aload_n hx hb dX10_range_33 rfl (lv_at hl 0 rfl) ?_
        refine callMv (k := 0) (As := []) (rest := []) (n := 0) (c_X10_keeps hAd I_1 A  _ h) hx hb hT hown hK hP hS mw_5_48 wd_X10_keeps (by decide +kernel) ⟨rfl, rfl⟩ (by decide) rfl rfl he_X10 rfl hl.1 hml rfl (Nat.le_of_ble_eq_true rfl) dX10_range_34 ⟨Nat.zero_le _, Nat.zero_le _⟩ (fun u H locs h hP hS => ?_)
        obtain ⟨I_2, A_1⟩ := u
        dsimp only at h hP
        refine lv_aload_n hx hb dX10_range_37 rfl (lv_at hl 0 rfl) ?_
        refine va_get (T := TX10) hx hb hT inlX10 hown hK.1 hP 0 he_X10 rfl 12 (by decide) (hT _ mw_4_149) (fun _ h9 => h9) rfl dX10_range_38 ?_
        refine lv_bipush (v := 45) hx hb dX10_range_41 (by decide) ?_
        refine lv_iload_n hx hb dX10_range_43 rfl (lv_at hl 1 rfl) ?_
        refine lv_iadd hx hb dX10_range_44 ?_
        obtain ⟨hi_1, h⟩ := h
        refine lM_I hx hb hK.1 hP (by decide) rfl hi_1 dX10_range_45 ?_
        refine lv_topi (fun v4 ev4 => ?_)
        replace h := h v4 ev4
        refine lv_istore (lv' := [(4, .int v4), (0, .ref (ad 0)), (1, .int x1), (2, .int x2), (3, .int x3)]) hx hb dX10_range_46 hl (by decide) rfl (fun ls hl => ?_)
        refine lv_bipush (v := 50) hx hb dX10_range_48 (by decide) ?_
        refine lv_iconst (v := 2) hx hb dX10_range_50 (by decide) ?_
        refine lv_iconst (v := 3) hx hb dX10_range_51 (by decide) ?_
        refine lv_iload_n hx hb dX10_range_52 rfl (lv_at hl 2 rfl) ?_
        refine lv_imul hx hb dX10_range_53 ?_
        refine lv_iload hx hb dX10_range_54 (lv_at hl 0 rfl) ?_
        refine lv_iadd hx hb dX10_range_56 ?_
        refine lv_imul hx hb dX10_range_57 ?_
        refine lv_iadd hx hb dX10_range_58 ?_
        refine lv_topi (fun v5 ev5 => ?_)
        replace h := h v5 ev5
        refine lv_istore (lv' := [(5, .int v5), (4, .int v4), (0, .ref (ad 0)), (1, .int x1), (2, .int x2), (3, .int x3)]) hx hb dX10_range_59 hl (by decide) rfl (fun ls hl => ?_)
        refine lv_aload_n hx hb dX10_range_61 rfl (lv_at hl 2 rfl) ?_
        refine va_get (T := TX10) hx hb hT inlX10 hown hK.1 hP 0 he_X10 rfl 12 (by decide) (hT _ mw_4_149) (fun _ h9 => h9) rfl dX10_range_62 ?_
        refine lv_iload hx hb dX10_range_65 (lv_at hl 0 rfl) ?_
        refine lv_iload_n hx hb dX10_range_67 rfl (lv_at hl 4 rfl) ?_
        obtain ⟨hi_2, h⟩ := h
        refine sM_I hAd hx hb hK.1 hP hS (by decide) (fun _ => rfl) hi_2 dX10_range_68 (fun H locs hP hS => ?_)
        obtain ⟨A_2, eA_2⟩ : ∃ z, z = va_up A_1 9 (upd (A_1 9) v5.toNatClampNeg x2) := ⟨_, rfl⟩
        rw [← eA_2] at hP
        replace h := h A_2 eA_2
        refine lv_aload_n hx hb dX10_range_69 rfl (lv_at hl 2 rfl) ?_
        refine va_get (T := TX10) hx hb hT inlX10 hown hK.1 hP 0 he_X10 rfl 12 (by decide) (hT _ mw_4_149) (fun _ h9 => h9) rfl dX10_range_70 ?_
        refine lv_iload hx hb dX10_range_73 (lv_at hl 0 rfl) ?_
        refine lv_iconst (v := 1) hx hb dX10_range_75 (by decide) ?_
        refine lv_iadd hx hb dX10_range_76 ?_
        refine lv_iload_n hx hb dX10_range_77 rfl (lv_at hl 5 rfl) ?_
        obtain ⟨hi_3, h⟩ := h
        refine sM_I hAd hx hb hK.1 hP hS (by decide) (fun _ => rfl) hi_3 dX10_range_78 (fun H locs hP hS => ?_)
        obtain ⟨A_3, eA_3⟩ : ∃ z, z = va_up A_2 9 (upd (A_2 9) (v5 + 1).toNatClampNeg x3) := ⟨_, rfl⟩
        rw [← eA_3] at hP
        replace h := h A_3 eA_3
        refine lv_aload_n hx hb dX10_range_79 rfl (lv_at hl 2 rfl) ?_
        refine va_get (T := TX10) hx hb hT inlX10 hown hK.1 hP 0 he_X10 rfl 12 (by decide) (hT _ mw_4_149) (fun _ h9 => h9) rfl dX10_range_80 ?_
        refine lv_bipush (v := 45) hx hb dX10_range_83 (by decide) ?_
        refine lv_iload_n hx hb dX10_range_85 rfl (lv_at hl 3 rfl) ?_
        refine lv_iadd hx hb dX10_range_86 ?_
        refine lv_dup2_11 hx hb dX10_range_87 rfl rfl ?_
        obtain ⟨hi_4, h⟩ := h
        refine lM_I hx hb hK.1 hP (by decide) rfl hi_4 dX10_range_88 ?_
        refine lv_iconst (v := 1) hx hb dX10_range_89 (by decide) ?_
        refine lv_iadd hx hb dX10_range_90 ?_
        obtain ⟨hi_5, h⟩ := h
        refine sM_I hAd hx hb hK.1 hP hS (by decide) (fun _ => rfl) hi_5 dX10_range_91 (fun H locs hP hS => ?_)
        obtain ⟨A_4, eA_4⟩ : ∃ z, z = va_up A_3 9 (upd (A_3 9) (45 + x1).toNatClampNeg ((A_3 9 (45 + x1).toNatClampNeg) + 1)) := ⟨_, rfl⟩
        rw [← eA_4] at hP
        replace h := h A_4 eA_4
        refine lv_iload hx hb dX10_range_92 (lv_at hl 1 rfl) ?_
        exact hret _ (I_2, A_4) dX10_range_94 h hP hS
      · rw [if_pos hc_2] at h
        refine lv_iconst (v := (-1)) hx hb dX10_range_31 (by decide) ?_
        exact hret _ (I_1, A) dX10_range_32 h hP hS
theorem dX10_drop_0 : decode cX10_drop 0 = .ok (.aload_n 0, 1) := by decide +kernel
theorem dX10_drop_1 : decode cX10_drop 1 = .ok (.iconst 0, 1) := by decide +kernel
theorem dX10_drop_2 : decode cX10_drop 2 = .ok (.putfield 56, 3) := by decide +kernel
theorem dX10_drop_5 : decode cX10_drop 5 = .ok (.aload_n 0, 1) := by decide +kernel
theorem dX10_drop_6 : decode cX10_drop 6 = .ok (.iload_n 1, 1) := by decide +kernel
theorem dX10_drop_7 : decode cX10_drop 7 = .ok (.invokevirtual 100, 3) := by decide +kernel
theorem dX10_drop_10 : decode cX10_drop 10 = .ok (.ifCond .eq 20, 3) := by decide +kernel
theorem dX10_drop_13 : decode cX10_drop 13 = .ok (.iload_n 2, 1) := by decide +kernel
theorem dX10_drop_14 : decode cX10_drop 14 = .ok (.ifCond .lt 16, 3) := by decide +kernel
theorem dX10_drop_17 : decode cX10_drop 17 = .ok (.iload_n 2, 1) := by decide +kernel
theorem dX10_drop_18 : decode cX10_drop 18 = .ok (.aload_n 0, 1) := by decide +kernel
theorem dX10_drop_19 : decode cX10_drop 19 = .ok (.getfield 35, 3) := by decide +kernel
theorem dX10_drop_22 : decode cX10_drop 22 = .ok (.bipush 45, 2) := by decide +kernel
theorem dX10_drop_24 : decode cX10_drop 24 = .ok (.iload_n 1, 1) := by decide +kernel
theorem dX10_drop_25 : decode cX10_drop 25 = .ok (.iadd, 1) := by decide +kernel
theorem dX10_drop_26 : decode cX10_drop 26 = .ok (.iaload, 1) := by decide +kernel
theorem dX10_drop_27 : decode cX10_drop 27 = .ok (.if_icmp .lt 5, 3) := by decide +kernel
theorem dX10_drop_30 : decode cX10_drop 30 = .ok (.iconst 0, 1) := by decide +kernel
theorem dX10_drop_31 : decode cX10_drop 31 = .ok (.ireturn, 1) := by decide +kernel
theorem dX10_drop_32 : decode cX10_drop 32 = .ok (.aload_n 0, 1) := by decide +kernel
theorem dX10_drop_33 : decode cX10_drop 33 = .ok (.invokevirtual 113, 3) := by decide +kernel
theorem dX10_drop_36 : decode cX10_drop 36 = .ok (.aload_n 0, 1) := by decide +kernel
theorem dX10_drop_37 : decode cX10_drop 37 = .ok (.getfield 35, 3) := by decide +kernel
theorem dX10_drop_40 : decode cX10_drop 40 = .ok (.bipush 45, 2) := by decide +kernel
theorem dX10_drop_42 : decode cX10_drop 42 = .ok (.iload_n 1, 1) := by decide +kernel
theorem dX10_drop_43 : decode cX10_drop 43 = .ok (.iadd, 1) := by decide +kernel
theorem dX10_drop_44 : decode cX10_drop 44 = .ok (.dup2, 1) := by decide +kernel
theorem dX10_drop_45 : decode cX10_drop 45 = .ok (.iaload, 1) := by decide +kernel
theorem dX10_drop_46 : decode cX10_drop 46 = .ok (.iconst 1, 1) := by decide +kernel
theorem dX10_drop_47 : decode cX10_drop 47 = .ok (.isub, 1) := by decide +kernel
theorem dX10_drop_48 : decode cX10_drop 48 = .ok (.iastore, 1) := by decide +kernel
theorem dX10_drop_49 : decode cX10_drop 49 = .ok (.bipush 50, 2) := by decide +kernel
theorem dX10_drop_51 : decode cX10_drop 51 = .ok (.bipush 6, 2) := by decide +kernel
theorem dX10_drop_53 : decode cX10_drop 53 = .ok (.iload_n 1, 1) := by decide +kernel
theorem dX10_drop_54 : decode cX10_drop 54 = .ok (.imul, 1) := by decide +kernel
theorem dX10_drop_55 : decode cX10_drop 55 = .ok (.iadd, 1) := by decide +kernel
theorem dX10_drop_56 : decode cX10_drop 56 = .ok (.istore_n 3, 1) := by decide +kernel
theorem dX10_drop_57 : decode cX10_drop 57 = .ok (.iconst 2, 1) := by decide +kernel
theorem dX10_drop_58 : decode cX10_drop 58 = .ok (.iload_n 2, 1) := by decide +kernel
theorem dX10_drop_59 : decode cX10_drop 59 = .ok (.imul, 1) := by decide +kernel
theorem dX10_drop_60 : decode cX10_drop 60 = .ok (.istore 4, 2) := by decide +kernel
theorem dX10_drop_62 : decode cX10_drop 62 = .ok (.iload 4, 2) := by decide +kernel
theorem dX10_drop_64 : decode cX10_drop 64 = .ok (.iconst 2, 1) := by decide +kernel
theorem dX10_drop_65 : decode cX10_drop 65 = .ok (.aload_n 0, 1) := by decide +kernel
theorem dX10_drop_66 : decode cX10_drop 66 = .ok (.getfield 35, 3) := by decide +kernel
theorem dX10_drop_69 : decode cX10_drop 69 = .ok (.bipush 45, 2) := by decide +kernel
theorem dX10_drop_71 : decode cX10_drop 71 = .ok (.iload_n 1, 1) := by decide +kernel
theorem dX10_drop_72 : decode cX10_drop 72 = .ok (.iadd, 1) := by decide +kernel
theorem dX10_drop_73 : decode cX10_drop 73 = .ok (.iaload, 1) := by decide +kernel
theorem dX10_drop_74 : decode cX10_drop 74 = .ok (.imul, 1) := by decide +kernel
theorem dX10_drop_75 : decode cX10_drop 75 = .ok (.if_icmp .ge 29, 3) := by decide +kernel
theorem dX10_drop_78 : decode cX10_drop 78 = .ok (.aload_n 0, 1) := by decide +kernel
theorem dX10_drop_79 : decode cX10_drop 79 = .ok (.getfield 35, 3) := by decide +kernel
theorem dX10_drop_82 : decode cX10_drop 82 = .ok (.iload_n 3, 1) := by decide +kernel
theorem dX10_drop_83 : decode cX10_drop 83 = .ok (.iload 4, 2) := by decide +kernel
theorem dX10_drop_85 : decode cX10_drop 85 = .ok (.iadd, 1) := by decide +kernel
theorem dX10_drop_86 : decode cX10_drop 86 = .ok (.aload_n 0, 1) := by decide +kernel
theorem dX10_drop_87 : decode cX10_drop 87 = .ok (.getfield 35, 3) := by decide +kernel
theorem dX10_drop_90 : decode cX10_drop 90 = .ok (.iload_n 3, 1) := by decide +kernel
theorem dX10_drop_91 : decode cX10_drop 91 = .ok (.iload 4, 2) := by decide +kernel
theorem dX10_drop_93 : decode cX10_drop 93 = .ok (.iadd, 1) := by decide +kernel
theorem dX10_drop_94 : decode cX10_drop 94 = .ok (.iconst 2, 1) := by decide +kernel
theorem dX10_drop_95 : decode cX10_drop 95 = .ok (.iadd, 1) := by decide +kernel
theorem dX10_drop_96 : decode cX10_drop 96 = .ok (.iaload, 1) := by decide +kernel
theorem dX10_drop_97 : decode cX10_drop 97 = .ok (.iastore, 1) := by decide +kernel
theorem dX10_drop_98 : decode cX10_drop 98 = .ok (.iinc 4 1, 3) := by decide +kernel
theorem dX10_drop_101 : decode cX10_drop 101 = .ok (.goto (-39), 3) := by decide +kernel
theorem dX10_drop_104 : decode cX10_drop 104 = .ok (.iconst 1, 1) := by decide +kernel
theorem dX10_drop_105 : decode cX10_drop 105 = .ok (.ireturn, 1) := by decide +kernel
def wX10_drop (I : Nat → Int32) (A : Nat → Nat → Int32) (x1 : Int32) (x2 : Int32) (post : Int32 → (Nat → Int32) → (Nat → Nat → Int32) → Prop) : Prop := (∀ I_1, I_1 = va_up I 0 0 → wX10_isNumber I_1 A x1 (fun r7 => if r7 = 0 then (post 0 I_1 A) else (if x2 < 0 then (post 0 I_1 A) else (vp_in (45 + x1) 1440 ∧ (if x2 < (A 9 (45 + x1).toNatClampNeg) then (wX10_keeps I_1 A  (fun I_2 A_1 => vp_in (45 + x1) 1440 ∧ (vp_in (45 + x1) 1440 ∧ (∀ A_2, A_2 = va_up A_1 9 (upd (A_1 9) (45 + x1).toNatClampNeg ((A_1 9 (45 + x1).toNatClampNeg) - 1)) → ∀ v3 : Int32, v3 = 50 + (6 * x1) → ∀ v4 : Int32, v4 = 2 * x2 → ∃ n, lfix (fun (r : (Int32 × (Nat → Nat → Int32)) → Prop) (v4_1, A_3) => vp_in (45 + x1) 1440 ∧ (if (2 * (A_3 9 (45 + x1).toNatClampNeg)) ≤ v4_1 then (post 1 I_2 A_3) else (vp_in ((v3 + v4_1) + 2) 1440 ∧ (vp_in (v3 + v4_1) 1440 ∧ (∀ A_4, A_4 = va_up A_3 9 (upd (A_3 9) (v3 + v4_1).toNatClampNeg (A_3 9 ((v3 + v4_1) + 2).toNatClampNeg)) → ∀ v4_2 : Int32, v4_2 = v4_1 + 1 → r (v4_2, A_4)))))) n (v4, A_2))))) else (post 0 I_1 A))))))
abbrev rmX10_drop : Room := { frames := 2, cells := 0, slots := 0, locals := 44 }
theorem wd_X10_drop : Cond.instanceMethod yX10_drop ∈ BW ∧ Cond.selects yX10_drop.cls yX10_drop yX10_drop ∈ BW ∧ Cond.initialized yX10_drop.cls ∈ BW ∧ Cond.code yX10_drop cX10_drop 5 (some .boolean) ∈ BW := ⟨mw_5_61, mw_5_62, mw_1_11, mw_5_63⟩
set_option maxHeartbeats 4000000 in
set_option maxRecDepth 100000 in
theorem c_X10_drop {l : Launch} {D : va_G} {cy : Nat → ClassId} {ad : Nat → Nat} {Ad : Nat → Prop} (hAd : adok 16 Ad ad) (I : Nat → Int32) (A : Nat → Nat → Int32) (x1 : Int32) (x2 : Int32)  (post : Int32 → (Nat → Int32) → (Nat → Nat → Int32) → Prop) (h : wX10_drop I A x1 x2 post) : Met l yX10_drop (.code yX10_drop cX10_drop 5 (some .boolean) :: BW) rmX10_drop (va_Pc [.ref (ad 0), .int x1, .int x2] (fun U => kC D cy U ∧ va_P D vwCl (wM cy ad I A) U.heap)) (qMi D cy ad Ad (fun r u => post r u.1 u.2)) 0 0 Ad := by
  refine startMz (by decide) (Nat.le_of_ble_eq_true rfl) (lv := [(0, .ref (ad 0)), (1, .int x1), (2, .int x2)]) rfl (fun p e s m args below meth c Q ls hx hb hml hT hown hK hret hl hP hS => ?_)
  unfold wX10_drop at h
  refine lv_aload_n hx hb dX10_drop_0 rfl (lv_at hl 0 rfl) ?_
  refine lv_iconst (v := 0) hx hb dX10_drop_1 (by decide) ?_
  refine pM_X10_thrown hAd hx hb hT hown hK.1 hP hS (hT _ mw_4_137) dX10_drop_2 (fun H locs hP hS => ?_)
  obtain ⟨I_1, eI_1⟩ : ∃ z, z = va_up I 0 0 := ⟨_, rfl⟩
  rw [← eI_1] at hP
  replace h := h I_1 eI_1
  refine lv_aload_n hx hb dX10_drop_5 rfl (lv_at hl 0 rfl) ?_
  refine lv_iload_n hx hb dX10_drop_6 rfl (lv_at hl 1 rfl) ?_
  refine callMi (k := 0) (As := [.int x1]) (rest := []) (n := 1) (c_X10_isNumber hAd I_1 A x1 _ h) hx hb hT hown hK hP hS mw_5_28 wd_X10_isNumber (by decide +kernel) ⟨rfl, rfl⟩ (by decide) rfl rfl he_X10 rfl hl.1 hml rfl (Nat.le_of_ble_eq_true rfl) dX10_drop_7 ⟨Nat.zero_le _, Nat.zero_le _⟩ (fun r7 u H locs h hP hS => ?_)
  obtain ⟨Iu, Au⟩ := u
  dsimp only at h hP
  obtain ⟨h, rfl, rfl⟩ := h
  try dsimp only at h
  refine lv_if_eq (tgt := 30) hx hb dX10_drop_10 (by decide) (fun hc => ?_) (fun hc => ?_)
  · rw [if_pos hc] at h
    refine lv_iconst (v := 0) hx hb dX10_drop_30 (by decide) ?_
    exact hret _ (I_1, A) zb_0 dX10_drop_31 h hP hS
  · rw [if_neg hc] at h
    refine lv_iload_n hx hb dX10_drop_13 rfl (lv_at hl 2 rfl) ?_
    refine lv_if_lt (tgt := 30) hx hb dX10_drop_14 (by decide) (fun hc_1 => ?_) (fun hc_1 => ?_)
    · rw [if_pos hc_1] at h
      refine lv_iconst (v := 0) hx hb dX10_drop_30 (by decide) ?_
      exact hret _ (I_1, A) zb_0 dX10_drop_31 h hP hS
    · rw [if_neg hc_1] at h
      refine lv_iload_n hx hb dX10_drop_17 rfl (lv_at hl 2 rfl) ?_
      refine lv_aload_n hx hb dX10_drop_18 rfl (lv_at hl 0 rfl) ?_
      refine va_get (T := TX10) hx hb hT inlX10 hown hK.1 hP 0 he_X10 rfl 12 (by decide) (hT _ mw_4_149) (fun _ h9 => h9) rfl dX10_drop_19 ?_
      refine lv_bipush (v := 45) hx hb dX10_drop_22 (by decide) ?_
      refine lv_iload_n hx hb dX10_drop_24 rfl (lv_at hl 1 rfl) ?_
      refine lv_iadd hx hb dX10_drop_25 ?_
      obtain ⟨hi, h⟩ := h
      refine lM_I hx hb hK.1 hP (by decide) rfl hi dX10_drop_26 ?_
      refine lv_icmp_lt (tgt := 32) hx hb dX10_drop_27 (by decide) (fun hc_2 => ?_) (fun hc_2 => ?_)
      · rw [if_pos hc_2] at h
        refine lv_aload_n hx hb dX10_drop_32 rfl (lv_at hl 0 rfl) ?_
        refine callMv (k := 0) (As := []) (rest := []) (n := 0) (c_X10_keeps hAd I_1 A  _ h) hx hb hT hown hK hP hS mw_5_48 wd_X10_keeps (by decide +kernel) ⟨rfl, rfl⟩ (by decide) rfl rfl he_X10 rfl hl.1 hml rfl (Nat.le_of_ble_eq_true rfl) dX10_drop_33 ⟨Nat.zero_le _, Nat.zero_le _⟩ (fun u H locs h hP hS => ?_)
        obtain ⟨I_2, A_1⟩ := u
        dsimp only at h hP
        refine lv_aload_n hx hb dX10_drop_36 rfl (lv_at hl 0 rfl) ?_
        refine va_get (T := TX10) hx hb hT inlX10 hown hK.1 hP 0 he_X10 rfl 12 (by decide) (hT _ mw_4_149) (fun _ h9 => h9) rfl dX10_drop_37 ?_
        refine lv_bipush (v := 45) hx hb dX10_drop_40 (by decide) ?_
        refine lv_iload_n hx hb dX10_drop_42 rfl (lv_at hl 1 rfl) ?_
        refine lv_iadd hx hb dX10_drop_43 ?_
        refine lv_dup2_11 hx hb dX10_drop_44 rfl rfl ?_
        obtain ⟨hi_1, h⟩ := h
        refine lM_I hx hb hK.1 hP (by decide) rfl hi_1 dX10_drop_45 ?_
        refine lv_iconst (v := 1) hx hb dX10_drop_46 (by decide) ?_
        refine lv_isub hx hb dX10_drop_47 ?_
        obtain ⟨hi_2, h⟩ := h
        refine sM_I hAd hx hb hK.1 hP hS (by decide) (fun _ => rfl) hi_2 dX10_drop_48 (fun H locs hP hS => ?_)
        obtain ⟨A_2, eA_2⟩ : ∃ z, z = va_up A_1 9 (upd (A_1 9) (45 + x1).toNatClampNeg ((A_1 9 (45 + x1).toNatClampNeg) - 1)) := ⟨_, rfl⟩
        rw [← eA_2] at hP
        replace h := h A_2 eA_2
        refine lv_bipush (v := 50) hx hb dX10_drop_49 (by decide) ?_
        refine lv_bipush (v := 6) hx hb dX10_drop_51 (by decide) ?_
        refine lv_iload_n hx hb dX10_drop_53 rfl (lv_at hl 1 rfl) ?_
        refine lv_imul hx hb dX10_drop_54 ?_
        refine lv_iadd hx hb dX10_drop_55 ?_
        refine lv_topi (fun v3 ev3 => ?_)
        replace h := h v3 ev3
        refine lv_istore_n (lv' := [(3, .int v3), (0, .ref (ad 0)), (1, .int x1), (2, .int x2)]) hx hb dX10_drop_56 rfl hl (by decide) rfl (fun ls hl => ?_)
        refine lv_iconst (v := 2) hx hb dX10_drop_57 (by decide) ?_
        refine lv_iload_n hx hb dX10_drop_58 rfl (lv_at hl 3 rfl) ?_
        refine lv_imul hx hb dX10_drop_59 ?_
        refine lv_topi (fun v4 ev4 => ?_)
        replace h := h v4 ev4
        refine lv_istore (lv' := [(4, .int v4), (3, .int v3), (0, .ref (ad 0)), (1, .int x1), (2, .int x2)]) hx hb dX10_drop_60 hl (by decide) rfl (fun ls hl => ?_)
        obtain ⟨F, n, h, hF, hG⟩ := lfix_ex h
        have LP : ∀ (n : Nat) (v4_1 : Int32) (A_3 : Nat → Nat → Int32) (ls : Array Slot) (H : Heap) (locs : List Loc), F n (v4_1, A_3) → lv_has ls 5 [(4, .int v4_1), (3, .int v3), (0, .ref (ad 0)), (1, .int x1)] → va_P D vwCl (wM cy ad I_2 A_3) H → va_S Ad s.heap H locs → W p l e rmX10_drop s m args below meth c H locs 0 0 Q (F0 m 62 ls []) := by
          intro n
          induction n with
          | zero => intro v4_1 A_3 ls H locs h _ _ _; exact absurd h (hF _)
          | succ n ih =>
            intro v4_1 A_3 ls H locs h hl hP hS
            replace h := hG _ _ h
            try dsimp only at h
            refine lv_iload hx hb dX10_drop_62 (lv_at hl 0 rfl) ?_
            refine lv_iconst (v := 2) hx hb dX10_drop_64 (by decide) ?_
            refine lv_aload_n hx hb dX10_drop_65 rfl (lv_at hl 2 rfl) ?_
            refine va_get (T := TX10) hx hb hT inlX10 hown hK.1 hP 0 he_X10 rfl 12 (by decide) (hT _ mw_4_149) (fun _ h9 => h9) rfl dX10_drop_66 ?_
            refine lv_bipush (v := 45) hx hb dX10_drop_69 (by decide) ?_
            refine lv_iload_n hx hb dX10_drop_71 rfl (lv_at hl 3 rfl) ?_
            refine lv_iadd hx hb dX10_drop_72 ?_
            obtain ⟨hi_3, h⟩ := h
            refine lM_I hx hb hK.1 hP (by decide) rfl hi_3 dX10_drop_73 ?_
            refine lv_imul hx hb dX10_drop_74 ?_
            refine lv_icmp_ge (tgt := 104) hx hb dX10_drop_75 (by decide) (fun hc_3 => ?_) (fun hc_3 => ?_)
            · rw [if_pos hc_3] at h
              refine lv_iconst (v := 1) hx hb dX10_drop_104 (by decide) ?_
              exact hret _ (I_2, A_3) zb_1 dX10_drop_105 h hP hS
            · rw [if_neg hc_3] at h
              refine lv_aload_n hx hb dX10_drop_78 rfl (lv_at hl 2 rfl) ?_
              refine va_get (T := TX10) hx hb hT inlX10 hown hK.1 hP 0 he_X10 rfl 12 (by decide) (hT _ mw_4_149) (fun _ h9 => h9) rfl dX10_drop_79 ?_
              refine lv_iload_n hx hb dX10_drop_82 rfl (lv_at hl 1 rfl) ?_
              refine lv_iload hx hb dX10_drop_83 (lv_at hl 0 rfl) ?_
              refine lv_iadd hx hb dX10_drop_85 ?_
              refine lv_aload_n hx hb dX10_drop_86 rfl (lv_at hl 2 rfl) ?_
              refine va_get (T := TX10) hx hb hT inlX10 hown hK.1 hP 0 he_X10 rfl 12 (by decide) (hT _ mw_4_149) (fun _ h9 => h9) rfl dX10_drop_87 ?_
              refine lv_iload_n hx hb dX10_drop_90 rfl (lv_at hl 1 rfl) ?_
              refine lv_iload hx hb dX10_drop_91 (lv_at hl 0 rfl) ?_
              refine lv_iadd hx hb dX10_drop_93 ?_
              refine lv_iconst (v := 2) hx hb dX10_drop_94 (by decide) ?_
              refine lv_iadd hx hb dX10_drop_95 ?_
              obtain ⟨hi_4, h⟩ := h
              refine lM_I hx hb hK.1 hP (by decide) rfl hi_4 dX10_drop_96 ?_
              obtain ⟨hi_5, h⟩ := h
              refine sM_I hAd hx hb hK.1 hP hS (by decide) (fun _ => rfl) hi_5 dX10_drop_97 (fun H locs hP hS => ?_)
              obtain ⟨A_4, eA_4⟩ : ∃ z, z = va_up A_3 9 (upd (A_3 9) (v3 + v4_1).toNatClampNeg (A_3 9 ((v3 + v4_1) + 2).toNatClampNeg)) := ⟨_, rfl⟩
              rw [← eA_4] at hP
              replace h := h A_4 eA_4
              obtain ⟨v4_2, ev4_2⟩ : ∃ z : Int32, z = v4_1 + 1 := ⟨_, rfl⟩
              replace h := h v4_2 ev4_2
              refine lv_iinc (v := v4_2) (lv' := [(4, .int v4_2), (3, .int v3), (0, .ref (ad 0)), (1, .int x1)]) hx hb dX10_drop_98 hl (k := 0) rfl (by rw [ev4_2]; rfl) (by decide) rfl (fun ls hl => ?_)
              refine lv_goto (tgt := 62) hx hb dX10_drop_101 (by decide) ?_
              exact ih v4_2 A_4 _ _ _ h (lv_sub hl [0, 1, 2, 3] rfl) hP hS
        exact LP _ v4 A_2 _ _ _ h (lv_sub hl [0, 1, 2, 3] rfl) hP hS
      · rw [if_neg hc_2] at h
        refine lv_iconst (v := 0) hx hb dX10_drop_30 (by decide) ?_
        exact hret _ (I_1, A) zb_0 dX10_drop_31 h hP hS
theorem dX10_missing_0 : decode cX10_missing 0 = .ok (.aload_n 0, 1) := by decide +kernel
theorem dX10_missing_1 : decode cX10_missing 1 = .ok (.iconst 0, 1) := by decide +kernel
theorem dX10_missing_2 : decode cX10_missing 2 = .ok (.putfield 56, 3) := by decide +kernel
theorem dX10_missing_5 : decode cX10_missing 5 = .ok (.aload_n 0, 1) := by decide +kernel
theorem dX10_missing_6 : decode cX10_missing 6 = .ok (.iload_n 1, 1) := by decide +kernel
theorem dX10_missing_7 : decode cX10_missing 7 = .ok (.invokevirtual 63, 3) := by decide +kernel
theorem dX10_missing_10 : decode cX10_missing 10 = .ok (.ifCond .eq 25, 3) := by decide +kernel
theorem dX10_missing_13 : decode cX10_missing 13 = .ok (.aload_n 0, 1) := by decide +kernel
theorem dX10_missing_14 : decode cX10_missing 14 = .ok (.getfield 35, 3) := by decide +kernel
theorem dX10_missing_17 : decode cX10_missing 17 = .ok (.bipush 40, 2) := by decide +kernel
theorem dX10_missing_19 : decode cX10_missing 19 = .ok (.iload_n 1, 1) := by decide +kernel
theorem dX10_missing_20 : decode cX10_missing 20 = .ok (.iadd, 1) := by decide +kernel
theorem dX10_missing_21 : decode cX10_missing 21 = .ok (.iaload, 1) := by decide +kernel
theorem dX10_missing_22 : decode cX10_missing 22 = .ok (.iconst 1, 1) := by decide +kernel
theorem dX10_missing_23 : decode cX10_missing 23 = .ok (.if_icmp .ne 7, 3) := by decide +kernel
theorem dX10_missing_26 : decode cX10_missing 26 = .ok (.iconst 1, 1) := by decide +kernel
theorem dX10_missing_27 : decode cX10_missing 27 = .ok (.goto 4, 3) := by decide +kernel
theorem dX10_missing_30 : decode cX10_missing 30 = .ok (.iconst 0, 1) := by decide +kernel
theorem dX10_missing_31 : decode cX10_missing 31 = .ok (.iload_n 2, 1) := by decide +kernel
theorem dX10_missing_32 : decode cX10_missing 32 = .ok (.if_icmp .ne 5, 3) := by decide +kernel
theorem dX10_missing_35 : decode cX10_missing 35 = .ok (.iconst 0, 1) := by decide +kernel
theorem dX10_missing_36 : decode cX10_missing 36 = .ok (.ireturn, 1) := by decide +kernel
theorem dX10_missing_37 : decode cX10_missing 37 = .ok (.aload_n 0, 1) := by decide +kernel
theorem dX10_missing_38 : decode cX10_missing 38 = .ok (.invokevirtual 113, 3) := by decide +kernel
theorem dX10_missing_41 : decode cX10_missing 41 = .ok (.aload_n 0, 1) := by decide +kernel
theorem dX10_missing_42 : decode cX10_missing 42 = .ok (.getfield 35, 3) := by decide +kernel
theorem dX10_missing_45 : decode cX10_missing 45 = .ok (.bipush 40, 2) := by decide +kernel
theorem dX10_missing_47 : decode cX10_missing 47 = .ok (.iload_n 1, 1) := by decide +kernel
theorem dX10_missing_48 : decode cX10_missing 48 = .ok (.iadd, 1) := by decide +kernel
theorem dX10_missing_49 : decode cX10_missing 49 = .ok (.iload_n 2, 1) := by decide +kernel
theorem dX10_missing_50 : decode cX10_missing 50 = .ok (.ifCond .eq 7, 3) := by decide +kernel
theorem dX10_missing_53 : decode cX10_missing 53 = .ok (.iconst 1, 1) := by decide +kernel
theorem dX10_missing_54 : decode cX10_missing 54 = .ok (.goto 4, 3) := by decide +kernel
theorem dX10_missing_57 : decode cX10_missing 57 = .ok (.iconst 0, 1) := by decide +kernel
theorem dX10_missing_58 : decode cX10_missing 58 = .ok (.iastore, 1) := by decide +kernel
theorem dX10_missing_59 : decode cX10_missing 59 = .ok (.iconst 1, 1) := by decide +kernel
theorem dX10_missing_60 : decode cX10_missing 60 = .ok (.ireturn, 1) := by decide +kernel
def wX10_missing (I : Nat → Int32) (A : Nat → Nat → Int32) (x1 : Int32) (x2 : Int32) (post : Int32 → (Nat → Int32) → (Nat → Nat → Int32) → Prop) : Prop := (∀ I_1, I_1 = va_up I 0 0 → wX10_isAxis I_1 A x1 (fun r7 => if r7 = 0 then (post 0 I_1 A) else (vp_in (40 + x1) 1440 ∧ (jn (fun (t : Int32) => if t = x2 then (post 0 I_1 A) else (wX10_keeps I_1 A  (fun I_2 A_1 => jn (fun (t_1 : Int32) => vp_in (40 + x1) 1440 ∧ (∀ A_2, A_2 = va_up A_1 9 (upd (A_1 9) (40 + x1).toNatClampNeg t_1) → post 1 I_2 A_2)) (fun k_1 => if x2 = 0 then (k_1 0) else (k_1 1))))) (fun k => if (A 9 (40 + x1).toNatClampNeg) = 1 then (k 1) else (k 0))))))
abbrev rmX10_missing : Room := { frames := 2, cells := 0, slots := 0, locals := 44 }
theorem wd_X10_missing : Cond.instanceMethod yX10_missing ∈ BW ∧ Cond.selects yX10_missing.cls yX10_missing yX10_missing ∈ BW ∧ Cond.initialized yX10_missing.cls ∈ BW ∧ Cond.code yX10_missing cX10_missing 3 (some .boolean) ∈ BW := ⟨mw_5_65, mw_5_66, mw_1_11, mw_5_67⟩
set_option maxHeartbeats 4000000 in
set_option maxRecDepth 100000 in
theorem c_X10_missing {l : Launch} {D : va_G} {cy : Nat → ClassId} {ad : Nat → Nat} {Ad : Nat → Prop} (hAd : adok 16 Ad ad) (I : Nat → Int32) (A : Nat → Nat → Int32) (x1 : Int32) (x2 : Int32)  (post : Int32 → (Nat → Int32) → (Nat → Nat → Int32) → Prop) (h : wX10_missing I A x1 x2 post) : Met l yX10_missing (.code yX10_missing cX10_missing 3 (some .boolean) :: BW) rmX10_missing (va_Pc [.ref (ad 0), .int x1, .int x2] (fun U => kC D cy U ∧ va_P D vwCl (wM cy ad I A) U.heap)) (qMi D cy ad Ad (fun r u => post r u.1 u.2)) 0 0 Ad := by
  refine startMz (by decide) (Nat.le_of_ble_eq_true rfl) (lv := [(0, .ref (ad 0)), (1, .int x1), (2, .int x2)]) rfl (fun p e s m args below meth c Q ls hx hb hml hT hown hK hret hl hP hS => ?_)
  unfold wX10_missing at h
  refine lv_aload_n hx hb dX10_missing_0 rfl (lv_at hl 0 rfl) ?_
  refine lv_iconst (v := 0) hx hb dX10_missing_1 (by decide) ?_
  refine pM_X10_thrown hAd hx hb hT hown hK.1 hP hS (hT _ mw_4_137) dX10_missing_2 (fun H locs hP hS => ?_)
  obtain ⟨I_1, eI_1⟩ : ∃ z, z = va_up I 0 0 := ⟨_, rfl⟩
  rw [← eI_1] at hP
  replace h := h I_1 eI_1
  refine lv_aload_n hx hb dX10_missing_5 rfl (lv_at hl 0 rfl) ?_
  refine lv_iload_n hx hb dX10_missing_6 rfl (lv_at hl 1 rfl) ?_
  refine callMi (k := 0) (As := [.int x1]) (rest := []) (n := 1) (c_X10_isAxis hAd I_1 A x1 _ h) hx hb hT hown hK hP hS mw_4_224 wd_X10_isAxis (by decide +kernel) ⟨rfl, rfl⟩ (by decide) rfl rfl he_X10 rfl hl.1 hml rfl (Nat.le_of_ble_eq_true rfl) dX10_missing_7 ⟨Nat.zero_le _, Nat.zero_le _⟩ (fun r7 u H locs h hP hS => ?_)
  obtain ⟨Iu, Au⟩ := u
  dsimp only at h hP
  obtain ⟨h, rfl, rfl⟩ := h
  try dsimp only at h
  refine lv_if_eq (tgt := 35) hx hb dX10_missing_10 (by decide) (fun hc => ?_) (fun hc => ?_)
  · rw [if_pos hc] at h
    refine lv_iconst (v := 0) hx hb dX10_missing_35 (by decide) ?_
    exact hret _ (I_1, A) zb_0 dX10_missing_36 h hP hS
  · rw [if_neg hc] at h
    refine lv_aload_n hx hb dX10_missing_13 rfl (lv_at hl 0 rfl) ?_
    refine va_get (T := TX10) hx hb hT inlX10 hown hK.1 hP 0 he_X10 rfl 12 (by decide) (hT _ mw_4_149) (fun _ h9 => h9) rfl dX10_missing_14 ?_
    refine lv_bipush (v := 40) hx hb dX10_missing_17 (by decide) ?_
    refine lv_iload_n hx hb dX10_missing_19 rfl (lv_at hl 1 rfl) ?_
    refine lv_iadd hx hb dX10_missing_20 ?_
    obtain ⟨hi, h⟩ := h
    refine lM_I hx hb hK.1 hP (by decide) rfl hi dX10_missing_21 ?_
    refine lv_iconst (v := 1) hx hb dX10_missing_22 (by decide) ?_
    obtain ⟨k, hk, h⟩ := jn_ex h
    try dsimp only at h
    have J : ∀ (t : Int32), k t → ∀ (ls : Array Slot) (H : Heap) (locs : List Loc), lv_has ls 3 [(0, .ref (ad 0)), (1, .int x1), (2, .int x2)] → va_P D vwCl (wM cy ad I_1 A) H → va_S Ad s.heap H locs → W p l e rmX10_missing s m args below meth c H locs 0 0 Q (F0 m 31 ls [.int t]) := by
      intro t h ls H locs hl hP hS
      replace h := hk _ h
      try dsimp only at h
      refine lv_iload_n hx hb dX10_missing_31 rfl (lv_at hl 2 rfl) ?_
      refine lv_icmp_ne (tgt := 37) hx hb dX10_missing_32 (by decide) (fun hc_1 => ?_) (fun hc_1 => ?_)
      · rw [if_neg hc_1] at h
        refine lv_aload_n hx hb dX10_missing_37 rfl (lv_at hl 0 rfl) ?_
        refine callMv (k := 0) (As := []) (rest := []) (n := 0) (c_X10_keeps hAd I_1 A  _ h) hx hb hT hown hK hP hS mw_5_48 wd_X10_keeps (by decide +kernel) ⟨rfl, rfl⟩ (by decide) rfl rfl he_X10 rfl hl.1 hml rfl (Nat.le_of_ble_eq_true rfl) dX10_missing_38 ⟨Nat.zero_le _, Nat.zero_le _⟩ (fun u H locs h hP hS => ?_)
        obtain ⟨I_2, A_1⟩ := u
        dsimp only at h hP
        refine lv_aload_n hx hb dX10_missing_41 rfl (lv_at hl 0 rfl) ?_
        refine va_get (T := TX10) hx hb hT inlX10 hown hK.1 hP 0 he_X10 rfl 12 (by decide) (hT _ mw_4_149) (fun _ h9 => h9) rfl dX10_missing_42 ?_
        refine lv_bipush (v := 40) hx hb dX10_missing_45 (by decide) ?_
        refine lv_iload_n hx hb dX10_missing_47 rfl (lv_at hl 1 rfl) ?_
        refine lv_iadd hx hb dX10_missing_48 ?_
        refine lv_iload_n hx hb dX10_missing_49 rfl (lv_at hl 2 rfl) ?_
        obtain ⟨k_1, hk_1, h⟩ := jn_ex h
        try dsimp only at h
        have J_1 : ∀ (t_1 : Int32), k_1 t_1 → ∀ (ls : Array Slot) (H : Heap) (locs : List Loc), lv_has ls 3 [] → va_P D vwCl (wM cy ad I_2 A_1) H → va_S Ad s.heap H locs → W p l e rmX10_missing s m args below meth c H locs 0 0 Q (F0 m 58 ls [.int t_1, .int (40 + x1), .ref (ad 9)]) := by
          intro t_1 h ls H locs hl hP hS
          replace h := hk_1 _ h
          try dsimp only at h
          obtain ⟨hi_1, h⟩ := h
          refine sM_I hAd hx hb hK.1 hP hS (by decide) (fun _ => rfl) hi_1 dX10_missing_58 (fun H locs hP hS => ?_)
          obtain ⟨A_2, eA_2⟩ : ∃ z, z = va_up A_1 9 (upd (A_1 9) (40 + x1).toNatClampNeg t_1) := ⟨_, rfl⟩
          rw [← eA_2] at hP
          replace h := h A_2 eA_2
          refine lv_iconst (v := 1) hx hb dX10_missing_59 (by decide) ?_
          exact hret _ (I_2, A_2) zb_1 dX10_missing_60 h hP hS
        refine lv_if_eq (tgt := 57) hx hb dX10_missing_50 (by decide) (fun hc_2 => ?_) (fun hc_2 => ?_)
        · rw [if_pos hc_2] at h
          refine lv_iconst (v := 0) hx hb dX10_missing_57 (by decide) ?_
          exact J_1 0 h _ _ _ (lv_sub hl [] rfl) hP hS
        · rw [if_neg hc_2] at h
          refine lv_iconst (v := 1) hx hb dX10_missing_53 (by decide) ?_
          refine lv_goto (tgt := 58) hx hb dX10_missing_54 (by decide) ?_
          exact J_1 1 h _ _ _ (lv_sub hl [] rfl) hP hS
      · rw [if_pos hc_1] at h
        refine lv_iconst (v := 0) hx hb dX10_missing_35 (by decide) ?_
        exact hret _ (I_1, A) zb_0 dX10_missing_36 h hP hS
    refine lv_icmp_ne (tgt := 30) hx hb dX10_missing_23 (by decide) (fun hc_3 => ?_) (fun hc_3 => ?_)
    · rw [if_neg hc_3] at h
      refine lv_iconst (v := 0) hx hb dX10_missing_30 (by decide) ?_
      exact J 0 h _ _ _ (lv_sub hl [0, 1, 2] rfl) hP hS
    · rw [if_pos hc_3] at h
      refine lv_iconst (v := 1) hx hb dX10_missing_26 (by decide) ?_
      refine lv_goto (tgt := 31) hx hb dX10_missing_27 (by decide) ?_
      exact J 1 h _ _ _ (lv_sub hl [0, 1, 2] rfl) hP hS
theorem dX10_isOpen_0 : decode cX10_isOpen 0 = .ok (.aload_n 0, 1) := by decide +kernel
theorem dX10_isOpen_1 : decode cX10_isOpen 1 = .ok (.getfield 35, 3) := by decide +kernel
theorem dX10_isOpen_4 : decode cX10_isOpen 4 = .ok (.iload_n 1, 1) := by decide +kernel
theorem dX10_isOpen_5 : decode cX10_isOpen 5 = .ok (.bipush 40, 2) := by decide +kernel
theorem dX10_isOpen_7 : decode cX10_isOpen 7 = .ok (.iadd, 1) := by decide +kernel
theorem dX10_isOpen_8 : decode cX10_isOpen 8 = .ok (.iload_n 2, 1) := by decide +kernel
theorem dX10_isOpen_9 : decode cX10_isOpen 9 = .ok (.iadd, 1) := by decide +kernel
theorem dX10_isOpen_10 : decode cX10_isOpen 10 = .ok (.iaload, 1) := by decide +kernel
theorem dX10_isOpen_11 : decode cX10_isOpen 11 = .ok (.ifCond .ne 21, 3) := by decide +kernel
theorem dX10_isOpen_14 : decode cX10_isOpen 14 = .ok (.aload_n 0, 1) := by decide +kernel
theorem dX10_isOpen_15 : decode cX10_isOpen 15 = .ok (.getfield 35, 3) := by decide +kernel
theorem dX10_isOpen_18 : decode cX10_isOpen 18 = .ok (.iload_n 1, 1) := by decide +kernel
theorem dX10_isOpen_19 : decode cX10_isOpen 19 = .ok (.bipush 45, 2) := by decide +kernel
theorem dX10_isOpen_21 : decode cX10_isOpen 21 = .ok (.iadd, 1) := by decide +kernel
theorem dX10_isOpen_22 : decode cX10_isOpen 22 = .ok (.iload_n 2, 1) := by decide +kernel
theorem dX10_isOpen_23 : decode cX10_isOpen 23 = .ok (.iadd, 1) := by decide +kernel
theorem dX10_isOpen_24 : decode cX10_isOpen 24 = .ok (.iaload, 1) := by decide +kernel
theorem dX10_isOpen_25 : decode cX10_isOpen 25 = .ok (.ifCond .ne 7, 3) := by decide +kernel
theorem dX10_isOpen_28 : decode cX10_isOpen 28 = .ok (.iconst 1, 1) := by decide +kernel
theorem dX10_isOpen_29 : decode cX10_isOpen 29 = .ok (.goto 4, 3) := by decide +kernel
theorem dX10_isOpen_32 : decode cX10_isOpen 32 = .ok (.iconst 0, 1) := by decide +kernel
theorem dX10_isOpen_33 : decode cX10_isOpen 33 = .ok (.istore_n 3, 1) := by decide +kernel
theorem dX10_isOpen_34 : decode cX10_isOpen 34 = .ok (.iconst 0, 1) := by decide +kernel
theorem dX10_isOpen_35 : decode cX10_isOpen 35 = .ok (.istore 4, 2) := by decide +kernel
theorem dX10_isOpen_37 : decode cX10_isOpen 37 = .ok (.iload 4, 2) := by decide +kernel
theorem dX10_isOpen_39 : decode cX10_isOpen 39 = .ok (.aload_n 0, 1) := by decide +kernel
theorem dX10_isOpen_40 : decode cX10_isOpen 40 = .ok (.getfield 67, 3) := by decide +kernel
theorem dX10_isOpen_43 : decode cX10_isOpen 43 = .ok (.if_icmp .ge 42, 3) := by decide +kernel
theorem dX10_isOpen_46 : decode cX10_isOpen 46 = .ok (.iload_n 3, 1) := by decide +kernel
theorem dX10_isOpen_47 : decode cX10_isOpen 47 = .ok (.ifCond .eq 30, 3) := by decide +kernel
theorem dX10_isOpen_50 : decode cX10_isOpen 50 = .ok (.aload_n 0, 1) := by decide +kernel
theorem dX10_isOpen_51 : decode cX10_isOpen 51 = .ok (.getfield 13, 3) := by decide +kernel
theorem dX10_isOpen_54 : decode cX10_isOpen 54 = .ok (.iload 4, 2) := by decide +kernel
theorem dX10_isOpen_56 : decode cX10_isOpen 56 = .ok (.iaload, 1) := by decide +kernel
theorem dX10_isOpen_57 : decode cX10_isOpen 57 = .ok (.iload_n 2, 1) := by decide +kernel
theorem dX10_isOpen_58 : decode cX10_isOpen 58 = .ok (.if_icmp .ne 15, 3) := by decide +kernel
theorem dX10_isOpen_61 : decode cX10_isOpen 61 = .ok (.aload_n 0, 1) := by decide +kernel
theorem dX10_isOpen_62 : decode cX10_isOpen 62 = .ok (.getfield 35, 3) := by decide +kernel
theorem dX10_isOpen_65 : decode cX10_isOpen 65 = .ok (.iload_n 1, 1) := by decide +kernel
theorem dX10_isOpen_66 : decode cX10_isOpen 66 = .ok (.iload 4, 2) := by decide +kernel
theorem dX10_isOpen_68 : decode cX10_isOpen 68 = .ok (.iadd, 1) := by decide +kernel
theorem dX10_isOpen_69 : decode cX10_isOpen 69 = .ok (.iaload, 1) := by decide +kernel
theorem dX10_isOpen_70 : decode cX10_isOpen 70 = .ok (.ifCond .ne 7, 3) := by decide +kernel
theorem dX10_isOpen_73 : decode cX10_isOpen 73 = .ok (.iconst 1, 1) := by decide +kernel
theorem dX10_isOpen_74 : decode cX10_isOpen 74 = .ok (.goto 4, 3) := by decide +kernel
theorem dX10_isOpen_77 : decode cX10_isOpen 77 = .ok (.iconst 0, 1) := by decide +kernel
theorem dX10_isOpen_78 : decode cX10_isOpen 78 = .ok (.istore_n 3, 1) := by decide +kernel
theorem dX10_isOpen_79 : decode cX10_isOpen 79 = .ok (.iinc 4 1, 3) := by decide +kernel
theorem dX10_isOpen_82 : decode cX10_isOpen 82 = .ok (.goto (-45), 3) := by decide +kernel
theorem dX10_isOpen_85 : decode cX10_isOpen 85 = .ok (.iload_n 3, 1) := by decide +kernel
theorem dX10_isOpen_86 : decode cX10_isOpen 86 = .ok (.ireturn, 1) := by decide +kernel
def wX10_isOpen (I : Nat → Int32) (A : Nat → Nat → Int32) (x1 : Int32) (x2 : Int32) (post : Int32 → Prop) : Prop := vp_in ((x1 + 40) + x2) 1440 ∧ (jn (fun (t : Int32) => ∃ n, lfix (fun (r : (Int32 × Int32) → Prop) (v4, v3) => if (I 2) ≤ v4 then (zb v3 ∧ post v3) else (jn (fun (t_1 : Int32) => ∀ v4_1 : Int32, v4_1 = v4 + 1 → r (v4_1, t_1)) (fun k_1 => jn (fun (_ : Unit) => k_1 0) (fun k_2 => if v3 = 0 then (k_2 ()) else (vp_in v4 40 ∧ (jn (fun (_ : Unit) => k_1 1) (fun k_3 => if (A 2 v4.toNatClampNeg) = x2 then (vp_in (x1 + v4) 1440 ∧ (if (A 9 (x1 + v4).toNatClampNeg) = 0 then (k_3 ()) else (k_2 ()))) else (k_3 ())))))))) n (0, t)) (fun k => jn (fun (_ : Unit) => k 0) (fun k_4 => if (A 9 ((x1 + 40) + x2).toNatClampNeg) = 0 then (vp_in ((x1 + 45) + x2) 1440 ∧ (if (A 9 ((x1 + 45) + x2).toNatClampNeg) = 0 then (k 1) else (k_4 ()))) else (k_4 ()))))
abbrev rmX10_isOpen : Room := { frames := 0, cells := 0, slots := 0, locals := 0 }
theorem wd_X10_isOpen : Cond.instanceMethod yX10_isOpen ∈ BW ∧ Cond.selects yX10_isOpen.cls yX10_isOpen yX10_isOpen ∈ BW ∧ Cond.initialized yX10_isOpen.cls ∈ BW ∧ Cond.code yX10_isOpen cX10_isOpen 5 (some .boolean) ∈ BW := ⟨mw_5_74, mp_30, mw_1_11, mw_5_75⟩
set_option maxHeartbeats 4000000 in
set_option maxRecDepth 100000 in
theorem c_X10_isOpen {l : Launch} {D : va_G} {cy : Nat → ClassId} {ad : Nat → Nat} {Ad : Nat → Prop} (hAd : adok 16 Ad ad) (I : Nat → Int32) (A : Nat → Nat → Int32) (x1 : Int32) (x2 : Int32)  (post : Int32 → Prop) (h : wX10_isOpen I A x1 x2 post) : Met l yX10_isOpen (.code yX10_isOpen cX10_isOpen 5 (some .boolean) :: BW) rmX10_isOpen (va_Pc [.ref (ad 0), .int x1, .int x2] (fun U => kC D cy U ∧ va_P D vwCl (wM cy ad I A) U.heap)) (qMi D cy ad Ad (fun r u => post r  ∧ I = u.1 ∧ A = u.2)) 0 0 Ad := by
  refine startMz (by decide) (Nat.le_of_ble_eq_true rfl) (lv := [(0, .ref (ad 0)), (1, .int x1), (2, .int x2)]) rfl (fun p e s m args below meth c Q ls hx hb hml hT hown hK hret hl hP hS => ?_)
  unfold wX10_isOpen at h
  refine lv_aload_n hx hb dX10_isOpen_0 rfl (lv_at hl 0 rfl) ?_
  refine va_get (T := TX10) hx hb hT inlX10 hown hK.1 hP 0 he_X10 rfl 12 (by decide) (hT _ mw_4_149) (fun _ h9 => h9) rfl dX10_isOpen_1 ?_
  refine lv_iload_n hx hb dX10_isOpen_4 rfl (lv_at hl 1 rfl) ?_
  refine lv_bipush (v := 40) hx hb dX10_isOpen_5 (by decide) ?_
  refine lv_iadd hx hb dX10_isOpen_7 ?_
  refine lv_iload_n hx hb dX10_isOpen_8 rfl (lv_at hl 2 rfl) ?_
  refine lv_iadd hx hb dX10_isOpen_9 ?_
  obtain ⟨hi, h⟩ := h
  refine lM_I hx hb hK.1 hP (by decide) rfl hi dX10_isOpen_10 ?_
  obtain ⟨k, hk, h⟩ := jn_ex h
  try dsimp only at h
  have J : ∀ (t : Int32), k t → ∀ (ls : Array Slot) (H : Heap) (locs : List Loc), lv_has ls 5 [(0, .ref (ad 0)), (1, .int x1), (2, .int x2)] → va_P D vwCl (wM cy ad I A) H → va_S Ad s.heap H locs → W p l e rmX10_isOpen s m args below meth c H locs 0 0 Q (F0 m 33 ls [.int t]) := by
    intro t h ls H locs hl hP hS
    replace h := hk _ h
    try dsimp only at h
    refine lv_istore_n (lv' := [(3, .int t), (0, .ref (ad 0)), (1, .int x1), (2, .int x2)]) hx hb dX10_isOpen_33 rfl hl (by decide) rfl (fun ls hl => ?_)
    refine lv_iconst (v := 0) hx hb dX10_isOpen_34 (by decide) ?_
    refine lv_istore (lv' := [(4, .int 0), (3, .int t), (0, .ref (ad 0)), (1, .int x1), (2, .int x2)]) hx hb dX10_isOpen_35 hl (by decide) rfl (fun ls hl => ?_)
    obtain ⟨F, n, h, hF, hG⟩ := lfix_ex h
    have LP : ∀ (n : Nat) (v4 : Int32) (v3 : Int32) (ls : Array Slot) (H : Heap) (locs : List Loc), F n (v4, v3) → lv_has ls 5 [(4, .int v4), (3, .int v3), (0, .ref (ad 0)), (1, .int x1), (2, .int x2)] → va_P D vwCl (wM cy ad I A) H → va_S Ad s.heap H locs → W p l e rmX10_isOpen s m args below meth c H locs 0 0 Q (F0 m 37 ls []) := by
      intro n
      induction n with
      | zero => intro v4 v3 ls H locs h _ _ _; exact absurd h (hF _)
      | succ n ih =>
        intro v4 v3 ls H locs h hl hP hS
        replace h := hG _ _ h
        try dsimp only at h
        refine lv_iload hx hb dX10_isOpen_37 (lv_at hl 0 rfl) ?_
        refine lv_aload_n hx hb dX10_isOpen_39 rfl (lv_at hl 2 rfl) ?_
        refine va_get (T := TX10) hx hb hT inlX10 hown hK.1 hP 0 he_X10 rfl 2 (by decide) (hT _ mw_4_139) (fun _ h9 => h9) rfl dX10_isOpen_40 ?_
        refine lv_icmp_ge (tgt := 85) hx hb dX10_isOpen_43 (by decide) (fun hc => ?_) (fun hc => ?_)
        · rw [if_pos hc] at h
          refine lv_iload_n hx hb dX10_isOpen_85 rfl (lv_at hl 1 rfl) ?_
          obtain ⟨hz, h⟩ := h
          exact hret _ (I, A) hz dX10_isOpen_86 ⟨h, rfl, rfl⟩ hP hS
        · rw [if_neg hc] at h
          refine lv_iload_n hx hb dX10_isOpen_46 rfl (lv_at hl 1 rfl) ?_
          obtain ⟨k_1, hk_1, h⟩ := jn_ex h
          try dsimp only at h
          have J_1 : ∀ (t_1 : Int32), k_1 t_1 → ∀ (ls : Array Slot) (H : Heap) (locs : List Loc), lv_has ls 5 [(4, .int v4), (0, .ref (ad 0)), (1, .int x1), (2, .int x2)] → va_P D vwCl (wM cy ad I A) H → va_S Ad s.heap H locs → W p l e rmX10_isOpen s m args below meth c H locs 0 0 Q (F0 m 78 ls [.int t_1]) := by
            intro t_1 h ls H locs hl hP hS
            replace h := hk_1 _ h
            try dsimp only at h
            refine lv_istore_n (lv' := [(3, .int t_1), (4, .int v4), (0, .ref (ad 0)), (1, .int x1), (2, .int x2)]) hx hb dX10_isOpen_78 rfl hl (by decide) rfl (fun ls hl => ?_)
            obtain ⟨v4_1, ev4_1⟩ : ∃ z : Int32, z = v4 + 1 := ⟨_, rfl⟩
            replace h := h v4_1 ev4_1
            refine lv_iinc (v := v4_1) (lv' := [(4, .int v4_1), (3, .int t_1), (0, .ref (ad 0)), (1, .int x1), (2, .int x2)]) hx hb dX10_isOpen_79 hl (k := 1) rfl (by rw [ev4_1]; rfl) (by decide) rfl (fun ls hl => ?_)
            refine lv_goto (tgt := 37) hx hb dX10_isOpen_82 (by decide) ?_
            exact ih v4_1 t_1 _ _ _ h (lv_sub hl [0, 1, 2, 3, 4] rfl) hP hS
          obtain ⟨k_2, hk_2, h⟩ := jn_ex h
          try dsimp only at h
          have J_2 : k_2 () → ∀ (ls : Array Slot) (H : Heap) (locs : List Loc), lv_has ls 5 [(4, .int v4), (0, .ref (ad 0)), (1, .int x1), (2, .int x2)] → va_P D vwCl (wM cy ad I A) H → va_S Ad s.heap H locs → W p l e rmX10_isOpen s m args below meth c H locs 0 0 Q (F0 m 77 ls []) := by
            intro  h ls H locs hl hP hS
            replace h := hk_2 _ h
            try dsimp only at h
            refine lv_iconst (v := 0) hx hb dX10_isOpen_77 (by decide) ?_
            exact J_1 0 h _ _ _ (lv_sub hl [0, 1, 2, 3] rfl) hP hS
          refine lv_if_eq (tgt := 77) hx hb dX10_isOpen_47 (by decide) (fun hc_1 => ?_) (fun hc_1 => ?_)
          · rw [if_pos hc_1] at h
            exact J_2  h _ _ _ (lv_sub hl [0, 2, 3, 4] rfl) hP hS
          · rw [if_neg hc_1] at h
            refine lv_aload_n hx hb dX10_isOpen_50 rfl (lv_at hl 2 rfl) ?_
            refine va_get (T := TX10) hx hb hT inlX10 hown hK.1 hP 0 he_X10 rfl 5 (by decide) (hT _ mw_4_142) (fun _ h9 => h9) rfl dX10_isOpen_51 ?_
            refine lv_iload hx hb dX10_isOpen_54 (lv_at hl 0 rfl) ?_
            obtain ⟨hi_1, h⟩ := h
            refine lM_I hx hb hK.1 hP (by decide) rfl hi_1 dX10_isOpen_56 ?_
            refine lv_iload_n hx hb dX10_isOpen_57 rfl (lv_at hl 4 rfl) ?_
            obtain ⟨k_3, hk_3, h⟩ := jn_ex h
            try dsimp only at h
            have J_3 : k_3 () → ∀ (ls : Array Slot) (H : Heap) (locs : List Loc), lv_has ls 5 [(4, .int v4), (0, .ref (ad 0)), (1, .int x1), (2, .int x2)] → va_P D vwCl (wM cy ad I A) H → va_S Ad s.heap H locs → W p l e rmX10_isOpen s m args below meth c H locs 0 0 Q (F0 m 73 ls []) := by
              intro  h ls H locs hl hP hS
              replace h := hk_3 _ h
              try dsimp only at h
              refine lv_iconst (v := 1) hx hb dX10_isOpen_73 (by decide) ?_
              refine lv_goto (tgt := 78) hx hb dX10_isOpen_74 (by decide) ?_
              exact J_1 1 h _ _ _ (lv_sub hl [0, 1, 2, 3] rfl) hP hS
            refine lv_icmp_ne (tgt := 73) hx hb dX10_isOpen_58 (by decide) (fun hc_2 => ?_) (fun hc_2 => ?_)
            · rw [if_neg hc_2] at h
              exact J_3  h _ _ _ (lv_sub hl [0, 2, 3, 4] rfl) hP hS
            · rw [if_pos hc_2] at h
              refine lv_aload_n hx hb dX10_isOpen_61 rfl (lv_at hl 2 rfl) ?_
              refine va_get (T := TX10) hx hb hT inlX10 hown hK.1 hP 0 he_X10 rfl 12 (by decide) (hT _ mw_4_149) (fun _ h9 => h9) rfl dX10_isOpen_62 ?_
              refine lv_iload_n hx hb dX10_isOpen_65 rfl (lv_at hl 3 rfl) ?_
              refine lv_iload hx hb dX10_isOpen_66 (lv_at hl 0 rfl) ?_
              refine lv_iadd hx hb dX10_isOpen_68 ?_
              obtain ⟨hi_2, h⟩ := h
              refine lM_I hx hb hK.1 hP (by decide) rfl hi_2 dX10_isOpen_69 ?_
              refine lv_if_ne (tgt := 77) hx hb dX10_isOpen_70 (by decide) (fun hc_3 => ?_) (fun hc_3 => ?_)
              · rw [if_neg hc_3] at h
                exact J_2  h _ _ _ (lv_sub hl [0, 2, 3, 4] rfl) hP hS
              · rw [if_pos hc_3] at h
                exact J_3  h _ _ _ (lv_sub hl [0, 2, 3, 4] rfl) hP hS
    exact LP _ 0 t _ _ _ h (lv_sub hl [0, 1, 2, 3, 4] rfl) hP hS
  obtain ⟨k_4, hk_4, h⟩ := jn_ex h
  try dsimp only at h
  have J_4 : k_4 () → ∀ (ls : Array Slot) (H : Heap) (locs : List Loc), lv_has ls 5 [(0, .ref (ad 0)), (1, .int x1), (2, .int x2)] → va_P D vwCl (wM cy ad I A) H → va_S Ad s.heap H locs → W p l e rmX10_isOpen s m args below meth c H locs 0 0 Q (F0 m 32 ls []) := by
    intro  h ls H locs hl hP hS
    replace h := hk_4 _ h
    try dsimp only at h
    refine lv_iconst (v := 0) hx hb dX10_isOpen_32 (by decide) ?_
    exact J 0 h _ _ _ (lv_sub hl [0, 1, 2] rfl) hP hS
  refine lv_if_ne (tgt := 32) hx hb dX10_isOpen_11 (by decide) (fun hc_4 => ?_) (fun hc_4 => ?_)
  · rw [if_neg hc_4] at h
    exact J_4  h _ _ _ (lv_sub hl [0, 1, 2] rfl) hP hS
  · rw [if_pos hc_4] at h
    refine lv_aload_n hx hb dX10_isOpen_14 rfl (lv_at hl 0 rfl) ?_
    refine va_get (T := TX10) hx hb hT inlX10 hown hK.1 hP 0 he_X10 rfl 12 (by decide) (hT _ mw_4_149) (fun _ h9 => h9) rfl dX10_isOpen_15 ?_
    refine lv_iload_n hx hb dX10_isOpen_18 rfl (lv_at hl 1 rfl) ?_
    refine lv_bipush (v := 45) hx hb dX10_isOpen_19 (by decide) ?_
    refine lv_iadd hx hb dX10_isOpen_21 ?_
    refine lv_iload_n hx hb dX10_isOpen_22 rfl (lv_at hl 2 rfl) ?_
    refine lv_iadd hx hb dX10_isOpen_23 ?_
    obtain ⟨hi_3, h⟩ := h
    refine lM_I hx hb hK.1 hP (by decide) rfl hi_3 dX10_isOpen_24 ?_
    refine lv_if_ne (tgt := 32) hx hb dX10_isOpen_25 (by decide) (fun hc_5 => ?_) (fun hc_5 => ?_)
    · rw [if_neg hc_5] at h
      exact J_4  h _ _ _ (lv_sub hl [0, 1, 2] rfl) hP hS
    · rw [if_pos hc_5] at h
      refine lv_iconst (v := 1) hx hb dX10_isOpen_28 (by decide) ?_
      refine lv_goto (tgt := 33) hx hb dX10_isOpen_29 (by decide) ?_
      exact J 1 h _ _ _ (lv_sub hl [0, 1, 2] rfl) hP hS
