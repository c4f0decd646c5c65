theorem dX9_bit_0 : decode cX9_bit 0 = .ok (.lconst 1, 1) := by decide +kernel
theorem dX9_bit_1 : decode cX9_bit 1 = .ok (.iload_n 0, 1) := by decide +kernel
theorem dX9_bit_2 : decode cX9_bit 2 = .ok (.lshl, 1) := by decide +kernel
theorem dX9_bit_3 : decode cX9_bit 3 = .ok (.lreturn, 1) := by decide +kernel
def wX9_bit  (x0 : Int32) (post : Int64 → Prop) : Prop := post (1 <<< (x0.toInt64 &&& 63))
abbrev rmX9_bit : Room := { frames := 0, cells := 0, slots := 0, locals := 0 }
theorem wd_X9_bit : Cond.static yX9_bit ∈ BW ∧ Cond.initialized yX9_bit.cls ∈ BW ∧ Cond.code yX9_bit cX9_bit 1 (some .long) ∈ BW := ⟨mw_2_79, mw_1_1, mw_2_80⟩
set_option maxHeartbeats 4000000 in
set_option maxRecDepth 100000 in
theorem c_X9_bit {l : Launch} (x0 : Int32) (post : Int64 → Prop) (h : wX9_bit x0 post) : Met l yX9_bit (.code yX9_bit cX9_bit 1 (some .long) :: BW) rmX9_bit (va_Pc [.int x0] (fun _ => True)) (qSl post) 0 0 (fun _ => False) := by
  refine startSl (by decide) (Nat.le_of_ble_eq_true rfl) (lv := [(0, .int x0)]) rfl (fun p e s m args below meth c Q ls hx hb hml hT hown hret hl hS => ?_)
  unfold wX9_bit at h
  refine lv_lconst (v := 1) hx hb dX9_bit_0 (by decide) ?_
  refine lv_iload_n hx hb dX9_bit_1 rfl (lv_at hl 0 rfl) ?_
  refine lv_lshl hx hb dX9_bit_2 rfl ?_
  exact hret _ dX9_bit_3 h hS
theorem dX9_inSet_0 : decode cX9_inSet 0 = .ok (.lload_n 0, 1) := by decide +kernel
theorem dX9_inSet_1 : decode cX9_inSet 1 = .ok (.iload_n 2, 1) := by decide +kernel
theorem dX9_inSet_2 : decode cX9_inSet 2 = .ok (.lushr, 1) := by decide +kernel
theorem dX9_inSet_3 : decode cX9_inSet 3 = .ok (.lconst 1, 1) := by decide +kernel
theorem dX9_inSet_4 : decode cX9_inSet 4 = .ok (.land, 1) := by decide +kernel
theorem dX9_inSet_5 : decode cX9_inSet 5 = .ok (.lconst 0, 1) := by decide +kernel
theorem dX9_inSet_6 : decode cX9_inSet 6 = .ok (.lcmp, 1) := by decide +kernel
theorem dX9_inSet_7 : decode cX9_inSet 7 = .ok (.ifCond .eq 7, 3) := by decide +kernel
theorem dX9_inSet_10 : decode cX9_inSet 10 = .ok (.iconst 1, 1) := by decide +kernel
theorem dX9_inSet_11 : decode cX9_inSet 11 = .ok (.goto 4, 3) := by decide +kernel
theorem dX9_inSet_14 : decode cX9_inSet 14 = .ok (.iconst 0, 1) := by decide +kernel
theorem dX9_inSet_15 : decode cX9_inSet 15 = .ok (.ireturn, 1) := by decide +kernel
def wX9_inSet  (x0 : Int64) (x2 : Int32) (post : Int32 → Prop) : Prop := if (lg_cmp (((x0.toUInt64 >>> (x2.toInt64.toUInt64 &&& Int64.toUInt64 63)).toInt64) &&& 1) 0) = 0 then (post 0) else (post 1)
abbrev rmX9_inSet : Room := { frames := 0, cells := 0, slots := 0, locals := 0 }
theorem wd_X9_inSet : Cond.static yX9_inSet ∈ BW ∧ Cond.initialized yX9_inSet.cls ∈ BW ∧ Cond.code yX9_inSet cX9_inSet 3 (some .boolean) ∈ BW := ⟨mw_2_67, mw_1_1, mw_2_68⟩
set_option maxHeartbeats 4000000 in
set_option maxRecDepth 100000 in
theorem c_X9_inSet {l : Launch} (x0 : Int64) (x2 : Int32) (post : Int32 → Prop) (h : wX9_inSet x0 x2 post) : Met l yX9_inSet (.code yX9_inSet cX9_inSet 3 (some .boolean) :: BW) rmX9_inSet (va_Pc [.long x0, .int x2] (fun _ => True)) (qSi post) 0 0 (fun _ => False) := by
  refine startSz (by decide) (Nat.le_of_ble_eq_true rfl) (lv := [(0, .long x0), (2, .int x2)]) rfl (fun p e s m args below meth c Q ls hx hb hml hT hown hret hl hS => ?_)
  unfold wX9_inSet at h
  refine lv_lload_n hx hb dX9_inSet_0 rfl (lv_at hl 0 rfl) ?_
  refine lv_iload_n hx hb dX9_inSet_1 rfl (lv_at hl 1 rfl) ?_
  refine lv_lushr hx hb dX9_inSet_2 rfl ?_
  refine lv_lconst (v := 1) hx hb dX9_inSet_3 (by decide) ?_
  refine lv_land hx hb dX9_inSet_4 ?_
  refine lv_lconst (v := 0) hx hb dX9_inSet_5 (by decide) ?_
  refine W.lcmp hx hb dX9_inSet_6 ?_
  refine lv_if_eq (tgt := 14) hx hb dX9_inSet_7 (by decide) (fun hc => ?_) (fun hc => ?_)
  · rw [if_pos hc] at h
    refine lv_iconst (v := 0) hx hb dX9_inSet_14 (by decide) ?_
    exact hret _ zb_0 dX9_inSet_15 h hS
  · rw [if_neg hc] at h
    refine lv_iconst (v := 1) hx hb dX9_inSet_10 (by decide) ?_
    refine lv_goto (tgt := 15) hx hb dX9_inSet_11 (by decide) ?_
    exact hret _ zb_1 dX9_inSet_15 h hS
theorem dJ13_bitCount_95d88_0 : decode cJ13_bitCount_95d88 0 = .ok (.lload_n 0, 1) := by decide +kernel
theorem dJ13_bitCount_95d88_1 : decode cJ13_bitCount_95d88 1 = .ok (.lload_n 0, 1) := by decide +kernel
theorem dJ13_bitCount_95d88_2 : decode cJ13_bitCount_95d88 2 = .ok (.iconst 1, 1) := by decide +kernel
theorem dJ13_bitCount_95d88_3 : decode cJ13_bitCount_95d88 3 = .ok (.lushr, 1) := by decide +kernel
theorem dJ13_bitCount_95d88_4 : decode cJ13_bitCount_95d88 4 = .ok (.ldc2_w 314, 3) := by decide +kernel
theorem dJ13_bitCount_95d88_7 : decode cJ13_bitCount_95d88 7 = .ok (.land, 1) := by decide +kernel
theorem dJ13_bitCount_95d88_8 : decode cJ13_bitCount_95d88 8 = .ok (.lsub, 1) := by decide +kernel
theorem dJ13_bitCount_95d88_9 : decode cJ13_bitCount_95d88 9 = .ok (.lstore_n 0, 1) := by decide +kernel
theorem dJ13_bitCount_95d88_10 : decode cJ13_bitCount_95d88 10 = .ok (.lload_n 0, 1) := by decide +kernel
theorem dJ13_bitCount_95d88_11 : decode cJ13_bitCount_95d88 11 = .ok (.ldc2_w 316, 3) := by decide +kernel
theorem dJ13_bitCount_95d88_14 : decode cJ13_bitCount_95d88 14 = .ok (.land, 1) := by decide +kernel
theorem dJ13_bitCount_95d88_15 : decode cJ13_bitCount_95d88 15 = .ok (.lload_n 0, 1) := by decide +kernel
theorem dJ13_bitCount_95d88_16 : decode cJ13_bitCount_95d88 16 = .ok (.iconst 2, 1) := by decide +kernel
theorem dJ13_bitCount_95d88_17 : decode cJ13_bitCount_95d88 17 = .ok (.lushr, 1) := by decide +kernel
theorem dJ13_bitCount_95d88_18 : decode cJ13_bitCount_95d88 18 = .ok (.ldc2_w 316, 3) := by decide +kernel
theorem dJ13_bitCount_95d88_21 : decode cJ13_bitCount_95d88 21 = .ok (.land, 1) := by decide +kernel
theorem dJ13_bitCount_95d88_22 : decode cJ13_bitCount_95d88 22 = .ok (.ladd, 1) := by decide +kernel
theorem dJ13_bitCount_95d88_23 : decode cJ13_bitCount_95d88 23 = .ok (.lstore_n 0, 1) := by decide +kernel
theorem dJ13_bitCount_95d88_24 : decode cJ13_bitCount_95d88 24 = .ok (.lload_n 0, 1) := by decide +kernel
theorem dJ13_bitCount_95d88_25 : decode cJ13_bitCount_95d88 25 = .ok (.lload_n 0, 1) := by decide +kernel
theorem dJ13_bitCount_95d88_26 : decode cJ13_bitCount_95d88 26 = .ok (.iconst 4, 1) := by decide +kernel
theorem dJ13_bitCount_95d88_27 : decode cJ13_bitCount_95d88 27 = .ok (.lushr, 1) := by decide +kernel
theorem dJ13_bitCount_95d88_28 : decode cJ13_bitCount_95d88 28 = .ok (.ladd, 1) := by decide +kernel
theorem dJ13_bitCount_95d88_29 : decode cJ13_bitCount_95d88 29 = .ok (.ldc2_w 318, 3) := by decide +kernel
theorem dJ13_bitCount_95d88_32 : decode cJ13_bitCount_95d88 32 = .ok (.land, 1) := by decide +kernel
theorem dJ13_bitCount_95d88_33 : decode cJ13_bitCount_95d88 33 = .ok (.lstore_n 0, 1) := by decide +kernel
theorem dJ13_bitCount_95d88_34 : decode cJ13_bitCount_95d88 34 = .ok (.lload_n 0, 1) := by decide +kernel
theorem dJ13_bitCount_95d88_35 : decode cJ13_bitCount_95d88 35 = .ok (.lload_n 0, 1) := by decide +kernel
theorem dJ13_bitCount_95d88_36 : decode cJ13_bitCount_95d88 36 = .ok (.bipush 8, 2) := by decide +kernel
theorem dJ13_bitCount_95d88_38 : decode cJ13_bitCount_95d88 38 = .ok (.lushr, 1) := by decide +kernel
theorem dJ13_bitCount_95d88_39 : decode cJ13_bitCount_95d88 39 = .ok (.ladd, 1) := by decide +kernel
theorem dJ13_bitCount_95d88_40 : decode cJ13_bitCount_95d88 40 = .ok (.lstore_n 0, 1) := by decide +kernel
theorem dJ13_bitCount_95d88_41 : decode cJ13_bitCount_95d88 41 = .ok (.lload_n 0, 1) := by decide +kernel
theorem dJ13_bitCount_95d88_42 : decode cJ13_bitCount_95d88 42 = .ok (.lload_n 0, 1) := by decide +kernel
theorem dJ13_bitCount_95d88_43 : decode cJ13_bitCount_95d88 43 = .ok (.bipush 16, 2) := by decide +kernel
theorem dJ13_bitCount_95d88_45 : decode cJ13_bitCount_95d88 45 = .ok (.lushr, 1) := by decide +kernel
theorem dJ13_bitCount_95d88_46 : decode cJ13_bitCount_95d88 46 = .ok (.ladd, 1) := by decide +kernel
theorem dJ13_bitCount_95d88_47 : decode cJ13_bitCount_95d88 47 = .ok (.lstore_n 0, 1) := by decide +kernel
theorem dJ13_bitCount_95d88_48 : decode cJ13_bitCount_95d88 48 = .ok (.lload_n 0, 1) := by decide +kernel
theorem dJ13_bitCount_95d88_49 : decode cJ13_bitCount_95d88 49 = .ok (.lload_n 0, 1) := by decide +kernel
theorem dJ13_bitCount_95d88_50 : decode cJ13_bitCount_95d88 50 = .ok (.bipush 32, 2) := by decide +kernel
theorem dJ13_bitCount_95d88_52 : decode cJ13_bitCount_95d88 52 = .ok (.lushr, 1) := by decide +kernel
theorem dJ13_bitCount_95d88_53 : decode cJ13_bitCount_95d88 53 = .ok (.ladd, 1) := by decide +kernel
theorem dJ13_bitCount_95d88_54 : decode cJ13_bitCount_95d88 54 = .ok (.lstore_n 0, 1) := by decide +kernel
theorem dJ13_bitCount_95d88_55 : decode cJ13_bitCount_95d88 55 = .ok (.lload_n 0, 1) := by decide +kernel
theorem dJ13_bitCount_95d88_56 : decode cJ13_bitCount_95d88 56 = .ok (.l2i, 1) := by decide +kernel
theorem dJ13_bitCount_95d88_57 : decode cJ13_bitCount_95d88 57 = .ok (.bipush 127, 2) := by decide +kernel
theorem dJ13_bitCount_95d88_59 : decode cJ13_bitCount_95d88 59 = .ok (.iand, 1) := by decide +kernel
theorem dJ13_bitCount_95d88_60 : decode cJ13_bitCount_95d88 60 = .ok (.ireturn, 1) := by decide +kernel
def wJ13_bitCount_95d88  (x0 : Int64) (post : Int32 → Prop) : Prop := ∀ v0 : Int64, v0 = x0 - (((x0.toUInt64 >>> ((1 : Int32).toInt64.toUInt64 &&& Int64.toUInt64 63)).toInt64) &&& 6148914691236517205) → ∀ v0_1 : Int64, v0_1 = (v0 &&& 3689348814741910323) + (((v0.toUInt64 >>> ((2 : Int32).toInt64.toUInt64 &&& Int64.toUInt64 63)).toInt64) &&& 3689348814741910323) → ∀ v0_2 : Int64, v0_2 = (v0_1 + ((v0_1.toUInt64 >>> ((4 : Int32).toInt64.toUInt64 &&& Int64.toUInt64 63)).toInt64)) &&& 1085102592571150095 → ∀ v0_3 : Int64, v0_3 = v0_2 + ((v0_2.toUInt64 >>> ((8 : Int32).toInt64.toUInt64 &&& Int64.toUInt64 63)).toInt64) → ∀ v0_4 : Int64, v0_4 = v0_3 + ((v0_3.toUInt64 >>> ((16 : Int32).toInt64.toUInt64 &&& Int64.toUInt64 63)).toInt64) → ∀ v0_5 : Int64, v0_5 = v0_4 + ((v0_4.toUInt64 >>> ((32 : Int32).toInt64.toUInt64 &&& Int64.toUInt64 63)).toInt64) → post (v0_5.toInt32 &&& 127)
abbrev rmJ13_bitCount_95d88 : Room := { frames := 0, cells := 0, slots := 0, locals := 0 }
theorem wd_J13_bitCount_95d88 : Cond.static yJ13_bitCount_95d88 ∈ BW ∧ Cond.initialized yJ13_bitCount_95d88.cls ∈ BW ∧ Cond.code yJ13_bitCount_95d88 cJ13_bitCount_95d88 2 (some .int) ∈ BW := ⟨mw_3_41, mw_1_13, mw_3_42⟩
set_option maxHeartbeats 4000000 in
set_option maxRecDepth 100000 in
theorem c_J13_bitCount_95d88 {l : Launch} (x0 : Int64) (post : Int32 → Prop) (h : wJ13_bitCount_95d88 x0 post) : Met l yJ13_bitCount_95d88 (.code yJ13_bitCount_95d88 cJ13_bitCount_95d88 2 (some .int) :: BW) rmJ13_bitCount_95d88 (va_Pc [.long x0] (fun _ => True)) (qSi post) 0 0 (fun _ => False) := by
  refine startSi (by decide) (Nat.le_of_ble_eq_true rfl) (lv := [(0, .long x0)]) rfl (fun p e s m args below meth c Q ls hx hb hml hT hown hret hl hS => ?_)
  unfold wJ13_bitCount_95d88 at h
  refine lv_lload_n hx hb dJ13_bitCount_95d88_0 rfl (lv_at hl 0 rfl) ?_
  refine lv_lload_n hx hb dJ13_bitCount_95d88_1 rfl (lv_at hl 0 rfl) ?_
  refine lv_iconst (v := 1) hx hb dJ13_bitCount_95d88_2 (by decide) ?_
  refine lv_lushr hx hb dJ13_bitCount_95d88_3 rfl ?_
  refine lv_ldc2 (v := 6148914691236517205) hx hb hown (hT _ mw_3_43) dJ13_bitCount_95d88_4 ?_
  refine lv_land hx hb dJ13_bitCount_95d88_7 ?_
  refine lv_lsub hx hb dJ13_bitCount_95d88_8 ?_
  refine lv_topl (fun v0 ev0 => ?_)
  replace h := h v0 ev0
  refine lv_lstore_n (lv' := [(0, .long v0)]) hx hb dJ13_bitCount_95d88_9 rfl hl (by decide) rfl (fun ls hl => ?_)
  refine lv_lload_n hx hb dJ13_bitCount_95d88_10 rfl (lv_at hl 0 rfl) ?_
  refine lv_ldc2 (v := 3689348814741910323) hx hb hown (hT _ mw_3_44) dJ13_bitCount_95d88_11 ?_
  refine lv_land hx hb dJ13_bitCount_95d88_14 ?_
  refine lv_lload_n hx hb dJ13_bitCount_95d88_15 rfl (lv_at hl 0 rfl) ?_
  refine lv_iconst (v := 2) hx hb dJ13_bitCount_95d88_16 (by decide) ?_
  refine lv_lushr hx hb dJ13_bitCount_95d88_17 rfl ?_
  refine lv_ldc2 (v := 3689348814741910323) hx hb hown (hT _ mw_3_44) dJ13_bitCount_95d88_18 ?_
  refine lv_land hx hb dJ13_bitCount_95d88_21 ?_
  refine lv_ladd hx hb dJ13_bitCount_95d88_22 ?_
  refine lv_topl (fun v0_1 ev0_1 => ?_)
  replace h := h v0_1 ev0_1
  refine lv_lstore_n (lv' := [(0, .long v0_1)]) hx hb dJ13_bitCount_95d88_23 rfl hl (by decide) rfl (fun ls hl => ?_)
  refine lv_lload_n hx hb dJ13_bitCount_95d88_24 rfl (lv_at hl 0 rfl) ?_
  refine lv_lload_n hx hb dJ13_bitCount_95d88_25 rfl (lv_at hl 0 rfl) ?_
  refine lv_iconst (v := 4) hx hb dJ13_bitCount_95d88_26 (by decide) ?_
  refine lv_lushr hx hb dJ13_bitCount_95d88_27 rfl ?_
  refine lv_ladd hx hb dJ13_bitCount_95d88_28 ?_
  refine lv_ldc2 (v := 1085102592571150095) hx hb hown (hT _ mw_3_45) dJ13_bitCount_95d88_29 ?_
  refine lv_land hx hb dJ13_bitCount_95d88_32 ?_
  refine lv_topl (fun v0_2 ev0_2 => ?_)
  replace h := h v0_2 ev0_2
  refine lv_lstore_n (lv' := [(0, .long v0_2)]) hx hb dJ13_bitCount_95d88_33 rfl hl (by decide) rfl (fun ls hl => ?_)
  refine lv_lload_n hx hb dJ13_bitCount_95d88_34 rfl (lv_at hl 0 rfl) ?_
  refine lv_lload_n hx hb dJ13_bitCount_95d88_35 rfl (lv_at hl 0 rfl) ?_
  refine lv_bipush (v := 8) hx hb dJ13_bitCount_95d88_36 (by decide) ?_
  refine lv_lushr hx hb dJ13_bitCount_95d88_38 rfl ?_
  refine lv_ladd hx hb dJ13_bitCount_95d88_39 ?_
  refine lv_topl (fun v0_3 ev0_3 => ?_)
  replace h := h v0_3 ev0_3
  refine lv_lstore_n (lv' := [(0, .long v0_3)]) hx hb dJ13_bitCount_95d88_40 rfl hl (by decide) rfl (fun ls hl => ?_)
  refine lv_lload_n hx hb dJ13_bitCount_95d88_41 rfl (lv_at hl 0 rfl) ?_
  refine lv_lload_n hx hb dJ13_bitCount_95d88_42 rfl (lv_at hl 0 rfl) ?_
  refine lv_bipush (v := 16) hx hb dJ13_bitCount_95d88_43 (by decide) ?_
  refine lv_lushr hx hb dJ13_bitCount_95d88_45 rfl ?_
  refine lv_ladd hx hb dJ13_bitCount_95d88_46 ?_
  refine lv_topl (fun v0_4 ev0_4 => ?_)
  replace h := h v0_4 ev0_4
  refine lv_lstore_n (lv' := [(0, .long v0_4)]) hx hb dJ13_bitCount_95d88_47 rfl hl (by decide) rfl (fun ls hl => ?_)
  refine lv_lload_n hx hb dJ13_bitCount_95d88_48 rfl (lv_at hl 0 rfl) ?_
  refine lv_lload_n hx hb dJ13_bitCount_95d88_49 rfl (lv_at hl 0 rfl) ?_
  refine lv_bipush (v := 32) hx hb dJ13_bitCount_95d88_50 (by decide) ?_
  refine lv_lushr hx hb dJ13_bitCount_95d88_52 rfl ?_
  refine lv_ladd hx hb dJ13_bitCount_95d88_53 ?_
  refine lv_topl (fun v0_5 ev0_5 => ?_)
  replace h := h v0_5 ev0_5
  refine lv_lstore_n (lv' := [(0, .long v0_5)]) hx hb dJ13_bitCount_95d88_54 rfl hl (by decide) rfl (fun ls hl => ?_)
  refine lv_lload_n hx hb dJ13_bitCount_95d88_55 rfl (lv_at hl 0 rfl) ?_
  refine lv_l2i hx hb dJ13_bitCount_95d88_56 rfl ?_
  refine lv_bipush (v := 127) hx hb dJ13_bitCount_95d88_57 (by decide) ?_
  refine lv_iand hx hb dJ13_bitCount_95d88_59 ?_
  exact hret _ dJ13_bitCount_95d88_60 h hS
theorem dJ6_bitCount_0f7a4_0 : decode cJ6_bitCount_0f7a4 0 = .ok (.iload_n 0, 1) := by decide +kernel
theorem dJ6_bitCount_0f7a4_1 : decode cJ6_bitCount_0f7a4 1 = .ok (.iload_n 0, 1) := by decide +kernel
theorem dJ6_bitCount_0f7a4_2 : decode cJ6_bitCount_0f7a4 2 = .ok (.iconst 1, 1) := by decide +kernel
theorem dJ6_bitCount_0f7a4_3 : decode cJ6_bitCount_0f7a4 3 = .ok (.iushr, 1) := by decide +kernel
theorem dJ6_bitCount_0f7a4_4 : decode cJ6_bitCount_0f7a4 4 = .ok (.ldc_w 265, 3) := by decide +kernel
theorem dJ6_bitCount_0f7a4_7 : decode cJ6_bitCount_0f7a4 7 = .ok (.iand, 1) := by decide +kernel
theorem dJ6_bitCount_0f7a4_8 : decode cJ6_bitCount_0f7a4 8 = .ok (.isub, 1) := by decide +kernel
theorem dJ6_bitCount_0f7a4_9 : decode cJ6_bitCount_0f7a4 9 = .ok (.istore_n 0, 1) := by decide +kernel
theorem dJ6_bitCount_0f7a4_10 : decode cJ6_bitCount_0f7a4 10 = .ok (.iload_n 0, 1) := by decide +kernel
theorem dJ6_bitCount_0f7a4_11 : decode cJ6_bitCount_0f7a4 11 = .ok (.ldc_w 266, 3) := by decide +kernel
theorem dJ6_bitCount_0f7a4_14 : decode cJ6_bitCount_0f7a4 14 = .ok (.iand, 1) := by decide +kernel
theorem dJ6_bitCount_0f7a4_15 : decode cJ6_bitCount_0f7a4 15 = .ok (.iload_n 0, 1) := by decide +kernel
theorem dJ6_bitCount_0f7a4_16 : decode cJ6_bitCount_0f7a4 16 = .ok (.iconst 2, 1) := by decide +kernel
theorem dJ6_bitCount_0f7a4_17 : decode cJ6_bitCount_0f7a4 17 = .ok (.iushr, 1) := by decide +kernel
theorem dJ6_bitCount_0f7a4_18 : decode cJ6_bitCount_0f7a4 18 = .ok (.ldc_w 266, 3) := by decide +kernel
theorem dJ6_bitCount_0f7a4_21 : decode cJ6_bitCount_0f7a4 21 = .ok (.iand, 1) := by decide +kernel
theorem dJ6_bitCount_0f7a4_22 : decode cJ6_bitCount_0f7a4 22 = .ok (.iadd, 1) := by decide +kernel
theorem dJ6_bitCount_0f7a4_23 : decode cJ6_bitCount_0f7a4 23 = .ok (.istore_n 0, 1) := by decide +kernel
theorem dJ6_bitCount_0f7a4_24 : decode cJ6_bitCount_0f7a4 24 = .ok (.iload_n 0, 1) := by decide +kernel
theorem dJ6_bitCount_0f7a4_25 : decode cJ6_bitCount_0f7a4 25 = .ok (.iload_n 0, 1) := by decide +kernel
theorem dJ6_bitCount_0f7a4_26 : decode cJ6_bitCount_0f7a4 26 = .ok (.iconst 4, 1) := by decide +kernel
theorem dJ6_bitCount_0f7a4_27 : decode cJ6_bitCount_0f7a4 27 = .ok (.iushr, 1) := by decide +kernel
theorem dJ6_bitCount_0f7a4_28 : decode cJ6_bitCount_0f7a4 28 = .ok (.iadd, 1) := by decide +kernel
theorem dJ6_bitCount_0f7a4_29 : decode cJ6_bitCount_0f7a4 29 = .ok (.ldc_w 267, 3) := by decide +kernel
theorem dJ6_bitCount_0f7a4_32 : decode cJ6_bitCount_0f7a4 32 = .ok (.iand, 1) := by decide +kernel
theorem dJ6_bitCount_0f7a4_33 : decode cJ6_bitCount_0f7a4 33 = .ok (.istore_n 0, 1) := by decide +kernel
theorem dJ6_bitCount_0f7a4_34 : decode cJ6_bitCount_0f7a4 34 = .ok (.iload_n 0, 1) := by decide +kernel
theorem dJ6_bitCount_0f7a4_35 : decode cJ6_bitCount_0f7a4 35 = .ok (.iload_n 0, 1) := by decide +kernel
theorem dJ6_bitCount_0f7a4_36 : decode cJ6_bitCount_0f7a4 36 = .ok (.bipush 8, 2) := by decide +kernel
theorem dJ6_bitCount_0f7a4_38 : decode cJ6_bitCount_0f7a4 38 = .ok (.iushr, 1) := by decide +kernel
theorem dJ6_bitCount_0f7a4_39 : decode cJ6_bitCount_0f7a4 39 = .ok (.iadd, 1) := by decide +kernel
theorem dJ6_bitCount_0f7a4_40 : decode cJ6_bitCount_0f7a4 40 = .ok (.istore_n 0, 1) := by decide +kernel
theorem dJ6_bitCount_0f7a4_41 : decode cJ6_bitCount_0f7a4 41 = .ok (.iload_n 0, 1) := by decide +kernel
theorem dJ6_bitCount_0f7a4_42 : decode cJ6_bitCount_0f7a4 42 = .ok (.iload_n 0, 1) := by decide +kernel
theorem dJ6_bitCount_0f7a4_43 : decode cJ6_bitCount_0f7a4 43 = .ok (.bipush 16, 2) := by decide +kernel
theorem dJ6_bitCount_0f7a4_45 : decode cJ6_bitCount_0f7a4 45 = .ok (.iushr, 1) := by decide +kernel
theorem dJ6_bitCount_0f7a4_46 : decode cJ6_bitCount_0f7a4 46 = .ok (.iadd, 1) := by decide +kernel
theorem dJ6_bitCount_0f7a4_47 : decode cJ6_bitCount_0f7a4 47 = .ok (.istore_n 0, 1) := by decide +kernel
theorem dJ6_bitCount_0f7a4_48 : decode cJ6_bitCount_0f7a4 48 = .ok (.iload_n 0, 1) := by decide +kernel
theorem dJ6_bitCount_0f7a4_49 : decode cJ6_bitCount_0f7a4 49 = .ok (.bipush 63, 2) := by decide +kernel
theorem dJ6_bitCount_0f7a4_51 : decode cJ6_bitCount_0f7a4 51 = .ok (.iand, 1) := by decide +kernel
theorem dJ6_bitCount_0f7a4_52 : decode cJ6_bitCount_0f7a4 52 = .ok (.ireturn, 1) := by decide +kernel
def wJ6_bitCount_0f7a4  (x0 : Int32) (post : Int32 → Prop) : Prop := ∀ v0 : Int32, v0 = x0 - (((x0.toUInt32 >>> ((1 : Int32).toUInt32 &&& Int32.toUInt32 31)).toInt32) &&& 1431655765) → ∀ v0_1 : Int32, v0_1 = (v0 &&& 858993459) + (((v0.toUInt32 >>> ((2 : Int32).toUInt32 &&& Int32.toUInt32 31)).toInt32) &&& 858993459) → ∀ v0_2 : Int32, v0_2 = (v0_1 + ((v0_1.toUInt32 >>> ((4 : Int32).toUInt32 &&& Int32.toUInt32 31)).toInt32)) &&& 252645135 → ∀ v0_3 : Int32, v0_3 = v0_2 + ((v0_2.toUInt32 >>> ((8 : Int32).toUInt32 &&& Int32.toUInt32 31)).toInt32) → ∀ v0_4 : Int32, v0_4 = v0_3 + ((v0_3.toUInt32 >>> ((16 : Int32).toUInt32 &&& Int32.toUInt32 31)).toInt32) → post (v0_4 &&& 63)
abbrev rmJ6_bitCount_0f7a4 : Room := { frames := 0, cells := 0, slots := 0, locals := 0 }
theorem wd_J6_bitCount_0f7a4 : Cond.static yJ6_bitCount_0f7a4 ∈ BW ∧ Cond.initialized yJ6_bitCount_0f7a4.cls ∈ BW ∧ Cond.code yJ6_bitCount_0f7a4 cJ6_bitCount_0f7a4 1 (some .int) ∈ BW := ⟨mw_4_10, mw_1_18, mw_4_11⟩
set_option maxHeartbeats 4000000 in
set_option maxRecDepth 100000 in
theorem c_J6_bitCount_0f7a4 {l : Launch} (x0 : Int32) (post : Int32 → Prop) (h : wJ6_bitCount_0f7a4 x0 post) : Met l yJ6_bitCount_0f7a4 (.code yJ6_bitCount_0f7a4 cJ6_bitCount_0f7a4 1 (some .int) :: BW) rmJ6_bitCount_0f7a4 (va_Pc [.int x0] (fun _ => True)) (qSi post) 0 0 (fun _ => False) := by
  refine startSi (by decide) (Nat.le_of_ble_eq_true rfl) (lv := [(0, .int x0)]) rfl (fun p e s m args below meth c Q ls hx hb hml hT hown hret hl hS => ?_)
  unfold wJ6_bitCount_0f7a4 at h
  refine lv_iload_n hx hb dJ6_bitCount_0f7a4_0 rfl (lv_at hl 0 rfl) ?_
  refine lv_iload_n hx hb dJ6_bitCount_0f7a4_1 rfl (lv_at hl 0 rfl) ?_
  refine lv_iconst (v := 1) hx hb dJ6_bitCount_0f7a4_2 (by decide) ?_
  refine lv_iushr hx hb dJ6_bitCount_0f7a4_3 rfl ?_
  refine lv_ldcw (v := 1431655765) hx hb hown (hT _ mw_4_12) dJ6_bitCount_0f7a4_4 ?_
  refine lv_iand hx hb dJ6_bitCount_0f7a4_7 ?_
  refine lv_isub hx hb dJ6_bitCount_0f7a4_8 ?_
  refine lv_topi (fun v0 ev0 => ?_)
  replace h := h v0 ev0
  refine lv_istore_n (lv' := [(0, .int v0)]) hx hb dJ6_bitCount_0f7a4_9 rfl hl (by decide) rfl (fun ls hl => ?_)
  refine lv_iload_n hx hb dJ6_bitCount_0f7a4_10 rfl (lv_at hl 0 rfl) ?_
  refine lv_ldcw (v := 858993459) hx hb hown (hT _ mw_4_13) dJ6_bitCount_0f7a4_11 ?_
  refine lv_iand hx hb dJ6_bitCount_0f7a4_14 ?_
  refine lv_iload_n hx hb dJ6_bitCount_0f7a4_15 rfl (lv_at hl 0 rfl) ?_
  refine lv_iconst (v := 2) hx hb dJ6_bitCount_0f7a4_16 (by decide) ?_
  refine lv_iushr hx hb dJ6_bitCount_0f7a4_17 rfl ?_
  refine lv_ldcw (v := 858993459) hx hb hown (hT _ mw_4_13) dJ6_bitCount_0f7a4_18 ?_
  refine lv_iand hx hb dJ6_bitCount_0f7a4_21 ?_
  refine lv_iadd hx hb dJ6_bitCount_0f7a4_22 ?_
  refine lv_topi (fun v0_1 ev0_1 => ?_)
  replace h := h v0_1 ev0_1
  refine lv_istore_n (lv' := [(0, .int v0_1)]) hx hb dJ6_bitCount_0f7a4_23 rfl hl (by decide) rfl (fun ls hl => ?_)
  refine lv_iload_n hx hb dJ6_bitCount_0f7a4_24 rfl (lv_at hl 0 rfl) ?_
  refine lv_iload_n hx hb dJ6_bitCount_0f7a4_25 rfl (lv_at hl 0 rfl) ?_
  refine lv_iconst (v := 4) hx hb dJ6_bitCount_0f7a4_26 (by decide) ?_
  refine lv_iushr hx hb dJ6_bitCount_0f7a4_27 rfl ?_
  refine lv_iadd hx hb dJ6_bitCount_0f7a4_28 ?_
  refine lv_ldcw (v := 252645135) hx hb hown (hT _ mw_4_14) dJ6_bitCount_0f7a4_29 ?_
  refine lv_iand hx hb dJ6_bitCount_0f7a4_32 ?_
  refine lv_topi (fun v0_2 ev0_2 => ?_)
  replace h := h v0_2 ev0_2
  refine lv_istore_n (lv' := [(0, .int v0_2)]) hx hb dJ6_bitCount_0f7a4_33 rfl hl (by decide) rfl (fun ls hl => ?_)
  refine lv_iload_n hx hb dJ6_bitCount_0f7a4_34 rfl (lv_at hl 0 rfl) ?_
  refine lv_iload_n hx hb dJ6_bitCount_0f7a4_35 rfl (lv_at hl 0 rfl) ?_
  refine lv_bipush (v := 8) hx hb dJ6_bitCount_0f7a4_36 (by decide) ?_
  refine lv_iushr hx hb dJ6_bitCount_0f7a4_38 rfl ?_
  refine lv_iadd hx hb dJ6_bitCount_0f7a4_39 ?_
  refine lv_topi (fun v0_3 ev0_3 => ?_)
  replace h := h v0_3 ev0_3
  refine lv_istore_n (lv' := [(0, .int v0_3)]) hx hb dJ6_bitCount_0f7a4_40 rfl hl (by decide) rfl (fun ls hl => ?_)
  refine lv_iload_n hx hb dJ6_bitCount_0f7a4_41 rfl (lv_at hl 0 rfl) ?_
  refine lv_iload_n hx hb dJ6_bitCount_0f7a4_42 rfl (lv_at hl 0 rfl) ?_
  refine lv_bipush (v := 16) hx hb dJ6_bitCount_0f7a4_43 (by decide) ?_
  refine lv_iushr hx hb dJ6_bitCount_0f7a4_45 rfl ?_
  refine lv_iadd hx hb dJ6_bitCount_0f7a4_46 ?_
  refine lv_topi (fun v0_4 ev0_4 => ?_)
  replace h := h v0_4 ev0_4
  refine lv_istore_n (lv' := [(0, .int v0_4)]) hx hb dJ6_bitCount_0f7a4_47 rfl hl (by decide) rfl (fun ls hl => ?_)
  refine lv_iload_n hx hb dJ6_bitCount_0f7a4_48 rfl (lv_at hl 0 rfl) ?_
  refine lv_bipush (v := 63) hx hb dJ6_bitCount_0f7a4_49 (by decide) ?_
  refine lv_iand hx hb dJ6_bitCount_0f7a4_51 ?_
  exact hret _ dJ6_bitCount_0f7a4_52 h hS
theorem dX10_within_0 : decode cX10_within 0 = .ok (.iload_n 0, 1) := by decide +kernel
theorem dX10_within_1 : decode cX10_within 1 = .ok (.iload_n 1, 1) := by decide +kernel
theorem dX10_within_2 : decode cX10_within 2 = .ok (.if_icmp .lt 12, 3) := by decide +kernel
theorem dX10_within_5 : decode cX10_within 5 = .ok (.iload_n 0, 1) := by decide +kernel
theorem dX10_within_6 : decode cX10_within 6 = .ok (.iload_n 2, 1) := by decide +kernel
theorem dX10_within_7 : decode cX10_within 7 = .ok (.if_icmp .gt 7, 3) := by decide +kernel
theorem dX10_within_10 : decode cX10_within 10 = .ok (.iconst 1, 1) := by decide +kernel
theorem dX10_within_11 : decode cX10_within 11 = .ok (.goto 4, 3) := by decide +kernel
theorem dX10_within_14 : decode cX10_within 14 = .ok (.iconst 0, 1) := by decide +kernel
theorem dX10_within_15 : decode cX10_within 15 = .ok (.ireturn, 1) := by decide +kernel
def wX10_within  (x0 : Int32) (x1 : Int32) (x2 : Int32) (post : Int32 → Prop) : Prop := if x0 < x1 then (post 0) else (if x2 < x0 then (post 0) else (post 1))
abbrev rmX10_within : Room := { frames := 0, cells := 0, slots := 0, locals := 0 }
theorem wd_X10_within : Cond.static yX10_within ∈ BW ∧ Cond.initialized yX10_within.cls ∈ BW ∧ Cond.code yX10_within cX10_within 3 (some .boolean) ∈ BW := ⟨mw_4_214, mw_1_11, mw_4_215⟩
set_option maxHeartbeats 4000000 in
set_option maxRecDepth 100000 in
theorem c_X10_within {l : Launch} (x0 : Int32) (x1 : Int32) (x2 : Int32) (post : Int32 → Prop) (h : wX10_within x0 x1 x2 post) : Met l yX10_within (.code yX10_within cX10_within 3 (some .boolean) :: BW) rmX10_within (va_Pc [.int x0, .int x1, .int x2] (fun _ => True)) (qSi post) 0 0 (fun _ => False) := by
  refine startSz (by decide) (Nat.le_of_ble_eq_true rfl) (lv := [(0, .int x0), (1, .int x1), (2, .int x2)]) rfl (fun p e s m args below meth c Q ls hx hb hml hT hown hret hl hS => ?_)
  unfold wX10_within at h
  refine lv_iload_n hx hb dX10_within_0 rfl (lv_at hl 0 rfl) ?_
  refine lv_iload_n hx hb dX10_within_1 rfl (lv_at hl 1 rfl) ?_
  refine lv_icmp_lt (tgt := 14) hx hb dX10_within_2 (by decide) (fun hc => ?_) (fun hc => ?_)
  · rw [if_pos hc] at h
    refine lv_iconst (v := 0) hx hb dX10_within_14 (by decide) ?_
    exact hret _ zb_0 dX10_within_15 h hS
  · rw [if_neg hc] at h
    refine lv_iload_n hx hb dX10_within_5 rfl (lv_at hl 0 rfl) ?_
    refine lv_iload_n hx hb dX10_within_6 rfl (lv_at hl 2 rfl) ?_
    refine lv_icmp_gt (tgt := 14) hx hb dX10_within_7 (by decide) (fun hc_1 => ?_) (fun hc_1 => ?_)
    · rw [if_pos hc_1] at h
      refine lv_iconst (v := 0) hx hb dX10_within_14 (by decide) ?_
      exact hret _ zb_0 dX10_within_15 h hS
    · rw [if_neg hc_1] at h
      refine lv_iconst (v := 1) hx hb dX10_within_10 (by decide) ?_
      refine lv_goto (tgt := 15) hx hb dX10_within_11 (by decide) ?_
      exact hret _ zb_1 dX10_within_15 h hS
theorem dX10_isBetter_0 : decode cX10_isBetter 0 = .ok (.iload_n 0, 1) := by decide +kernel
theorem dX10_isBetter_1 : decode cX10_isBetter 1 = .ok (.iload_n 2, 1) := by decide +kernel
theorem dX10_isBetter_2 : decode cX10_isBetter 2 = .ok (.if_icmp .gt 13, 3) := by decide +kernel
theorem dX10_isBetter_5 : decode cX10_isBetter 5 = .ok (.iload_n 0, 1) := by decide +kernel
theorem dX10_isBetter_6 : decode cX10_isBetter 6 = .ok (.iload_n 2, 1) := by decide +kernel
theorem dX10_isBetter_7 : decode cX10_isBetter 7 = .ok (.if_icmp .ne 12, 3) := by decide +kernel
theorem dX10_isBetter_10 : decode cX10_isBetter 10 = .ok (.iload_n 1, 1) := by decide +kernel
theorem dX10_isBetter_11 : decode cX10_isBetter 11 = .ok (.iload_n 3, 1) := by decide +kernel
theorem dX10_isBetter_12 : decode cX10_isBetter 12 = .ok (.if_icmp .ge 7, 3) := by decide +kernel
theorem dX10_isBetter_15 : decode cX10_isBetter 15 = .ok (.iconst 1, 1) := by decide +kernel
theorem dX10_isBetter_16 : decode cX10_isBetter 16 = .ok (.goto 4, 3) := by decide +kernel
theorem dX10_isBetter_19 : decode cX10_isBetter 19 = .ok (.iconst 0, 1) := by decide +kernel
theorem dX10_isBetter_20 : decode cX10_isBetter 20 = .ok (.ireturn, 1) := by decide +kernel
def wX10_isBetter  (x0 : Int32) (x1 : Int32) (x2 : Int32) (x3 : Int32) (post : Int32 → Prop) : Prop := if x2 < x0 then (post 1) else (if x0 = x2 then (if x3 ≤ x1 then (post 0) else (post 1)) else (post 0))
abbrev rmX10_isBetter : Room := { frames := 0, cells := 0, slots := 0, locals := 0 }
theorem wd_X10_isBetter : Cond.static yX10_isBetter ∈ BW ∧ Cond.initialized yX10_isBetter.cls ∈ BW ∧ Cond.code yX10_isBetter cX10_isBetter 4 (some .boolean) ∈ BW := ⟨mw_5_233, mw_1_11, mw_5_234⟩
set_option maxHeartbeats 4000000 in
set_option maxRecDepth 100000 in
theorem c_X10_isBetter {l : Launch} (x0 : Int32) (x1 : Int32) (x2 : Int32) (x3 : Int32) (post : Int32 → Prop) (h : wX10_isBetter x0 x1 x2 x3 post) : Met l yX10_isBetter (.code yX10_isBetter cX10_isBetter 4 (some .boolean) :: BW) rmX10_isBetter (va_Pc [.int x0, .int x1, .int x2, .int x3] (fun _ => True)) (qSi post) 0 0 (fun _ => False) := by
  refine startSz (by decide) (Nat.le_of_ble_eq_true rfl) (lv := [(0, .int x0), (1, .int x1), (2, .int x2), (3, .int x3)]) rfl (fun p e s m args below meth c Q ls hx hb hml hT hown hret hl hS => ?_)
  unfold wX10_isBetter at h
  refine lv_iload_n hx hb dX10_isBetter_0 rfl (lv_at hl 0 rfl) ?_
  refine lv_iload_n hx hb dX10_isBetter_1 rfl (lv_at hl 2 rfl) ?_
  refine lv_icmp_gt (tgt := 15) hx hb dX10_isBetter_2 (by decide) (fun hc => ?_) (fun hc => ?_)
  · rw [if_pos hc] at h
    refine lv_iconst (v := 1) hx hb dX10_isBetter_15 (by decide) ?_
    refine lv_goto (tgt := 20) hx hb dX10_isBetter_16 (by decide) ?_
    exact hret _ zb_1 dX10_isBetter_20 h hS
  · rw [if_neg hc] at h
    refine lv_iload_n hx hb dX10_isBetter_5 rfl (lv_at hl 0 rfl) ?_
    refine lv_iload_n hx hb dX10_isBetter_6 rfl (lv_at hl 2 rfl) ?_
    refine lv_icmp_ne (tgt := 19) hx hb dX10_isBetter_7 (by decide) (fun hc_1 => ?_) (fun hc_1 => ?_)
    · rw [if_neg hc_1] at h
      refine lv_iconst (v := 0) hx hb dX10_isBetter_19 (by decide) ?_
      exact hret _ zb_0 dX10_isBetter_20 h hS
    · rw [if_pos hc_1] at h
      refine lv_iload_n hx hb dX10_isBetter_10 rfl (lv_at hl 1 rfl) ?_
      refine lv_iload_n hx hb dX10_isBetter_11 rfl (lv_at hl 3 rfl) ?_
      refine lv_icmp_ge (tgt := 19) hx hb dX10_isBetter_12 (by decide) (fun hc_2 => ?_) (fun hc_2 => ?_)
      · rw [if_pos hc_2] at h
        refine lv_iconst (v := 0) hx hb dX10_isBetter_19 (by decide) ?_
        exact hret _ zb_0 dX10_isBetter_20 h hS
      · rw [if_neg hc_2] at h
        refine lv_iconst (v := 1) hx hb dX10_isBetter_15 (by decide) ?_
        refine lv_goto (tgt := 20) hx hb dX10_isBetter_16 (by decide) ?_
        exact hret _ zb_1 dX10_isBetter_20 h hS
theorem dX10_apart_0 : decode cX10_apart 0 = .ok (.iload_n 0, 1) := by decide +kernel
theorem dX10_apart_1 : decode cX10_apart 1 = .ok (.iload_n 1, 1) := by decide +kernel
theorem dX10_apart_2 : decode cX10_apart 2 = .ok (.if_icmp .le 9, 3) := by decide +kernel
theorem dX10_apart_5 : decode cX10_apart 5 = .ok (.iload_n 0, 1) := by decide +kernel
theorem dX10_apart_6 : decode cX10_apart 6 = .ok (.iload_n 1, 1) := by decide +kernel
theorem dX10_apart_7 : decode cX10_apart 7 = .ok (.isub, 1) := by decide +kernel
theorem dX10_apart_8 : decode cX10_apart 8 = .ok (.goto 6, 3) := by decide +kernel
theorem dX10_apart_11 : decode cX10_apart 11 = .ok (.iload_n 1, 1) := by decide +kernel
theorem dX10_apart_12 : decode cX10_apart 12 = .ok (.iload_n 0, 1) := by decide +kernel
theorem dX10_apart_13 : decode cX10_apart 13 = .ok (.isub, 1) := by decide +kernel
theorem dX10_apart_14 : decode cX10_apart 14 = .ok (.ireturn, 1) := by decide +kernel
def wX10_apart  (x0 : Int32) (x1 : Int32) (post : Int32 → Prop) : Prop := if x0 ≤ x1 then (post (x1 - x0)) else (post (x0 - x1))
abbrev rmX10_apart : Room := { frames := 0, cells := 0, slots := 0, locals := 0 }
theorem wd_X10_apart : Cond.static yX10_apart ∈ BW ∧ Cond.initialized yX10_apart.cls ∈ BW ∧ Cond.code yX10_apart cX10_apart 2 (some .int) ∈ BW := ⟨mw_6_16, mw_1_11, mw_6_17⟩
set_option maxHeartbeats 4000000 in
set_option maxRecDepth 100000 in
theorem c_X10_apart {l : Launch} (x0 : Int32) (x1 : Int32) (post : Int32 → Prop) (h : wX10_apart x0 x1 post) : Met l yX10_apart (.code yX10_apart cX10_apart 2 (some .int) :: BW) rmX10_apart (va_Pc [.int x0, .int x1] (fun _ => True)) (qSi post) 0 0 (fun _ => False) := by
  refine startSi (by decide) (Nat.le_of_ble_eq_true rfl) (lv := [(0, .int x0), (1, .int x1)]) rfl (fun p e s m args below meth c Q ls hx hb hml hT hown hret hl hS => ?_)
  unfold wX10_apart at h
  refine lv_iload_n hx hb dX10_apart_0 rfl (lv_at hl 0 rfl) ?_
  refine lv_iload_n hx hb dX10_apart_1 rfl (lv_at hl 1 rfl) ?_
  refine lv_icmp_le (tgt := 11) hx hb dX10_apart_2 (by decide) (fun hc => ?_) (fun hc => ?_)
  · rw [if_pos hc] at h
    refine lv_iload_n hx hb dX10_apart_11 rfl (lv_at hl 1 rfl) ?_
    refine lv_iload_n hx hb dX10_apart_12 rfl (lv_at hl 0 rfl) ?_
    refine lv_isub hx hb dX10_apart_13 ?_
    exact hret _ dX10_apart_14 h hS
  · rw [if_neg hc] at h
    refine lv_iload_n hx hb dX10_apart_5 rfl (lv_at hl 0 rfl) ?_
    refine lv_iload_n hx hb dX10_apart_6 rfl (lv_at hl 1 rfl) ?_
    refine lv_isub hx hb dX10_apart_7 ?_
    refine lv_goto (tgt := 14) hx hb dX10_apart_8 (by decide) ?_
    exact hret _ dX10_apart_14 h hS
theorem dX10_manyOf_0 : decode cX10_manyOf 0 = .ok (.iconst 0, 1) := by decide +kernel
theorem dX10_manyOf_1 : decode cX10_manyOf 1 = .ok (.istore_n 1, 1) := by decide +kernel
theorem dX10_manyOf_2 : decode cX10_manyOf 2 = .ok (.iconst 0, 1) := by decide +kernel
theorem dX10_manyOf_3 : decode cX10_manyOf 3 = .ok (.istore_n 2, 1) := by decide +kernel
theorem dX10_manyOf_4 : decode cX10_manyOf 4 = .ok (.iload_n 2, 1) := by decide +kernel
theorem dX10_manyOf_5 : decode cX10_manyOf 5 = .ok (.bipush 12, 2) := by decide +kernel
theorem dX10_manyOf_7 : decode cX10_manyOf 7 = .ok (.if_icmp .ge 17, 3) := by decide +kernel
theorem dX10_manyOf_10 : decode cX10_manyOf 10 = .ok (.iload_n 1, 1) := by decide +kernel
theorem dX10_manyOf_11 : decode cX10_manyOf 11 = .ok (.iload_n 0, 1) := by decide +kernel
theorem dX10_manyOf_12 : decode cX10_manyOf 12 = .ok (.iload_n 2, 1) := by decide +kernel
theorem dX10_manyOf_13 : decode cX10_manyOf 13 = .ok (.ishr, 1) := by decide +kernel
theorem dX10_manyOf_14 : decode cX10_manyOf 14 = .ok (.iconst 1, 1) := by decide +kernel
theorem dX10_manyOf_15 : decode cX10_manyOf 15 = .ok (.iand, 1) := by decide +kernel
theorem dX10_manyOf_16 : decode cX10_manyOf 16 = .ok (.iadd, 1) := by decide +kernel
theorem dX10_manyOf_17 : decode cX10_manyOf 17 = .ok (.istore_n 1, 1) := by decide +kernel
theorem dX10_manyOf_18 : decode cX10_manyOf 18 = .ok (.iinc 2 1, 3) := by decide +kernel
theorem dX10_manyOf_21 : decode cX10_manyOf 21 = .ok (.goto (-17), 3) := by decide +kernel
theorem dX10_manyOf_24 : decode cX10_manyOf 24 = .ok (.iload_n 1, 1) := by decide +kernel
theorem dX10_manyOf_25 : decode cX10_manyOf 25 = .ok (.ireturn, 1) := by decide +kernel
def wX10_manyOf  (x0 : Int32) (post : Int32 → Prop) : Prop := ∃ n, lfix (fun (r : (Int32 × Int32) → Prop) (v2, v1) => if 12 ≤ v2 then (post v1) else (∀ v1_1 : Int32, v1_1 = v1 + ((x0 >>> (v2 &&& 31)) &&& 1) → ∀ v2_1 : Int32, v2_1 = v2 + 1 → r (v2_1, v1_1))) n (0, 0)
abbrev rmX10_manyOf : Room := { frames := 0, cells := 0, slots := 0, locals := 0 }
theorem wd_X10_manyOf : Cond.static yX10_manyOf ∈ BW ∧ Cond.initialized yX10_manyOf.cls ∈ BW ∧ Cond.code yX10_manyOf cX10_manyOf 3 (some .int) ∈ BW := ⟨mw_6_31, mw_1_11, mw_6_32⟩
set_option maxHeartbeats 4000000 in
set_option maxRecDepth 100000 in
theorem c_X10_manyOf {l : Launch} (x0 : Int32) (post : Int32 → Prop) (h : wX10_manyOf x0 post) : Met l yX10_manyOf (.code yX10_manyOf cX10_manyOf 3 (some .int) :: BW) rmX10_manyOf (va_Pc [.int x0] (fun _ => True)) (qSi post) 0 0 (fun _ => False) := by
  refine startSi (by decide) (Nat.le_of_ble_eq_true rfl) (lv := [(0, .int x0)]) rfl (fun p e s m args below meth c Q ls hx hb hml hT hown hret hl hS => ?_)
  unfold wX10_manyOf at h
  refine lv_iconst (v := 0) hx hb dX10_manyOf_0 (by decide) ?_
  refine lv_istore_n (lv' := [(1, .int 0), (0, .int x0)]) hx hb dX10_manyOf_1 rfl hl (by decide) rfl (fun ls hl => ?_)
  refine lv_iconst (v := 0) hx hb dX10_manyOf_2 (by decide) ?_
  refine lv_istore_n (lv' := [(2, .int 0), (1, .int 0), (0, .int x0)]) hx hb dX10_manyOf_3 rfl hl (by decide) rfl (fun ls hl => ?_)
  obtain ⟨F, n, h, hF, hG⟩ := lfix_ex h
  have LP : ∀ (n : Nat) (v2 : Int32) (v1 : Int32) (ls : Array Slot) (H : Heap) (locs : List Loc), F n (v2, v1) → lv_has ls 3 [(2, .int v2), (1, .int v1), (0, .int x0)] → va_S (fun _ => False) s.heap H locs → W p l e rmX10_manyOf s m args below meth c H locs 0 0 Q (F0 m 4 ls []) := by
    intro n
    induction n with
    | zero => intro v2 v1 ls H locs h _ _ _; exact absurd h (hF _)
    | succ n ih =>
      intro v2 v1 ls H locs h hl hS
      replace h := hG _ _ h
      try dsimp only at h
      refine lv_iload_n hx hb dX10_manyOf_4 rfl (lv_at hl 0 rfl) ?_
      refine lv_bipush (v := 12) hx hb dX10_manyOf_5 (by decide) ?_
      refine lv_icmp_ge (tgt := 24) hx hb dX10_manyOf_7 (by decide) (fun hc => ?_) (fun hc => ?_)
      · rw [if_pos hc] at h
        refine lv_iload_n hx hb dX10_manyOf_24 rfl (lv_at hl 1 rfl) ?_
        exact hret _ dX10_manyOf_25 h hS
      · rw [if_neg hc] at h
        refine lv_iload_n hx hb dX10_manyOf_10 rfl (lv_at hl 1 rfl) ?_
        refine lv_iload_n hx hb dX10_manyOf_11 rfl (lv_at hl 2 rfl) ?_
        refine lv_iload_n hx hb dX10_manyOf_12 rfl (lv_at hl 0 rfl) ?_
        refine lv_ishr hx hb dX10_manyOf_13 ?_
        refine lv_iconst (v := 1) hx hb dX10_manyOf_14 (by decide) ?_
        refine lv_iand hx hb dX10_manyOf_15 ?_
        refine lv_iadd hx hb dX10_manyOf_16 ?_
        refine lv_topi (fun v1_1 ev1_1 => ?_)
        replace h := h v1_1 ev1_1
        refine lv_istore_n (lv' := [(1, .int v1_1), (2, .int v2), (0, .int x0)]) hx hb dX10_manyOf_17 rfl hl (by decide) rfl (fun ls hl => ?_)
        obtain ⟨v2_1, ev2_1⟩ : ∃ z : Int32, z = v2 + 1 := ⟨_, rfl⟩
        replace h := h v2_1 ev2_1
        refine lv_iinc (v := v2_1) (lv' := [(2, .int v2_1), (1, .int v1_1), (0, .int x0)]) hx hb dX10_manyOf_18 hl (k := 1) rfl (by rw [ev2_1]; rfl) (by decide) rfl (fun ls hl => ?_)
        refine lv_goto (tgt := 4) hx hb dX10_manyOf_21 (by decide) ?_
        exact ih v2_1 v1_1 _ _ _ h (lv_sub hl [0, 1, 2] rfl) hS
  exact LP _ 0 0 _ _ _ h (lv_sub hl [0, 1, 2] rfl) hS
theorem dX10_isFirst_0 : decode cX10_isFirst 0 = .ok (.iload_n 0, 1) := by decide +kernel
theorem dX10_isFirst_1 : decode cX10_isFirst 1 = .ok (.iload_n 1, 1) := by decide +kernel
theorem dX10_isFirst_2 : decode cX10_isFirst 2 = .ok (.ixor, 1) := by decide +kernel
theorem dX10_isFirst_3 : decode cX10_isFirst 3 = .ok (.istore_n 2, 1) := by decide +kernel
theorem dX10_isFirst_4 : decode cX10_isFirst 4 = .ok (.iload_n 2, 1) := by decide +kernel
theorem dX10_isFirst_5 : decode cX10_isFirst 5 = .ok (.ifCond .eq 16, 3) := by decide +kernel
theorem dX10_isFirst_8 : decode cX10_isFirst 8 = .ok (.iload_n 0, 1) := by decide +kernel
theorem dX10_isFirst_9 : decode cX10_isFirst 9 = .ok (.iload_n 2, 1) := by decide +kernel
theorem dX10_isFirst_10 : decode cX10_isFirst 10 = .ok (.iand, 1) := by decide +kernel
theorem dX10_isFirst_11 : decode cX10_isFirst 11 = .ok (.iload_n 2, 1) := by decide +kernel
theorem dX10_isFirst_12 : decode cX10_isFirst 12 = .ok (.ineg, 1) := by decide +kernel
theorem dX10_isFirst_13 : decode cX10_isFirst 13 = .ok (.iand, 1) := by decide +kernel
theorem dX10_isFirst_14 : decode cX10_isFirst 14 = .ok (.ifCond .eq 7, 3) := by decide +kernel
theorem dX10_isFirst_17 : decode cX10_isFirst 17 = .ok (.iconst 1, 1) := by decide +kernel
theorem dX10_isFirst_18 : decode cX10_isFirst 18 = .ok (.goto 4, 3) := by decide +kernel
theorem dX10_isFirst_21 : decode cX10_isFirst 21 = .ok (.iconst 0, 1) := by decide +kernel
theorem dX10_isFirst_22 : decode cX10_isFirst 22 = .ok (.ireturn, 1) := by decide +kernel
def wX10_isFirst  (x0 : Int32) (x1 : Int32) (post : Int32 → Prop) : Prop := ∀ v2 : Int32, v2 = x0 ^^^ x1 → if v2 = 0 then (post 0) else (if ((x0 &&& v2) &&& (-v2)) = 0 then (post 0) else (post 1))
abbrev rmX10_isFirst : Room := { frames := 0, cells := 0, slots := 0, locals := 0 }
theorem wd_X10_isFirst : Cond.static yX10_isFirst ∈ BW ∧ Cond.initialized yX10_isFirst.cls ∈ BW ∧ Cond.code yX10_isFirst cX10_isFirst 3 (some .boolean) ∈ BW := ⟨mw_6_34, mw_1_11, mw_6_35⟩
set_option maxHeartbeats 4000000 in
set_option maxRecDepth 100000 in
theorem c_X10_isFirst {l : Launch} (x0 : Int32) (x1 : Int32) (post : Int32 → Prop) (h : wX10_isFirst x0 x1 post) : Met l yX10_isFirst (.code yX10_isFirst cX10_isFirst 3 (some .boolean) :: BW) rmX10_isFirst (va_Pc [.int x0, .int x1] (fun _ => True)) (qSi post) 0 0 (fun _ => False) := by
  refine startSz (by decide) (Nat.le_of_ble_eq_true rfl) (lv := [(0, .int x0), (1, .int x1)]) rfl (fun p e s m args below meth c Q ls hx hb hml hT hown hret hl hS => ?_)
  unfold wX10_isFirst at h
  refine lv_iload_n hx hb dX10_isFirst_0 rfl (lv_at hl 0 rfl) ?_
  refine lv_iload_n hx hb dX10_isFirst_1 rfl (lv_at hl 1 rfl) ?_
  refine lv_ixor hx hb dX10_isFirst_2 ?_
  refine lv_topi (fun v2 ev2 => ?_)
  replace h := h v2 ev2
  refine lv_istore_n (lv' := [(2, .int v2), (0, .int x0), (1, .int x1)]) hx hb dX10_isFirst_3 rfl hl (by decide) rfl (fun ls hl => ?_)
  refine lv_iload_n hx hb dX10_isFirst_4 rfl (lv_at hl 0 rfl) ?_
  refine lv_if_eq (tgt := 21) hx hb dX10_isFirst_5 (by decide) (fun hc => ?_) (fun hc => ?_)
  · rw [if_pos hc] at h
    refine lv_iconst (v := 0) hx hb dX10_isFirst_21 (by decide) ?_
    exact hret _ zb_0 dX10_isFirst_22 h hS
  · rw [if_neg hc] at h
    refine lv_iload_n hx hb dX10_isFirst_8 rfl (lv_at hl 1 rfl) ?_
    refine lv_iload_n hx hb dX10_isFirst_9 rfl (lv_at hl 0 rfl) ?_
    refine lv_iand hx hb dX10_isFirst_10 ?_
    refine lv_iload_n hx hb dX10_isFirst_11 rfl (lv_at hl 0 rfl) ?_
    refine lv_ineg hx hb dX10_isFirst_12 ?_
    refine lv_iand hx hb dX10_isFirst_13 ?_
    refine lv_if_eq (tgt := 21) hx hb dX10_isFirst_14 (by decide) (fun hc_1 => ?_) (fun hc_1 => ?_)
    · rw [if_pos hc_1] at h
      refine lv_iconst (v := 0) hx hb dX10_isFirst_21 (by decide) ?_
      exact hret _ zb_0 dX10_isFirst_22 h hS
    · rw [if_neg hc_1] at h
      refine lv_iconst (v := 1) hx hb dX10_isFirst_17 (by decide) ?_
      refine lv_goto (tgt := 22) hx hb dX10_isFirst_18 (by decide) ?_
      exact hret _ zb_1 dX10_isFirst_22 h hS
