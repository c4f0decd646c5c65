theorem dX10_opens_0 : decode cX10_opens 0 = .ok (.iconst 0, 1) := by decide +kernel
theorem dX10_opens_1 : decode cX10_opens 1 = .ok (.istore_n 3, 1) := by decide +kernel
theorem dX10_opens_2 : decode cX10_opens 2 = .ok (.iload_n 3, 1) := by decide +kernel
theorem dX10_opens_3 : decode cX10_opens 3 = .ok (.aload_n 0, 1) := by decide +kernel
theorem dX10_opens_4 : decode cX10_opens 4 = .ok (.getfield 67, 3) := by decide +kernel
theorem dX10_opens_7 : decode cX10_opens 7 = .ok (.if_icmp .ge 39, 3) := by decide +kernel
theorem dX10_opens_10 : decode cX10_opens 10 = .ok (.aload_n 0, 1) := by decide +kernel
theorem dX10_opens_11 : decode cX10_opens 11 = .ok (.getfield 35, 3) := by decide +kernel
theorem dX10_opens_14 : decode cX10_opens 14 = .ok (.iload_n 1, 1) := by decide +kernel
theorem dX10_opens_15 : decode cX10_opens 15 = .ok (.iload_n 3, 1) := by decide +kernel
theorem dX10_opens_16 : decode cX10_opens 16 = .ok (.iadd, 1) := by decide +kernel
theorem dX10_opens_17 : decode cX10_opens 17 = .ok (.aload_n 0, 1) := by decide +kernel
theorem dX10_opens_18 : decode cX10_opens 18 = .ok (.getfield 13, 3) := by decide +kernel
theorem dX10_opens_21 : decode cX10_opens 21 = .ok (.iload_n 3, 1) := by decide +kernel
theorem dX10_opens_22 : decode cX10_opens 22 = .ok (.iaload, 1) := by decide +kernel
theorem dX10_opens_23 : decode cX10_opens 23 = .ok (.iload_n 2, 1) := by decide +kernel
theorem dX10_opens_24 : decode cX10_opens 24 = .ok (.if_icmp .ne 7, 3) := by decide +kernel
theorem dX10_opens_27 : decode cX10_opens 27 = .ok (.iconst 0, 1) := by decide +kernel
theorem dX10_opens_28 : decode cX10_opens 28 = .ok (.goto 11, 3) := by decide +kernel
theorem dX10_opens_31 : decode cX10_opens 31 = .ok (.aload_n 0, 1) := by decide +kernel
theorem dX10_opens_32 : decode cX10_opens 32 = .ok (.getfield 35, 3) := by decide +kernel
theorem dX10_opens_35 : decode cX10_opens 35 = .ok (.iload_n 1, 1) := by decide +kernel
theorem dX10_opens_36 : decode cX10_opens 36 = .ok (.iload_n 3, 1) := by decide +kernel
theorem dX10_opens_37 : decode cX10_opens 37 = .ok (.iadd, 1) := by decide +kernel
theorem dX10_opens_38 : decode cX10_opens 38 = .ok (.iaload, 1) := by decide +kernel
theorem dX10_opens_39 : decode cX10_opens 39 = .ok (.iastore, 1) := by decide +kernel
theorem dX10_opens_40 : decode cX10_opens 40 = .ok (.iinc 3 1, 3) := by decide +kernel
theorem dX10_opens_43 : decode cX10_opens 43 = .ok (.goto (-41), 3) := by decide +kernel
theorem dX10_opens_46 : decode cX10_opens 46 = .ok (.aload_n 0, 1) := by decide +kernel
theorem dX10_opens_47 : decode cX10_opens 47 = .ok (.getfield 35, 3) := by decide +kernel
theorem dX10_opens_50 : decode cX10_opens 50 = .ok (.iload_n 1, 1) := by decide +kernel
theorem dX10_opens_51 : decode cX10_opens 51 = .ok (.bipush 40, 2) := by decide +kernel
theorem dX10_opens_53 : decode cX10_opens 53 = .ok (.iadd, 1) := by decide +kernel
theorem dX10_opens_54 : decode cX10_opens 54 = .ok (.iload_n 2, 1) := by decide +kernel
theorem dX10_opens_55 : decode cX10_opens 55 = .ok (.iadd, 1) := by decide +kernel
theorem dX10_opens_56 : decode cX10_opens 56 = .ok (.iconst 0, 1) := by decide +kernel
theorem dX10_opens_57 : decode cX10_opens 57 = .ok (.iastore, 1) := by decide +kernel
theorem dX10_opens_58 : decode cX10_opens 58 = .ok (.aload_n 0, 1) := by decide +kernel
theorem dX10_opens_59 : decode cX10_opens 59 = .ok (.getfield 35, 3) := by decide +kernel
theorem dX10_opens_62 : decode cX10_opens 62 = .ok (.iload_n 1, 1) := by decide +kernel
theorem dX10_opens_63 : decode cX10_opens 63 = .ok (.bipush 45, 2) := by decide +kernel
theorem dX10_opens_65 : decode cX10_opens 65 = .ok (.iadd, 1) := by decide +kernel
theorem dX10_opens_66 : decode cX10_opens 66 = .ok (.iload_n 2, 1) := by decide +kernel
theorem dX10_opens_67 : decode cX10_opens 67 = .ok (.iadd, 1) := by decide +kernel
theorem dX10_opens_68 : decode cX10_opens 68 = .ok (.iconst 0, 1) := by decide +kernel
theorem dX10_opens_69 : decode cX10_opens 69 = .ok (.iastore, 1) := by decide +kernel
theorem dX10_opens_70 : decode cX10_opens 70 = .ok (.return_, 1) := by decide +kernel
def wX10_opens (I : Nat → Int32) (A : Nat → Nat → Int32) (x1 : Int32) (x2 : Int32) (post : (Nat → Nat → Int32) → Prop) : Prop := ∃ n, lfix (fun (r : (Int32 × (Nat → Nat → Int32)) → Prop) (v3, A_1) => if (I 2) ≤ v3 then (vp_in ((x1 + 40) + x2) 1440 ∧ (∀ A_2, A_2 = va_up A_1 9 (upd (A_1 9) ((x1 + 40) + x2).toNatClampNeg 0) → vp_in ((x1 + 45) + x2) 1440 ∧ (∀ A_3, A_3 = va_up A_2 9 (upd (A_2 9) ((x1 + 45) + x2).toNatClampNeg 0) → post A_3))) else (vp_in v3 40 ∧ (jn (fun (t : Int32) => vp_in (x1 + v3) 1440 ∧ (∀ A_4, A_4 = va_up A_1 9 (upd (A_1 9) (x1 + v3).toNatClampNeg t) → ∀ v3_1 : Int32, v3_1 = v3 + 1 → r (v3_1, A_4))) (fun k => if (A_1 2 v3.toNatClampNeg) = x2 then (k 0) else (vp_in (x1 + v3) 1440 ∧ (k (A_1 9 (x1 + v3).toNatClampNeg))))))) n (0, A)
abbrev rmX10_opens : Room := { frames := 0, cells := 0, slots := 0, locals := 0 }
theorem wd_X10_opens : Cond.instanceMethod yX10_opens ∈ BW ∧ Cond.selects yX10_opens.cls yX10_opens yX10_opens ∈ BW ∧ Cond.initialized yX10_opens.cls ∈ BW ∧ Cond.code yX10_opens cX10_opens 4 (none : Option Jvm.ClassFile.FieldType) ∈ BW := ⟨mw_5_78, mp_31, mw_1_11, mw_5_79⟩
set_option maxHeartbeats 4000000 in
set_option maxRecDepth 100000 in
theorem c_X10_opens {l : Launch} {D : va_G} {cy : Nat → ClassId} {ad : Nat → Nat} {Ad : Nat → Prop} (hAd : adok 16 Ad ad) (I : Nat → Int32) (A : Nat → Nat → Int32) (x1 : Int32) (x2 : Int32)  (post : (Nat → Nat → Int32) → Prop) (h : wX10_opens I A x1 x2 post) : Met l yX10_opens (.code yX10_opens cX10_opens 4 (none : Option Jvm.ClassFile.FieldType) :: BW) rmX10_opens (va_Pc [.ref (ad 0), .int x1, .int x2] (fun U => kC D cy U ∧ va_P D vwCl (wM cy ad I A) U.heap)) (qMv D cy ad Ad (fun u => post u.2 ∧ I = u.1)) 0 0 Ad := by
  refine startMv (by decide) (Nat.le_of_ble_eq_true rfl) (lv := [(0, .ref (ad 0)), (1, .int x1), (2, .int x2)]) rfl (fun p e s m args below meth c Q ls hx hb hml hT hown hK hret hl hP hS => ?_)
  unfold wX10_opens at h
  refine lv_iconst (v := 0) hx hb dX10_opens_0 (by decide) ?_
  refine lv_istore_n (lv' := [(3, .int 0), (0, .ref (ad 0)), (1, .int x1), (2, .int x2)]) hx hb dX10_opens_1 rfl hl (by decide) rfl (fun ls hl => ?_)
  obtain ⟨F, n, h, hF, hG⟩ := lfix_ex h
  have LP : ∀ (n : Nat) (v3 : Int32) (A_1 : Nat → Nat → Int32) (ls : Array Slot) (H : Heap) (locs : List Loc), F n (v3, A_1) → lv_has ls 4 [(3, .int v3), (0, .ref (ad 0)), (1, .int x1), (2, .int x2)] → va_P D vwCl (wM cy ad I A_1) H → va_S Ad s.heap H locs → W p l e rmX10_opens s m args below meth c H locs 0 0 Q (F0 m 2 ls []) := by
    intro n
    induction n with
    | zero => intro v3 A_1 ls H locs h _ _ _; exact absurd h (hF _)
    | succ n ih =>
      intro v3 A_1 ls H locs h hl hP hS
      replace h := hG _ _ h
      try dsimp only at h
      refine lv_iload_n hx hb dX10_opens_2 rfl (lv_at hl 0 rfl) ?_
      refine lv_aload_n hx hb dX10_opens_3 rfl (lv_at hl 1 rfl) ?_
      refine va_get (T := TX10) hx hb hT inlX10 hown hK.1 hP 0 he_X10 rfl 2 (by decide) (hT _ mw_4_139) (fun _ h9 => h9) rfl dX10_opens_4 ?_
      refine lv_icmp_ge (tgt := 46) hx hb dX10_opens_7 (by decide) (fun hc => ?_) (fun hc => ?_)
      · rw [if_pos hc] at h
        refine lv_aload_n hx hb dX10_opens_46 rfl (lv_at hl 1 rfl) ?_
        refine va_get (T := TX10) hx hb hT inlX10 hown hK.1 hP 0 he_X10 rfl 12 (by decide) (hT _ mw_4_149) (fun _ h9 => h9) rfl dX10_opens_47 ?_
        refine lv_iload_n hx hb dX10_opens_50 rfl (lv_at hl 2 rfl) ?_
        refine lv_bipush (v := 40) hx hb dX10_opens_51 (by decide) ?_
        refine lv_iadd hx hb dX10_opens_53 ?_
        refine lv_iload_n hx hb dX10_opens_54 rfl (lv_at hl 3 rfl) ?_
        refine lv_iadd hx hb dX10_opens_55 ?_
        refine lv_iconst (v := 0) hx hb dX10_opens_56 (by decide) ?_
        obtain ⟨hi, h⟩ := h
        refine sM_I hAd hx hb hK.1 hP hS (by decide) (fun _ => rfl) hi dX10_opens_57 (fun H locs hP hS => ?_)
        obtain ⟨A_2, eA_2⟩ : ∃ z, z = va_up A_1 9 (upd (A_1 9) ((x1 + 40) + x2).toNatClampNeg 0) := ⟨_, rfl⟩
        rw [← eA_2] at hP
        replace h := h A_2 eA_2
        refine lv_aload_n hx hb dX10_opens_58 rfl (lv_at hl 1 rfl) ?_
        refine va_get (T := TX10) hx hb hT inlX10 hown hK.1 hP 0 he_X10 rfl 12 (by decide) (hT _ mw_4_149) (fun _ h9 => h9) rfl dX10_opens_59 ?_
        refine lv_iload_n hx hb dX10_opens_62 rfl (lv_at hl 2 rfl) ?_
        refine lv_bipush (v := 45) hx hb dX10_opens_63 (by decide) ?_
        refine lv_iadd hx hb dX10_opens_65 ?_
        refine lv_iload_n hx hb dX10_opens_66 rfl (lv_at hl 3 rfl) ?_
        refine lv_iadd hx hb dX10_opens_67 ?_
        refine lv_iconst (v := 0) hx hb dX10_opens_68 (by decide) ?_
        obtain ⟨hi_1, h⟩ := h
        refine sM_I hAd hx hb hK.1 hP hS (by decide) (fun _ => rfl) hi_1 dX10_opens_69 (fun H locs hP hS => ?_)
        obtain ⟨A_3, eA_3⟩ : ∃ z, z = va_up A_2 9 (upd (A_2 9) ((x1 + 45) + x2).toNatClampNeg 0) := ⟨_, rfl⟩
        rw [← eA_3] at hP
        replace h := h A_3 eA_3
        exact hret (I, A_3) dX10_opens_70 ⟨h, rfl⟩ hP hS
      · rw [if_neg hc] at h
        refine lv_aload_n hx hb dX10_opens_10 rfl (lv_at hl 1 rfl) ?_
        refine va_get (T := TX10) hx hb hT inlX10 hown hK.1 hP 0 he_X10 rfl 12 (by decide) (hT _ mw_4_149) (fun _ h9 => h9) rfl dX10_opens_11 ?_
        refine lv_iload_n hx hb dX10_opens_14 rfl (lv_at hl 2 rfl) ?_
        refine lv_iload_n hx hb dX10_opens_15 rfl (lv_at hl 0 rfl) ?_
        refine lv_iadd hx hb dX10_opens_16 ?_
        refine lv_aload_n hx hb dX10_opens_17 rfl (lv_at hl 1 rfl) ?_
        refine va_get (T := TX10) hx hb hT inlX10 hown hK.1 hP 0 he_X10 rfl 5 (by decide) (hT _ mw_4_142) (fun _ h9 => h9) rfl dX10_opens_18 ?_
        refine lv_iload_n hx hb dX10_opens_21 rfl (lv_at hl 0 rfl) ?_
        obtain ⟨hi_2, h⟩ := h
        refine lM_I hx hb hK.1 hP (by decide) rfl hi_2 dX10_opens_22 ?_
        refine lv_iload_n hx hb dX10_opens_23 rfl (lv_at hl 3 rfl) ?_
        obtain ⟨k, hk, h⟩ := jn_ex h
        try dsimp only at h
        have J : ∀ (t : Int32), k t → ∀ (ls : Array Slot) (H : Heap) (locs : List Loc), lv_has ls 4 [(3, .int v3), (0, .ref (ad 0)), (1, .int x1), (2, .int x2)] → va_P D vwCl (wM cy ad I A_1) H → va_S Ad s.heap H locs → W p l e rmX10_opens s m args below meth c H locs 0 0 Q (F0 m 39 ls [.int t, .int (x1 + v3), .ref (ad 9)]) := by
          intro t h ls H locs hl hP hS
          replace h := hk _ h
          try dsimp only at h
          obtain ⟨hi_3, h⟩ := h
          refine sM_I hAd hx hb hK.1 hP hS (by decide) (fun _ => rfl) hi_3 dX10_opens_39 (fun H locs hP hS => ?_)
          obtain ⟨A_4, eA_4⟩ : ∃ z, z = va_up A_1 9 (upd (A_1 9) (x1 + v3).toNatClampNeg t) := ⟨_, rfl⟩
          rw [← eA_4] at hP
          replace h := h A_4 eA_4
          obtain ⟨v3_1, ev3_1⟩ : ∃ z : Int32, z = v3 + 1 := ⟨_, rfl⟩
          replace h := h v3_1 ev3_1
          refine lv_iinc (v := v3_1) (lv' := [(3, .int v3_1), (0, .ref (ad 0)), (1, .int x1), (2, .int x2)]) hx hb dX10_opens_40 hl (k := 0) rfl (by rw [ev3_1]; rfl) (by decide) rfl (fun ls hl => ?_)
          refine lv_goto (tgt := 2) hx hb dX10_opens_43 (by decide) ?_
          exact ih v3_1 A_4 _ _ _ h (lv_sub hl [0, 1, 2, 3] rfl) hP hS
        refine lv_icmp_ne (tgt := 31) hx hb dX10_opens_24 (by decide) (fun hc_1 => ?_) (fun hc_1 => ?_)
        · rw [if_neg hc_1] at h
          refine lv_aload_n hx hb dX10_opens_31 rfl (lv_at hl 1 rfl) ?_
          refine va_get (T := TX10) hx hb hT inlX10 hown hK.1 hP 0 he_X10 rfl 12 (by decide) (hT _ mw_4_149) (fun _ h9 => h9) rfl dX10_opens_32 ?_
          refine lv_iload_n hx hb dX10_opens_35 rfl (lv_at hl 2 rfl) ?_
          refine lv_iload_n hx hb dX10_opens_36 rfl (lv_at hl 0 rfl) ?_
          refine lv_iadd hx hb dX10_opens_37 ?_
          obtain ⟨hi_4, h⟩ := h
          refine lM_I hx hb hK.1 hP (by decide) rfl hi_4 dX10_opens_38 ?_
          exact J (A_1 9 (x1 + v3).toNatClampNeg) h _ _ _ (lv_sub hl [0, 1, 2, 3] rfl) hP hS
        · rw [if_pos hc_1] at h
          refine lv_iconst (v := 0) hx hb dX10_opens_27 (by decide) ?_
          refine lv_goto (tgt := 39) hx hb dX10_opens_28 (by decide) ?_
          exact J 0 h _ _ _ (lv_sub hl [0, 1, 2, 3] rfl) hP hS
  exact LP _ 0 A _ _ _ h (lv_sub hl [0, 1, 2, 3] rfl) hP hS
theorem dX10_open_0 : decode cX10_open 0 = .ok (.aload_n 0, 1) := by decide +kernel
theorem dX10_open_1 : decode cX10_open 1 = .ok (.iconst 0, 1) := by decide +kernel
theorem dX10_open_2 : decode cX10_open 2 = .ok (.putfield 56, 3) := by decide +kernel
theorem dX10_open_5 : decode cX10_open 5 = .ok (.aload_n 0, 1) := by decide +kernel
theorem dX10_open_6 : decode cX10_open 6 = .ok (.iload_n 1, 1) := by decide +kernel
theorem dX10_open_7 : decode cX10_open 7 = .ok (.invokevirtual 63, 3) := by decide +kernel
theorem dX10_open_10 : decode cX10_open 10 = .ok (.ifCond .eq 12, 3) := by decide +kernel
theorem dX10_open_13 : decode cX10_open 13 = .ok (.aload_n 0, 1) := by decide +kernel
theorem dX10_open_14 : decode cX10_open 14 = .ok (.iconst 0, 1) := by decide +kernel
theorem dX10_open_15 : decode cX10_open 15 = .ok (.iload_n 1, 1) := by decide +kernel
theorem dX10_open_16 : decode cX10_open 16 = .ok (.invokevirtual 116, 3) := by decide +kernel
theorem dX10_open_19 : decode cX10_open 19 = .ok (.ifCond .eq 5, 3) := by decide +kernel
theorem dX10_open_22 : decode cX10_open 22 = .ok (.iconst 0, 1) := by decide +kernel
theorem dX10_open_23 : decode cX10_open 23 = .ok (.ireturn, 1) := by decide +kernel
theorem dX10_open_24 : decode cX10_open 24 = .ok (.aload_n 0, 1) := by decide +kernel
theorem dX10_open_25 : decode cX10_open 25 = .ok (.invokevirtual 113, 3) := by decide +kernel
theorem dX10_open_28 : decode cX10_open 28 = .ok (.aload_n 0, 1) := by decide +kernel
theorem dX10_open_29 : decode cX10_open 29 = .ok (.iconst 0, 1) := by decide +kernel
theorem dX10_open_30 : decode cX10_open 30 = .ok (.iload_n 1, 1) := by decide +kernel
theorem dX10_open_31 : decode cX10_open 31 = .ok (.invokevirtual 119, 3) := by decide +kernel
theorem dX10_open_34 : decode cX10_open 34 = .ok (.iconst 1, 1) := by decide +kernel
theorem dX10_open_35 : decode cX10_open 35 = .ok (.ireturn, 1) := by decide +kernel
def wX10_open (I : Nat → Int32) (A : Nat → Nat → Int32) (x1 : Int32) (post : Int32 → (Nat → Int32) → (Nat → Nat → Int32) → Prop) : Prop := (∀ I_1, I_1 = va_up I 0 0 → wX10_isAxis I_1 A x1 (fun r7 => if r7 = 0 then (post 0 I_1 A) else (wX10_isOpen I_1 A 0 x1 (fun r16 => if r16 = 0 then (wX10_keeps I_1 A  (fun I_2 A_1 => wX10_opens I_2 A_1 0 x1 (fun A_2 => post 1 I_2 A_2))) else (post 0 I_1 A)))))
abbrev rmX10_open : Room := { frames := 2, cells := 0, slots := 0, locals := 44 }
theorem wd_X10_open : Cond.instanceMethod yX10_open ∈ BW ∧ Cond.selects yX10_open.cls yX10_open yX10_open ∈ BW ∧ Cond.initialized yX10_open.cls ∈ BW ∧ Cond.code yX10_open cX10_open 2 (some .boolean) ∈ BW := ⟨mw_5_69, mw_5_70, mw_1_11, mw_5_71⟩
set_option maxHeartbeats 4000000 in
set_option maxRecDepth 100000 in
theorem c_X10_open {l : Launch} {D : va_G} {cy : Nat → ClassId} {ad : Nat → Nat} {Ad : Nat → Prop} (hAd : adok 16 Ad ad) (I : Nat → Int32) (A : Nat → Nat → Int32) (x1 : Int32)  (post : Int32 → (Nat → Int32) → (Nat → Nat → Int32) → Prop) (h : wX10_open I A x1 post) : Met l yX10_open (.code yX10_open cX10_open 2 (some .boolean) :: BW) rmX10_open (va_Pc [.ref (ad 0), .int x1] (fun U => kC D cy U ∧ va_P D vwCl (wM cy ad I A) U.heap)) (qMi D cy ad Ad (fun r u => post r u.1 u.2)) 0 0 Ad := by
  refine startMz (by decide) (Nat.le_of_ble_eq_true rfl) (lv := [(0, .ref (ad 0)), (1, .int x1)]) rfl (fun p e s m args below meth c Q ls hx hb hml hT hown hK hret hl hP hS => ?_)
  unfold wX10_open at h
  refine lv_aload_n hx hb dX10_open_0 rfl (lv_at hl 0 rfl) ?_
  refine lv_iconst (v := 0) hx hb dX10_open_1 (by decide) ?_
  refine pM_X10_thrown hAd hx hb hT hown hK.1 hP hS (hT _ mw_4_137) dX10_open_2 (fun H locs hP hS => ?_)
  obtain ⟨I_1, eI_1⟩ : ∃ z, z = va_up I 0 0 := ⟨_, rfl⟩
  rw [← eI_1] at hP
  replace h := h I_1 eI_1
  refine lv_aload_n hx hb dX10_open_5 rfl (lv_at hl 0 rfl) ?_
  refine lv_iload_n hx hb dX10_open_6 rfl (lv_at hl 1 rfl) ?_
  refine callMi (k := 0) (As := [.int x1]) (rest := []) (n := 1) (c_X10_isAxis hAd I_1 A x1 _ h) hx hb hT hown hK hP hS mw_4_224 wd_X10_isAxis (by decide +kernel) ⟨rfl, rfl⟩ (by decide) rfl rfl he_X10 rfl hl.1 hml rfl (Nat.le_of_ble_eq_true rfl) dX10_open_7 ⟨Nat.zero_le _, Nat.zero_le _⟩ (fun r7 u H locs h hP hS => ?_)
  obtain ⟨Iu, Au⟩ := u
  dsimp only at h hP
  obtain ⟨h, rfl, rfl⟩ := h
  try dsimp only at h
  refine lv_if_eq (tgt := 22) hx hb dX10_open_10 (by decide) (fun hc => ?_) (fun hc => ?_)
  · rw [if_pos hc] at h
    refine lv_iconst (v := 0) hx hb dX10_open_22 (by decide) ?_
    exact hret _ (I_1, A) zb_0 dX10_open_23 h hP hS
  · rw [if_neg hc] at h
    refine lv_aload_n hx hb dX10_open_13 rfl (lv_at hl 0 rfl) ?_
    refine lv_iconst (v := 0) hx hb dX10_open_14 (by decide) ?_
    refine lv_iload_n hx hb dX10_open_15 rfl (lv_at hl 1 rfl) ?_
    refine callMi (k := 0) (As := [.int 0, .int x1]) (rest := []) (n := 2) (c_X10_isOpen hAd I_1 A 0 x1 _ h) hx hb hT hown hK hP hS mw_5_72 wd_X10_isOpen (by decide +kernel) ⟨rfl, rfl⟩ (by decide) rfl rfl he_X10 rfl hl.1 hml rfl (Nat.le_of_ble_eq_true rfl) dX10_open_16 ⟨Nat.zero_le _, Nat.zero_le _⟩ (fun r16 u H locs h hP hS => ?_)
    obtain ⟨Iu_1, Au_1⟩ := u
    dsimp only at h hP
    obtain ⟨h, rfl, rfl⟩ := h
    try dsimp only at h
    refine lv_if_eq (tgt := 24) hx hb dX10_open_19 (by decide) (fun hc_1 => ?_) (fun hc_1 => ?_)
    · rw [if_pos hc_1] at h
      refine lv_aload_n hx hb dX10_open_24 rfl (lv_at hl 0 rfl) ?_
      refine callMv (k := 0) (As := []) (rest := []) (n := 0) (c_X10_keeps hAd I_1 A  _ h) hx hb hT hown hK hP hS mw_5_48 wd_X10_keeps (by decide +kernel) ⟨rfl, rfl⟩ (by decide) rfl rfl he_X10 rfl hl.1 hml rfl (Nat.le_of_ble_eq_true rfl) dX10_open_25 ⟨Nat.zero_le _, Nat.zero_le _⟩ (fun u H locs h hP hS => ?_)
      obtain ⟨I_2, A_1⟩ := u
      dsimp only at h hP
      refine lv_aload_n hx hb dX10_open_28 rfl (lv_at hl 0 rfl) ?_
      refine lv_iconst (v := 0) hx hb dX10_open_29 (by decide) ?_
      refine lv_iload_n hx hb dX10_open_30 rfl (lv_at hl 1 rfl) ?_
      refine callMv (k := 0) (As := [.int 0, .int x1]) (rest := []) (n := 2) (c_X10_opens hAd I_2 A_1 0 x1 _ h) hx hb hT hown hK hP hS mw_5_76 wd_X10_opens (by decide +kernel) ⟨rfl, rfl⟩ (by decide) rfl rfl he_X10 rfl hl.1 hml rfl (Nat.le_of_ble_eq_true rfl) dX10_open_31 ⟨Nat.zero_le _, Nat.zero_le _⟩ (fun u H locs h hP hS => ?_)
      obtain ⟨Iu_2, A_2⟩ := u
      dsimp only at h hP
      obtain ⟨h, rfl⟩ := h
      try dsimp only at h
      refine lv_iconst (v := 1) hx hb dX10_open_34 (by decide) ?_
      exact hret _ (I_2, A_2) zb_1 dX10_open_35 h hP hS
    · rw [if_neg hc_1] at h
      refine lv_iconst (v := 0) hx hb dX10_open_22 (by decide) ?_
      exact hret _ (I_1, A) zb_0 dX10_open_23 h hP hS
theorem dX10_back_0 : decode cX10_back 0 = .ok (.aload_n 0, 1) := by decide +kernel
theorem dX10_back_1 : decode cX10_back 1 = .ok (.iconst 0, 1) := by decide +kernel
theorem dX10_back_2 : decode cX10_back 2 = .ok (.putfield 56, 3) := by decide +kernel
theorem dX10_back_5 : decode cX10_back 5 = .ok (.aload_n 0, 1) := by decide +kernel
theorem dX10_back_6 : decode cX10_back 6 = .ok (.getfield 106, 3) := by decide +kernel
theorem dX10_back_9 : decode cX10_back 9 = .ok (.ifCond .ne 5, 3) := by decide +kernel
theorem dX10_back_12 : decode cX10_back 12 = .ok (.iconst 0, 1) := by decide +kernel
theorem dX10_back_13 : decode cX10_back 13 = .ok (.ireturn, 1) := by decide +kernel
theorem dX10_back_14 : decode cX10_back 14 = .ok (.aload_n 0, 1) := by decide +kernel
theorem dX10_back_15 : decode cX10_back 15 = .ok (.dup, 1) := by decide +kernel
theorem dX10_back_16 : decode cX10_back 16 = .ok (.getfield 106, 3) := by decide +kernel
theorem dX10_back_19 : decode cX10_back 19 = .ok (.iconst 1, 1) := by decide +kernel
theorem dX10_back_20 : decode cX10_back 20 = .ok (.isub, 1) := by decide +kernel
theorem dX10_back_21 : decode cX10_back 21 = .ok (.putfield 106, 3) := by decide +kernel
theorem dX10_back_24 : decode cX10_back 24 = .ok (.aload_n 0, 1) := by decide +kernel
theorem dX10_back_25 : decode cX10_back 25 = .ok (.bipush 80, 2) := by decide +kernel
theorem dX10_back_27 : decode cX10_back 27 = .ok (.bipush 80, 2) := by decide +kernel
theorem dX10_back_29 : decode cX10_back 29 = .ok (.aload_n 0, 1) := by decide +kernel
theorem dX10_back_30 : decode cX10_back 30 = .ok (.getfield 106, 3) := by decide +kernel
theorem dX10_back_33 : decode cX10_back 33 = .ok (.imul, 1) := by decide +kernel
theorem dX10_back_34 : decode cX10_back 34 = .ok (.iadd, 1) := by decide +kernel
theorem dX10_back_35 : decode cX10_back 35 = .ok (.iconst 0, 1) := by decide +kernel
theorem dX10_back_36 : decode cX10_back 36 = .ok (.invokevirtual 109, 3) := by decide +kernel
theorem dX10_back_39 : decode cX10_back 39 = .ok (.iconst 1, 1) := by decide +kernel
theorem dX10_back_40 : decode cX10_back 40 = .ok (.ireturn, 1) := by decide +kernel
def wX10_back (I : Nat → Int32) (A : Nat → Nat → Int32)  (post : Int32 → (Nat → Int32) → (Nat → Nat → Int32) → Prop) : Prop := (∀ I_1, I_1 = va_up I 0 0 → if (I_1 4) = 0 then (post 0 I_1 A) else ((∀ I_2, I_2 = va_up I_1 4 ((I_1 4) - 1) → wX10_copies I_2 A (80 + (80 * (I_2 4))) 0 (fun A_1 => post 1 I_2 A_1))))
abbrev rmX10_back : Room := { frames := 1, cells := 0, slots := 0, locals := 23 }
theorem wd_X10_back : Cond.instanceMethod yX10_back ∈ BW ∧ Cond.selects yX10_back.cls yX10_back yX10_back ∈ BW ∧ Cond.initialized yX10_back.cls ∈ BW ∧ Cond.code yX10_back cX10_back 1 (some .boolean) ∈ BW := ⟨mw_5_81, mw_5_82, mw_1_11, mw_5_83⟩
set_option maxHeartbeats 4000000 in
set_option maxRecDepth 100000 in
theorem c_X10_back {l : Launch} {D : va_G} {cy : Nat → ClassId} {ad : Nat → Nat} {Ad : Nat → Prop} (hAd : adok 16 Ad ad) (I : Nat → Int32) (A : Nat → Nat → Int32)   (post : Int32 → (Nat → Int32) → (Nat → Nat → Int32) → Prop) (h : wX10_back I A  post) : Met l yX10_back (.code yX10_back cX10_back 1 (some .boolean) :: BW) rmX10_back (va_Pc [.ref (ad 0)] (fun U => kC D cy U ∧ va_P D vwCl (wM cy ad I A) U.heap)) (qMi D cy ad Ad (fun r u => post r u.1 u.2)) 0 0 Ad := by
  refine startMz (by decide) (Nat.le_of_ble_eq_true rfl) (lv := [(0, .ref (ad 0))]) rfl (fun p e s m args below meth c Q ls hx hb hml hT hown hK hret hl hP hS => ?_)
  unfold wX10_back at h
  refine lv_aload_n hx hb dX10_back_0 rfl (lv_at hl 0 rfl) ?_
  refine lv_iconst (v := 0) hx hb dX10_back_1 (by decide) ?_
  refine pM_X10_thrown hAd hx hb hT hown hK.1 hP hS (hT _ mw_4_137) dX10_back_2 (fun H locs hP hS => ?_)
  obtain ⟨I_1, eI_1⟩ : ∃ z, z = va_up I 0 0 := ⟨_, rfl⟩
  rw [← eI_1] at hP
  replace h := h I_1 eI_1
  refine lv_aload_n hx hb dX10_back_5 rfl (lv_at hl 0 rfl) ?_
  refine va_get (T := TX10) hx hb hT inlX10 hown hK.1 hP 0 he_X10 rfl 13 (by decide) (hT _ mw_4_150) (fun _ h9 => h9) rfl dX10_back_6 ?_
  refine lv_if_ne (tgt := 14) hx hb dX10_back_9 (by decide) (fun hc => ?_) (fun hc => ?_)
  · rw [if_neg hc] at h
    refine lv_aload_n hx hb dX10_back_14 rfl (lv_at hl 0 rfl) ?_
    refine lv_dup hx hb dX10_back_15 rfl ?_
    refine va_get (T := TX10) hx hb hT inlX10 hown hK.1 hP 0 he_X10 rfl 13 (by decide) (hT _ mw_4_150) (fun _ h9 => h9) rfl dX10_back_16 ?_
    refine lv_iconst (v := 1) hx hb dX10_back_19 (by decide) ?_
    refine lv_isub hx hb dX10_back_20 ?_
    refine pM_X10_backs hAd hx hb hT hown hK.1 hP hS (hT _ mw_4_150) dX10_back_21 (fun H locs hP hS => ?_)
    obtain ⟨I_2, eI_2⟩ : ∃ z, z = va_up I_1 4 ((I_1 4) - 1) := ⟨_, rfl⟩
    rw [← eI_2] at hP
    replace h := h I_2 eI_2
    refine lv_aload_n hx hb dX10_back_24 rfl (lv_at hl 0 rfl) ?_
    refine lv_bipush (v := 80) hx hb dX10_back_25 (by decide) ?_
    refine lv_bipush (v := 80) hx hb dX10_back_27 (by decide) ?_
    refine lv_aload_n hx hb dX10_back_29 rfl (lv_at hl 0 rfl) ?_
    refine va_get (T := TX10) hx hb hT inlX10 hown hK.1 hP 0 he_X10 rfl 13 (by decide) (hT _ mw_4_150) (fun _ h9 => h9) rfl dX10_back_30 ?_
    refine lv_imul hx hb dX10_back_33 ?_
    refine lv_iadd hx hb dX10_back_34 ?_
    refine lv_iconst (v := 0) hx hb dX10_back_35 (by decide) ?_
    refine callMv (k := 0) (As := [.int (80 + (80 * (I_2 4))), .int 0]) (rest := []) (n := 2) (c_X10_copies hAd I_2 A (80 + (80 * (I_2 4))) 0 _ h) hx hb hT hown hK hP hS mw_5_52 wd_X10_copies (by decide +kernel) ⟨rfl, rfl⟩ (by decide) rfl rfl he_X10 rfl hl.1 hml rfl (Nat.le_of_ble_eq_true rfl) dX10_back_36 ⟨Nat.zero_le _, Nat.zero_le _⟩ (fun u H locs h hP hS => ?_)
    obtain ⟨Iu, A_1⟩ := u
    dsimp only at h hP
    obtain ⟨h, rfl⟩ := h
    try dsimp only at h
    refine lv_iconst (v := 1) hx hb dX10_back_39 (by decide) ?_
    exact hret _ (I_2, A_1) zb_1 dX10_back_40 h hP hS
  · rw [if_pos hc] at h
    refine lv_iconst (v := 0) hx hb dX10_back_12 (by decide) ?_
    exact hret _ (I_1, A) zb_0 dX10_back_13 h hP hS
theorem dX10_hasIt_0 : decode cX10_hasIt 0 = .ok (.aload_n 0, 1) := by decide +kernel
theorem dX10_hasIt_1 : decode cX10_hasIt 1 = .ok (.getfield 38, 3) := by decide +kernel
theorem dX10_hasIt_4 : decode cX10_hasIt 4 = .ok (.bipush 40, 2) := by decide +kernel
theorem dX10_hasIt_6 : decode cX10_hasIt 6 = .ok (.iload_n 1, 1) := by decide +kernel
theorem dX10_hasIt_7 : decode cX10_hasIt 7 = .ok (.imul, 1) := by decide +kernel
theorem dX10_hasIt_8 : decode cX10_hasIt 8 = .ok (.iload_n 2, 1) := by decide +kernel
theorem dX10_hasIt_9 : decode cX10_hasIt 9 = .ok (.iadd, 1) := by decide +kernel
theorem dX10_hasIt_10 : decode cX10_hasIt 10 = .ok (.baload, 1) := by decide +kernel
theorem dX10_hasIt_11 : decode cX10_hasIt 11 = .ok (.ireturn, 1) := by decide +kernel
def wX10_hasIt (I : Nat → Int32) (A : Nat → Nat → Int32) (x1 : Int32) (x2 : Int32) (post : Int32 → Prop) : Prop := vp_in ((40 * x1) + x2) 1600 ∧ (zb (A 10 ((40 * x1) + x2).toNatClampNeg) ∧ post (A 10 ((40 * x1) + x2).toNatClampNeg))
abbrev rmX10_hasIt : Room := { frames := 0, cells := 0, slots := 0, locals := 0 }
theorem wd_X10_hasIt : Cond.instanceMethod yX10_hasIt ∈ BW ∧ Cond.selects yX10_hasIt.cls yX10_hasIt yX10_hasIt ∈ BW ∧ Cond.initialized yX10_hasIt.cls ∈ BW ∧ Cond.code yX10_hasIt cX10_hasIt 3 (some .boolean) ∈ BW := ⟨mw_5_102, mp_34, mw_1_11, mw_5_103⟩
set_option maxHeartbeats 4000000 in
set_option maxRecDepth 100000 in
theorem c_X10_hasIt {l : Launch} {D : va_G} {cy : Nat → ClassId} {ad : Nat → Nat} {Ad : Nat → Prop} (hAd : adok 16 Ad ad) (I : Nat → Int32) (A : Nat → Nat → Int32) (x1 : Int32) (x2 : Int32)  (post : Int32 → Prop) (h : wX10_hasIt I A x1 x2 post) : Met l yX10_hasIt (.code yX10_hasIt cX10_hasIt 3 (some .boolean) :: BW) rmX10_hasIt (va_Pc [.ref (ad 0), .int x1, .int x2] (fun U => kC D cy U ∧ va_P D vwCl (wM cy ad I A) U.heap)) (qMi D cy ad Ad (fun r u => post r  ∧ I = u.1 ∧ A = u.2)) 0 0 Ad := by
  refine startMz (by decide) (Nat.le_of_ble_eq_true rfl) (lv := [(0, .ref (ad 0)), (1, .int x1), (2, .int x2)]) rfl (fun p e s m args below meth c Q ls hx hb hml hT hown hK hret hl hP hS => ?_)
  unfold wX10_hasIt at h
  refine lv_aload_n hx hb dX10_hasIt_0 rfl (lv_at hl 0 rfl) ?_
  refine va_get (T := TX10) hx hb hT inlX10 hown hK.1 hP 0 he_X10 rfl 14 (by decide) (hT _ mw_4_151) (fun _ h9 => h9) rfl dX10_hasIt_1 ?_
  refine lv_bipush (v := 40) hx hb dX10_hasIt_4 (by decide) ?_
  refine lv_iload_n hx hb dX10_hasIt_6 rfl (lv_at hl 1 rfl) ?_
  refine lv_imul hx hb dX10_hasIt_7 ?_
  refine lv_iload_n hx hb dX10_hasIt_8 rfl (lv_at hl 2 rfl) ?_
  refine lv_iadd hx hb dX10_hasIt_9 ?_
  obtain ⟨hi, h⟩ := h
  refine lM_Z hx hb hK.1 hP (by decide) rfl hi dX10_hasIt_10 ?_
  obtain ⟨hz, h⟩ := h
  exact hret _ (I, A) hz dX10_hasIt_11 ⟨h, rfl, rfl⟩ hP hS
theorem dX10_isMissing_0 : decode cX10_isMissing 0 = .ok (.aload_n 0, 1) := by decide +kernel
theorem dX10_isMissing_1 : decode cX10_isMissing 1 = .ok (.getfield 7, 3) := by decide +kernel
theorem dX10_isMissing_4 : decode cX10_isMissing 4 = .ok (.iload_n 2, 1) := by decide +kernel
theorem dX10_isMissing_5 : decode cX10_isMissing 5 = .ok (.iaload, 1) := by decide +kernel
theorem dX10_isMissing_6 : decode cX10_isMissing 6 = .ok (.iconst 2, 1) := by decide +kernel
theorem dX10_isMissing_7 : decode cX10_isMissing 7 = .ok (.if_icmp .ne 16, 3) := by decide +kernel
theorem dX10_isMissing_10 : decode cX10_isMissing 10 = .ok (.aload_n 0, 1) := by decide +kernel
theorem dX10_isMissing_11 : decode cX10_isMissing 11 = .ok (.getfield 32, 3) := by decide +kernel
theorem dX10_isMissing_14 : decode cX10_isMissing 14 = .ok (.iconst 5, 1) := by decide +kernel
theorem dX10_isMissing_15 : decode cX10_isMissing 15 = .ok (.iload_n 1, 1) := by decide +kernel
theorem dX10_isMissing_16 : decode cX10_isMissing 16 = .ok (.imul, 1) := by decide +kernel
theorem dX10_isMissing_17 : decode cX10_isMissing 17 = .ok (.iload_n 2, 1) := by decide +kernel
theorem dX10_isMissing_18 : decode cX10_isMissing 18 = .ok (.iadd, 1) := by decide +kernel
theorem dX10_isMissing_19 : decode cX10_isMissing 19 = .ok (.baload, 1) := by decide +kernel
theorem dX10_isMissing_20 : decode cX10_isMissing 20 = .ok (.ifCond .ne 7, 3) := by decide +kernel
theorem dX10_isMissing_23 : decode cX10_isMissing 23 = .ok (.iconst 1, 1) := by decide +kernel
theorem dX10_isMissing_24 : decode cX10_isMissing 24 = .ok (.goto 4, 3) := by decide +kernel
theorem dX10_isMissing_27 : decode cX10_isMissing 27 = .ok (.iconst 0, 1) := by decide +kernel
theorem dX10_isMissing_28 : decode cX10_isMissing 28 = .ok (.istore_n 3, 1) := by decide +kernel
theorem dX10_isMissing_29 : decode cX10_isMissing 29 = .ok (.iconst 0, 1) := by decide +kernel
theorem dX10_isMissing_30 : decode cX10_isMissing 30 = .ok (.istore 4, 2) := by decide +kernel
theorem dX10_isMissing_32 : decode cX10_isMissing 32 = .ok (.iload 4, 2) := by decide +kernel
theorem dX10_isMissing_34 : decode cX10_isMissing 34 = .ok (.aload_n 0, 1) := by decide +kernel
theorem dX10_isMissing_35 : decode cX10_isMissing 35 = .ok (.getfield 67, 3) := by decide +kernel
theorem dX10_isMissing_38 : decode cX10_isMissing 38 = .ok (.if_icmp .ge 45, 3) := by decide +kernel
theorem dX10_isMissing_41 : decode cX10_isMissing 41 = .ok (.iload_n 3, 1) := by decide +kernel
theorem dX10_isMissing_42 : decode cX10_isMissing 42 = .ok (.ifCond .eq 33, 3) := by decide +kernel
theorem dX10_isMissing_45 : decode cX10_isMissing 45 = .ok (.aload_n 0, 1) := by decide +kernel
theorem dX10_isMissing_46 : decode cX10_isMissing 46 = .ok (.getfield 13, 3) := by decide +kernel
theorem dX10_isMissing_49 : decode cX10_isMissing 49 = .ok (.iload 4, 2) := by decide +kernel
theorem dX10_isMissing_51 : decode cX10_isMissing 51 = .ok (.iaload, 1) := by decide +kernel
theorem dX10_isMissing_52 : decode cX10_isMissing 52 = .ok (.iload_n 2, 1) := by decide +kernel
theorem dX10_isMissing_53 : decode cX10_isMissing 53 = .ok (.if_icmp .ne 18, 3) := by decide +kernel
theorem dX10_isMissing_56 : decode cX10_isMissing 56 = .ok (.aload_n 0, 1) := by decide +kernel
theorem dX10_isMissing_57 : decode cX10_isMissing 57 = .ok (.getfield 26, 3) := by decide +kernel
theorem dX10_isMissing_60 : decode cX10_isMissing 60 = .ok (.bipush 40, 2) := by decide +kernel
theorem dX10_isMissing_62 : decode cX10_isMissing 62 = .ok (.iload_n 1, 1) := by decide +kernel
theorem dX10_isMissing_63 : decode cX10_isMissing 63 = .ok (.imul, 1) := by decide +kernel
theorem dX10_isMissing_64 : decode cX10_isMissing 64 = .ok (.iload 4, 2) := by decide +kernel
theorem dX10_isMissing_66 : decode cX10_isMissing 66 = .ok (.iadd, 1) := by decide +kernel
theorem dX10_isMissing_67 : decode cX10_isMissing 67 = .ok (.baload, 1) := by decide +kernel
theorem dX10_isMissing_68 : decode cX10_isMissing 68 = .ok (.ifCond .ne 7, 3) := by decide +kernel
theorem dX10_isMissing_71 : decode cX10_isMissing 71 = .ok (.iconst 1, 1) := by decide +kernel
theorem dX10_isMissing_72 : decode cX10_isMissing 72 = .ok (.goto 4, 3) := by decide +kernel
theorem dX10_isMissing_75 : decode cX10_isMissing 75 = .ok (.iconst 0, 1) := by decide +kernel
theorem dX10_isMissing_76 : decode cX10_isMissing 76 = .ok (.istore_n 3, 1) := by decide +kernel
theorem dX10_isMissing_77 : decode cX10_isMissing 77 = .ok (.iinc 4 1, 3) := by decide +kernel
theorem dX10_isMissing_80 : decode cX10_isMissing 80 = .ok (.goto (-48), 3) := by decide +kernel
theorem dX10_isMissing_83 : decode cX10_isMissing 83 = .ok (.iload_n 3, 1) := by decide +kernel
theorem dX10_isMissing_84 : decode cX10_isMissing 84 = .ok (.ireturn, 1) := by decide +kernel
def wX10_isMissing (I : Nat → Int32) (A : Nat → Nat → Int32) (x1 : Int32) (x2 : Int32) (post : Int32 → Prop) : Prop := vp_in x2 5 ∧ (jn (fun (t : Int32) => ∃ n, lfix (fun (r : (Int32 × Int32) → Prop) (v4, v3) => if (I 2) ≤ v4 then (zb v3 ∧ post v3) else (jn (fun (t_1 : Int32) => ∀ v4_1 : Int32, v4_1 = v4 + 1 → r (v4_1, t_1)) (fun k_1 => jn (fun (_ : Unit) => k_1 0) (fun k_2 => if v3 = 0 then (k_2 ()) else (vp_in v4 40 ∧ (jn (fun (_ : Unit) => k_1 1) (fun k_3 => if (A 2 v4.toNatClampNeg) = x2 then (vp_in ((40 * x1) + v4) 1600 ∧ (if (A 6 ((40 * x1) + v4).toNatClampNeg) = 0 then (k_3 ()) else (k_2 ()))) else (k_3 ())))))))) n (0, t)) (fun k => jn (fun (_ : Unit) => k 1) (fun k_4 => if (A 1 x2.toNatClampNeg) = 2 then (vp_in ((5 * x1) + x2) 200 ∧ (if (A 8 ((5 * x1) + x2).toNatClampNeg) = 0 then (k_4 ()) else (k 0))) else (k_4 ()))))
abbrev rmX10_isMissing : Room := { frames := 0, cells := 0, slots := 0, locals := 0 }
theorem wd_X10_isMissing : Cond.instanceMethod yX10_isMissing ∈ BW ∧ Cond.selects yX10_isMissing.cls yX10_isMissing yX10_isMissing ∈ BW ∧ Cond.initialized yX10_isMissing.cls ∈ BW ∧ Cond.code yX10_isMissing cX10_isMissing 5 (some .boolean) ∈ BW := ⟨mw_5_106, mp_35, mw_1_11, mw_5_107⟩
set_option maxHeartbeats 4000000 in
set_option maxRecDepth 100000 in
theorem c_X10_isMissing {l : Launch} {D : va_G} {cy : Nat → ClassId} {ad : Nat → Nat} {Ad : Nat → Prop} (hAd : adok 16 Ad ad) (I : Nat → Int32) (A : Nat → Nat → Int32) (x1 : Int32) (x2 : Int32)  (post : Int32 → Prop) (h : wX10_isMissing I A x1 x2 post) : Met l yX10_isMissing (.code yX10_isMissing cX10_isMissing 5 (some .boolean) :: BW) rmX10_isMissing (va_Pc [.ref (ad 0), .int x1, .int x2] (fun U => kC D cy U ∧ va_P D vwCl (wM cy ad I A) U.heap)) (qMi D cy ad Ad (fun r u => post r  ∧ I = u.1 ∧ A = u.2)) 0 0 Ad := by
  refine startMz (by decide) (Nat.le_of_ble_eq_true rfl) (lv := [(0, .ref (ad 0)), (1, .int x1), (2, .int x2)]) rfl (fun p e s m args below meth c Q ls hx hb hml hT hown hK hret hl hP hS => ?_)
  unfold wX10_isMissing at h
  refine lv_aload_n hx hb dX10_isMissing_0 rfl (lv_at hl 0 rfl) ?_
  refine va_get (T := TX10) hx hb hT inlX10 hown hK.1 hP 0 he_X10 rfl 4 (by decide) (hT _ mw_4_141) (fun _ h9 => h9) rfl dX10_isMissing_1 ?_
  refine lv_iload_n hx hb dX10_isMissing_4 rfl (lv_at hl 2 rfl) ?_
  obtain ⟨hi, h⟩ := h
  refine lM_I hx hb hK.1 hP (by decide) rfl hi dX10_isMissing_5 ?_
  refine lv_iconst (v := 2) hx hb dX10_isMissing_6 (by decide) ?_
  obtain ⟨k, hk, h⟩ := jn_ex h
  try dsimp only at h
  have J : ∀ (t : Int32), k t → ∀ (ls : Array Slot) (H : Heap) (locs : List Loc), lv_has ls 5 [(0, .ref (ad 0)), (1, .int x1), (2, .int x2)] → va_P D vwCl (wM cy ad I A) H → va_S Ad s.heap H locs → W p l e rmX10_isMissing s m args below meth c H locs 0 0 Q (F0 m 28 ls [.int t]) := by
    intro t h ls H locs hl hP hS
    replace h := hk _ h
    try dsimp only at h
    refine lv_istore_n (lv' := [(3, .int t), (0, .ref (ad 0)), (1, .int x1), (2, .int x2)]) hx hb dX10_isMissing_28 rfl hl (by decide) rfl (fun ls hl => ?_)
    refine lv_iconst (v := 0) hx hb dX10_isMissing_29 (by decide) ?_
    refine lv_istore (lv' := [(4, .int 0), (3, .int t), (0, .ref (ad 0)), (1, .int x1), (2, .int x2)]) hx hb dX10_isMissing_30 hl (by decide) rfl (fun ls hl => ?_)
    obtain ⟨F, n, h, hF, hG⟩ := lfix_ex h
    have LP : ∀ (n : Nat) (v4 : Int32) (v3 : Int32) (ls : Array Slot) (H : Heap) (locs : List Loc), F n (v4, v3) → lv_has ls 5 [(4, .int v4), (3, .int v3), (0, .ref (ad 0)), (1, .int x1), (2, .int x2)] → va_P D vwCl (wM cy ad I A) H → va_S Ad s.heap H locs → W p l e rmX10_isMissing s m args below meth c H locs 0 0 Q (F0 m 32 ls []) := by
      intro n
      induction n with
      | zero => intro v4 v3 ls H locs h _ _ _; exact absurd h (hF _)
      | succ n ih =>
        intro v4 v3 ls H locs h hl hP hS
        replace h := hG _ _ h
        try dsimp only at h
        refine lv_iload hx hb dX10_isMissing_32 (lv_at hl 0 rfl) ?_
        refine lv_aload_n hx hb dX10_isMissing_34 rfl (lv_at hl 2 rfl) ?_
        refine va_get (T := TX10) hx hb hT inlX10 hown hK.1 hP 0 he_X10 rfl 2 (by decide) (hT _ mw_4_139) (fun _ h9 => h9) rfl dX10_isMissing_35 ?_
        refine lv_icmp_ge (tgt := 83) hx hb dX10_isMissing_38 (by decide) (fun hc => ?_) (fun hc => ?_)
        · rw [if_pos hc] at h
          refine lv_iload_n hx hb dX10_isMissing_83 rfl (lv_at hl 1 rfl) ?_
          obtain ⟨hz, h⟩ := h
          exact hret _ (I, A) hz dX10_isMissing_84 ⟨h, rfl, rfl⟩ hP hS
        · rw [if_neg hc] at h
          refine lv_iload_n hx hb dX10_isMissing_41 rfl (lv_at hl 1 rfl) ?_
          obtain ⟨k_1, hk_1, h⟩ := jn_ex h
          try dsimp only at h
          have J_1 : ∀ (t_1 : Int32), k_1 t_1 → ∀ (ls : Array Slot) (H : Heap) (locs : List Loc), lv_has ls 5 [(4, .int v4), (0, .ref (ad 0)), (1, .int x1), (2, .int x2)] → va_P D vwCl (wM cy ad I A) H → va_S Ad s.heap H locs → W p l e rmX10_isMissing s m args below meth c H locs 0 0 Q (F0 m 76 ls [.int t_1]) := by
            intro t_1 h ls H locs hl hP hS
            replace h := hk_1 _ h
            try dsimp only at h
            refine lv_istore_n (lv' := [(3, .int t_1), (4, .int v4), (0, .ref (ad 0)), (1, .int x1), (2, .int x2)]) hx hb dX10_isMissing_76 rfl hl (by decide) rfl (fun ls hl => ?_)
            obtain ⟨v4_1, ev4_1⟩ : ∃ z : Int32, z = v4 + 1 := ⟨_, rfl⟩
            replace h := h v4_1 ev4_1
            refine lv_iinc (v := v4_1) (lv' := [(4, .int v4_1), (3, .int t_1), (0, .ref (ad 0)), (1, .int x1), (2, .int x2)]) hx hb dX10_isMissing_77 hl (k := 1) rfl (by rw [ev4_1]; rfl) (by decide) rfl (fun ls hl => ?_)
            refine lv_goto (tgt := 32) hx hb dX10_isMissing_80 (by decide) ?_
            exact ih v4_1 t_1 _ _ _ h (lv_sub hl [0, 1, 2, 3, 4] rfl) hP hS
          obtain ⟨k_2, hk_2, h⟩ := jn_ex h
          try dsimp only at h
          have J_2 : k_2 () → ∀ (ls : Array Slot) (H : Heap) (locs : List Loc), lv_has ls 5 [(4, .int v4), (0, .ref (ad 0)), (1, .int x1), (2, .int x2)] → va_P D vwCl (wM cy ad I A) H → va_S Ad s.heap H locs → W p l e rmX10_isMissing s m args below meth c H locs 0 0 Q (F0 m 75 ls []) := by
            intro  h ls H locs hl hP hS
            replace h := hk_2 _ h
            try dsimp only at h
            refine lv_iconst (v := 0) hx hb dX10_isMissing_75 (by decide) ?_
            exact J_1 0 h _ _ _ (lv_sub hl [0, 1, 2, 3] rfl) hP hS
          refine lv_if_eq (tgt := 75) hx hb dX10_isMissing_42 (by decide) (fun hc_1 => ?_) (fun hc_1 => ?_)
          · rw [if_pos hc_1] at h
            exact J_2  h _ _ _ (lv_sub hl [0, 2, 3, 4] rfl) hP hS
          · rw [if_neg hc_1] at h
            refine lv_aload_n hx hb dX10_isMissing_45 rfl (lv_at hl 2 rfl) ?_
            refine va_get (T := TX10) hx hb hT inlX10 hown hK.1 hP 0 he_X10 rfl 5 (by decide) (hT _ mw_4_142) (fun _ h9 => h9) rfl dX10_isMissing_46 ?_
            refine lv_iload hx hb dX10_isMissing_49 (lv_at hl 0 rfl) ?_
            obtain ⟨hi_1, h⟩ := h
            refine lM_I hx hb hK.1 hP (by decide) rfl hi_1 dX10_isMissing_51 ?_
            refine lv_iload_n hx hb dX10_isMissing_52 rfl (lv_at hl 4 rfl) ?_
            obtain ⟨k_3, hk_3, h⟩ := jn_ex h
            try dsimp only at h
            have J_3 : k_3 () → ∀ (ls : Array Slot) (H : Heap) (locs : List Loc), lv_has ls 5 [(4, .int v4), (0, .ref (ad 0)), (1, .int x1), (2, .int x2)] → va_P D vwCl (wM cy ad I A) H → va_S Ad s.heap H locs → W p l e rmX10_isMissing s m args below meth c H locs 0 0 Q (F0 m 71 ls []) := by
              intro  h ls H locs hl hP hS
              replace h := hk_3 _ h
              try dsimp only at h
              refine lv_iconst (v := 1) hx hb dX10_isMissing_71 (by decide) ?_
              refine lv_goto (tgt := 76) hx hb dX10_isMissing_72 (by decide) ?_
              exact J_1 1 h _ _ _ (lv_sub hl [0, 1, 2, 3] rfl) hP hS
            refine lv_icmp_ne (tgt := 71) hx hb dX10_isMissing_53 (by decide) (fun hc_2 => ?_) (fun hc_2 => ?_)
            · rw [if_neg hc_2] at h
              exact J_3  h _ _ _ (lv_sub hl [0, 2, 3, 4] rfl) hP hS
            · rw [if_pos hc_2] at h
              refine lv_aload_n hx hb dX10_isMissing_56 rfl (lv_at hl 2 rfl) ?_
              refine va_get (T := TX10) hx hb hT inlX10 hown hK.1 hP 0 he_X10 rfl 9 (by decide) (hT _ mw_4_146) (fun _ h9 => h9) rfl dX10_isMissing_57 ?_
              refine lv_bipush (v := 40) hx hb dX10_isMissing_60 (by decide) ?_
              refine lv_iload_n hx hb dX10_isMissing_62 rfl (lv_at hl 3 rfl) ?_
              refine lv_imul hx hb dX10_isMissing_63 ?_
              refine lv_iload hx hb dX10_isMissing_64 (lv_at hl 0 rfl) ?_
              refine lv_iadd hx hb dX10_isMissing_66 ?_
              obtain ⟨hi_2, h⟩ := h
              refine lM_Z hx hb hK.1 hP (by decide) rfl hi_2 dX10_isMissing_67 ?_
              refine lv_if_ne (tgt := 75) hx hb dX10_isMissing_68 (by decide) (fun hc_3 => ?_) (fun hc_3 => ?_)
              · rw [if_neg hc_3] at h
                exact J_2  h _ _ _ (lv_sub hl [0, 2, 3, 4] rfl) hP hS
              · rw [if_pos hc_3] at h
                exact J_3  h _ _ _ (lv_sub hl [0, 2, 3, 4] rfl) hP hS
    exact LP _ 0 t _ _ _ h (lv_sub hl [0, 1, 2, 3, 4] rfl) hP hS
  obtain ⟨k_4, hk_4, h⟩ := jn_ex h
  try dsimp only at h
  have J_4 : k_4 () → ∀ (ls : Array Slot) (H : Heap) (locs : List Loc), lv_has ls 5 [(0, .ref (ad 0)), (1, .int x1), (2, .int x2)] → va_P D vwCl (wM cy ad I A) H → va_S Ad s.heap H locs → W p l e rmX10_isMissing s m args below meth c H locs 0 0 Q (F0 m 23 ls []) := by
    intro  h ls H locs hl hP hS
    replace h := hk_4 _ h
    try dsimp only at h
    refine lv_iconst (v := 1) hx hb dX10_isMissing_23 (by decide) ?_
    refine lv_goto (tgt := 28) hx hb dX10_isMissing_24 (by decide) ?_
    exact J 1 h _ _ _ (lv_sub hl [0, 1, 2] rfl) hP hS
  refine lv_icmp_ne (tgt := 23) hx hb dX10_isMissing_7 (by decide) (fun hc_4 => ?_) (fun hc_4 => ?_)
  · rw [if_neg hc_4] at h
    exact J_4  h _ _ _ (lv_sub hl [0, 1, 2] rfl) hP hS
  · rw [if_pos hc_4] at h
    refine lv_aload_n hx hb dX10_isMissing_10 rfl (lv_at hl 0 rfl) ?_
    refine va_get (T := TX10) hx hb hT inlX10 hown hK.1 hP 0 he_X10 rfl 11 (by decide) (hT _ mw_4_148) (fun _ h9 => h9) rfl dX10_isMissing_11 ?_
    refine lv_iconst (v := 5) hx hb dX10_isMissing_14 (by decide) ?_
    refine lv_iload_n hx hb dX10_isMissing_15 rfl (lv_at hl 1 rfl) ?_
    refine lv_imul hx hb dX10_isMissing_16 ?_
    refine lv_iload_n hx hb dX10_isMissing_17 rfl (lv_at hl 2 rfl) ?_
    refine lv_iadd hx hb dX10_isMissing_18 ?_
    obtain ⟨hi_3, h⟩ := h
    refine lM_Z hx hb hK.1 hP (by decide) rfl hi_3 dX10_isMissing_19 ?_
    refine lv_if_ne (tgt := 27) hx hb dX10_isMissing_20 (by decide) (fun hc_5 => ?_) (fun hc_5 => ?_)
    · rw [if_neg hc_5] at h
      refine lv_iconst (v := 0) hx hb dX10_isMissing_27 (by decide) ?_
      exact J 0 h _ _ _ (lv_sub hl [0, 1, 2] rfl) hP hS
    · rw [if_pos hc_5] at h
      exact J_4  h _ _ _ (lv_sub hl [0, 1, 2] rfl) hP hS
theorem dX10_isRanged_0 : decode cX10_isRanged 0 = .ok (.iconst 0, 1) := by decide +kernel
theorem dX10_isRanged_1 : decode cX10_isRanged 1 = .ok (.istore 4, 2) := by decide +kernel
theorem dX10_isRanged_3 : decode cX10_isRanged 3 = .ok (.aload_n 0, 1) := by decide +kernel
theorem dX10_isRanged_4 : decode cX10_isRanged 4 = .ok (.getfield 29, 3) := by decide +kernel
theorem dX10_isRanged_7 : decode cX10_isRanged 7 = .ok (.iconst 5, 1) := by decide +kernel
theorem dX10_isRanged_8 : decode cX10_isRanged 8 = .ok (.iload_n 2, 1) := by decide +kernel
theorem dX10_isRanged_9 : decode cX10_isRanged 9 = .ok (.imul, 1) := by decide +kernel
theorem dX10_isRanged_10 : decode cX10_isRanged 10 = .ok (.iload_n 3, 1) := by decide +kernel
theorem dX10_isRanged_11 : decode cX10_isRanged 11 = .ok (.iadd, 1) := by decide +kernel
theorem dX10_isRanged_12 : decode cX10_isRanged 12 = .ok (.iaload, 1) := by decide +kernel
theorem dX10_isRanged_13 : decode cX10_isRanged 13 = .ok (.istore 5, 2) := by decide +kernel
theorem dX10_isRanged_15 : decode cX10_isRanged 15 = .ok (.iconst 0, 1) := by decide +kernel
theorem dX10_isRanged_16 : decode cX10_isRanged 16 = .ok (.istore 6, 2) := by decide +kernel
theorem dX10_isRanged_18 : decode cX10_isRanged 18 = .ok (.iload 6, 2) := by decide +kernel
theorem dX10_isRanged_20 : decode cX10_isRanged 20 = .ok (.aload_n 0, 1) := by decide +kernel
theorem dX10_isRanged_21 : decode cX10_isRanged 21 = .ok (.getfield 35, 3) := by decide +kernel
theorem dX10_isRanged_24 : decode cX10_isRanged 24 = .ok (.iload_n 1, 1) := by decide +kernel
theorem dX10_isRanged_25 : decode cX10_isRanged 25 = .ok (.bipush 45, 2) := by decide +kernel
theorem dX10_isRanged_27 : decode cX10_isRanged 27 = .ok (.iadd, 1) := by decide +kernel
theorem dX10_isRanged_28 : decode cX10_isRanged 28 = .ok (.iload_n 3, 1) := by decide +kernel
theorem dX10_isRanged_29 : decode cX10_isRanged 29 = .ok (.iadd, 1) := by decide +kernel
theorem dX10_isRanged_30 : decode cX10_isRanged 30 = .ok (.iaload, 1) := by decide +kernel
theorem dX10_isRanged_31 : decode cX10_isRanged 31 = .ok (.if_icmp .ge 75, 3) := by decide +kernel
theorem dX10_isRanged_34 : decode cX10_isRanged 34 = .ok (.iload_n 1, 1) := by decide +kernel
theorem dX10_isRanged_35 : decode cX10_isRanged 35 = .ok (.bipush 50, 2) := by decide +kernel
theorem dX10_isRanged_37 : decode cX10_isRanged 37 = .ok (.iadd, 1) := by decide +kernel
theorem dX10_isRanged_38 : decode cX10_isRanged 38 = .ok (.iconst 2, 1) := by decide +kernel
theorem dX10_isRanged_39 : decode cX10_isRanged 39 = .ok (.iconst 3, 1) := by decide +kernel
theorem dX10_isRanged_40 : decode cX10_isRanged 40 = .ok (.iload_n 3, 1) := by decide +kernel
theorem dX10_isRanged_41 : decode cX10_isRanged 41 = .ok (.imul, 1) := by decide +kernel
theorem dX10_isRanged_42 : decode cX10_isRanged 42 = .ok (.iload 6, 2) := by decide +kernel
theorem dX10_isRanged_44 : decode cX10_isRanged 44 = .ok (.iadd, 1) := by decide +kernel
theorem dX10_isRanged_45 : decode cX10_isRanged 45 = .ok (.imul, 1) := by decide +kernel
theorem dX10_isRanged_46 : decode cX10_isRanged 46 = .ok (.iadd, 1) := by decide +kernel
theorem dX10_isRanged_47 : decode cX10_isRanged 47 = .ok (.istore 7, 2) := by decide +kernel
theorem dX10_isRanged_49 : decode cX10_isRanged 49 = .ok (.iload 4, 2) := by decide +kernel
theorem dX10_isRanged_51 : decode cX10_isRanged 51 = .ok (.ifCond .ne 42, 3) := by decide +kernel
theorem dX10_isRanged_54 : decode cX10_isRanged 54 = .ok (.aload_n 0, 1) := by decide +kernel
theorem dX10_isRanged_55 : decode cX10_isRanged 55 = .ok (.getfield 32, 3) := by decide +kernel
theorem dX10_isRanged_58 : decode cX10_isRanged 58 = .ok (.iconst 5, 1) := by decide +kernel
theorem dX10_isRanged_59 : decode cX10_isRanged 59 = .ok (.iload_n 2, 1) := by decide +kernel
theorem dX10_isRanged_60 : decode cX10_isRanged 60 = .ok (.imul, 1) := by decide +kernel
theorem dX10_isRanged_61 : decode cX10_isRanged 61 = .ok (.iload_n 3, 1) := by decide +kernel
theorem dX10_isRanged_62 : decode cX10_isRanged 62 = .ok (.iadd, 1) := by decide +kernel
theorem dX10_isRanged_63 : decode cX10_isRanged 63 = .ok (.baload, 1) := by decide +kernel
theorem dX10_isRanged_64 : decode cX10_isRanged 64 = .ok (.ifCond .eq 33, 3) := by decide +kernel
theorem dX10_isRanged_67 : decode cX10_isRanged 67 = .ok (.iload 5, 2) := by decide +kernel
theorem dX10_isRanged_69 : decode cX10_isRanged 69 = .ok (.aload_n 0, 1) := by decide +kernel
theorem dX10_isRanged_70 : decode cX10_isRanged 70 = .ok (.getfield 35, 3) := by decide +kernel
theorem dX10_isRanged_73 : decode cX10_isRanged 73 = .ok (.iload 7, 2) := by decide +kernel
theorem dX10_isRanged_75 : decode cX10_isRanged 75 = .ok (.iaload, 1) := by decide +kernel
theorem dX10_isRanged_76 : decode cX10_isRanged 76 = .ok (.if_icmp .lt 21, 3) := by decide +kernel
theorem dX10_isRanged_79 : decode cX10_isRanged 79 = .ok (.iload 5, 2) := by decide +kernel
theorem dX10_isRanged_81 : decode cX10_isRanged 81 = .ok (.aload_n 0, 1) := by decide +kernel
theorem dX10_isRanged_82 : decode cX10_isRanged 82 = .ok (.getfield 35, 3) := by decide +kernel
theorem dX10_isRanged_85 : decode cX10_isRanged 85 = .ok (.iload 7, 2) := by decide +kernel
theorem dX10_isRanged_87 : decode cX10_isRanged 87 = .ok (.iconst 1, 1) := by decide +kernel
theorem dX10_isRanged_88 : decode cX10_isRanged 88 = .ok (.iadd, 1) := by decide +kernel
theorem dX10_isRanged_89 : decode cX10_isRanged 89 = .ok (.iaload, 1) := by decide +kernel
theorem dX10_isRanged_90 : decode cX10_isRanged 90 = .ok (.if_icmp .gt 7, 3) := by decide +kernel
theorem dX10_isRanged_93 : decode cX10_isRanged 93 = .ok (.iconst 1, 1) := by decide +kernel
theorem dX10_isRanged_94 : decode cX10_isRanged 94 = .ok (.goto 4, 3) := by decide +kernel
theorem dX10_isRanged_97 : decode cX10_isRanged 97 = .ok (.iconst 0, 1) := by decide +kernel
theorem dX10_isRanged_98 : decode cX10_isRanged 98 = .ok (.istore 4, 2) := by decide +kernel
theorem dX10_isRanged_100 : decode cX10_isRanged 100 = .ok (.iinc 6 1, 3) := by decide +kernel
theorem dX10_isRanged_103 : decode cX10_isRanged 103 = .ok (.goto (-85), 3) := by decide +kernel
theorem dX10_isRanged_106 : decode cX10_isRanged 106 = .ok (.iload 4, 2) := by decide +kernel
theorem dX10_isRanged_108 : decode cX10_isRanged 108 = .ok (.ireturn, 1) := by decide +kernel
def wX10_isRanged (I : Nat → Int32) (A : Nat → Nat → Int32) (x1 : Int32) (x2 : Int32) (x3 : Int32) (post : Int32 → Prop) : Prop := vp_in ((5 * x2) + x3) 200 ∧ (∀ v5 : Int32, v5 = A 7 ((5 * x2) + x3).toNatClampNeg → ∃ n, lfix (fun (r : (Int32 × Int32) → Prop) (v6, v4) => vp_in ((x1 + 45) + x3) 1440 ∧ (if (A 9 ((x1 + 45) + x3).toNatClampNeg) ≤ v6 then (zb v4 ∧ post v4) else (∀ v7 : Int32, v7 = (x1 + 50) + (2 * ((3 * x3) + v6)) → jn (fun (t : Int32) => ∀ v6_1 : Int32, v6_1 = v6 + 1 → r (v6_1, t)) (fun k => jn (fun (_ : Unit) => k 1) (fun k_1 => if v4 = 0 then (vp_in ((5 * x2) + x3) 200 ∧ (jn (fun (_ : Unit) => k 0) (fun k_2 => if (A 8 ((5 * x2) + x3).toNatClampNeg) = 0 then (k_2 ()) else (vp_in v7 1440 ∧ (if v5 < (A 9 v7.toNatClampNeg) then (k_2 ()) else (vp_in (v7 + 1) 1440 ∧ (if (A 9 (v7 + 1).toNatClampNeg) < v5 then (k_2 ()) else (k_1 ())))))))) else (k_1 ())))))) n (0, 0))
abbrev rmX10_isRanged : Room := { frames := 0, cells := 0, slots := 0, locals := 0 }
theorem wd_X10_isRanged : Cond.instanceMethod yX10_isRanged ∈ BW ∧ Cond.selects yX10_isRanged.cls yX10_isRanged yX10_isRanged ∈ BW ∧ Cond.initialized yX10_isRanged.cls ∈ BW ∧ Cond.code yX10_isRanged cX10_isRanged 8 (some .boolean) ∈ BW := ⟨mw_5_110, mp_36, mw_1_11, mw_5_111⟩
set_option maxHeartbeats 4000000 in
set_option maxRecDepth 100000 in
theorem c_X10_isRanged {l : Launch} {D : va_G} {cy : Nat → ClassId} {ad : Nat → Nat} {Ad : Nat → Prop} (hAd : adok 16 Ad ad) (I : Nat → Int32) (A : Nat → Nat → Int32) (x1 : Int32) (x2 : Int32) (x3 : Int32)  (post : Int32 → Prop) (h : wX10_isRanged I A x1 x2 x3 post) : Met l yX10_isRanged (.code yX10_isRanged cX10_isRanged 8 (some .boolean) :: BW) rmX10_isRanged (va_Pc [.ref (ad 0), .int x1, .int x2, .int x3] (fun U => kC D cy U ∧ va_P D vwCl (wM cy ad I A) U.heap)) (qMi D cy ad Ad (fun r u => post r  ∧ I = u.1 ∧ A = u.2)) 0 0 Ad := by
  refine startMz (by decide) (Nat.le_of_ble_eq_true rfl) (lv := [(0, .ref (ad 0)), (1, .int x1), (2, .int x2), (3, .int x3)]) rfl (fun p e s m args below meth c Q ls hx hb hml hT hown hK hret hl hP hS => ?_)
  unfold wX10_isRanged at h
  refine lv_iconst (v := 0) hx hb dX10_isRanged_0 (by decide) ?_
  refine lv_istore (lv' := [(4, .int 0), (0, .ref (ad 0)), (1, .int x1), (2, .int x2), (3, .int x3)]) hx hb dX10_isRanged_1 hl (by decide) rfl (fun ls hl => ?_)
  refine lv_aload_n hx hb dX10_isRanged_3 rfl (lv_at hl 1 rfl) ?_
  refine va_get (T := TX10) hx hb hT inlX10 hown hK.1 hP 0 he_X10 rfl 10 (by decide) (hT _ mw_4_147) (fun _ h9 => h9) rfl dX10_isRanged_4 ?_
  refine lv_iconst (v := 5) hx hb dX10_isRanged_7 (by decide) ?_
  refine lv_iload_n hx hb dX10_isRanged_8 rfl (lv_at hl 3 rfl) ?_
  refine lv_imul hx hb dX10_isRanged_9 ?_
  refine lv_iload_n hx hb dX10_isRanged_10 rfl (lv_at hl 4 rfl) ?_
  refine lv_iadd hx hb dX10_isRanged_11 ?_
  obtain ⟨hi, h⟩ := h
  refine lM_I hx hb hK.1 hP (by decide) rfl hi dX10_isRanged_12 ?_
  refine lv_topi (fun v5 ev5 => ?_)
  replace h := h v5 ev5
  refine lv_istore (lv' := [(5, .int v5), (4, .int 0), (0, .ref (ad 0)), (1, .int x1), (2, .int x2), (3, .int x3)]) hx hb dX10_isRanged_13 hl (by decide) rfl (fun ls hl => ?_)
  refine lv_iconst (v := 0) hx hb dX10_isRanged_15 (by decide) ?_
  refine lv_istore (lv' := [(6, .int 0), (5, .int v5), (4, .int 0), (0, .ref (ad 0)), (1, .int x1), (2, .int x2), (3, .int x3)]) hx hb dX10_isRanged_16 hl (by decide) rfl (fun ls hl => ?_)
  obtain ⟨F, n, h, hF, hG⟩ := lfix_ex h
  have LP : ∀ (n : Nat) (v6 : Int32) (v4 : Int32) (ls : Array Slot) (H : Heap) (locs : List Loc), F n (v6, v4) → lv_has ls 8 [(6, .int v6), (5, .int v5), (4, .int v4), (0, .ref (ad 0)), (1, .int x1), (2, .int x2), (3, .int x3)] → va_P D vwCl (wM cy ad I A) H → va_S Ad s.heap H locs → W p l e rmX10_isRanged s m args below meth c H locs 0 0 Q (F0 m 18 ls []) := by
    intro n
    induction n with
    | zero => intro v6 v4 ls H locs h _ _ _; exact absurd h (hF _)
    | succ n ih =>
      intro v6 v4 ls H locs h hl hP hS
      replace h := hG _ _ h
      try dsimp only at h
      refine lv_iload hx hb dX10_isRanged_18 (lv_at hl 0 rfl) ?_
      refine lv_aload_n hx hb dX10_isRanged_20 rfl (lv_at hl 3 rfl) ?_
      refine va_get (T := TX10) hx hb hT inlX10 hown hK.1 hP 0 he_X10 rfl 12 (by decide) (hT _ mw_4_149) (fun _ h9 => h9) rfl dX10_isRanged_21 ?_
      refine lv_iload_n hx hb dX10_isRanged_24 rfl (lv_at hl 4 rfl) ?_
      refine lv_bipush (v := 45) hx hb dX10_isRanged_25 (by decide) ?_
      refine lv_iadd hx hb dX10_isRanged_27 ?_
      refine lv_iload_n hx hb dX10_isRanged_28 rfl (lv_at hl 6 rfl) ?_
      refine lv_iadd hx hb dX10_isRanged_29 ?_
      obtain ⟨hi_1, h⟩ := h
      refine lM_I hx hb hK.1 hP (by decide) rfl hi_1 dX10_isRanged_30 ?_
      refine lv_icmp_ge (tgt := 106) hx hb dX10_isRanged_31 (by decide) (fun hc => ?_) (fun hc => ?_)
      · rw [if_pos hc] at h
        refine lv_iload hx hb dX10_isRanged_106 (lv_at hl 2 rfl) ?_
        obtain ⟨hz, h⟩ := h
        exact hret _ (I, A) hz dX10_isRanged_108 ⟨h, rfl, rfl⟩ hP hS
      · rw [if_neg hc] at h
        refine lv_iload_n hx hb dX10_isRanged_34 rfl (lv_at hl 4 rfl) ?_
        refine lv_bipush (v := 50) hx hb dX10_isRanged_35 (by decide) ?_
        refine lv_iadd hx hb dX10_isRanged_37 ?_
        refine lv_iconst (v := 2) hx hb dX10_isRanged_38 (by decide) ?_
        refine lv_iconst (v := 3) hx hb dX10_isRanged_39 (by decide) ?_
        refine lv_iload_n hx hb dX10_isRanged_40 rfl (lv_at hl 6 rfl) ?_
        refine lv_imul hx hb dX10_isRanged_41 ?_
        refine lv_iload hx hb dX10_isRanged_42 (lv_at hl 0 rfl) ?_
        refine lv_iadd hx hb dX10_isRanged_44 ?_
        refine lv_imul hx hb dX10_isRanged_45 ?_
        refine lv_iadd hx hb dX10_isRanged_46 ?_
        refine lv_topi (fun v7 ev7 => ?_)
        replace h := h v7 ev7
        refine lv_istore (lv' := [(7, .int v7), (6, .int v6), (5, .int v5), (4, .int v4), (0, .ref (ad 0)), (1, .int x1), (2, .int x2), (3, .int x3)]) hx hb dX10_isRanged_47 hl (by decide) rfl (fun ls hl => ?_)
        refine lv_iload hx hb dX10_isRanged_49 (lv_at hl 3 rfl) ?_
        obtain ⟨k, hk, h⟩ := jn_ex h
        try dsimp only at h
        have J : ∀ (t : Int32), k t → ∀ (ls : Array Slot) (H : Heap) (locs : List Loc), lv_has ls 8 [(6, .int v6), (5, .int v5), (0, .ref (ad 0)), (1, .int x1), (2, .int x2), (3, .int x3)] → va_P D vwCl (wM cy ad I A) H → va_S Ad s.heap H locs → W p l e rmX10_isRanged s m args below meth c H locs 0 0 Q (F0 m 98 ls [.int t]) := by
          intro t h ls H locs hl hP hS
          replace h := hk _ h
          try dsimp only at h
          refine lv_istore (lv' := [(4, .int t), (6, .int v6), (5, .int v5), (0, .ref (ad 0)), (1, .int x1), (2, .int x2), (3, .int x3)]) hx hb dX10_isRanged_98 hl (by decide) rfl (fun ls hl => ?_)
          obtain ⟨v6_1, ev6_1⟩ : ∃ z : Int32, z = v6 + 1 := ⟨_, rfl⟩
          replace h := h v6_1 ev6_1
          refine lv_iinc (v := v6_1) (lv' := [(6, .int v6_1), (4, .int t), (5, .int v5), (0, .ref (ad 0)), (1, .int x1), (2, .int x2), (3, .int x3)]) hx hb dX10_isRanged_100 hl (k := 1) rfl (by rw [ev6_1]; rfl) (by decide) rfl (fun ls hl => ?_)
          refine lv_goto (tgt := 18) hx hb dX10_isRanged_103 (by decide) ?_
          exact ih v6_1 t _ _ _ h (lv_sub hl [0, 2, 1, 3, 4, 5, 6] rfl) hP hS
        obtain ⟨k_1, hk_1, h⟩ := jn_ex h
        try dsimp only at h
        have J_1 : k_1 () → ∀ (ls : Array Slot) (H : Heap) (locs : List Loc), lv_has ls 8 [(6, .int v6), (5, .int v5), (0, .ref (ad 0)), (1, .int x1), (2, .int x2), (3, .int x3)] → va_P D vwCl (wM cy ad I A) H → va_S Ad s.heap H locs → W p l e rmX10_isRanged s m args below meth c H locs 0 0 Q (F0 m 93 ls []) := by
          intro  h ls H locs hl hP hS
          replace h := hk_1 _ h
          try dsimp only at h
          refine lv_iconst (v := 1) hx hb dX10_isRanged_93 (by decide) ?_
          refine lv_goto (tgt := 98) hx hb dX10_isRanged_94 (by decide) ?_
          exact J 1 h _ _ _ (lv_sub hl [0, 1, 2, 3, 4, 5] rfl) hP hS
        refine lv_if_ne (tgt := 93) hx hb dX10_isRanged_51 (by decide) (fun hc_1 => ?_) (fun hc_1 => ?_)
        · rw [if_neg hc_1] at h
          exact J_1  h _ _ _ (lv_sub hl [1, 2, 4, 5, 6, 7] rfl) hP hS
        · rw [if_pos hc_1] at h
          refine lv_aload_n hx hb dX10_isRanged_54 rfl (lv_at hl 4 rfl) ?_
          refine va_get (T := TX10) hx hb hT inlX10 hown hK.1 hP 0 he_X10 rfl 11 (by decide) (hT _ mw_4_148) (fun _ h9 => h9) rfl dX10_isRanged_55 ?_
          refine lv_iconst (v := 5) hx hb dX10_isRanged_58 (by decide) ?_
          refine lv_iload_n hx hb dX10_isRanged_59 rfl (lv_at hl 6 rfl) ?_
          refine lv_imul hx hb dX10_isRanged_60 ?_
          refine lv_iload_n hx hb dX10_isRanged_61 rfl (lv_at hl 7 rfl) ?_
          refine lv_iadd hx hb dX10_isRanged_62 ?_
          obtain ⟨hi_2, h⟩ := h
          refine lM_Z hx hb hK.1 hP (by decide) rfl hi_2 dX10_isRanged_63 ?_
          obtain ⟨k_2, hk_2, h⟩ := jn_ex h
          try dsimp only at h
          have J_2 : k_2 () → ∀ (ls : Array Slot) (H : Heap) (locs : List Loc), lv_has ls 8 [(6, .int v6), (5, .int v5), (0, .ref (ad 0)), (1, .int x1), (2, .int x2), (3, .int x3)] → va_P D vwCl (wM cy ad I A) H → va_S Ad s.heap H locs → W p l e rmX10_isRanged s m args below meth c H locs 0 0 Q (F0 m 97 ls []) := by
            intro  h ls H locs hl hP hS
            replace h := hk_2 _ h
            try dsimp only at h
            refine lv_iconst (v := 0) hx hb dX10_isRanged_97 (by decide) ?_
            exact J 0 h _ _ _ (lv_sub hl [0, 1, 2, 3, 4, 5] rfl) hP hS
          refine lv_if_eq (tgt := 97) hx hb dX10_isRanged_64 (by decide) (fun hc_2 => ?_) (fun hc_2 => ?_)
          · rw [if_pos hc_2] at h
            exact J_2  h _ _ _ (lv_sub hl [1, 2, 4, 5, 6, 7] rfl) hP hS
          · rw [if_neg hc_2] at h
            refine lv_iload hx hb dX10_isRanged_67 (lv_at hl 2 rfl) ?_
            refine lv_aload_n hx hb dX10_isRanged_69 rfl (lv_at hl 4 rfl) ?_
            refine va_get (T := TX10) hx hb hT inlX10 hown hK.1 hP 0 he_X10 rfl 12 (by decide) (hT _ mw_4_149) (fun _ h9 => h9) rfl dX10_isRanged_70 ?_
            refine lv_iload hx hb dX10_isRanged_73 (lv_at hl 0 rfl) ?_
            obtain ⟨hi_3, h⟩ := h
            refine lM_I hx hb hK.1 hP (by decide) rfl hi_3 dX10_isRanged_75 ?_
            refine lv_icmp_lt (tgt := 97) hx hb dX10_isRanged_76 (by decide) (fun hc_3 => ?_) (fun hc_3 => ?_)
            · rw [if_pos hc_3] at h
              exact J_2  h _ _ _ (lv_sub hl [1, 2, 4, 5, 6, 7] rfl) hP hS
            · rw [if_neg hc_3] at h
              refine lv_iload hx hb dX10_isRanged_79 (lv_at hl 2 rfl) ?_
              refine lv_aload_n hx hb dX10_isRanged_81 rfl (lv_at hl 4 rfl) ?_
              refine va_get (T := TX10) hx hb hT inlX10 hown hK.1 hP 0 he_X10 rfl 12 (by decide) (hT _ mw_4_149) (fun _ h9 => h9) rfl dX10_isRanged_82 ?_
              refine lv_iload hx hb dX10_isRanged_85 (lv_at hl 0 rfl) ?_
              refine lv_iconst (v := 1) hx hb dX10_isRanged_87 (by decide) ?_
              refine lv_iadd hx hb dX10_isRanged_88 ?_
              obtain ⟨hi_4, h⟩ := h
              refine lM_I hx hb hK.1 hP (by decide) rfl hi_4 dX10_isRanged_89 ?_
              refine lv_icmp_gt (tgt := 97) hx hb dX10_isRanged_90 (by decide) (fun hc_4 => ?_) (fun hc_4 => ?_)
              · rw [if_pos hc_4] at h
                exact J_2  h _ _ _ (lv_sub hl [1, 2, 4, 5, 6, 7] rfl) hP hS
              · rw [if_neg hc_4] at h
                exact J_1  h _ _ _ (lv_sub hl [1, 2, 4, 5, 6, 7] rfl) hP hS
  exact LP _ 0 0 _ _ _ h (lv_sub hl [0, 1, 2, 3, 4, 5, 6] rfl) hP hS
theorem dX10_passes_0 : decode cX10_passes 0 = .ok (.aload_n 0, 1) := by decide +kernel
theorem dX10_passes_1 : decode cX10_passes 1 = .ok (.iload_n 1, 1) := by decide +kernel
theorem dX10_passes_2 : decode cX10_passes 2 = .ok (.iload_n 3, 1) := by decide +kernel
theorem dX10_passes_3 : decode cX10_passes 3 = .ok (.invokevirtual 116, 3) := by decide +kernel
theorem dX10_passes_6 : decode cX10_passes 6 = .ok (.ifCond .eq 5, 3) := by decide +kernel
theorem dX10_passes_9 : decode cX10_passes 9 = .ok (.iconst 1, 1) := by decide +kernel
theorem dX10_passes_10 : decode cX10_passes 10 = .ok (.ireturn, 1) := by decide +kernel
theorem dX10_passes_11 : decode cX10_passes 11 = .ok (.aload_n 0, 1) := by decide +kernel
theorem dX10_passes_12 : decode cX10_passes 12 = .ok (.getfield 35, 3) := by decide +kernel
theorem dX10_passes_15 : decode cX10_passes 15 = .ok (.iload_n 1, 1) := by decide +kernel
theorem dX10_passes_16 : decode cX10_passes 16 = .ok (.bipush 40, 2) := by decide +kernel
theorem dX10_passes_18 : decode cX10_passes 18 = .ok (.iadd, 1) := by decide +kernel
theorem dX10_passes_19 : decode cX10_passes 19 = .ok (.iload_n 3, 1) := by decide +kernel
theorem dX10_passes_20 : decode cX10_passes 20 = .ok (.iadd, 1) := by decide +kernel
theorem dX10_passes_21 : decode cX10_passes 21 = .ok (.iaload, 1) := by decide +kernel
theorem dX10_passes_22 : decode cX10_passes 22 = .ok (.iconst 1, 1) := by decide +kernel
theorem dX10_passes_23 : decode cX10_passes 23 = .ok (.if_icmp .ne 7, 3) := by decide +kernel
theorem dX10_passes_26 : decode cX10_passes 26 = .ok (.iconst 1, 1) := by decide +kernel
theorem dX10_passes_27 : decode cX10_passes 27 = .ok (.goto 4, 3) := by decide +kernel
theorem dX10_passes_30 : decode cX10_passes 30 = .ok (.iconst 0, 1) := by decide +kernel
theorem dX10_passes_31 : decode cX10_passes 31 = .ok (.istore 4, 2) := by decide +kernel
theorem dX10_passes_33 : decode cX10_passes 33 = .ok (.iconst 0, 1) := by decide +kernel
theorem dX10_passes_34 : decode cX10_passes 34 = .ok (.istore 5, 2) := by decide +kernel
theorem dX10_passes_36 : decode cX10_passes 36 = .ok (.iconst 1, 1) := by decide +kernel
theorem dX10_passes_37 : decode cX10_passes 37 = .ok (.istore 6, 2) := by decide +kernel
theorem dX10_passes_39 : decode cX10_passes 39 = .ok (.iconst 0, 1) := by decide +kernel
theorem dX10_passes_40 : decode cX10_passes 40 = .ok (.istore 7, 2) := by decide +kernel
theorem dX10_passes_42 : decode cX10_passes 42 = .ok (.iload 7, 2) := by decide +kernel
theorem dX10_passes_44 : decode cX10_passes 44 = .ok (.aload_n 0, 1) := by decide +kernel
theorem dX10_passes_45 : decode cX10_passes 45 = .ok (.getfield 67, 3) := by decide +kernel
theorem dX10_passes_48 : decode cX10_passes 48 = .ok (.if_icmp .ge 76, 3) := by decide +kernel
theorem dX10_passes_51 : decode cX10_passes 51 = .ok (.aload_n 0, 1) := by decide +kernel
theorem dX10_passes_52 : decode cX10_passes 52 = .ok (.getfield 13, 3) := by decide +kernel
theorem dX10_passes_55 : decode cX10_passes 55 = .ok (.iload 7, 2) := by decide +kernel
theorem dX10_passes_57 : decode cX10_passes 57 = .ok (.iaload, 1) := by decide +kernel
theorem dX10_passes_58 : decode cX10_passes 58 = .ok (.iload_n 3, 1) := by decide +kernel
theorem dX10_passes_59 : decode cX10_passes 59 = .ok (.if_icmp .ne 59, 3) := by decide +kernel
theorem dX10_passes_62 : decode cX10_passes 62 = .ok (.aload_n 0, 1) := by decide +kernel
theorem dX10_passes_63 : decode cX10_passes 63 = .ok (.getfield 35, 3) := by decide +kernel
theorem dX10_passes_66 : decode cX10_passes 66 = .ok (.iload_n 1, 1) := by decide +kernel
theorem dX10_passes_67 : decode cX10_passes 67 = .ok (.iload 7, 2) := by decide +kernel
theorem dX10_passes_69 : decode cX10_passes 69 = .ok (.iadd, 1) := by decide +kernel
theorem dX10_passes_70 : decode cX10_passes 70 = .ok (.iaload, 1) := by decide +kernel
theorem dX10_passes_71 : decode cX10_passes 71 = .ok (.iconst 1, 1) := by decide +kernel
theorem dX10_passes_72 : decode cX10_passes 72 = .ok (.if_icmp .ne 46, 3) := by decide +kernel
theorem dX10_passes_75 : decode cX10_passes 75 = .ok (.aload_n 0, 1) := by decide +kernel
theorem dX10_passes_76 : decode cX10_passes 76 = .ok (.iload_n 2, 1) := by decide +kernel
theorem dX10_passes_77 : decode cX10_passes 77 = .ok (.iload 7, 2) := by decide +kernel
theorem dX10_passes_79 : decode cX10_passes 79 = .ok (.invokevirtual 122, 3) := by decide +kernel
theorem dX10_passes_82 : decode cX10_passes 82 = .ok (.istore 8, 2) := by decide +kernel
theorem dX10_passes_84 : decode cX10_passes 84 = .ok (.iload 5, 2) := by decide +kernel
theorem dX10_passes_86 : decode cX10_passes 86 = .ok (.ifCond .ne 8, 3) := by decide +kernel
theorem dX10_passes_89 : decode cX10_passes 89 = .ok (.iload 8, 2) := by decide +kernel
theorem dX10_passes_91 : decode cX10_passes 91 = .ok (.ifCond .eq 7, 3) := by decide +kernel
theorem dX10_passes_94 : decode cX10_passes 94 = .ok (.iconst 1, 1) := by decide +kernel
theorem dX10_passes_95 : decode cX10_passes 95 = .ok (.goto 4, 3) := by decide +kernel
theorem dX10_passes_98 : decode cX10_passes 98 = .ok (.iconst 0, 1) := by decide +kernel
theorem dX10_passes_99 : decode cX10_passes 99 = .ok (.istore 5, 2) := by decide +kernel
theorem dX10_passes_101 : decode cX10_passes 101 = .ok (.iload 6, 2) := by decide +kernel
theorem dX10_passes_103 : decode cX10_passes 103 = .ok (.ifCond .eq 12, 3) := by decide +kernel
theorem dX10_passes_106 : decode cX10_passes 106 = .ok (.iload 8, 2) := by decide +kernel
theorem dX10_passes_108 : decode cX10_passes 108 = .ok (.ifCond .eq 7, 3) := by decide +kernel
theorem dX10_passes_111 : decode cX10_passes 111 = .ok (.iconst 1, 1) := by decide +kernel
theorem dX10_passes_112 : decode cX10_passes 112 = .ok (.goto 4, 3) := by decide +kernel
theorem dX10_passes_115 : decode cX10_passes 115 = .ok (.iconst 0, 1) := by decide +kernel
theorem dX10_passes_116 : decode cX10_passes 116 = .ok (.istore 6, 2) := by decide +kernel
theorem dX10_passes_118 : decode cX10_passes 118 = .ok (.iinc 7 1, 3) := by decide +kernel
theorem dX10_passes_121 : decode cX10_passes 121 = .ok (.goto (-79), 3) := by decide +kernel
theorem dX10_passes_124 : decode cX10_passes 124 = .ok (.aload_n 0, 1) := by decide +kernel
theorem dX10_passes_125 : decode cX10_passes 125 = .ok (.getfield 7, 3) := by decide +kernel
theorem dX10_passes_128 : decode cX10_passes 128 = .ok (.iload_n 3, 1) := by decide +kernel
theorem dX10_passes_129 : decode cX10_passes 129 = .ok (.iaload, 1) := by decide +kernel
theorem dX10_passes_130 : decode cX10_passes 130 = .ok (.iconst 1, 1) := by decide +kernel
theorem dX10_passes_131 : decode cX10_passes 131 = .ok (.if_icmp .ne 28, 3) := by decide +kernel
theorem dX10_passes_134 : decode cX10_passes 134 = .ok (.iload 6, 2) := by decide +kernel
theorem dX10_passes_136 : decode cX10_passes 136 = .ok (.ifCond .eq 21, 3) := by decide +kernel
theorem dX10_passes_139 : decode cX10_passes 139 = .ok (.iload 4, 2) := by decide +kernel
theorem dX10_passes_141 : decode cX10_passes 141 = .ok (.ifCond .eq 12, 3) := by decide +kernel
theorem dX10_passes_144 : decode cX10_passes 144 = .ok (.aload_n 0, 1) := by decide +kernel
theorem dX10_passes_145 : decode cX10_passes 145 = .ok (.iload_n 2, 1) := by decide +kernel
theorem dX10_passes_146 : decode cX10_passes 146 = .ok (.iload_n 3, 1) := by decide +kernel
theorem dX10_passes_147 : decode cX10_passes 147 = .ok (.invokevirtual 125, 3) := by decide +kernel
theorem dX10_passes_150 : decode cX10_passes 150 = .ok (.ifCond .eq 7, 3) := by decide +kernel
theorem dX10_passes_153 : decode cX10_passes 153 = .ok (.iconst 1, 1) := by decide +kernel
theorem dX10_passes_154 : decode cX10_passes 154 = .ok (.goto 4, 3) := by decide +kernel
theorem dX10_passes_157 : decode cX10_passes 157 = .ok (.iconst 0, 1) := by decide +kernel
theorem dX10_passes_158 : decode cX10_passes 158 = .ok (.ireturn, 1) := by decide +kernel
theorem dX10_passes_159 : decode cX10_passes 159 = .ok (.iload 5, 2) := by decide +kernel
theorem dX10_passes_161 : decode cX10_passes 161 = .ok (.ifCond .ne 27, 3) := by decide +kernel
theorem dX10_passes_164 : decode cX10_passes 164 = .ok (.aload_n 0, 1) := by decide +kernel
theorem dX10_passes_165 : decode cX10_passes 165 = .ok (.iload_n 1, 1) := by decide +kernel
theorem dX10_passes_166 : decode cX10_passes 166 = .ok (.iload_n 2, 1) := by decide +kernel
theorem dX10_passes_167 : decode cX10_passes 167 = .ok (.iload_n 3, 1) := by decide +kernel
theorem dX10_passes_168 : decode cX10_passes 168 = .ok (.invokevirtual 128, 3) := by decide +kernel
theorem dX10_passes_171 : decode cX10_passes 171 = .ok (.ifCond .ne 17, 3) := by decide +kernel
theorem dX10_passes_174 : decode cX10_passes 174 = .ok (.iload 4, 2) := by decide +kernel
theorem dX10_passes_176 : decode cX10_passes 176 = .ok (.ifCond .eq 16, 3) := by decide +kernel
theorem dX10_passes_179 : decode cX10_passes 179 = .ok (.aload_n 0, 1) := by decide +kernel
theorem dX10_passes_180 : decode cX10_passes 180 = .ok (.iload_n 2, 1) := by decide +kernel
theorem dX10_passes_181 : decode cX10_passes 181 = .ok (.iload_n 3, 1) := by decide +kernel
theorem dX10_passes_182 : decode cX10_passes 182 = .ok (.invokevirtual 125, 3) := by decide +kernel
theorem dX10_passes_185 : decode cX10_passes 185 = .ok (.ifCond .eq 7, 3) := by decide +kernel
theorem dX10_passes_188 : decode cX10_passes 188 = .ok (.iconst 1, 1) := by decide +kernel
theorem dX10_passes_189 : decode cX10_passes 189 = .ok (.goto 4, 3) := by decide +kernel
theorem dX10_passes_192 : decode cX10_passes 192 = .ok (.iconst 0, 1) := by decide +kernel
theorem dX10_passes_193 : decode cX10_passes 193 = .ok (.ireturn, 1) := by decide +kernel
def wX10_passes (I : Nat → Int32) (A : Nat → Nat → Int32) (x1 : Int32) (x2 : Int32) (x3 : Int32) (post : Int32 → Prop) : Prop := wX10_isOpen I A x1 x3 (fun r3 => if r3 = 0 then (vp_in ((x1 + 40) + x3) 1440 ∧ (jn (fun (t : Int32) => ∃ n, lfix (fun (r : (Int32 × Int32 × Int32) → Prop) (v7, v6, v5) => if (I 2) ≤ v7 then (vp_in x3 5 ∧ (if (A 1 x3.toNatClampNeg) = 1 then (if v6 = 0 then (post 0) else (if t = 0 then (post 1) else (wX10_isMissing I A x2 x3 (fun r147 => if r147 = 0 then (post 0) else (post 1))))) else (if v5 = 0 then (wX10_isRanged I A x1 x2 x3 (fun r168 => if r168 = 0 then (if t = 0 then (post 0) else (wX10_isMissing I A x2 x3 (fun r182 => if r182 = 0 then (post 0) else (post 1)))) else (post 1))) else (post 1)))) else (vp_in v7 40 ∧ (if (A 2 v7.toNatClampNeg) = x3 then (vp_in (x1 + v7) 1440 ∧ (if (A 9 (x1 + v7).toNatClampNeg) = 1 then (wX10_hasIt I A x2 v7 (fun r79 => jn (fun (t_1 : Int32) => jn (fun (t_2 : Int32) => ∀ v7_3 : Int32, v7_3 = v7 + 1 → r (v7_3, t_2, t_1)) (fun k_2 => jn (fun (_ : Unit) => k_2 0) (fun k_3 => if v6 = 0 then (k_3 ()) else (if r79 = 0 then (k_3 ()) else (k_2 1))))) (fun k_1 => jn (fun (_ : Unit) => k_1 1) (fun k_4 => if v5 = 0 then (if r79 = 0 then (k_1 0) else (k_4 ())) else (k_4 ()))))) else (∀ v7_2 : Int32, v7_2 = v7 + 1 → r (v7_2, v6, v5)))) else (∀ v7_1 : Int32, v7_1 = v7 + 1 → r (v7_1, v6, v5))))) n (0, 1, 0)) (fun k => if (A 9 ((x1 + 40) + x3).toNatClampNeg) = 1 then (k 1) else (k 0)))) else (post 1))
abbrev rmX10_passes : Room := { frames := 1, cells := 0, slots := 0, locals := 27 }
theorem wd_X10_passes : Cond.instanceMethod yX10_passes ∈ BW ∧ Cond.selects yX10_passes.cls yX10_passes yX10_passes ∈ BW ∧ Cond.initialized yX10_passes.cls ∈ BW ∧ Cond.code yX10_passes cX10_passes 9 (some .boolean) ∈ BW := ⟨mw_5_98, mp_33, mw_1_11, mw_5_99⟩
set_option maxHeartbeats 4000000 in
set_option maxRecDepth 100000 in
theorem c_X10_passes {l : Launch} {D : va_G} {cy : Nat → ClassId} {ad : Nat → Nat} {Ad : Nat → Prop} (hAd : adok 16 Ad ad) (I : Nat → Int32) (A : Nat → Nat → Int32) (x1 : Int32) (x2 : Int32) (x3 : Int32)  (post : Int32 → Prop) (h : wX10_passes I A x1 x2 x3 post) : Met l yX10_passes (.code yX10_passes cX10_passes 9 (some .boolean) :: BW) rmX10_passes (va_Pc [.ref (ad 0), .int x1, .int x2, .int x3] (fun U => kC D cy U ∧ va_P D vwCl (wM cy ad I A) U.heap)) (qMi D cy ad Ad (fun r u => post r  ∧ I = u.1 ∧ A = u.2)) 0 0 Ad := by
  refine startMz (by decide) (Nat.le_of_ble_eq_true rfl) (lv := [(0, .ref (ad 0)), (1, .int x1), (2, .int x2), (3, .int x3)]) rfl (fun p e s m args below meth c Q ls hx hb hml hT hown hK hret hl hP hS => ?_)
  unfold wX10_passes at h
  refine lv_aload_n hx hb dX10_passes_0 rfl (lv_at hl 0 rfl) ?_
  refine lv_iload_n hx hb dX10_passes_1 rfl (lv_at hl 1 rfl) ?_
  refine lv_iload_n hx hb dX10_passes_2 rfl (lv_at hl 3 rfl) ?_
  refine callMi (k := 0) (As := [.int x1, .int x3]) (rest := []) (n := 2) (c_X10_isOpen hAd I A x1 x3 _ h) hx hb hT hown hK hP hS mw_5_72 wd_X10_isOpen (by decide +kernel) ⟨rfl, rfl⟩ (by decide) rfl rfl he_X10 rfl hl.1 hml rfl (Nat.le_of_ble_eq_true rfl) dX10_passes_3 ⟨Nat.zero_le _, Nat.zero_le _⟩ (fun r3 u H locs h hP hS => ?_)
  obtain ⟨Iu, Au⟩ := u
  dsimp only at h hP
  obtain ⟨h, rfl, rfl⟩ := h
  try dsimp only at h
  refine lv_if_eq (tgt := 11) hx hb dX10_passes_6 (by decide) (fun hc => ?_) (fun hc => ?_)
  · rw [if_pos hc] at h
    refine lv_aload_n hx hb dX10_passes_11 rfl (lv_at hl 0 rfl) ?_
    refine va_get (T := TX10) hx hb hT inlX10 hown hK.1 hP 0 he_X10 rfl 12 (by decide) (hT _ mw_4_149) (fun _ h9 => h9) rfl dX10_passes_12 ?_
    refine lv_iload_n hx hb dX10_passes_15 rfl (lv_at hl 1 rfl) ?_
    refine lv_bipush (v := 40) hx hb dX10_passes_16 (by decide) ?_
    refine lv_iadd hx hb dX10_passes_18 ?_
    refine lv_iload_n hx hb dX10_passes_19 rfl (lv_at hl 3 rfl) ?_
    refine lv_iadd hx hb dX10_passes_20 ?_
    obtain ⟨hi, h⟩ := h
    refine lM_I hx hb hK.1 hP (by decide) rfl hi dX10_passes_21 ?_
    refine lv_iconst (v := 1) hx hb dX10_passes_22 (by decide) ?_
    obtain ⟨k, hk, h⟩ := jn_ex h
    try dsimp only at h
    have J : ∀ (t : Int32), k t → ∀ (ls : Array Slot) (H : Heap) (locs : List Loc), lv_has ls 9 [(0, .ref (ad 0)), (1, .int x1), (2, .int x2), (3, .int x3)] → va_P D vwCl (wM cy ad I A) H → va_S Ad s.heap H locs → W p l e rmX10_passes s m args below meth c H locs 0 0 Q (F0 m 31 ls [.int t]) := by
      intro t h ls H locs hl hP hS
      replace h := hk _ h
      try dsimp only at h
      refine lv_istore (lv' := [(4, .int t), (0, .ref (ad 0)), (1, .int x1), (2, .int x2), (3, .int x3)]) hx hb dX10_passes_31 hl (by decide) rfl (fun ls hl => ?_)
      refine lv_iconst (v := 0) hx hb dX10_passes_33 (by decide) ?_
      refine lv_istore (lv' := [(5, .int 0), (4, .int t), (0, .ref (ad 0)), (1, .int x1), (2, .int x2), (3, .int x3)]) hx hb dX10_passes_34 hl (by decide) rfl (fun ls hl => ?_)
      refine lv_iconst (v := 1) hx hb dX10_passes_36 (by decide) ?_
      refine lv_istore (lv' := [(6, .int 1), (5, .int 0), (4, .int t), (0, .ref (ad 0)), (1, .int x1), (2, .int x2), (3, .int x3)]) hx hb dX10_passes_37 hl (by decide) rfl (fun ls hl => ?_)
      refine lv_iconst (v := 0) hx hb dX10_passes_39 (by decide) ?_
      refine lv_istore (lv' := [(7, .int 0), (6, .int 1), (5, .int 0), (4, .int t), (0, .ref (ad 0)), (1, .int x1), (2, .int x2), (3, .int x3)]) hx hb dX10_passes_40 hl (by decide) rfl (fun ls hl => ?_)
      obtain ⟨F, n, h, hF, hG⟩ := lfix_ex h
      have LP : ∀ (n : Nat) (v7 : Int32) (v6 : Int32) (v5 : Int32) (ls : Array Slot) (H : Heap) (locs : List Loc), F n (v7, v6, v5) → lv_has ls 9 [(7, .int v7), (6, .int v6), (5, .int v5), (4, .int t), (0, .ref (ad 0)), (1, .int x1), (2, .int x2), (3, .int x3)] → va_P D vwCl (wM cy ad I A) H → va_S Ad s.heap H locs → W p l e rmX10_passes s m args below meth c H locs 0 0 Q (F0 m 42 ls []) := by
        intro n
        induction n with
        | zero => intro v7 v6 v5 ls H locs h _ _ _; exact absurd h (hF _)
        | succ n ih =>
          intro v7 v6 v5 ls H locs h hl hP hS
          replace h := hG _ _ h
          try dsimp only at h
          refine lv_iload hx hb dX10_passes_42 (lv_at hl 0 rfl) ?_
          refine lv_aload_n hx hb dX10_passes_44 rfl (lv_at hl 4 rfl) ?_
          refine va_get (T := TX10) hx hb hT inlX10 hown hK.1 hP 0 he_X10 rfl 2 (by decide) (hT _ mw_4_139) (fun _ h9 => h9) rfl dX10_passes_45 ?_
          refine lv_icmp_ge (tgt := 124) hx hb dX10_passes_48 (by decide) (fun hc_1 => ?_) (fun hc_1 => ?_)
          · rw [if_pos hc_1] at h
            refine lv_aload_n hx hb dX10_passes_124 rfl (lv_at hl 4 rfl) ?_
            refine va_get (T := TX10) hx hb hT inlX10 hown hK.1 hP 0 he_X10 rfl 4 (by decide) (hT _ mw_4_141) (fun _ h9 => h9) rfl dX10_passes_125 ?_
            refine lv_iload_n hx hb dX10_passes_128 rfl (lv_at hl 7 rfl) ?_
            obtain ⟨hi_1, h⟩ := h
            refine lM_I hx hb hK.1 hP (by decide) rfl hi_1 dX10_passes_129 ?_
            refine lv_iconst (v := 1) hx hb dX10_passes_130 (by decide) ?_
            refine lv_icmp_ne (tgt := 159) hx hb dX10_passes_131 (by decide) (fun hc_2 => ?_) (fun hc_2 => ?_)
            · rw [if_neg hc_2] at h
              refine lv_iload hx hb dX10_passes_159 (lv_at hl 2 rfl) ?_
              refine lv_if_ne (tgt := 188) hx hb dX10_passes_161 (by decide) (fun hc_3 => ?_) (fun hc_3 => ?_)
              · rw [if_neg hc_3] at h
                refine lv_iconst (v := 1) hx hb dX10_passes_188 (by decide) ?_
                refine lv_goto (tgt := 193) hx hb dX10_passes_189 (by decide) ?_
                exact hret _ (I, A) zb_1 dX10_passes_193 ⟨h, rfl, rfl⟩ hP hS
              · rw [if_pos hc_3] at h
                refine lv_aload_n hx hb dX10_passes_164 rfl (lv_at hl 4 rfl) ?_
                refine lv_iload_n hx hb dX10_passes_165 rfl (lv_at hl 5 rfl) ?_
                refine lv_iload_n hx hb dX10_passes_166 rfl (lv_at hl 6 rfl) ?_
                refine lv_iload_n hx hb dX10_passes_167 rfl (lv_at hl 7 rfl) ?_
                refine callMi (k := 0) (As := [.int x1, .int x2, .int x3]) (rest := []) (n := 3) (c_X10_isRanged hAd I A x1 x2 x3 _ h) hx hb hT hown hK hP hS mw_5_108 wd_X10_isRanged (by decide +kernel) ⟨rfl, rfl⟩ (by decide) rfl rfl he_X10 rfl hl.1 hml rfl (Nat.le_of_ble_eq_true rfl) dX10_passes_168 ⟨Nat.zero_le _, Nat.zero_le _⟩ (fun r168 u H locs h hP hS => ?_)
                obtain ⟨Iu_1, Au_1⟩ := u
                dsimp only at h hP
                obtain ⟨h, rfl, rfl⟩ := h
                try dsimp only at h
                refine lv_if_ne (tgt := 188) hx hb dX10_passes_171 (by decide) (fun hc_4 => ?_) (fun hc_4 => ?_)
                · rw [if_neg hc_4] at h
                  refine lv_iconst (v := 1) hx hb dX10_passes_188 (by decide) ?_
                  refine lv_goto (tgt := 193) hx hb dX10_passes_189 (by decide) ?_
                  exact hret _ (I, A) zb_1 dX10_passes_193 ⟨h, rfl, rfl⟩ hP hS
                · rw [if_pos hc_4] at h
                  refine lv_iload hx hb dX10_passes_174 (lv_at hl 3 rfl) ?_
                  refine lv_if_eq (tgt := 192) hx hb dX10_passes_176 (by decide) (fun hc_5 => ?_) (fun hc_5 => ?_)
                  · rw [if_pos hc_5] at h
                    refine lv_iconst (v := 0) hx hb dX10_passes_192 (by decide) ?_
                    exact hret _ (I, A) zb_0 dX10_passes_193 ⟨h, rfl, rfl⟩ hP hS
                  · rw [if_neg hc_5] at h
                    refine lv_aload_n hx hb dX10_passes_179 rfl (lv_at hl 4 rfl) ?_
                    refine lv_iload_n hx hb dX10_passes_180 rfl (lv_at hl 6 rfl) ?_
                    refine lv_iload_n hx hb dX10_passes_181 rfl (lv_at hl 7 rfl) ?_
                    refine callMi (k := 0) (As := [.int x2, .int x3]) (rest := []) (n := 2) (c_X10_isMissing hAd I A x2 x3 _ h) hx hb hT hown hK hP hS mw_5_104 wd_X10_isMissing (by decide +kernel) ⟨rfl, rfl⟩ (by decide) rfl rfl he_X10 rfl hl.1 hml rfl (Nat.le_of_ble_eq_true rfl) dX10_passes_182 ⟨Nat.zero_le _, Nat.zero_le _⟩ (fun r182 u H locs h hP hS => ?_)
                    obtain ⟨Iu_2, Au_2⟩ := u
                    dsimp only at h hP
                    obtain ⟨h, rfl, rfl⟩ := h
                    try dsimp only at h
                    refine lv_if_eq (tgt := 192) hx hb dX10_passes_185 (by decide) (fun hc_6 => ?_) (fun hc_6 => ?_)
                    · rw [if_pos hc_6] at h
                      refine lv_iconst (v := 0) hx hb dX10_passes_192 (by decide) ?_
                      exact hret _ (I, A) zb_0 dX10_passes_193 ⟨h, rfl, rfl⟩ hP hS
                    · rw [if_neg hc_6] at h
                      refine lv_iconst (v := 1) hx hb dX10_passes_188 (by decide) ?_
                      refine lv_goto (tgt := 193) hx hb dX10_passes_189 (by decide) ?_
                      exact hret _ (I, A) zb_1 dX10_passes_193 ⟨h, rfl, rfl⟩ hP hS
            · rw [if_pos hc_2] at h
              refine lv_iload hx hb dX10_passes_134 (lv_at hl 1 rfl) ?_
              refine lv_if_eq (tgt := 157) hx hb dX10_passes_136 (by decide) (fun hc_7 => ?_) (fun hc_7 => ?_)
              · rw [if_pos hc_7] at h
                refine lv_iconst (v := 0) hx hb dX10_passes_157 (by decide) ?_
                exact hret _ (I, A) zb_0 dX10_passes_158 ⟨h, rfl, rfl⟩ hP hS
              · rw [if_neg hc_7] at h
                refine lv_iload hx hb dX10_passes_139 (lv_at hl 3 rfl) ?_
                refine lv_if_eq (tgt := 153) hx hb dX10_passes_141 (by decide) (fun hc_8 => ?_) (fun hc_8 => ?_)
                · rw [if_pos hc_8] at h
                  refine lv_iconst (v := 1) hx hb dX10_passes_153 (by decide) ?_
                  refine lv_goto (tgt := 158) hx hb dX10_passes_154 (by decide) ?_
                  exact hret _ (I, A) zb_1 dX10_passes_158 ⟨h, rfl, rfl⟩ hP hS
                · rw [if_neg hc_8] at h
                  refine lv_aload_n hx hb dX10_passes_144 rfl (lv_at hl 4 rfl) ?_
                  refine lv_iload_n hx hb dX10_passes_145 rfl (lv_at hl 6 rfl) ?_
                  refine lv_iload_n hx hb dX10_passes_146 rfl (lv_at hl 7 rfl) ?_
                  refine callMi (k := 0) (As := [.int x2, .int x3]) (rest := []) (n := 2) (c_X10_isMissing hAd I A x2 x3 _ h) hx hb hT hown hK hP hS mw_5_104 wd_X10_isMissing (by decide +kernel) ⟨rfl, rfl⟩ (by decide) rfl rfl he_X10 rfl hl.1 hml rfl (Nat.le_of_ble_eq_true rfl) dX10_passes_147 ⟨Nat.zero_le _, Nat.zero_le _⟩ (fun r147 u H locs h hP hS => ?_)
                  obtain ⟨Iu_3, Au_3⟩ := u
                  dsimp only at h hP
                  obtain ⟨h, rfl, rfl⟩ := h
                  try dsimp only at h
                  refine lv_if_eq (tgt := 157) hx hb dX10_passes_150 (by decide) (fun hc_9 => ?_) (fun hc_9 => ?_)
                  · rw [if_pos hc_9] at h
                    refine lv_iconst (v := 0) hx hb dX10_passes_157 (by decide) ?_
                    exact hret _ (I, A) zb_0 dX10_passes_158 ⟨h, rfl, rfl⟩ hP hS
                  · rw [if_neg hc_9] at h
                    refine lv_iconst (v := 1) hx hb dX10_passes_153 (by decide) ?_
                    refine lv_goto (tgt := 158) hx hb dX10_passes_154 (by decide) ?_
                    exact hret _ (I, A) zb_1 dX10_passes_158 ⟨h, rfl, rfl⟩ hP hS
          · rw [if_neg hc_1] at h
            refine lv_aload_n hx hb dX10_passes_51 rfl (lv_at hl 4 rfl) ?_
            refine va_get (T := TX10) hx hb hT inlX10 hown hK.1 hP 0 he_X10 rfl 5 (by decide) (hT _ mw_4_142) (fun _ h9 => h9) rfl dX10_passes_52 ?_
            refine lv_iload hx hb dX10_passes_55 (lv_at hl 0 rfl) ?_
            obtain ⟨hi_2, h⟩ := h
            refine lM_I hx hb hK.1 hP (by decide) rfl hi_2 dX10_passes_57 ?_
            refine lv_iload_n hx hb dX10_passes_58 rfl (lv_at hl 7 rfl) ?_
            refine lv_icmp_ne (tgt := 118) hx hb dX10_passes_59 (by decide) (fun hc_10 => ?_) (fun hc_10 => ?_)
            · rw [if_neg hc_10] at h
              obtain ⟨v7_1, ev7_1⟩ : ∃ z : Int32, z = v7 + 1 := ⟨_, rfl⟩
              replace h := h v7_1 ev7_1
              refine lv_iinc (v := v7_1) (lv' := [(7, .int v7_1), (6, .int v6), (5, .int v5), (4, .int t), (0, .ref (ad 0)), (1, .int x1), (2, .int x2), (3, .int x3)]) hx hb dX10_passes_118 hl (k := 0) rfl (by rw [ev7_1]; rfl) (by decide) rfl (fun ls hl => ?_)
              refine lv_goto (tgt := 42) hx hb dX10_passes_121 (by decide) ?_
              exact ih v7_1 v6 v5 _ _ _ h (lv_sub hl [0, 1, 2, 3, 4, 5, 6, 7] rfl) hP hS
            · rw [if_pos hc_10] at h
              refine lv_aload_n hx hb dX10_passes_62 rfl (lv_at hl 4 rfl) ?_
              refine va_get (T := TX10) hx hb hT inlX10 hown hK.1 hP 0 he_X10 rfl 12 (by decide) (hT _ mw_4_149) (fun _ h9 => h9) rfl dX10_passes_63 ?_
              refine lv_iload_n hx hb dX10_passes_66 rfl (lv_at hl 5 rfl) ?_
              refine lv_iload hx hb dX10_passes_67 (lv_at hl 0 rfl) ?_
              refine lv_iadd hx hb dX10_passes_69 ?_
              obtain ⟨hi_3, h⟩ := h
              refine lM_I hx hb hK.1 hP (by decide) rfl hi_3 dX10_passes_70 ?_
              refine lv_iconst (v := 1) hx hb dX10_passes_71 (by decide) ?_
              refine lv_icmp_ne (tgt := 118) hx hb dX10_passes_72 (by decide) (fun hc_11 => ?_) (fun hc_11 => ?_)
              · rw [if_neg hc_11] at h
                obtain ⟨v7_2, ev7_2⟩ : ∃ z : Int32, z = v7 + 1 := ⟨_, rfl⟩
                replace h := h v7_2 ev7_2
                refine lv_iinc (v := v7_2) (lv' := [(7, .int v7_2), (6, .int v6), (5, .int v5), (4, .int t), (0, .ref (ad 0)), (1, .int x1), (2, .int x2), (3, .int x3)]) hx hb dX10_passes_118 hl (k := 0) rfl (by rw [ev7_2]; rfl) (by decide) rfl (fun ls hl => ?_)
                refine lv_goto (tgt := 42) hx hb dX10_passes_121 (by decide) ?_
                exact ih v7_2 v6 v5 _ _ _ h (lv_sub hl [0, 1, 2, 3, 4, 5, 6, 7] rfl) hP hS
              · rw [if_pos hc_11] at h
                refine lv_aload_n hx hb dX10_passes_75 rfl (lv_at hl 4 rfl) ?_
                refine lv_iload_n hx hb dX10_passes_76 rfl (lv_at hl 6 rfl) ?_
                refine lv_iload hx hb dX10_passes_77 (lv_at hl 0 rfl) ?_
                refine callMi (k := 0) (As := [.int x2, .int v7]) (rest := []) (n := 2) (c_X10_hasIt hAd I A x2 v7 _ h) hx hb hT hown hK hP hS mw_5_100 wd_X10_hasIt (by decide +kernel) ⟨rfl, rfl⟩ (by decide) rfl rfl he_X10 rfl hl.1 hml rfl (Nat.le_of_ble_eq_true rfl) dX10_passes_79 ⟨Nat.zero_le _, Nat.zero_le _⟩ (fun r79 u H locs h hP hS => ?_)
                obtain ⟨Iu_4, Au_4⟩ := u
                dsimp only at h hP
                obtain ⟨h, rfl, rfl⟩ := h
                try dsimp only at h
                refine lv_istore (lv' := [(8, .int r79), (7, .int v7), (6, .int v6), (5, .int v5), (4, .int t), (0, .ref (ad 0)), (1, .int x1), (2, .int x2), (3, .int x3)]) hx hb dX10_passes_82 hl (by decide) rfl (fun ls hl => ?_)
                refine lv_iload hx hb dX10_passes_84 (lv_at hl 3 rfl) ?_
                obtain ⟨k_1, hk_1, h⟩ := jn_ex h
                try dsimp only at h
                have J_1 : ∀ (t_1 : Int32), k_1 t_1 → ∀ (ls : Array Slot) (H : Heap) (locs : List Loc), lv_has ls 9 [(8, .int r79), (7, .int v7), (6, .int v6), (4, .int t), (0, .ref (ad 0)), (1, .int x1), (2, .int x2), (3, .int x3)] → va_P D vwCl (wM cy ad I A) H → va_S Ad s.heap H locs → W p l e rmX10_passes s m args below meth c H locs 0 0 Q (F0 m 99 ls [.int t_1]) := by
                  intro t_1 h ls H locs hl hP hS
                  replace h := hk_1 _ h
                  try dsimp only at h
                  refine lv_istore (lv' := [(5, .int t_1), (8, .int r79), (7, .int v7), (6, .int v6), (4, .int t), (0, .ref (ad 0)), (1, .int x1), (2, .int x2), (3, .int x3)]) hx hb dX10_passes_99 hl (by decide) rfl (fun ls hl => ?_)
                  refine lv_iload hx hb dX10_passes_101 (lv_at hl 3 rfl) ?_
                  obtain ⟨k_2, hk_2, h⟩ := jn_ex h
                  try dsimp only at h
                  have J_2 : ∀ (t_2 : Int32), k_2 t_2 → ∀ (ls : Array Slot) (H : Heap) (locs : List Loc), lv_has ls 9 [(5, .int t_1), (7, .int v7), (4, .int t), (0, .ref (ad 0)), (1, .int x1), (2, .int x2), (3, .int x3)] → va_P D vwCl (wM cy ad I A) H → va_S Ad s.heap H locs → W p l e rmX10_passes s m args below meth c H locs 0 0 Q (F0 m 116 ls [.int t_2]) := by
                    intro t_2 h ls H locs hl hP hS
                    replace h := hk_2 _ h
                    try dsimp only at h
                    refine lv_istore (lv' := [(6, .int t_2), (5, .int t_1), (7, .int v7), (4, .int t), (0, .ref (ad 0)), (1, .int x1), (2, .int x2), (3, .int x3)]) hx hb dX10_passes_116 hl (by decide) rfl (fun ls hl => ?_)
                    obtain ⟨v7_3, ev7_3⟩ : ∃ z : Int32, z = v7 + 1 := ⟨_, rfl⟩
                    replace h := h v7_3 ev7_3
                    refine lv_iinc (v := v7_3) (lv' := [(7, .int v7_3), (6, .int t_2), (5, .int t_1), (4, .int t), (0, .ref (ad 0)), (1, .int x1), (2, .int x2), (3, .int x3)]) hx hb dX10_passes_118 hl (k := 2) rfl (by rw [ev7_3]; rfl) (by decide) rfl (fun ls hl => ?_)
                    refine lv_goto (tgt := 42) hx hb dX10_passes_121 (by decide) ?_
                    exact ih v7_3 t_2 t_1 _ _ _ h (lv_sub hl [0, 1, 2, 3, 4, 5, 6, 7] rfl) hP hS
                  obtain ⟨k_3, hk_3, h⟩ := jn_ex h
                  try dsimp only at h
                  have J_3 : k_3 () → ∀ (ls : Array Slot) (H : Heap) (locs : List Loc), lv_has ls 9 [(5, .int t_1), (7, .int v7), (4, .int t), (0, .ref (ad 0)), (1, .int x1), (2, .int x2), (3, .int x3)] → va_P D vwCl (wM cy ad I A) H → va_S Ad s.heap H locs → W p l e rmX10_passes s m args below meth c H locs 0 0 Q (F0 m 115 ls []) := by
                    intro  h ls H locs hl hP hS
                    replace h := hk_3 _ h
                    try dsimp only at h
                    refine lv_iconst (v := 0) hx hb dX10_passes_115 (by decide) ?_
                    exact J_2 0 h _ _ _ (lv_sub hl [0, 1, 2, 3, 4, 5, 6] rfl) hP hS
                  refine lv_if_eq (tgt := 115) hx hb dX10_passes_103 (by decide) (fun hc_12 => ?_) (fun hc_12 => ?_)
                  · rw [if_pos hc_12] at h
                    exact J_3  h _ _ _ (lv_sub hl [0, 2, 4, 5, 6, 7, 8] rfl) hP hS
                  · rw [if_neg hc_12] at h
                    refine lv_iload hx hb dX10_passes_106 (lv_at hl 1 rfl) ?_
                    refine lv_if_eq (tgt := 115) hx hb dX10_passes_108 (by decide) (fun hc_13 => ?_) (fun hc_13 => ?_)
                    · rw [if_pos hc_13] at h
                      exact J_3  h _ _ _ (lv_sub hl [0, 2, 4, 5, 6, 7, 8] rfl) hP hS
                    · rw [if_neg hc_13] at h
                      refine lv_iconst (v := 1) hx hb dX10_passes_111 (by decide) ?_
                      refine lv_goto (tgt := 116) hx hb dX10_passes_112 (by decide) ?_
                      exact J_2 1 h _ _ _ (lv_sub hl [0, 2, 4, 5, 6, 7, 8] rfl) hP hS
                obtain ⟨k_4, hk_4, h⟩ := jn_ex h
                try dsimp only at h
                have J_4 : k_4 () → ∀ (ls : Array Slot) (H : Heap) (locs : List Loc), lv_has ls 9 [(8, .int r79), (7, .int v7), (6, .int v6), (4, .int t), (0, .ref (ad 0)), (1, .int x1), (2, .int x2), (3, .int x3)] → va_P D vwCl (wM cy ad I A) H → va_S Ad s.heap H locs → W p l e rmX10_passes s m args below meth c H locs 0 0 Q (F0 m 94 ls []) := by
                  intro  h ls H locs hl hP hS
                  replace h := hk_4 _ h
                  try dsimp only at h
                  refine lv_iconst (v := 1) hx hb dX10_passes_94 (by decide) ?_
                  refine lv_goto (tgt := 99) hx hb dX10_passes_95 (by decide) ?_
                  exact J_1 1 h _ _ _ (lv_sub hl [0, 1, 2, 3, 4, 5, 6, 7] rfl) hP hS
                refine lv_if_ne (tgt := 94) hx hb dX10_passes_86 (by decide) (fun hc_14 => ?_) (fun hc_14 => ?_)
                · rw [if_neg hc_14] at h
                  exact J_4  h _ _ _ (lv_sub hl [0, 1, 2, 4, 5, 6, 7, 8] rfl) hP hS
                · rw [if_pos hc_14] at h
                  refine lv_iload hx hb dX10_passes_89 (lv_at hl 0 rfl) ?_
                  refine lv_if_eq (tgt := 98) hx hb dX10_passes_91 (by decide) (fun hc_15 => ?_) (fun hc_15 => ?_)
                  · rw [if_pos hc_15] at h
                    refine lv_iconst (v := 0) hx hb dX10_passes_98 (by decide) ?_
                    exact J_1 0 h _ _ _ (lv_sub hl [0, 1, 2, 4, 5, 6, 7, 8] rfl) hP hS
                  · rw [if_neg hc_15] at h
                    exact J_4  h _ _ _ (lv_sub hl [0, 1, 2, 4, 5, 6, 7, 8] rfl) hP hS
      exact LP _ 0 1 0 _ _ _ h (lv_sub hl [0, 1, 2, 3, 4, 5, 6, 7] rfl) hP hS
    refine lv_icmp_ne (tgt := 30) hx hb dX10_passes_23 (by decide) (fun hc_16 => ?_) (fun hc_16 => ?_)
    · rw [if_neg hc_16] at h
      refine lv_iconst (v := 0) hx hb dX10_passes_30 (by decide) ?_
      exact J 0 h _ _ _ (lv_sub hl [0, 1, 2, 3] rfl) hP hS
    · rw [if_pos hc_16] at h
      refine lv_iconst (v := 1) hx hb dX10_passes_26 (by decide) ?_
      refine lv_goto (tgt := 31) hx hb dX10_passes_27 (by decide) ?_
      exact J 1 h _ _ _ (lv_sub hl [0, 1, 2, 3] rfl) hP hS
  · rw [if_neg hc] at h
    refine lv_iconst (v := 1) hx hb dX10_passes_9 (by decide) ?_
    exact hret _ (I, A) zb_1 dX10_passes_10 ⟨h, rfl, rfl⟩ hP hS
theorem dX10_isNear_0 : decode cX10_isNear 0 = .ok (.aload_n 0, 1) := by decide +kernel
theorem dX10_isNear_1 : decode cX10_isNear 1 = .ok (.getfield 22, 3) := by decide +kernel
theorem dX10_isNear_4 : decode cX10_isNear 4 = .ok (.iload_n 2, 1) := by decide +kernel
theorem dX10_isNear_5 : decode cX10_isNear 5 = .ok (.baload, 1) := by decide +kernel
theorem dX10_isNear_6 : decode cX10_isNear 6 = .ok (.istore 4, 2) := by decide +kernel
theorem dX10_isNear_8 : decode cX10_isNear 8 = .ok (.iconst 0, 1) := by decide +kernel
theorem dX10_isNear_9 : decode cX10_isNear 9 = .ok (.istore 5, 2) := by decide +kernel
theorem dX10_isNear_11 : decode cX10_isNear 11 = .ok (.iload 5, 2) := by decide +kernel
theorem dX10_isNear_13 : decode cX10_isNear 13 = .ok (.aload_n 0, 1) := by decide +kernel
theorem dX10_isNear_14 : decode cX10_isNear 14 = .ok (.getfield 60, 3) := by decide +kernel
theorem dX10_isNear_17 : decode cX10_isNear 17 = .ok (.if_icmp .ge 38, 3) := by decide +kernel
theorem dX10_isNear_20 : decode cX10_isNear 20 = .ok (.iload 4, 2) := by decide +kernel
theorem dX10_isNear_22 : decode cX10_isNear 22 = .ok (.ifCond .eq 33, 3) := by decide +kernel
theorem dX10_isNear_25 : decode cX10_isNear 25 = .ok (.iload 5, 2) := by decide +kernel
theorem dX10_isNear_27 : decode cX10_isNear 27 = .ok (.iload_n 3, 1) := by decide +kernel
theorem dX10_isNear_28 : decode cX10_isNear 28 = .ok (.if_icmp .eq 14, 3) := by decide +kernel
theorem dX10_isNear_31 : decode cX10_isNear 31 = .ok (.aload_n 0, 1) := by decide +kernel
theorem dX10_isNear_32 : decode cX10_isNear 32 = .ok (.iload_n 1, 1) := by decide +kernel
theorem dX10_isNear_33 : decode cX10_isNear 33 = .ok (.iload_n 2, 1) := by decide +kernel
theorem dX10_isNear_34 : decode cX10_isNear 34 = .ok (.iload 5, 2) := by decide +kernel
theorem dX10_isNear_36 : decode cX10_isNear 36 = .ok (.invokevirtual 131, 3) := by decide +kernel
theorem dX10_isNear_39 : decode cX10_isNear 39 = .ok (.ifCond .eq 7, 3) := by decide +kernel
theorem dX10_isNear_42 : decode cX10_isNear 42 = .ok (.iconst 1, 1) := by decide +kernel
theorem dX10_isNear_43 : decode cX10_isNear 43 = .ok (.goto 4, 3) := by decide +kernel
theorem dX10_isNear_46 : decode cX10_isNear 46 = .ok (.iconst 0, 1) := by decide +kernel
theorem dX10_isNear_47 : decode cX10_isNear 47 = .ok (.istore 4, 2) := by decide +kernel
theorem dX10_isNear_49 : decode cX10_isNear 49 = .ok (.iinc 5 1, 3) := by decide +kernel
theorem dX10_isNear_52 : decode cX10_isNear 52 = .ok (.goto (-41), 3) := by decide +kernel
theorem dX10_isNear_55 : decode cX10_isNear 55 = .ok (.iload 4, 2) := by decide +kernel
theorem dX10_isNear_57 : decode cX10_isNear 57 = .ok (.ireturn, 1) := by decide +kernel
def wX10_isNear (I : Nat → Int32) (A : Nat → Nat → Int32) (x1 : Int32) (x2 : Int32) (x3 : Int32) (post : Int32 → Prop) : Prop := vp_in x2 40 ∧ (∀ v4 : Int32, v4 = A 5 x2.toNatClampNeg → ∃ n, lfix (fun (r : (Int32 × Int32) → Prop) (v5, v4_1) => if (I 1) ≤ v5 then (zb v4_1 ∧ post v4_1) else (if v4_1 = 0 then (zb v4_1 ∧ post v4_1) else (jn (fun (t : Int32) => ∀ v5_1 : Int32, v5_1 = v5 + 1 → r (v5_1, t)) (fun k => jn (fun (_ : Unit) => k 1) (fun k_1 => if v5 = x3 then (k_1 ()) else (wX10_passes I A x1 x2 v5 (fun r36 => if r36 = 0 then (k 0) else (k_1 ())))))))) n (0, v4))
abbrev rmX10_isNear : Room := { frames := 2, cells := 0, slots := 0, locals := 55 }
theorem wd_X10_isNear : Cond.instanceMethod yX10_isNear ∈ BW ∧ Cond.selects yX10_isNear.cls yX10_isNear yX10_isNear ∈ BW ∧ Cond.initialized yX10_isNear.cls ∈ BW ∧ Cond.code yX10_isNear cX10_isNear 6 (some .boolean) ∈ BW := ⟨mw_5_94, mp_32, mw_1_11, mw_5_95⟩
set_option maxHeartbeats 4000000 in
set_option maxRecDepth 100000 in
theorem c_X10_isNear {l : Launch} {D : va_G} {cy : Nat → ClassId} {ad : Nat → Nat} {Ad : Nat → Prop} (hAd : adok 16 Ad ad) (I : Nat → Int32) (A : Nat → Nat → Int32) (x1 : Int32) (x2 : Int32) (x3 : Int32)  (post : Int32 → Prop) (h : wX10_isNear I A x1 x2 x3 post) : Met l yX10_isNear (.code yX10_isNear cX10_isNear 6 (some .boolean) :: BW) rmX10_isNear (va_Pc [.ref (ad 0), .int x1, .int x2, .int x3] (fun U => kC D cy U ∧ va_P D vwCl (wM cy ad I A) U.heap)) (qMi D cy ad Ad (fun r u => post r  ∧ I = u.1 ∧ A = u.2)) 0 0 Ad := by
  refine startMz (by decide) (Nat.le_of_ble_eq_true rfl) (lv := [(0, .ref (ad 0)), (1, .int x1), (2, .int x2), (3, .int x3)]) rfl (fun p e s m args below meth c Q ls hx hb hml hT hown hK hret hl hP hS => ?_)
  unfold wX10_isNear at h
  refine lv_aload_n hx hb dX10_isNear_0 rfl (lv_at hl 0 rfl) ?_
  refine va_get (T := TX10) hx hb hT inlX10 hown hK.1 hP 0 he_X10 rfl 8 (by decide) (hT _ mw_4_145) (fun _ h9 => h9) rfl dX10_isNear_1 ?_
  refine lv_iload_n hx hb dX10_isNear_4 rfl (lv_at hl 2 rfl) ?_
  obtain ⟨hi, h⟩ := h
  refine lM_Z hx hb hK.1 hP (by decide) rfl hi dX10_isNear_5 ?_
  refine lv_topi (fun v4 ev4 => ?_)
  replace h := h v4 ev4
  refine lv_istore (lv' := [(4, .int v4), (0, .ref (ad 0)), (1, .int x1), (2, .int x2), (3, .int x3)]) hx hb dX10_isNear_6 hl (by decide) rfl (fun ls hl => ?_)
  refine lv_iconst (v := 0) hx hb dX10_isNear_8 (by decide) ?_
  refine lv_istore (lv' := [(5, .int 0), (4, .int v4), (0, .ref (ad 0)), (1, .int x1), (2, .int x2), (3, .int x3)]) hx hb dX10_isNear_9 hl (by decide) rfl (fun ls hl => ?_)
  obtain ⟨F, n, h, hF, hG⟩ := lfix_ex h
  have LP : ∀ (n : Nat) (v5 : Int32) (v4_1 : Int32) (ls : Array Slot) (H : Heap) (locs : List Loc), F n (v5, v4_1) → lv_has ls 6 [(5, .int v5), (4, .int v4_1), (0, .ref (ad 0)), (1, .int x1), (2, .int x2), (3, .int x3)] → va_P D vwCl (wM cy ad I A) H → va_S Ad s.heap H locs → W p l e rmX10_isNear s m args below meth c H locs 0 0 Q (F0 m 11 ls []) := by
    intro n
    induction n with
    | zero => intro v5 v4_1 ls H locs h _ _ _; exact absurd h (hF _)
    | succ n ih =>
      intro v5 v4_1 ls H locs h hl hP hS
      replace h := hG _ _ h
      try dsimp only at h
      refine lv_iload hx hb dX10_isNear_11 (lv_at hl 0 rfl) ?_
      refine lv_aload_n hx hb dX10_isNear_13 rfl (lv_at hl 2 rfl) ?_
      refine va_get (T := TX10) hx hb hT inlX10 hown hK.1 hP 0 he_X10 rfl 1 (by decide) (hT _ mw_4_138) (fun _ h9 => h9) rfl dX10_isNear_14 ?_
      refine lv_icmp_ge (tgt := 55) hx hb dX10_isNear_17 (by decide) (fun hc => ?_) (fun hc => ?_)
      · rw [if_pos hc] at h
        refine lv_iload hx hb dX10_isNear_55 (lv_at hl 1 rfl) ?_
        obtain ⟨hz, h⟩ := h
        exact hret _ (I, A) hz dX10_isNear_57 ⟨h, rfl, rfl⟩ hP hS
      · rw [if_neg hc] at h
        refine lv_iload hx hb dX10_isNear_20 (lv_at hl 1 rfl) ?_
        refine lv_if_eq (tgt := 55) hx hb dX10_isNear_22 (by decide) (fun hc_1 => ?_) (fun hc_1 => ?_)
        · rw [if_pos hc_1] at h
          refine lv_iload hx hb dX10_isNear_55 (lv_at hl 1 rfl) ?_
          obtain ⟨hz_1, h⟩ := h
          exact hret _ (I, A) hz_1 dX10_isNear_57 ⟨h, rfl, rfl⟩ hP hS
        · rw [if_neg hc_1] at h
          refine lv_iload hx hb dX10_isNear_25 (lv_at hl 0 rfl) ?_
          refine lv_iload_n hx hb dX10_isNear_27 rfl (lv_at hl 5 rfl) ?_
          obtain ⟨k, hk, h⟩ := jn_ex h
          try dsimp only at h
          have J : ∀ (t : Int32), k t → ∀ (ls : Array Slot) (H : Heap) (locs : List Loc), lv_has ls 6 [(5, .int v5), (0, .ref (ad 0)), (1, .int x1), (2, .int x2), (3, .int x3)] → va_P D vwCl (wM cy ad I A) H → va_S Ad s.heap H locs → W p l e rmX10_isNear s m args below meth c H locs 0 0 Q (F0 m 47 ls [.int t]) := by
            intro t h ls H locs hl hP hS
            replace h := hk _ h
            try dsimp only at h
            refine lv_istore (lv' := [(4, .int t), (5, .int v5), (0, .ref (ad 0)), (1, .int x1), (2, .int x2), (3, .int x3)]) hx hb dX10_isNear_47 hl (by decide) rfl (fun ls hl => ?_)
            obtain ⟨v5_1, ev5_1⟩ : ∃ z : Int32, z = v5 + 1 := ⟨_, rfl⟩
            replace h := h v5_1 ev5_1
            refine lv_iinc (v := v5_1) (lv' := [(5, .int v5_1), (4, .int t), (0, .ref (ad 0)), (1, .int x1), (2, .int x2), (3, .int x3)]) hx hb dX10_isNear_49 hl (k := 1) rfl (by rw [ev5_1]; rfl) (by decide) rfl (fun ls hl => ?_)
            refine lv_goto (tgt := 11) hx hb dX10_isNear_52 (by decide) ?_
            exact ih v5_1 t _ _ _ h (lv_sub hl [0, 1, 2, 3, 4, 5] rfl) hP hS
          obtain ⟨k_1, hk_1, h⟩ := jn_ex h
          try dsimp only at h
          have J_1 : k_1 () → ∀ (ls : Array Slot) (H : Heap) (locs : List Loc), lv_has ls 6 [(5, .int v5), (0, .ref (ad 0)), (1, .int x1), (2, .int x2), (3, .int x3)] → va_P D vwCl (wM cy ad I A) H → va_S Ad s.heap H locs → W p l e rmX10_isNear s m args below meth c H locs 0 0 Q (F0 m 42 ls []) := by
            intro  h ls H locs hl hP hS
            replace h := hk_1 _ h
            try dsimp only at h
            refine lv_iconst (v := 1) hx hb dX10_isNear_42 (by decide) ?_
            refine lv_goto (tgt := 47) hx hb dX10_isNear_43 (by decide) ?_
            exact J 1 h _ _ _ (lv_sub hl [0, 1, 2, 3, 4] rfl) hP hS
          refine lv_icmp_eq (tgt := 42) hx hb dX10_isNear_28 (by decide) (fun hc_2 => ?_) (fun hc_2 => ?_)
          · rw [if_pos hc_2] at h
            exact J_1  h _ _ _ (lv_sub hl [0, 2, 3, 4, 5] rfl) hP hS
          · rw [if_neg hc_2] at h
            refine lv_aload_n hx hb dX10_isNear_31 rfl (lv_at hl 2 rfl) ?_
            refine lv_iload_n hx hb dX10_isNear_32 rfl (lv_at hl 3 rfl) ?_
            refine lv_iload_n hx hb dX10_isNear_33 rfl (lv_at hl 4 rfl) ?_
            refine lv_iload hx hb dX10_isNear_34 (lv_at hl 0 rfl) ?_
            refine callMi (k := 0) (As := [.int x1, .int x2, .int v5]) (rest := []) (n := 3) (c_X10_passes hAd I A x1 x2 v5 _ h) hx hb hT hown hK hP hS mw_5_96 wd_X10_passes (by decide +kernel) ⟨rfl, rfl⟩ (by decide) rfl rfl he_X10 rfl hl.1 hml rfl (Nat.le_of_ble_eq_true rfl) dX10_isNear_36 ⟨Nat.zero_le _, Nat.zero_le _⟩ (fun r36 u H locs h hP hS => ?_)
            obtain ⟨Iu, Au⟩ := u
            dsimp only at h hP
            obtain ⟨h, rfl, rfl⟩ := h
            try dsimp only at h
            refine lv_if_eq (tgt := 46) hx hb dX10_isNear_39 (by decide) (fun hc_3 => ?_) (fun hc_3 => ?_)
            · rw [if_pos hc_3] at h
              refine lv_iconst (v := 0) hx hb dX10_isNear_46 (by decide) ?_
              exact J 0 h _ _ _ (lv_sub hl [0, 2, 3, 4, 5] rfl) hP hS
            · rw [if_neg hc_3] at h
              exact J_1  h _ _ _ (lv_sub hl [0, 2, 3, 4, 5] rfl) hP hS
  exact LP _ 0 v4 _ _ _ h (lv_sub hl [0, 1, 2, 3, 4, 5] rfl) hP hS
theorem dX10_hitsBy_0 : decode cX10_hitsBy 0 = .ok (.iconst 0, 1) := by decide +kernel
theorem dX10_hitsBy_1 : decode cX10_hitsBy 1 = .ok (.istore_n 2, 1) := by decide +kernel
theorem dX10_hitsBy_2 : decode cX10_hitsBy 2 = .ok (.iconst 0, 1) := by decide +kernel
theorem dX10_hitsBy_3 : decode cX10_hitsBy 3 = .ok (.istore_n 3, 1) := by decide +kernel
theorem dX10_hitsBy_4 : decode cX10_hitsBy 4 = .ok (.iload_n 3, 1) := by decide +kernel
theorem dX10_hitsBy_5 : decode cX10_hitsBy 5 = .ok (.aload_n 0, 1) := by decide +kernel
theorem dX10_hitsBy_6 : decode cX10_hitsBy 6 = .ok (.getfield 70, 3) := by decide +kernel
theorem dX10_hitsBy_9 : decode cX10_hitsBy 9 = .ok (.if_icmp .ge 27, 3) := by decide +kernel
theorem dX10_hitsBy_12 : decode cX10_hitsBy 12 = .ok (.iload_n 2, 1) := by decide +kernel
theorem dX10_hitsBy_13 : decode cX10_hitsBy 13 = .ok (.aload_n 0, 1) := by decide +kernel
theorem dX10_hitsBy_14 : decode cX10_hitsBy 14 = .ok (.iload_n 1, 1) := by decide +kernel
theorem dX10_hitsBy_15 : decode cX10_hitsBy 15 = .ok (.iload_n 3, 1) := by decide +kernel
theorem dX10_hitsBy_16 : decode cX10_hitsBy 16 = .ok (.iconst (-1), 1) := by decide +kernel
theorem dX10_hitsBy_17 : decode cX10_hitsBy 17 = .ok (.invokevirtual 134, 3) := by decide +kernel
theorem dX10_hitsBy_20 : decode cX10_hitsBy 20 = .ok (.ifCond .eq 7, 3) := by decide +kernel
theorem dX10_hitsBy_23 : decode cX10_hitsBy 23 = .ok (.iconst 1, 1) := by decide +kernel
theorem dX10_hitsBy_24 : decode cX10_hitsBy 24 = .ok (.goto 4, 3) := by decide +kernel
theorem dX10_hitsBy_27 : decode cX10_hitsBy 27 = .ok (.iconst 0, 1) := by decide +kernel
theorem dX10_hitsBy_28 : decode cX10_hitsBy 28 = .ok (.iadd, 1) := by decide +kernel
theorem dX10_hitsBy_29 : decode cX10_hitsBy 29 = .ok (.istore_n 2, 1) := by decide +kernel
theorem dX10_hitsBy_30 : decode cX10_hitsBy 30 = .ok (.iinc 3 1, 3) := by decide +kernel
theorem dX10_hitsBy_33 : decode cX10_hitsBy 33 = .ok (.goto (-29), 3) := by decide +kernel
theorem dX10_hitsBy_36 : decode cX10_hitsBy 36 = .ok (.iload_n 2, 1) := by decide +kernel
theorem dX10_hitsBy_37 : decode cX10_hitsBy 37 = .ok (.ireturn, 1) := by decide +kernel
def wX10_hitsBy (I : Nat → Int32) (A : Nat → Nat → Int32) (x1 : Int32) (post : Int32 → Prop) : Prop := ∃ n, lfix (fun (r : (Int32 × Int32) → Prop) (v3, v2) => if (I 3) ≤ v3 then (post v2) else (wX10_isNear I A x1 v3 (-1) (fun r17 => jn (fun (t : Int32) => ∀ v2_1 : Int32, v2_1 = v2 + t → ∀ v3_1 : Int32, v3_1 = v3 + 1 → r (v3_1, v2_1)) (fun k => if r17 = 0 then (k 0) else (k 1))))) n (0, 0)
abbrev rmX10_hitsBy : Room := { frames := 3, cells := 0, slots := 0, locals := 80 }
theorem wd_X10_hitsBy : Cond.instanceMethod yX10_hitsBy ∈ BW ∧ Cond.selects yX10_hitsBy.cls yX10_hitsBy yX10_hitsBy ∈ BW ∧ Cond.initialized yX10_hitsBy.cls ∈ BW ∧ Cond.code yX10_hitsBy cX10_hitsBy 4 (some .int) ∈ BW := ⟨mw_5_170, mp_44, mw_1_11, mw_5_171⟩
set_option maxHeartbeats 4000000 in
set_option maxRecDepth 100000 in
theorem c_X10_hitsBy {l : Launch} {D : va_G} {cy : Nat → ClassId} {ad : Nat → Nat} {Ad : Nat → Prop} (hAd : adok 16 Ad ad) (I : Nat → Int32) (A : Nat → Nat → Int32) (x1 : Int32)  (post : Int32 → Prop) (h : wX10_hitsBy I A x1 post) : Met l yX10_hitsBy (.code yX10_hitsBy cX10_hitsBy 4 (some .int) :: BW) rmX10_hitsBy (va_Pc [.ref (ad 0), .int x1] (fun U => kC D cy U ∧ va_P D vwCl (wM cy ad I A) U.heap)) (qMi D cy ad Ad (fun r u => post r  ∧ I = u.1 ∧ A = u.2)) 0 0 Ad := by
  refine startMi (by decide) (Nat.le_of_ble_eq_true rfl) (lv := [(0, .ref (ad 0)), (1, .int x1)]) rfl (fun p e s m args below meth c Q ls hx hb hml hT hown hK hret hl hP hS => ?_)
  unfold wX10_hitsBy at h
  refine lv_iconst (v := 0) hx hb dX10_hitsBy_0 (by decide) ?_
  refine lv_istore_n (lv' := [(2, .int 0), (0, .ref (ad 0)), (1, .int x1)]) hx hb dX10_hitsBy_1 rfl hl (by decide) rfl (fun ls hl => ?_)
  refine lv_iconst (v := 0) hx hb dX10_hitsBy_2 (by decide) ?_
  refine lv_istore_n (lv' := [(3, .int 0), (2, .int 0), (0, .ref (ad 0)), (1, .int x1)]) hx hb dX10_hitsBy_3 rfl hl (by decide) rfl (fun ls hl => ?_)
  obtain ⟨F, n, h, hF, hG⟩ := lfix_ex h
  have LP : ∀ (n : Nat) (v3 : Int32) (v2 : Int32) (ls : Array Slot) (H : Heap) (locs : List Loc), F n (v3, v2) → lv_has ls 4 [(3, .int v3), (2, .int v2), (0, .ref (ad 0)), (1, .int x1)] → va_P D vwCl (wM cy ad I A) H → va_S Ad s.heap H locs → W p l e rmX10_hitsBy s m args below meth c H locs 0 0 Q (F0 m 4 ls []) := by
    intro n
    induction n with
    | zero => intro v3 v2 ls H locs h _ _ _; exact absurd h (hF _)
    | succ n ih =>
      intro v3 v2 ls H locs h hl hP hS
      replace h := hG _ _ h
      try dsimp only at h
      refine lv_iload_n hx hb dX10_hitsBy_4 rfl (lv_at hl 0 rfl) ?_
      refine lv_aload_n hx hb dX10_hitsBy_5 rfl (lv_at hl 2 rfl) ?_
      refine va_get (T := TX10) hx hb hT inlX10 hown hK.1 hP 0 he_X10 rfl 3 (by decide) (hT _ mw_4_140) (fun _ h9 => h9) rfl dX10_hitsBy_6 ?_
      refine lv_icmp_ge (tgt := 36) hx hb dX10_hitsBy_9 (by decide) (fun hc => ?_) (fun hc => ?_)
      · rw [if_pos hc] at h
        refine lv_iload_n hx hb dX10_hitsBy_36 rfl (lv_at hl 1 rfl) ?_
        exact hret _ (I, A) dX10_hitsBy_37 ⟨h, rfl, rfl⟩ hP hS
      · rw [if_neg hc] at h
        refine lv_iload_n hx hb dX10_hitsBy_12 rfl (lv_at hl 1 rfl) ?_
        refine lv_aload_n hx hb dX10_hitsBy_13 rfl (lv_at hl 2 rfl) ?_
        refine lv_iload_n hx hb dX10_hitsBy_14 rfl (lv_at hl 3 rfl) ?_
        refine lv_iload_n hx hb dX10_hitsBy_15 rfl (lv_at hl 0 rfl) ?_
        refine lv_iconst (v := (-1)) hx hb dX10_hitsBy_16 (by decide) ?_
        refine callMi (k := 0) (As := [.int x1, .int v3, .int (-1)]) (rest := [.int v2]) (n := 3) (c_X10_isNear hAd I A x1 v3 (-1) _ h) hx hb hT hown hK hP hS mw_5_92 wd_X10_isNear (by decide +kernel) ⟨rfl, rfl⟩ (by decide) rfl rfl he_X10 rfl hl.1 hml rfl (Nat.le_of_ble_eq_true rfl) dX10_hitsBy_17 ⟨Nat.zero_le _, Nat.zero_le _⟩ (fun r17 u H locs h hP hS => ?_)
        obtain ⟨Iu, Au⟩ := u
        dsimp only at h hP
        obtain ⟨h, rfl, rfl⟩ := h
        try dsimp only at h
        obtain ⟨k, hk, h⟩ := jn_ex h
        try dsimp only at h
        have J : ∀ (t : Int32), k t → ∀ (ls : Array Slot) (H : Heap) (locs : List Loc), lv_has ls 4 [(3, .int v3), (0, .ref (ad 0)), (1, .int x1)] → va_P D vwCl (wM cy ad I A) H → va_S Ad s.heap H locs → W p l e rmX10_hitsBy s m args below meth c H locs 0 0 Q (F0 m 28 ls [.int t, .int v2]) := by
          intro t h ls H locs hl hP hS
          replace h := hk _ h
          try dsimp only at h
          refine lv_iadd hx hb dX10_hitsBy_28 ?_
          refine lv_topi (fun v2_1 ev2_1 => ?_)
          replace h := h v2_1 ev2_1
          refine lv_istore_n (lv' := [(2, .int v2_1), (3, .int v3), (0, .ref (ad 0)), (1, .int x1)]) hx hb dX10_hitsBy_29 rfl hl (by decide) rfl (fun ls hl => ?_)
          obtain ⟨v3_1, ev3_1⟩ : ∃ z : Int32, z = v3 + 1 := ⟨_, rfl⟩
          replace h := h v3_1 ev3_1
          refine lv_iinc (v := v3_1) (lv' := [(3, .int v3_1), (2, .int v2_1), (0, .ref (ad 0)), (1, .int x1)]) hx hb dX10_hitsBy_30 hl (k := 1) rfl (by rw [ev3_1]; rfl) (by decide) rfl (fun ls hl => ?_)
          refine lv_goto (tgt := 4) hx hb dX10_hitsBy_33 (by decide) ?_
          exact ih v3_1 v2_1 _ _ _ h (lv_sub hl [0, 1, 2, 3] rfl) hP hS
        refine lv_if_eq (tgt := 27) hx hb dX10_hitsBy_20 (by decide) (fun hc_1 => ?_) (fun hc_1 => ?_)
        · rw [if_pos hc_1] at h
          refine lv_iconst (v := 0) hx hb dX10_hitsBy_27 (by decide) ?_
          exact J 0 h _ _ _ (lv_sub hl [0, 2, 3] rfl) hP hS
        · rw [if_neg hc_1] at h
          refine lv_iconst (v := 1) hx hb dX10_hitsBy_23 (by decide) ?_
          refine lv_goto (tgt := 28) hx hb dX10_hitsBy_24 (by decide) ?_
          exact J 1 h _ _ _ (lv_sub hl [0, 2, 3] rfl) hP hS
  exact LP _ 0 0 _ _ _ h (lv_sub hl [0, 1, 2, 3] rfl) hP hS
theorem dX10_isAhead_0 : decode cX10_isAhead 0 = .ok (.aload_n 0, 1) := by decide +kernel
theorem dX10_isAhead_1 : decode cX10_isAhead 1 = .ok (.getfield 19, 3) := by decide +kernel
theorem dX10_isAhead_4 : decode cX10_isAhead 4 = .ok (.iload_n 1, 1) := by decide +kernel
theorem dX10_isAhead_5 : decode cX10_isAhead 5 = .ok (.iaload, 1) := by decide +kernel
theorem dX10_isAhead_6 : decode cX10_isAhead 6 = .ok (.aload_n 0, 1) := by decide +kernel
theorem dX10_isAhead_7 : decode cX10_isAhead 7 = .ok (.getfield 19, 3) := by decide +kernel
theorem dX10_isAhead_10 : decode cX10_isAhead 10 = .ok (.iload_n 2, 1) := by decide +kernel
theorem dX10_isAhead_11 : decode cX10_isAhead 11 = .ok (.iaload, 1) := by decide +kernel
theorem dX10_isAhead_12 : decode cX10_isAhead 12 = .ok (.if_icmp .gt 23, 3) := by decide +kernel
theorem dX10_isAhead_15 : decode cX10_isAhead 15 = .ok (.aload_n 0, 1) := by decide +kernel
theorem dX10_isAhead_16 : decode cX10_isAhead 16 = .ok (.getfield 19, 3) := by decide +kernel
theorem dX10_isAhead_19 : decode cX10_isAhead 19 = .ok (.iload_n 1, 1) := by decide +kernel
theorem dX10_isAhead_20 : decode cX10_isAhead 20 = .ok (.iaload, 1) := by decide +kernel
theorem dX10_isAhead_21 : decode cX10_isAhead 21 = .ok (.aload_n 0, 1) := by decide +kernel
theorem dX10_isAhead_22 : decode cX10_isAhead 22 = .ok (.getfield 19, 3) := by decide +kernel
theorem dX10_isAhead_25 : decode cX10_isAhead 25 = .ok (.iload_n 2, 1) := by decide +kernel
theorem dX10_isAhead_26 : decode cX10_isAhead 26 = .ok (.iaload, 1) := by decide +kernel
theorem dX10_isAhead_27 : decode cX10_isAhead 27 = .ok (.if_icmp .ne 12, 3) := by decide +kernel
theorem dX10_isAhead_30 : decode cX10_isAhead 30 = .ok (.iload_n 1, 1) := by decide +kernel
theorem dX10_isAhead_31 : decode cX10_isAhead 31 = .ok (.iload_n 2, 1) := by decide +kernel
theorem dX10_isAhead_32 : decode cX10_isAhead 32 = .ok (.if_icmp .ge 7, 3) := by decide +kernel
theorem dX10_isAhead_35 : decode cX10_isAhead 35 = .ok (.iconst 1, 1) := by decide +kernel
theorem dX10_isAhead_36 : decode cX10_isAhead 36 = .ok (.goto 4, 3) := by decide +kernel
theorem dX10_isAhead_39 : decode cX10_isAhead 39 = .ok (.iconst 0, 1) := by decide +kernel
theorem dX10_isAhead_40 : decode cX10_isAhead 40 = .ok (.ireturn, 1) := by decide +kernel
def wX10_isAhead (I : Nat → Int32) (A : Nat → Nat → Int32) (x1 : Int32) (x2 : Int32) (post : Int32 → Prop) : Prop := vp_in x1 40 ∧ (vp_in x2 40 ∧ (if (A 4 x2.toNatClampNeg) < (A 4 x1.toNatClampNeg) then (post 1) else (vp_in x1 40 ∧ (vp_in x2 40 ∧ (if (A 4 x1.toNatClampNeg) = (A 4 x2.toNatClampNeg) then (if x2 ≤ x1 then (post 0) else (post 1)) else (post 0))))))
abbrev rmX10_isAhead : Room := { frames := 0, cells := 0, slots := 0, locals := 0 }
theorem wd_X10_isAhead : Cond.instanceMethod yX10_isAhead ∈ BW ∧ Cond.selects yX10_isAhead.cls yX10_isAhead yX10_isAhead ∈ BW ∧ Cond.initialized yX10_isAhead.cls ∈ BW ∧ Cond.code yX10_isAhead cX10_isAhead 3 (some .boolean) ∈ BW := ⟨mw_5_126, mp_40, mw_1_11, mw_5_127⟩
set_option maxHeartbeats 4000000 in
set_option maxRecDepth 100000 in
theorem c_X10_isAhead {l : Launch} {D : va_G} {cy : Nat → ClassId} {ad : Nat → Nat} {Ad : Nat → Prop} (hAd : adok 16 Ad ad) (I : Nat → Int32) (A : Nat → Nat → Int32) (x1 : Int32) (x2 : Int32)  (post : Int32 → Prop) (h : wX10_isAhead I A x1 x2 post) : Met l yX10_isAhead (.code yX10_isAhead cX10_isAhead 3 (some .boolean) :: BW) rmX10_isAhead (va_Pc [.ref (ad 0), .int x1, .int x2] (fun U => kC D cy U ∧ va_P D vwCl (wM cy ad I A) U.heap)) (qMi D cy ad Ad (fun r u => post r  ∧ I = u.1 ∧ A = u.2)) 0 0 Ad := by
  refine startMz (by decide) (Nat.le_of_ble_eq_true rfl) (lv := [(0, .ref (ad 0)), (1, .int x1), (2, .int x2)]) rfl (fun p e s m args below meth c Q ls hx hb hml hT hown hK hret hl hP hS => ?_)
  unfold wX10_isAhead at h
  refine lv_aload_n hx hb dX10_isAhead_0 rfl (lv_at hl 0 rfl) ?_
  refine va_get (T := TX10) hx hb hT inlX10 hown hK.1 hP 0 he_X10 rfl 7 (by decide) (hT _ mw_4_144) (fun _ h9 => h9) rfl dX10_isAhead_1 ?_
  refine lv_iload_n hx hb dX10_isAhead_4 rfl (lv_at hl 1 rfl) ?_
  obtain ⟨hi, h⟩ := h
  refine lM_I hx hb hK.1 hP (by decide) rfl hi dX10_isAhead_5 ?_
  refine lv_aload_n hx hb dX10_isAhead_6 rfl (lv_at hl 0 rfl) ?_
  refine va_get (T := TX10) hx hb hT inlX10 hown hK.1 hP 0 he_X10 rfl 7 (by decide) (hT _ mw_4_144) (fun _ h9 => h9) rfl dX10_isAhead_7 ?_
  refine lv_iload_n hx hb dX10_isAhead_10 rfl (lv_at hl 2 rfl) ?_
  obtain ⟨hi_1, h⟩ := h
  refine lM_I hx hb hK.1 hP (by decide) rfl hi_1 dX10_isAhead_11 ?_
  refine lv_icmp_gt (tgt := 35) hx hb dX10_isAhead_12 (by decide) (fun hc => ?_) (fun hc => ?_)
  · rw [if_pos hc] at h
    refine lv_iconst (v := 1) hx hb dX10_isAhead_35 (by decide) ?_
    refine lv_goto (tgt := 40) hx hb dX10_isAhead_36 (by decide) ?_
    exact hret _ (I, A) zb_1 dX10_isAhead_40 ⟨h, rfl, rfl⟩ hP hS
  · rw [if_neg hc] at h
    refine lv_aload_n hx hb dX10_isAhead_15 rfl (lv_at hl 0 rfl) ?_
    refine va_get (T := TX10) hx hb hT inlX10 hown hK.1 hP 0 he_X10 rfl 7 (by decide) (hT _ mw_4_144) (fun _ h9 => h9) rfl dX10_isAhead_16 ?_
    refine lv_iload_n hx hb dX10_isAhead_19 rfl (lv_at hl 1 rfl) ?_
    obtain ⟨hi_2, h⟩ := h
    refine lM_I hx hb hK.1 hP (by decide) rfl hi_2 dX10_isAhead_20 ?_
    refine lv_aload_n hx hb dX10_isAhead_21 rfl (lv_at hl 0 rfl) ?_
    refine va_get (T := TX10) hx hb hT inlX10 hown hK.1 hP 0 he_X10 rfl 7 (by decide) (hT _ mw_4_144) (fun _ h9 => h9) rfl dX10_isAhead_22 ?_
    refine lv_iload_n hx hb dX10_isAhead_25 rfl (lv_at hl 2 rfl) ?_
    obtain ⟨hi_3, h⟩ := h
    refine lM_I hx hb hK.1 hP (by decide) rfl hi_3 dX10_isAhead_26 ?_
    refine lv_icmp_ne (tgt := 39) hx hb dX10_isAhead_27 (by decide) (fun hc_1 => ?_) (fun hc_1 => ?_)
    · rw [if_neg hc_1] at h
      refine lv_iconst (v := 0) hx hb dX10_isAhead_39 (by decide) ?_
      exact hret _ (I, A) zb_0 dX10_isAhead_40 ⟨h, rfl, rfl⟩ hP hS
    · rw [if_pos hc_1] at h
      refine lv_iload_n hx hb dX10_isAhead_30 rfl (lv_at hl 1 rfl) ?_
      refine lv_iload_n hx hb dX10_isAhead_31 rfl (lv_at hl 2 rfl) ?_
      refine lv_icmp_ge (tgt := 39) hx hb dX10_isAhead_32 (by decide) (fun hc_2 => ?_) (fun hc_2 => ?_)
      · rw [if_pos hc_2] at h
        refine lv_iconst (v := 0) hx hb dX10_isAhead_39 (by decide) ?_
        exact hret _ (I, A) zb_0 dX10_isAhead_40 ⟨h, rfl, rfl⟩ hP hS
      · rw [if_neg hc_2] at h
        refine lv_iconst (v := 1) hx hb dX10_isAhead_35 (by decide) ?_
        refine lv_goto (tgt := 40) hx hb dX10_isAhead_36 (by decide) ?_
        exact hret _ (I, A) zb_1 dX10_isAhead_40 ⟨h, rfl, rfl⟩ hP hS
theorem dX10_orders_0 : decode cX10_orders 0 = .ok (.aload_n 0, 1) := by decide +kernel
theorem dX10_orders_1 : decode cX10_orders 1 = .ok (.iconst 0, 1) := by decide +kernel
theorem dX10_orders_2 : decode cX10_orders 2 = .ok (.putfield 137, 3) := by decide +kernel
theorem dX10_orders_5 : decode cX10_orders 5 = .ok (.iconst 0, 1) := by decide +kernel
theorem dX10_orders_6 : decode cX10_orders 6 = .ok (.istore_n 1, 1) := by decide +kernel
theorem dX10_orders_7 : decode cX10_orders 7 = .ok (.iload_n 1, 1) := by decide +kernel
theorem dX10_orders_8 : decode cX10_orders 8 = .ok (.aload_n 0, 1) := by decide +kernel
theorem dX10_orders_9 : decode cX10_orders 9 = .ok (.getfield 70, 3) := by decide +kernel
theorem dX10_orders_12 : decode cX10_orders 12 = .ok (.if_icmp .ge 79, 3) := by decide +kernel
theorem dX10_orders_15 : decode cX10_orders 15 = .ok (.aload_n 0, 1) := by decide +kernel
theorem dX10_orders_16 : decode cX10_orders 16 = .ok (.getfield 22, 3) := by decide +kernel
theorem dX10_orders_19 : decode cX10_orders 19 = .ok (.iload_n 1, 1) := by decide +kernel
theorem dX10_orders_20 : decode cX10_orders 20 = .ok (.baload, 1) := by decide +kernel
theorem dX10_orders_21 : decode cX10_orders 21 = .ok (.ifCond .eq 64, 3) := by decide +kernel
theorem dX10_orders_24 : decode cX10_orders 24 = .ok (.iconst 0, 1) := by decide +kernel
theorem dX10_orders_25 : decode cX10_orders 25 = .ok (.istore_n 2, 1) := by decide +kernel
theorem dX10_orders_26 : decode cX10_orders 26 = .ok (.iconst 0, 1) := by decide +kernel
theorem dX10_orders_27 : decode cX10_orders 27 = .ok (.istore_n 3, 1) := by decide +kernel
theorem dX10_orders_28 : decode cX10_orders 28 = .ok (.iload_n 3, 1) := by decide +kernel
theorem dX10_orders_29 : decode cX10_orders 29 = .ok (.aload_n 0, 1) := by decide +kernel
theorem dX10_orders_30 : decode cX10_orders 30 = .ok (.getfield 70, 3) := by decide +kernel
theorem dX10_orders_33 : decode cX10_orders 33 = .ok (.if_icmp .ge 35, 3) := by decide +kernel
theorem dX10_orders_36 : decode cX10_orders 36 = .ok (.iload_n 2, 1) := by decide +kernel
theorem dX10_orders_37 : decode cX10_orders 37 = .ok (.aload_n 0, 1) := by decide +kernel
theorem dX10_orders_38 : decode cX10_orders 38 = .ok (.getfield 22, 3) := by decide +kernel
theorem dX10_orders_41 : decode cX10_orders 41 = .ok (.iload_n 3, 1) := by decide +kernel
theorem dX10_orders_42 : decode cX10_orders 42 = .ok (.baload, 1) := by decide +kernel
theorem dX10_orders_43 : decode cX10_orders 43 = .ok (.ifCond .eq 16, 3) := by decide +kernel
theorem dX10_orders_46 : decode cX10_orders 46 = .ok (.aload_n 0, 1) := by decide +kernel
theorem dX10_orders_47 : decode cX10_orders 47 = .ok (.iload_n 3, 1) := by decide +kernel
theorem dX10_orders_48 : decode cX10_orders 48 = .ok (.iload_n 1, 1) := by decide +kernel
theorem dX10_orders_49 : decode cX10_orders 49 = .ok (.invokevirtual 140, 3) := by decide +kernel
theorem dX10_orders_52 : decode cX10_orders 52 = .ok (.ifCond .eq 7, 3) := by decide +kernel
theorem dX10_orders_55 : decode cX10_orders 55 = .ok (.iconst 1, 1) := by decide +kernel
theorem dX10_orders_56 : decode cX10_orders 56 = .ok (.goto 4, 3) := by decide +kernel
theorem dX10_orders_59 : decode cX10_orders 59 = .ok (.iconst 0, 1) := by decide +kernel
theorem dX10_orders_60 : decode cX10_orders 60 = .ok (.iadd, 1) := by decide +kernel
theorem dX10_orders_61 : decode cX10_orders 61 = .ok (.istore_n 2, 1) := by decide +kernel
theorem dX10_orders_62 : decode cX10_orders 62 = .ok (.iinc 3 1, 3) := by decide +kernel
theorem dX10_orders_65 : decode cX10_orders 65 = .ok (.goto (-37), 3) := by decide +kernel
theorem dX10_orders_68 : decode cX10_orders 68 = .ok (.aload_n 0, 1) := by decide +kernel
theorem dX10_orders_69 : decode cX10_orders 69 = .ok (.getfield 41, 3) := by decide +kernel
theorem dX10_orders_72 : decode cX10_orders 72 = .ok (.iload_n 2, 1) := by decide +kernel
theorem dX10_orders_73 : decode cX10_orders 73 = .ok (.iload_n 1, 1) := by decide +kernel
theorem dX10_orders_74 : decode cX10_orders 74 = .ok (.iastore, 1) := by decide +kernel
theorem dX10_orders_75 : decode cX10_orders 75 = .ok (.aload_n 0, 1) := by decide +kernel
theorem dX10_orders_76 : decode cX10_orders 76 = .ok (.dup, 1) := by decide +kernel
theorem dX10_orders_77 : decode cX10_orders 77 = .ok (.getfield 137, 3) := by decide +kernel
theorem dX10_orders_80 : decode cX10_orders 80 = .ok (.iconst 1, 1) := by decide +kernel
theorem dX10_orders_81 : decode cX10_orders 81 = .ok (.iadd, 1) := by decide +kernel
theorem dX10_orders_82 : decode cX10_orders 82 = .ok (.putfield 137, 3) := by decide +kernel
theorem dX10_orders_85 : decode cX10_orders 85 = .ok (.iinc 1 1, 3) := by decide +kernel
theorem dX10_orders_88 : decode cX10_orders 88 = .ok (.goto (-81), 3) := by decide +kernel
theorem dX10_orders_91 : decode cX10_orders 91 = .ok (.return_, 1) := by decide +kernel
def wX10_orders (I : Nat → Int32) (A : Nat → Nat → Int32)  (post : (Nat → Int32) → (Nat → Nat → Int32) → Prop) : Prop := (∀ I_1, I_1 = va_up I 5 0 → ∃ n, lfix (fun (r : (Int32 × (Nat → Int32) × (Nat → Nat → Int32)) → Prop) (v1, I_2, A_1) => if (I_2 3) ≤ v1 then (post I_2 A_1) else (vp_in v1 40 ∧ (if (A_1 5 v1.toNatClampNeg) = 0 then (∀ v1_1 : Int32, v1_1 = v1 + 1 → r (v1_1, I_2, A_1)) else (∃ n_1, lfix (fun (r_1 : (Int32 × Int32) → Prop) (v3, v2) => if (I_2 3) ≤ v3 then (vp_in v2 40 ∧ (∀ A_2, A_2 = va_up A_1 11 (upd (A_1 11) v2.toNatClampNeg v1) → (∀ I_3, I_3 = va_up I_2 5 ((I_2 5) + 1) → ∀ v1_2 : Int32, v1_2 = v1 + 1 → r (v1_2, I_3, A_2)))) else (vp_in v3 40 ∧ (jn (fun (t : Int32) => ∀ v2_1 : Int32, v2_1 = v2 + t → ∀ v3_1 : Int32, v3_1 = v3 + 1 → r_1 (v3_1, v2_1)) (fun k => jn (fun (_ : Unit) => k 0) (fun k_1 => if (A_1 5 v3.toNatClampNeg) = 0 then (k_1 ()) else (wX10_isAhead I_2 A_1 v3 v1 (fun r49 => if r49 = 0 then (k_1 ()) else (k 1)))))))) n_1 (0, 0))))) n (0, I_1, A))
abbrev rmX10_orders : Room := { frames := 1, cells := 0, slots := 0, locals := 22 }
theorem wd_X10_orders : Cond.instanceMethod yX10_orders ∈ BW ∧ Cond.selects yX10_orders.cls yX10_orders yX10_orders ∈ BW ∧ Cond.initialized yX10_orders.cls ∈ BW ∧ Cond.code yX10_orders cX10_orders 4 (none : Option Jvm.ClassFile.FieldType) ∈ BW := ⟨mw_5_122, mp_39, mw_1_11, mw_5_123⟩
set_option maxHeartbeats 4000000 in
set_option maxRecDepth 100000 in
theorem c_X10_orders {l : Launch} {D : va_G} {cy : Nat → ClassId} {ad : Nat → Nat} {Ad : Nat → Prop} (hAd : adok 16 Ad ad) (I : Nat → Int32) (A : Nat → Nat → Int32)   (post : (Nat → Int32) → (Nat → Nat → Int32) → Prop) (h : wX10_orders I A  post) : Met l yX10_orders (.code yX10_orders cX10_orders 4 (none : Option Jvm.ClassFile.FieldType) :: BW) rmX10_orders (va_Pc [.ref (ad 0)] (fun U => kC D cy U ∧ va_P D vwCl (wM cy ad I A) U.heap)) (qMv D cy ad Ad (fun u => post u.1 u.2)) 0 0 Ad := by
  refine startMv (by decide) (Nat.le_of_ble_eq_true rfl) (lv := [(0, .ref (ad 0))]) rfl (fun p e s m args below meth c Q ls hx hb hml hT hown hK hret hl hP hS => ?_)
  unfold wX10_orders at h
  refine lv_aload_n hx hb dX10_orders_0 rfl (lv_at hl 0 rfl) ?_
  refine lv_iconst (v := 0) hx hb dX10_orders_1 (by decide) ?_
  refine pM_X10_many hAd hx hb hT hown hK.1 hP hS (hT _ mw_4_153) dX10_orders_2 (fun H locs hP hS => ?_)
  obtain ⟨I_1, eI_1⟩ : ∃ z, z = va_up I 5 0 := ⟨_, rfl⟩
  rw [← eI_1] at hP
  replace h := h I_1 eI_1
  refine lv_iconst (v := 0) hx hb dX10_orders_5 (by decide) ?_
  refine lv_istore_n (lv' := [(1, .int 0), (0, .ref (ad 0))]) hx hb dX10_orders_6 rfl hl (by decide) rfl (fun ls hl => ?_)
  obtain ⟨F, n, h, hF, hG⟩ := lfix_ex h
  have LP : ∀ (n : Nat) (v1 : Int32) (I_2 : Nat → Int32) (A_1 : Nat → Nat → Int32) (ls : Array Slot) (H : Heap) (locs : List Loc), F n (v1, I_2, A_1) → lv_has ls 4 [(1, .int v1), (0, .ref (ad 0))] → va_P D vwCl (wM cy ad I_2 A_1) H → va_S Ad s.heap H locs → W p l e rmX10_orders s m args below meth c H locs 0 0 Q (F0 m 7 ls []) := by
    intro n
    induction n with
    | zero => intro v1 I_2 A_1 ls H locs h _ _ _; exact absurd h (hF _)
    | succ n ih =>
      intro v1 I_2 A_1 ls H locs h hl hP hS
      replace h := hG _ _ h
      try dsimp only at h
      refine lv_iload_n hx hb dX10_orders_7 rfl (lv_at hl 0 rfl) ?_
      refine lv_aload_n hx hb dX10_orders_8 rfl (lv_at hl 1 rfl) ?_
      refine va_get (T := TX10) hx hb hT inlX10 hown hK.1 hP 0 he_X10 rfl 3 (by decide) (hT _ mw_4_140) (fun _ h9 => h9) rfl dX10_orders_9 ?_
      refine lv_icmp_ge (tgt := 91) hx hb dX10_orders_12 (by decide) (fun hc => ?_) (fun hc => ?_)
      · rw [if_pos hc] at h
        exact hret (I_2, A_1) dX10_orders_91 h hP hS
      · rw [if_neg hc] at h
        refine lv_aload_n hx hb dX10_orders_15 rfl (lv_at hl 1 rfl) ?_
        refine va_get (T := TX10) hx hb hT inlX10 hown hK.1 hP 0 he_X10 rfl 8 (by decide) (hT _ mw_4_145) (fun _ h9 => h9) rfl dX10_orders_16 ?_
        refine lv_iload_n hx hb dX10_orders_19 rfl (lv_at hl 0 rfl) ?_
        obtain ⟨hi, h⟩ := h
        refine lM_Z hx hb hK.1 hP (by decide) rfl hi dX10_orders_20 ?_
        refine lv_if_eq (tgt := 85) hx hb dX10_orders_21 (by decide) (fun hc_1 => ?_) (fun hc_1 => ?_)
        · rw [if_pos hc_1] at h
          obtain ⟨v1_1, ev1_1⟩ : ∃ z : Int32, z = v1 + 1 := ⟨_, rfl⟩
          replace h := h v1_1 ev1_1
          refine lv_iinc (v := v1_1) (lv' := [(1, .int v1_1), (0, .ref (ad 0))]) hx hb dX10_orders_85 hl (k := 0) rfl (by rw [ev1_1]; rfl) (by decide) rfl (fun ls hl => ?_)
          refine lv_goto (tgt := 7) hx hb dX10_orders_88 (by decide) ?_
          exact ih v1_1 I_2 A_1 _ _ _ h (lv_sub hl [0, 1] rfl) hP hS
        · rw [if_neg hc_1] at h
          refine lv_iconst (v := 0) hx hb dX10_orders_24 (by decide) ?_
          refine lv_istore_n (lv' := [(2, .int 0), (1, .int v1), (0, .ref (ad 0))]) hx hb dX10_orders_25 rfl hl (by decide) rfl (fun ls hl => ?_)
          refine lv_iconst (v := 0) hx hb dX10_orders_26 (by decide) ?_
          refine lv_istore_n (lv' := [(3, .int 0), (2, .int 0), (1, .int v1), (0, .ref (ad 0))]) hx hb dX10_orders_27 rfl hl (by decide) rfl (fun ls hl => ?_)
          obtain ⟨F_1, n_1, h, hF_1, hG_1⟩ := lfix_ex h
          have LP_1 : ∀ (n_1 : Nat) (v3 : Int32) (v2 : Int32) (ls : Array Slot) (H : Heap) (locs : List Loc), F_1 n_1 (v3, v2) → lv_has ls 4 [(3, .int v3), (2, .int v2), (1, .int v1), (0, .ref (ad 0))] → va_P D vwCl (wM cy ad I_2 A_1) H → va_S Ad s.heap H locs → W p l e rmX10_orders s m args below meth c H locs 0 0 Q (F0 m 28 ls []) := by
            intro n_1
            induction n_1 with
            | zero => intro v3 v2 ls H locs h _ _ _; exact absurd h (hF_1 _)
            | succ n_1 ih_1 =>
              intro v3 v2 ls H locs h hl hP hS
              replace h := hG_1 _ _ h
              try dsimp only at h
              refine lv_iload_n hx hb dX10_orders_28 rfl (lv_at hl 0 rfl) ?_
              refine lv_aload_n hx hb dX10_orders_29 rfl (lv_at hl 3 rfl) ?_
              refine va_get (T := TX10) hx hb hT inlX10 hown hK.1 hP 0 he_X10 rfl 3 (by decide) (hT _ mw_4_140) (fun _ h9 => h9) rfl dX10_orders_30 ?_
              refine lv_icmp_ge (tgt := 68) hx hb dX10_orders_33 (by decide) (fun hc_2 => ?_) (fun hc_2 => ?_)
              · rw [if_pos hc_2] at h
                refine lv_aload_n hx hb dX10_orders_68 rfl (lv_at hl 3 rfl) ?_
                refine va_get (T := TX10) hx hb hT inlX10 hown hK.1 hP 0 he_X10 rfl 15 (by decide) (hT _ mw_4_152) (fun _ h9 => h9) rfl dX10_orders_69 ?_
                refine lv_iload_n hx hb dX10_orders_72 rfl (lv_at hl 1 rfl) ?_
                refine lv_iload_n hx hb dX10_orders_73 rfl (lv_at hl 2 rfl) ?_
                obtain ⟨hi_1, h⟩ := h
                refine sM_I hAd hx hb hK.1 hP hS (by decide) (fun _ => rfl) hi_1 dX10_orders_74 (fun H locs hP hS => ?_)
                obtain ⟨A_2, eA_2⟩ : ∃ z, z = va_up A_1 11 (upd (A_1 11) v2.toNatClampNeg v1) := ⟨_, rfl⟩
                rw [← eA_2] at hP
                replace h := h A_2 eA_2
                refine lv_aload_n hx hb dX10_orders_75 rfl (lv_at hl 3 rfl) ?_
                refine lv_dup hx hb dX10_orders_76 rfl ?_
                refine va_get (T := TX10) hx hb hT inlX10 hown hK.1 hP 0 he_X10 rfl 16 (by decide) (hT _ mw_4_153) (fun _ h9 => h9) rfl dX10_orders_77 ?_
                refine lv_iconst (v := 1) hx hb dX10_orders_80 (by decide) ?_
                refine lv_iadd hx hb dX10_orders_81 ?_
                refine pM_X10_many hAd hx hb hT hown hK.1 hP hS (hT _ mw_4_153) dX10_orders_82 (fun H locs hP hS => ?_)
                obtain ⟨I_3, eI_3⟩ : ∃ z, z = va_up I_2 5 ((I_2 5) + 1) := ⟨_, rfl⟩
                rw [← eI_3] at hP
                replace h := h I_3 eI_3
                obtain ⟨v1_2, ev1_2⟩ : ∃ z : Int32, z = v1 + 1 := ⟨_, rfl⟩
                replace h := h v1_2 ev1_2
                refine lv_iinc (v := v1_2) (lv' := [(1, .int v1_2), (3, .int v3), (2, .int v2), (0, .ref (ad 0))]) hx hb dX10_orders_85 hl (k := 2) rfl (by rw [ev1_2]; rfl) (by decide) rfl (fun ls hl => ?_)
                refine lv_goto (tgt := 7) hx hb dX10_orders_88 (by decide) ?_
                exact ih v1_2 I_3 A_2 _ _ _ h (lv_sub hl [0, 3] rfl) hP hS
              · rw [if_neg hc_2] at h
                refine lv_iload_n hx hb dX10_orders_36 rfl (lv_at hl 1 rfl) ?_
                refine lv_aload_n hx hb dX10_orders_37 rfl (lv_at hl 3 rfl) ?_
                refine va_get (T := TX10) hx hb hT inlX10 hown hK.1 hP 0 he_X10 rfl 8 (by decide) (hT _ mw_4_145) (fun _ h9 => h9) rfl dX10_orders_38 ?_
                refine lv_iload_n hx hb dX10_orders_41 rfl (lv_at hl 0 rfl) ?_
                obtain ⟨hi_2, h⟩ := h
                refine lM_Z hx hb hK.1 hP (by decide) rfl hi_2 dX10_orders_42 ?_
                obtain ⟨k, hk, h⟩ := jn_ex h
                try dsimp only at h
                have J : ∀ (t : Int32), k t → ∀ (ls : Array Slot) (H : Heap) (locs : List Loc), lv_has ls 4 [(3, .int v3), (1, .int v1), (0, .ref (ad 0))] → va_P D vwCl (wM cy ad I_2 A_1) H → va_S Ad s.heap H locs → W p l e rmX10_orders s m args below meth c H locs 0 0 Q (F0 m 60 ls [.int t, .int v2]) := by
                  intro t h ls H locs hl hP hS
                  replace h := hk _ h
                  try dsimp only at h
                  refine lv_iadd hx hb dX10_orders_60 ?_
                  refine lv_topi (fun v2_1 ev2_1 => ?_)
                  replace h := h v2_1 ev2_1
                  refine lv_istore_n (lv' := [(2, .int v2_1), (3, .int v3), (1, .int v1), (0, .ref (ad 0))]) hx hb dX10_orders_61 rfl hl (by decide) rfl (fun ls hl => ?_)
                  obtain ⟨v3_1, ev3_1⟩ : ∃ z : Int32, z = v3 + 1 := ⟨_, rfl⟩
                  replace h := h v3_1 ev3_1
                  refine lv_iinc (v := v3_1) (lv' := [(3, .int v3_1), (2, .int v2_1), (1, .int v1), (0, .ref (ad 0))]) hx hb dX10_orders_62 hl (k := 1) rfl (by rw [ev3_1]; rfl) (by decide) rfl (fun ls hl => ?_)
                  refine lv_goto (tgt := 28) hx hb dX10_orders_65 (by decide) ?_
                  exact ih_1 v3_1 v2_1 _ _ _ h (lv_sub hl [0, 1, 2, 3] rfl) hP hS
                obtain ⟨k_1, hk_1, h⟩ := jn_ex h
                try dsimp only at h
                have J_1 : k_1 () → ∀ (ls : Array Slot) (H : Heap) (locs : List Loc), lv_has ls 4 [(3, .int v3), (1, .int v1), (0, .ref (ad 0))] → va_P D vwCl (wM cy ad I_2 A_1) H → va_S Ad s.heap H locs → W p l e rmX10_orders s m args below meth c H locs 0 0 Q (F0 m 59 ls [.int v2]) := by
                  intro  h ls H locs hl hP hS
                  replace h := hk_1 _ h
                  try dsimp only at h
                  refine lv_iconst (v := 0) hx hb dX10_orders_59 (by decide) ?_
                  exact J 0 h _ _ _ (lv_sub hl [0, 1, 2] rfl) hP hS
                refine lv_if_eq (tgt := 59) hx hb dX10_orders_43 (by decide) (fun hc_3 => ?_) (fun hc_3 => ?_)
                · rw [if_pos hc_3] at h
                  exact J_1  h _ _ _ (lv_sub hl [0, 2, 3] rfl) hP hS
                · rw [if_neg hc_3] at h
                  refine lv_aload_n hx hb dX10_orders_46 rfl (lv_at hl 3 rfl) ?_
                  refine lv_iload_n hx hb dX10_orders_47 rfl (lv_at hl 0 rfl) ?_
                  refine lv_iload_n hx hb dX10_orders_48 rfl (lv_at hl 2 rfl) ?_
                  refine callMi (k := 0) (As := [.int v3, .int v1]) (rest := [.int v2]) (n := 2) (c_X10_isAhead hAd I_2 A_1 v3 v1 _ h) hx hb hT hown hK hP hS mw_5_124 wd_X10_isAhead (by decide +kernel) ⟨rfl, rfl⟩ (by decide) rfl rfl he_X10 rfl hl.1 hml rfl (Nat.le_of_ble_eq_true rfl) dX10_orders_49 ⟨Nat.zero_le _, Nat.zero_le _⟩ (fun r49 u H locs h hP hS => ?_)
                  obtain ⟨Iu, Au⟩ := u
                  dsimp only at h hP
                  obtain ⟨h, rfl, rfl⟩ := h
                  try dsimp only at h
                  refine lv_if_eq (tgt := 59) hx hb dX10_orders_52 (by decide) (fun hc_4 => ?_) (fun hc_4 => ?_)
                  · rw [if_pos hc_4] at h
                    exact J_1  h _ _ _ (lv_sub hl [0, 2, 3] rfl) hP hS
                  · rw [if_neg hc_4] at h
                    refine lv_iconst (v := 1) hx hb dX10_orders_55 (by decide) ?_
                    refine lv_goto (tgt := 60) hx hb dX10_orders_56 (by decide) ?_
                    exact J 1 h _ _ _ (lv_sub hl [0, 2, 3] rfl) hP hS
          exact LP_1 _ 0 0 _ _ _ h (lv_sub hl [0, 1, 2, 3] rfl) hP hS
  exact LP _ 0 I_1 A _ _ _ h (lv_sub hl [0, 1] rfl) hP hS
theorem dX10_of_0 : decode cX10_of 0 = .ok (.aload_n 0, 1) := by decide +kernel
theorem dX10_of_1 : decode cX10_of 1 = .ok (.iconst 0, 1) := by decide +kernel
theorem dX10_of_2 : decode cX10_of 2 = .ok (.putfield 56, 3) := by decide +kernel
theorem dX10_of_5 : decode cX10_of 5 = .ok (.aload_n 0, 1) := by decide +kernel
theorem dX10_of_6 : decode cX10_of 6 = .ok (.iload_n 1, 1) := by decide +kernel
theorem dX10_of_7 : decode cX10_of 7 = .ok (.invokevirtual 77, 3) := by decide +kernel
theorem dX10_of_10 : decode cX10_of 10 = .ok (.ifCond .ne 5, 3) := by decide +kernel
theorem dX10_of_13 : decode cX10_of 13 = .ok (.iconst (-1), 1) := by decide +kernel
theorem dX10_of_14 : decode cX10_of 14 = .ok (.ireturn, 1) := by decide +kernel
theorem dX10_of_15 : decode cX10_of 15 = .ok (.iload_n 2, 1) := by decide +kernel
theorem dX10_of_16 : decode cX10_of 16 = .ok (.tableswitch 103 0 4 #[36, 43, 50, 56, 63], 36) := by decide +kernel
theorem dX10_of_52 : decode cX10_of 52 = .ok (.aload_n 0, 1) := by decide +kernel
theorem dX10_of_53 : decode cX10_of 53 = .ok (.getfield 13, 3) := by decide +kernel
theorem dX10_of_56 : decode cX10_of 56 = .ok (.iload_n 1, 1) := by decide +kernel
theorem dX10_of_57 : decode cX10_of 57 = .ok (.iaload, 1) := by decide +kernel
theorem dX10_of_58 : decode cX10_of 58 = .ok (.ireturn, 1) := by decide +kernel
theorem dX10_of_59 : decode cX10_of 59 = .ok (.aload_n 0, 1) := by decide +kernel
theorem dX10_of_60 : decode cX10_of 60 = .ok (.getfield 16, 3) := by decide +kernel
theorem dX10_of_63 : decode cX10_of 63 = .ok (.iload_n 1, 1) := by decide +kernel
theorem dX10_of_64 : decode cX10_of 64 = .ok (.iaload, 1) := by decide +kernel
theorem dX10_of_65 : decode cX10_of 65 = .ok (.ireturn, 1) := by decide +kernel
theorem dX10_of_66 : decode cX10_of 66 = .ok (.aload_n 0, 1) := by decide +kernel
theorem dX10_of_67 : decode cX10_of 67 = .ok (.iload_n 1, 1) := by decide +kernel
theorem dX10_of_68 : decode cX10_of 68 = .ok (.invokevirtual 87, 3) := by decide +kernel
theorem dX10_of_71 : decode cX10_of 71 = .ok (.ireturn, 1) := by decide +kernel
theorem dX10_of_72 : decode cX10_of 72 = .ok (.aload_n 0, 1) := by decide +kernel
theorem dX10_of_73 : decode cX10_of 73 = .ok (.getfield 35, 3) := by decide +kernel
theorem dX10_of_76 : decode cX10_of 76 = .ok (.iload_n 1, 1) := by decide +kernel
theorem dX10_of_77 : decode cX10_of 77 = .ok (.iaload, 1) := by decide +kernel
theorem dX10_of_78 : decode cX10_of 78 = .ok (.ireturn, 1) := by decide +kernel
theorem dX10_of_79 : decode cX10_of 79 = .ok (.iconst (-1), 1) := by decide +kernel
theorem dX10_of_80 : decode cX10_of 80 = .ok (.istore_n 3, 1) := by decide +kernel
theorem dX10_of_81 : decode cX10_of 81 = .ok (.iconst 0, 1) := by decide +kernel
theorem dX10_of_82 : decode cX10_of 82 = .ok (.istore 4, 2) := by decide +kernel
theorem dX10_of_84 : decode cX10_of 84 = .ok (.iload 4, 2) := by decide +kernel
theorem dX10_of_86 : decode cX10_of 86 = .ok (.aload_n 0, 1) := by decide +kernel
theorem dX10_of_87 : decode cX10_of 87 = .ok (.getfield 67, 3) := by decide +kernel
theorem dX10_of_90 : decode cX10_of 90 = .ok (.if_icmp .ge 27, 3) := by decide +kernel
theorem dX10_of_93 : decode cX10_of 93 = .ok (.iload_n 3, 1) := by decide +kernel
theorem dX10_of_94 : decode cX10_of 94 = .ok (.aload_n 0, 1) := by decide +kernel
theorem dX10_of_95 : decode cX10_of 95 = .ok (.iload 4, 2) := by decide +kernel
theorem dX10_of_97 : decode cX10_of 97 = .ok (.iload_n 1, 1) := by decide +kernel
theorem dX10_of_98 : decode cX10_of 98 = .ok (.invokevirtual 91, 3) := by decide +kernel
theorem dX10_of_101 : decode cX10_of 101 = .ok (.ifCond .eq 7, 3) := by decide +kernel
theorem dX10_of_104 : decode cX10_of 104 = .ok (.iconst 1, 1) := by decide +kernel
theorem dX10_of_105 : decode cX10_of 105 = .ok (.goto 4, 3) := by decide +kernel
theorem dX10_of_108 : decode cX10_of 108 = .ok (.iconst 0, 1) := by decide +kernel
theorem dX10_of_109 : decode cX10_of 109 = .ok (.iadd, 1) := by decide +kernel
theorem dX10_of_110 : decode cX10_of 110 = .ok (.istore_n 3, 1) := by decide +kernel
theorem dX10_of_111 : decode cX10_of 111 = .ok (.iinc 4 1, 3) := by decide +kernel
theorem dX10_of_114 : decode cX10_of 114 = .ok (.goto (-30), 3) := by decide +kernel
theorem dX10_of_117 : decode cX10_of 117 = .ok (.iload_n 3, 1) := by decide +kernel
theorem dX10_of_118 : decode cX10_of 118 = .ok (.ireturn, 1) := by decide +kernel
theorem dX10_of_119 : decode cX10_of 119 = .ok (.iconst (-1), 1) := by decide +kernel
theorem dX10_of_120 : decode cX10_of 120 = .ok (.ireturn, 1) := by decide +kernel
def wX10_of (I : Nat → Int32) (A : Nat → Nat → Int32) (x1 : Int32) (x2 : Int32) (post : Int32 → (Nat → Int32) → Prop) : Prop := (∀ I_1, I_1 = va_up I 0 0 → wX10_isCategory I_1 A x1 (fun r7 => if r7 = 0 then (post (-1) I_1) else (if x2 = 0 then (vp_in x1 40 ∧ (post (A 2 x1.toNatClampNeg) I_1)) else (if x2 = 1 then (vp_in x1 40 ∧ (post (A 3 x1.toNatClampNeg) I_1)) else (if x2 = 2 then (wX10_level I_1 A x1 (fun r68 => post r68 I_1)) else (if x2 = 3 then (vp_in x1 1440 ∧ (post (A 9 x1.toNatClampNeg) I_1)) else (if x2 = 4 then (∃ n, lfix (fun (r : (Int32 × Int32) → Prop) (v4, v3) => if (I_1 2) ≤ v4 then (post v3 I_1) else (wX10_isIn I_1 A v4 x1 (fun r98 => jn (fun (t : Int32) => ∀ v3_1 : Int32, v3_1 = v3 + t → ∀ v4_1 : Int32, v4_1 = v4 + 1 → r (v4_1, v3_1)) (fun k => if r98 = 0 then (k 0) else (k 1))))) n (0, (-1))) else (post (-1) I_1))))))))
abbrev rmX10_of : Room := { frames := 1, cells := 0, slots := 0, locals := 23 }
theorem wd_X10_of : Cond.instanceMethod yX10_of ∈ BW ∧ Cond.selects yX10_of.cls yX10_of yX10_of ∈ BW ∧ Cond.initialized yX10_of.cls ∈ BW ∧ Cond.code yX10_of cX10_of 5 (some .int) ∈ BW := ⟨mw_5_85, mw_5_86, mw_1_11, mw_5_87⟩
set_option maxHeartbeats 4000000 in
set_option maxRecDepth 100000 in
theorem c_X10_of {l : Launch} {D : va_G} {cy : Nat → ClassId} {ad : Nat → Nat} {Ad : Nat → Prop} (hAd : adok 16 Ad ad) (I : Nat → Int32) (A : Nat → Nat → Int32) (x1 : Int32) (x2 : Int32)  (post : Int32 → (Nat → Int32) → Prop) (h : wX10_of I A x1 x2 post) : Met l yX10_of (.code yX10_of cX10_of 5 (some .int) :: BW) rmX10_of (va_Pc [.ref (ad 0), .int x1, .int x2] (fun U => kC D cy U ∧ va_P D vwCl (wM cy ad I A) U.heap)) (qMi D cy ad Ad (fun r u => post r u.1 ∧ A = u.2)) 0 0 Ad := by
  refine startMi (by decide) (Nat.le_of_ble_eq_true rfl) (lv := [(0, .ref (ad 0)), (1, .int x1), (2, .int x2)]) rfl (fun p e s m args below meth c Q ls hx hb hml hT hown hK hret hl hP hS => ?_)
  unfold wX10_of at h
  refine lv_aload_n hx hb dX10_of_0 rfl (lv_at hl 0 rfl) ?_
  refine lv_iconst (v := 0) hx hb dX10_of_1 (by decide) ?_
  refine pM_X10_thrown hAd hx hb hT hown hK.1 hP hS (hT _ mw_4_137) dX10_of_2 (fun H locs hP hS => ?_)
  obtain ⟨I_1, eI_1⟩ : ∃ z, z = va_up I 0 0 := ⟨_, rfl⟩
  rw [← eI_1] at hP
  replace h := h I_1 eI_1
  refine lv_aload_n hx hb dX10_of_5 rfl (lv_at hl 0 rfl) ?_
  refine lv_iload_n hx hb dX10_of_6 rfl (lv_at hl 1 rfl) ?_
  refine callMi (k := 0) (As := [.int x1]) (rest := []) (n := 1) (c_X10_isCategory hAd I_1 A x1 _ h) hx hb hT hown hK hP hS mw_4_232 wd_X10_isCategory (by decide +kernel) ⟨rfl, rfl⟩ (by decide) rfl rfl he_X10 rfl hl.1 hml rfl (Nat.le_of_ble_eq_true rfl) dX10_of_7 ⟨Nat.zero_le _, Nat.zero_le _⟩ (fun r7 u H locs h hP hS => ?_)
  obtain ⟨Iu, Au⟩ := u
  dsimp only at h hP
  obtain ⟨h, rfl, rfl⟩ := h
  try dsimp only at h
  refine lv_if_ne (tgt := 15) hx hb dX10_of_10 (by decide) (fun hc => ?_) (fun hc => ?_)
  · rw [if_neg hc] at h
    refine lv_iload_n hx hb dX10_of_15 rfl (lv_at hl 2 rfl) ?_
    by_cases hc_3 : x2 = 0
    · rw [if_pos hc_3] at h
      refine lv_tableIn (tgt := 52) hx hb dX10_of_16 (by rw [hc_3]; decide) (by rw [hc_3]; decide) (by rw [hc_3]; rfl) (by decide) ?_
      refine lv_aload_n hx hb dX10_of_52 rfl (lv_at hl 0 rfl) ?_
      refine va_get (T := TX10) hx hb hT inlX10 hown hK.1 hP 0 he_X10 rfl 5 (by decide) (hT _ mw_4_142) (fun _ h9 => h9) rfl dX10_of_53 ?_
      refine lv_iload_n hx hb dX10_of_56 rfl (lv_at hl 1 rfl) ?_
      obtain ⟨hi, h⟩ := h
      refine lM_I hx hb hK.1 hP (by decide) rfl hi dX10_of_57 ?_
      exact hret _ (I_1, A) dX10_of_58 ⟨h, rfl⟩ hP hS
    rw [if_neg hc_3] at h
    by_cases hc_4 : x2 = 1
    · rw [if_pos hc_4] at h
      refine lv_tableIn (tgt := 59) hx hb dX10_of_16 (by rw [hc_4]; decide) (by rw [hc_4]; decide) (by rw [hc_4]; rfl) (by decide) ?_
      refine lv_aload_n hx hb dX10_of_59 rfl (lv_at hl 0 rfl) ?_
      refine va_get (T := TX10) hx hb hT inlX10 hown hK.1 hP 0 he_X10 rfl 6 (by decide) (hT _ mw_4_143) (fun _ h9 => h9) rfl dX10_of_60 ?_
      refine lv_iload_n hx hb dX10_of_63 rfl (lv_at hl 1 rfl) ?_
      obtain ⟨hi_1, h⟩ := h
      refine lM_I hx hb hK.1 hP (by decide) rfl hi_1 dX10_of_64 ?_
      exact hret _ (I_1, A) dX10_of_65 ⟨h, rfl⟩ hP hS
    rw [if_neg hc_4] at h
    by_cases hc_5 : x2 = 2
    · rw [if_pos hc_5] at h
      refine lv_tableIn (tgt := 66) hx hb dX10_of_16 (by rw [hc_5]; decide) (by rw [hc_5]; decide) (by rw [hc_5]; rfl) (by decide) ?_
      refine lv_aload_n hx hb dX10_of_66 rfl (lv_at hl 0 rfl) ?_
      refine lv_iload_n hx hb dX10_of_67 rfl (lv_at hl 1 rfl) ?_
      refine callMi (k := 0) (As := [.int x1]) (rest := []) (n := 1) (c_X10_level hAd I_1 A x1 _ h) hx hb hT hown hK hP hS mw_4_236 wd_X10_level (by decide +kernel) ⟨rfl, rfl⟩ (by decide) rfl rfl he_X10 rfl hl.1 hml rfl (Nat.le_of_ble_eq_true rfl) dX10_of_68 ⟨Nat.zero_le _, Nat.zero_le _⟩ (fun r68 u H locs h hP hS => ?_)
      obtain ⟨Iu_1, Au_1⟩ := u
      dsimp only at h hP
      obtain ⟨h, rfl, rfl⟩ := h
      try dsimp only at h
      exact hret _ (I_1, A) dX10_of_71 ⟨h, rfl⟩ hP hS
    rw [if_neg hc_5] at h
    by_cases hc_6 : x2 = 3
    · rw [if_pos hc_6] at h
      refine lv_tableIn (tgt := 72) hx hb dX10_of_16 (by rw [hc_6]; decide) (by rw [hc_6]; decide) (by rw [hc_6]; rfl) (by decide) ?_
      refine lv_aload_n hx hb dX10_of_72 rfl (lv_at hl 0 rfl) ?_
      refine va_get (T := TX10) hx hb hT inlX10 hown hK.1 hP 0 he_X10 rfl 12 (by decide) (hT _ mw_4_149) (fun _ h9 => h9) rfl dX10_of_73 ?_
      refine lv_iload_n hx hb dX10_of_76 rfl (lv_at hl 1 rfl) ?_
      obtain ⟨hi_2, h⟩ := h
      refine lM_I hx hb hK.1 hP (by decide) rfl hi_2 dX10_of_77 ?_
      exact hret _ (I_1, A) dX10_of_78 ⟨h, rfl⟩ hP hS
    rw [if_neg hc_6] at h
    by_cases hc_7 : x2 = 4
    · rw [if_pos hc_7] at h
      refine lv_tableIn (tgt := 79) hx hb dX10_of_16 (by rw [hc_7]; decide) (by rw [hc_7]; decide) (by rw [hc_7]; rfl) (by decide) ?_
      refine lv_iconst (v := (-1)) hx hb dX10_of_79 (by decide) ?_
      refine lv_istore_n (lv' := [(3, .int (-1)), (0, .ref (ad 0)), (1, .int x1), (2, .int x2)]) hx hb dX10_of_80 rfl hl (by decide) rfl (fun ls hl => ?_)
      refine lv_iconst (v := 0) hx hb dX10_of_81 (by decide) ?_
      refine lv_istore (lv' := [(4, .int 0), (3, .int (-1)), (0, .ref (ad 0)), (1, .int x1), (2, .int x2)]) hx hb dX10_of_82 hl (by decide) rfl (fun ls hl => ?_)
      obtain ⟨F, n, h, hF, hG⟩ := lfix_ex h
      have LP : ∀ (n : Nat) (v4 : Int32) (v3 : Int32) (ls : Array Slot) (H : Heap) (locs : List Loc), F n (v4, v3) → lv_has ls 5 [(4, .int v4), (3, .int v3), (0, .ref (ad 0)), (1, .int x1)] → va_P D vwCl (wM cy ad I_1 A) H → va_S Ad s.heap H locs → W p l e rmX10_of s m args below meth c H locs 0 0 Q (F0 m 84 ls []) := by
        intro n
        induction n with
        | zero => intro v4 v3 ls H locs h _ _ _; exact absurd h (hF _)
        | succ n ih =>
          intro v4 v3 ls H locs h hl hP hS
          replace h := hG _ _ h
          try dsimp only at h
          refine lv_iload hx hb dX10_of_84 (lv_at hl 0 rfl) ?_
          refine lv_aload_n hx hb dX10_of_86 rfl (lv_at hl 2 rfl) ?_
          refine va_get (T := TX10) hx hb hT inlX10 hown hK.1 hP 0 he_X10 rfl 2 (by decide) (hT _ mw_4_139) (fun _ h9 => h9) rfl dX10_of_87 ?_
          refine lv_icmp_ge (tgt := 117) hx hb dX10_of_90 (by decide) (fun hc_1 => ?_) (fun hc_1 => ?_)
          · rw [if_pos hc_1] at h
            refine lv_iload_n hx hb dX10_of_117 rfl (lv_at hl 1 rfl) ?_
            exact hret _ (I_1, A) dX10_of_118 ⟨h, rfl⟩ hP hS
          · rw [if_neg hc_1] at h
            refine lv_iload_n hx hb dX10_of_93 rfl (lv_at hl 1 rfl) ?_
            refine lv_aload_n hx hb dX10_of_94 rfl (lv_at hl 2 rfl) ?_
            refine lv_iload hx hb dX10_of_95 (lv_at hl 0 rfl) ?_
            refine lv_iload_n hx hb dX10_of_97 rfl (lv_at hl 3 rfl) ?_
            refine callMi (k := 0) (As := [.int v4, .int x1]) (rest := [.int v3]) (n := 2) (c_X10_isIn hAd I_1 A v4 x1 _ h) hx hb hT hown hK hP hS mw_5_4 wd_X10_isIn (by decide +kernel) ⟨rfl, rfl⟩ (by decide) rfl rfl he_X10 rfl hl.1 hml rfl (Nat.le_of_ble_eq_true rfl) dX10_of_98 ⟨Nat.zero_le _, Nat.zero_le _⟩ (fun r98 u H locs h hP hS => ?_)
            obtain ⟨Iu_2, Au_2⟩ := u
            dsimp only at h hP
            obtain ⟨h, rfl, rfl⟩ := h
            try dsimp only at h
            obtain ⟨k, hk, h⟩ := jn_ex h
            try dsimp only at h
            have J : ∀ (t : Int32), k t → ∀ (ls : Array Slot) (H : Heap) (locs : List Loc), lv_has ls 5 [(4, .int v4), (0, .ref (ad 0)), (1, .int x1)] → va_P D vwCl (wM cy ad I_1 A) H → va_S Ad s.heap H locs → W p l e rmX10_of s m args below meth c H locs 0 0 Q (F0 m 109 ls [.int t, .int v3]) := by
              intro t h ls H locs hl hP hS
              replace h := hk _ h
              try dsimp only at h
              refine lv_iadd hx hb dX10_of_109 ?_
              refine lv_topi (fun v3_1 ev3_1 => ?_)
              replace h := h v3_1 ev3_1
              refine lv_istore_n (lv' := [(3, .int v3_1), (4, .int v4), (0, .ref (ad 0)), (1, .int x1)]) hx hb dX10_of_110 rfl hl (by decide) rfl (fun ls hl => ?_)
              obtain ⟨v4_1, ev4_1⟩ : ∃ z : Int32, z = v4 + 1 := ⟨_, rfl⟩
              replace h := h v4_1 ev4_1
              refine lv_iinc (v := v4_1) (lv' := [(4, .int v4_1), (3, .int v3_1), (0, .ref (ad 0)), (1, .int x1)]) hx hb dX10_of_111 hl (k := 1) rfl (by rw [ev4_1]; rfl) (by decide) rfl (fun ls hl => ?_)
              refine lv_goto (tgt := 84) hx hb dX10_of_114 (by decide) ?_
              exact ih v4_1 v3_1 _ _ _ h (lv_sub hl [0, 1, 2, 3] rfl) hP hS
            refine lv_if_eq (tgt := 108) hx hb dX10_of_101 (by decide) (fun hc_2 => ?_) (fun hc_2 => ?_)
            · rw [if_pos hc_2] at h
              refine lv_iconst (v := 0) hx hb dX10_of_108 (by decide) ?_
              exact J 0 h _ _ _ (lv_sub hl [0, 2, 3] rfl) hP hS
            · rw [if_neg hc_2] at h
              refine lv_iconst (v := 1) hx hb dX10_of_104 (by decide) ?_
              refine lv_goto (tgt := 109) hx hb dX10_of_105 (by decide) ?_
              exact J 1 h _ _ _ (lv_sub hl [0, 2, 3] rfl) hP hS
      exact LP _ 0 (-1) _ _ _ h (lv_sub hl [0, 1, 2, 3] rfl) hP hS
    rw [if_neg hc_7] at h
    refine lv_tableOut (tgt := 119) hx hb dX10_of_16 (sw_out_4 hc_3 hc_4 hc_5 hc_6 hc_7) (by decide) ?_
    refine lv_iconst (v := (-1)) hx hb dX10_of_119 (by decide) ?_
    exact hret _ (I_1, A) dX10_of_120 ⟨h, rfl⟩ hP hS
  · rw [if_pos hc] at h
    refine lv_iconst (v := (-1)) hx hb dX10_of_13 (by decide) ?_
    exact hret _ (I_1, A) dX10_of_14 ⟨h, rfl⟩ hP hS
theorem dX10_passedBy_0 : decode cX10_passedBy 0 = .ok (.iconst 0, 1) := by decide +kernel
theorem dX10_passedBy_1 : decode cX10_passedBy 1 = .ok (.istore_n 2, 1) := by decide +kernel
theorem dX10_passedBy_2 : decode cX10_passedBy 2 = .ok (.iconst 0, 1) := by decide +kernel
theorem dX10_passedBy_3 : decode cX10_passedBy 3 = .ok (.istore_n 3, 1) := by decide +kernel
theorem dX10_passedBy_4 : decode cX10_passedBy 4 = .ok (.iload_n 3, 1) := by decide +kernel
theorem dX10_passedBy_5 : decode cX10_passedBy 5 = .ok (.aload_n 0, 1) := by decide +kernel
theorem dX10_passedBy_6 : decode cX10_passedBy 6 = .ok (.getfield 60, 3) := by decide +kernel
theorem dX10_passedBy_9 : decode cX10_passedBy 9 = .ok (.if_icmp .ge 29, 3) := by decide +kernel
theorem dX10_passedBy_12 : decode cX10_passedBy 12 = .ok (.iload_n 2, 1) := by decide +kernel
theorem dX10_passedBy_13 : decode cX10_passedBy 13 = .ok (.aload_n 0, 1) := by decide +kernel
theorem dX10_passedBy_14 : decode cX10_passedBy 14 = .ok (.iconst 0, 1) := by decide +kernel
theorem dX10_passedBy_15 : decode cX10_passedBy 15 = .ok (.iload_n 1, 1) := by decide +kernel
theorem dX10_passedBy_16 : decode cX10_passedBy 16 = .ok (.iload_n 3, 1) := by decide +kernel
theorem dX10_passedBy_17 : decode cX10_passedBy 17 = .ok (.invokevirtual 131, 3) := by decide +kernel
theorem dX10_passedBy_20 : decode cX10_passedBy 20 = .ok (.ifCond .eq 9, 3) := by decide +kernel
theorem dX10_passedBy_23 : decode cX10_passedBy 23 = .ok (.iconst 1, 1) := by decide +kernel
theorem dX10_passedBy_24 : decode cX10_passedBy 24 = .ok (.iload_n 3, 1) := by decide +kernel
theorem dX10_passedBy_25 : decode cX10_passedBy 25 = .ok (.ishl, 1) := by decide +kernel
theorem dX10_passedBy_26 : decode cX10_passedBy 26 = .ok (.goto 4, 3) := by decide +kernel
theorem dX10_passedBy_29 : decode cX10_passedBy 29 = .ok (.iconst 0, 1) := by decide +kernel
theorem dX10_passedBy_30 : decode cX10_passedBy 30 = .ok (.ior, 1) := by decide +kernel
theorem dX10_passedBy_31 : decode cX10_passedBy 31 = .ok (.istore_n 2, 1) := by decide +kernel
theorem dX10_passedBy_32 : decode cX10_passedBy 32 = .ok (.iinc 3 1, 3) := by decide +kernel
theorem dX10_passedBy_35 : decode cX10_passedBy 35 = .ok (.goto (-31), 3) := by decide +kernel
theorem dX10_passedBy_38 : decode cX10_passedBy 38 = .ok (.iload_n 2, 1) := by decide +kernel
theorem dX10_passedBy_39 : decode cX10_passedBy 39 = .ok (.ireturn, 1) := by decide +kernel
def wX10_passedBy (I : Nat → Int32) (A : Nat → Nat → Int32) (x1 : Int32) (post : Int32 → Prop) : Prop := ∃ n, lfix (fun (r : (Int32 × Int32) → Prop) (v3, v2) => if (I 1) ≤ v3 then (post v2) else (wX10_passes I A 0 x1 v3 (fun r17 => jn (fun (t : Int32) => ∀ v2_1 : Int32, v2_1 = v2 ||| t → ∀ v3_1 : Int32, v3_1 = v3 + 1 → r (v3_1, v2_1)) (fun k => if r17 = 0 then (k 0) else (k (1 <<< (v3 &&& 31))))))) n (0, 0)
abbrev rmX10_passedBy : Room := { frames := 2, cells := 0, slots := 0, locals := 55 }
theorem wd_X10_passedBy : Cond.instanceMethod yX10_passedBy ∈ BW ∧ Cond.selects yX10_passedBy.cls yX10_passedBy yX10_passedBy ∈ BW ∧ Cond.initialized yX10_passedBy.cls ∈ BW ∧ Cond.code yX10_passedBy cX10_passedBy 4 (some .int) ∈ BW := ⟨mw_5_114, mp_37, mw_1_11, mw_5_115⟩
set_option maxHeartbeats 4000000 in
set_option maxRecDepth 100000 in
theorem c_X10_passedBy {l : Launch} {D : va_G} {cy : Nat → ClassId} {ad : Nat → Nat} {Ad : Nat → Prop} (hAd : adok 16 Ad ad) (I : Nat → Int32) (A : Nat → Nat → Int32) (x1 : Int32)  (post : Int32 → Prop) (h : wX10_passedBy I A x1 post) : Met l yX10_passedBy (.code yX10_passedBy cX10_passedBy 4 (some .int) :: BW) rmX10_passedBy (va_Pc [.ref (ad 0), .int x1] (fun U => kC D cy U ∧ va_P D vwCl (wM cy ad I A) U.heap)) (qMi D cy ad Ad (fun r u => post r  ∧ I = u.1 ∧ A = u.2)) 0 0 Ad := by
  refine startMi (by decide) (Nat.le_of_ble_eq_true rfl) (lv := [(0, .ref (ad 0)), (1, .int x1)]) rfl (fun p e s m args below meth c Q ls hx hb hml hT hown hK hret hl hP hS => ?_)
  unfold wX10_passedBy at h
  refine lv_iconst (v := 0) hx hb dX10_passedBy_0 (by decide) ?_
  refine lv_istore_n (lv' := [(2, .int 0), (0, .ref (ad 0)), (1, .int x1)]) hx hb dX10_passedBy_1 rfl hl (by decide) rfl (fun ls hl => ?_)
  refine lv_iconst (v := 0) hx hb dX10_passedBy_2 (by decide) ?_
  refine lv_istore_n (lv' := [(3, .int 0), (2, .int 0), (0, .ref (ad 0)), (1, .int x1)]) hx hb dX10_passedBy_3 rfl hl (by decide) rfl (fun ls hl => ?_)
  obtain ⟨F, n, h, hF, hG⟩ := lfix_ex h
  have LP : ∀ (n : Nat) (v3 : Int32) (v2 : Int32) (ls : Array Slot) (H : Heap) (locs : List Loc), F n (v3, v2) → lv_has ls 4 [(3, .int v3), (2, .int v2), (0, .ref (ad 0)), (1, .int x1)] → va_P D vwCl (wM cy ad I A) H → va_S Ad s.heap H locs → W p l e rmX10_passedBy s m args below meth c H locs 0 0 Q (F0 m 4 ls []) := by
    intro n
    induction n with
    | zero => intro v3 v2 ls H locs h _ _ _; exact absurd h (hF _)
    | succ n ih =>
      intro v3 v2 ls H locs h hl hP hS
      replace h := hG _ _ h
      try dsimp only at h
      refine lv_iload_n hx hb dX10_passedBy_4 rfl (lv_at hl 0 rfl) ?_
      refine lv_aload_n hx hb dX10_passedBy_5 rfl (lv_at hl 2 rfl) ?_
      refine va_get (T := TX10) hx hb hT inlX10 hown hK.1 hP 0 he_X10 rfl 1 (by decide) (hT _ mw_4_138) (fun _ h9 => h9) rfl dX10_passedBy_6 ?_
      refine lv_icmp_ge (tgt := 38) hx hb dX10_passedBy_9 (by decide) (fun hc => ?_) (fun hc => ?_)
      · rw [if_pos hc] at h
        refine lv_iload_n hx hb dX10_passedBy_38 rfl (lv_at hl 1 rfl) ?_
        exact hret _ (I, A) dX10_passedBy_39 ⟨h, rfl, rfl⟩ hP hS
      · rw [if_neg hc] at h
        refine lv_iload_n hx hb dX10_passedBy_12 rfl (lv_at hl 1 rfl) ?_
        refine lv_aload_n hx hb dX10_passedBy_13 rfl (lv_at hl 2 rfl) ?_
        refine lv_iconst (v := 0) hx hb dX10_passedBy_14 (by decide) ?_
        refine lv_iload_n hx hb dX10_passedBy_15 rfl (lv_at hl 3 rfl) ?_
        refine lv_iload_n hx hb dX10_passedBy_16 rfl (lv_at hl 0 rfl) ?_
        refine callMi (k := 0) (As := [.int 0, .int x1, .int v3]) (rest := [.int v2]) (n := 3) (c_X10_passes hAd I A 0 x1 v3 _ h) hx hb hT hown hK hP hS mw_5_96 wd_X10_passes (by decide +kernel) ⟨rfl, rfl⟩ (by decide) rfl rfl he_X10 rfl hl.1 hml rfl (Nat.le_of_ble_eq_true rfl) dX10_passedBy_17 ⟨Nat.zero_le _, Nat.zero_le _⟩ (fun r17 u H locs h hP hS => ?_)
        obtain ⟨Iu, Au⟩ := u
        dsimp only at h hP
        obtain ⟨h, rfl, rfl⟩ := h
        try dsimp only at h
        obtain ⟨k, hk, h⟩ := jn_ex h
        try dsimp only at h
        have J : ∀ (t : Int32), k t → ∀ (ls : Array Slot) (H : Heap) (locs : List Loc), lv_has ls 4 [(3, .int v3), (0, .ref (ad 0)), (1, .int x1)] → va_P D vwCl (wM cy ad I A) H → va_S Ad s.heap H locs → W p l e rmX10_passedBy s m args below meth c H locs 0 0 Q (F0 m 30 ls [.int t, .int v2]) := by
          intro t h ls H locs hl hP hS
          replace h := hk _ h
          try dsimp only at h
          refine lv_ior hx hb dX10_passedBy_30 ?_
          refine lv_topi (fun v2_1 ev2_1 => ?_)
          replace h := h v2_1 ev2_1
          refine lv_istore_n (lv' := [(2, .int v2_1), (3, .int v3), (0, .ref (ad 0)), (1, .int x1)]) hx hb dX10_passedBy_31 rfl hl (by decide) rfl (fun ls hl => ?_)
          obtain ⟨v3_1, ev3_1⟩ : ∃ z : Int32, z = v3 + 1 := ⟨_, rfl⟩
          replace h := h v3_1 ev3_1
          refine lv_iinc (v := v3_1) (lv' := [(3, .int v3_1), (2, .int v2_1), (0, .ref (ad 0)), (1, .int x1)]) hx hb dX10_passedBy_32 hl (k := 1) rfl (by rw [ev3_1]; rfl) (by decide) rfl (fun ls hl => ?_)
          refine lv_goto (tgt := 4) hx hb dX10_passedBy_35 (by decide) ?_
          exact ih v3_1 v2_1 _ _ _ h (lv_sub hl [0, 1, 2, 3] rfl) hP hS
        refine lv_if_eq (tgt := 29) hx hb dX10_passedBy_20 (by decide) (fun hc_1 => ?_) (fun hc_1 => ?_)
        · rw [if_pos hc_1] at h
          refine lv_iconst (v := 0) hx hb dX10_passedBy_29 (by decide) ?_
          exact J 0 h _ _ _ (lv_sub hl [0, 2, 3] rfl) hP hS
        · rw [if_neg hc_1] at h
          refine lv_iconst (v := 1) hx hb dX10_passedBy_23 (by decide) ?_
          refine lv_iload_n hx hb dX10_passedBy_24 rfl (lv_at hl 0 rfl) ?_
          refine lv_ishl hx hb dX10_passedBy_25 ?_
          refine lv_goto (tgt := 30) hx hb dX10_passedBy_26 (by decide) ?_
          exact J (1 <<< (v3 &&& 31)) h _ _ _ (lv_sub hl [0, 2, 3] rfl) hP hS
  exact LP _ 0 0 _ _ _ h (lv_sub hl [0, 1, 2, 3] rfl) hP hS
theorem dX10_placeOf_0 : decode cX10_placeOf 0 = .ok (.aload_n 0, 1) := by decide +kernel
theorem dX10_placeOf_1 : decode cX10_placeOf 1 = .ok (.invokevirtual 143, 3) := by decide +kernel
theorem dX10_placeOf_4 : decode cX10_placeOf 4 = .ok (.iconst (-1), 1) := by decide +kernel
theorem dX10_placeOf_5 : decode cX10_placeOf 5 = .ok (.istore_n 2, 1) := by decide +kernel
theorem dX10_placeOf_6 : decode cX10_placeOf 6 = .ok (.iconst 0, 1) := by decide +kernel
theorem dX10_placeOf_7 : decode cX10_placeOf 7 = .ok (.istore_n 3, 1) := by decide +kernel
theorem dX10_placeOf_8 : decode cX10_placeOf 8 = .ok (.iload_n 3, 1) := by decide +kernel
theorem dX10_placeOf_9 : decode cX10_placeOf 9 = .ok (.aload_n 0, 1) := by decide +kernel
theorem dX10_placeOf_10 : decode cX10_placeOf 10 = .ok (.getfield 137, 3) := by decide +kernel
theorem dX10_placeOf_13 : decode cX10_placeOf 13 = .ok (.if_icmp .ge 25, 3) := by decide +kernel
theorem dX10_placeOf_16 : decode cX10_placeOf 16 = .ok (.aload_n 0, 1) := by decide +kernel
theorem dX10_placeOf_17 : decode cX10_placeOf 17 = .ok (.getfield 41, 3) := by decide +kernel
theorem dX10_placeOf_20 : decode cX10_placeOf 20 = .ok (.iload_n 3, 1) := by decide +kernel
theorem dX10_placeOf_21 : decode cX10_placeOf 21 = .ok (.iaload, 1) := by decide +kernel
theorem dX10_placeOf_22 : decode cX10_placeOf 22 = .ok (.iload_n 1, 1) := by decide +kernel
theorem dX10_placeOf_23 : decode cX10_placeOf 23 = .ok (.if_icmp .ne 7, 3) := by decide +kernel
theorem dX10_placeOf_26 : decode cX10_placeOf 26 = .ok (.iload_n 3, 1) := by decide +kernel
theorem dX10_placeOf_27 : decode cX10_placeOf 27 = .ok (.goto 4, 3) := by decide +kernel
theorem dX10_placeOf_30 : decode cX10_placeOf 30 = .ok (.iload_n 2, 1) := by decide +kernel
theorem dX10_placeOf_31 : decode cX10_placeOf 31 = .ok (.istore_n 2, 1) := by decide +kernel
theorem dX10_placeOf_32 : decode cX10_placeOf 32 = .ok (.iinc 3 1, 3) := by decide +kernel
theorem dX10_placeOf_35 : decode cX10_placeOf 35 = .ok (.goto (-27), 3) := by decide +kernel
theorem dX10_placeOf_38 : decode cX10_placeOf 38 = .ok (.iload_n 2, 1) := by decide +kernel
theorem dX10_placeOf_39 : decode cX10_placeOf 39 = .ok (.ireturn, 1) := by decide +kernel
def wX10_placeOf (I : Nat → Int32) (A : Nat → Nat → Int32) (x1 : Int32) (post : Int32 → (Nat → Int32) → (Nat → Nat → Int32) → Prop) : Prop := wX10_orders I A  (fun I_1 A_1 => ∃ n, lfix (fun (r : (Int32 × Int32) → Prop) (v3, v2) => if (I_1 5) ≤ v3 then (post v2 I_1 A_1) else (vp_in v3 40 ∧ (jn (fun (t : Int32) => ∀ v3_1 : Int32, v3_1 = v3 + 1 → r (v3_1, t)) (fun k => if (A_1 11 v3.toNatClampNeg) = x1 then (k v3) else (k v2))))) n (0, (-1)))
abbrev rmX10_placeOf : Room := { frames := 2, cells := 0, slots := 0, locals := 45 }
theorem wd_X10_placeOf : Cond.instanceMethod yX10_placeOf ∈ BW ∧ Cond.selects yX10_placeOf.cls yX10_placeOf yX10_placeOf ∈ BW ∧ Cond.initialized yX10_placeOf.cls ∈ BW ∧ Cond.code yX10_placeOf cX10_placeOf 4 (some .int) ∈ BW := ⟨mw_5_118, mp_38, mw_1_11, mw_5_119⟩
set_option maxHeartbeats 4000000 in
set_option maxRecDepth 100000 in
theorem c_X10_placeOf {l : Launch} {D : va_G} {cy : Nat → ClassId} {ad : Nat → Nat} {Ad : Nat → Prop} (hAd : adok 16 Ad ad) (I : Nat → Int32) (A : Nat → Nat → Int32) (x1 : Int32)  (post : Int32 → (Nat → Int32) → (Nat → Nat → Int32) → Prop) (h : wX10_placeOf I A x1 post) : Met l yX10_placeOf (.code yX10_placeOf cX10_placeOf 4 (some .int) :: BW) rmX10_placeOf (va_Pc [.ref (ad 0), .int x1] (fun U => kC D cy U ∧ va_P D vwCl (wM cy ad I A) U.heap)) (qMi D cy ad Ad (fun r u => post r u.1 u.2)) 0 0 Ad := by
  refine startMi (by decide) (Nat.le_of_ble_eq_true rfl) (lv := [(0, .ref (ad 0)), (1, .int x1)]) rfl (fun p e s m args below meth c Q ls hx hb hml hT hown hK hret hl hP hS => ?_)
  unfold wX10_placeOf at h
  refine lv_aload_n hx hb dX10_placeOf_0 rfl (lv_at hl 0 rfl) ?_
  refine callMv (k := 0) (As := []) (rest := []) (n := 0) (c_X10_orders hAd I A  _ h) hx hb hT hown hK hP hS mw_5_120 wd_X10_orders (by decide +kernel) ⟨rfl, rfl⟩ (by decide) rfl rfl he_X10 rfl hl.1 hml rfl (Nat.le_of_ble_eq_true rfl) dX10_placeOf_1 ⟨Nat.zero_le _, Nat.zero_le _⟩ (fun u H locs h hP hS => ?_)
  obtain ⟨I_1, A_1⟩ := u
  dsimp only at h hP
  refine lv_iconst (v := (-1)) hx hb dX10_placeOf_4 (by decide) ?_
  refine lv_istore_n (lv' := [(2, .int (-1)), (0, .ref (ad 0)), (1, .int x1)]) hx hb dX10_placeOf_5 rfl hl (by decide) rfl (fun ls hl => ?_)
  refine lv_iconst (v := 0) hx hb dX10_placeOf_6 (by decide) ?_
  refine lv_istore_n (lv' := [(3, .int 0), (2, .int (-1)), (0, .ref (ad 0)), (1, .int x1)]) hx hb dX10_placeOf_7 rfl hl (by decide) rfl (fun ls hl => ?_)
  obtain ⟨F, n, h, hF, hG⟩ := lfix_ex h
  have LP : ∀ (n : Nat) (v3 : Int32) (v2 : Int32) (ls : Array Slot) (H : Heap) (locs : List Loc), F n (v3, v2) → lv_has ls 4 [(3, .int v3), (2, .int v2), (0, .ref (ad 0)), (1, .int x1)] → va_P D vwCl (wM cy ad I_1 A_1) H → va_S Ad s.heap H locs → W p l e rmX10_placeOf s m args below meth c H locs 0 0 Q (F0 m 8 ls []) := by
    intro n
    induction n with
    | zero => intro v3 v2 ls H locs h _ _ _; exact absurd h (hF _)
    | succ n ih =>
      intro v3 v2 ls H locs h hl hP hS
      replace h := hG _ _ h
      try dsimp only at h
      refine lv_iload_n hx hb dX10_placeOf_8 rfl (lv_at hl 0 rfl) ?_
      refine lv_aload_n hx hb dX10_placeOf_9 rfl (lv_at hl 2 rfl) ?_
      refine va_get (T := TX10) hx hb hT inlX10 hown hK.1 hP 0 he_X10 rfl 16 (by decide) (hT _ mw_4_153) (fun _ h9 => h9) rfl dX10_placeOf_10 ?_
      refine lv_icmp_ge (tgt := 38) hx hb dX10_placeOf_13 (by decide) (fun hc => ?_) (fun hc => ?_)
      · rw [if_pos hc] at h
        refine lv_iload_n hx hb dX10_placeOf_38 rfl (lv_at hl 1 rfl) ?_
        exact hret _ (I_1, A_1) dX10_placeOf_39 h hP hS
      · rw [if_neg hc] at h
        refine lv_aload_n hx hb dX10_placeOf_16 rfl (lv_at hl 2 rfl) ?_
        refine va_get (T := TX10) hx hb hT inlX10 hown hK.1 hP 0 he_X10 rfl 15 (by decide) (hT _ mw_4_152) (fun _ h9 => h9) rfl dX10_placeOf_17 ?_
        refine lv_iload_n hx hb dX10_placeOf_20 rfl (lv_at hl 0 rfl) ?_
        obtain ⟨hi, h⟩ := h
        refine lM_I hx hb hK.1 hP (by decide) rfl hi dX10_placeOf_21 ?_
        refine lv_iload_n hx hb dX10_placeOf_22 rfl (lv_at hl 3 rfl) ?_
        obtain ⟨k, hk, h⟩ := jn_ex h
        try dsimp only at h
        have J : ∀ (t : Int32), k t → ∀ (ls : Array Slot) (H : Heap) (locs : List Loc), lv_has ls 4 [(3, .int v3), (0, .ref (ad 0)), (1, .int x1)] → va_P D vwCl (wM cy ad I_1 A_1) H → va_S Ad s.heap H locs → W p l e rmX10_placeOf s m args below meth c H locs 0 0 Q (F0 m 31 ls [.int t]) := by
          intro t h ls H locs hl hP hS
          replace h := hk _ h
          try dsimp only at h
          refine lv_istore_n (lv' := [(2, .int t), (3, .int v3), (0, .ref (ad 0)), (1, .int x1)]) hx hb dX10_placeOf_31 rfl hl (by decide) rfl (fun ls hl => ?_)
          obtain ⟨v3_1, ev3_1⟩ : ∃ z : Int32, z = v3 + 1 := ⟨_, rfl⟩
          replace h := h v3_1 ev3_1
          refine lv_iinc (v := v3_1) (lv' := [(3, .int v3_1), (2, .int t), (0, .ref (ad 0)), (1, .int x1)]) hx hb dX10_placeOf_32 hl (k := 1) rfl (by rw [ev3_1]; rfl) (by decide) rfl (fun ls hl => ?_)
          refine lv_goto (tgt := 8) hx hb dX10_placeOf_35 (by decide) ?_
          exact ih v3_1 t _ _ _ h (lv_sub hl [0, 1, 2, 3] rfl) hP hS
        refine lv_icmp_ne (tgt := 30) hx hb dX10_placeOf_23 (by decide) (fun hc_1 => ?_) (fun hc_1 => ?_)
        · rw [if_neg hc_1] at h
          refine lv_iload_n hx hb dX10_placeOf_30 rfl (lv_at hl 1 rfl) ?_
          exact J v2 h _ _ _ (lv_sub hl [0, 2, 3] rfl) hP hS
        · rw [if_pos hc_1] at h
          refine lv_iload_n hx hb dX10_placeOf_26 rfl (lv_at hl 0 rfl) ?_
          refine lv_goto (tgt := 31) hx hb dX10_placeOf_27 (by decide) ?_
          exact J v3 h _ _ _ (lv_sub hl [0, 2, 3] rfl) hP hS
  exact LP _ 0 (-1) _ _ _ h (lv_sub hl [0, 1, 2, 3] rfl) hP hS
theorem dX10_doc_0 : decode cX10_doc 0 = .ok (.aload_n 0, 1) := by decide +kernel
theorem dX10_doc_1 : decode cX10_doc 1 = .ok (.iconst 0, 1) := by decide +kernel
theorem dX10_doc_2 : decode cX10_doc 2 = .ok (.putfield 56, 3) := by decide +kernel
theorem dX10_doc_5 : decode cX10_doc 5 = .ok (.iload_n 1, 1) := by decide +kernel
theorem dX10_doc_6 : decode cX10_doc 6 = .ok (.iconst 0, 1) := by decide +kernel
theorem dX10_doc_7 : decode cX10_doc 7 = .ok (.aload_n 0, 1) := by decide +kernel
theorem dX10_doc_8 : decode cX10_doc 8 = .ok (.getfield 70, 3) := by decide +kernel
theorem dX10_doc_11 : decode cX10_doc 11 = .ok (.iconst 1, 1) := by decide +kernel
theorem dX10_doc_12 : decode cX10_doc 12 = .ok (.isub, 1) := by decide +kernel
theorem dX10_doc_13 : decode cX10_doc 13 = .ok (.invokestatic 73, 3) := by decide +kernel
theorem dX10_doc_16 : decode cX10_doc 16 = .ok (.ifCond .ne 5, 3) := by decide +kernel
theorem dX10_doc_19 : decode cX10_doc 19 = .ok (.iconst (-1), 1) := by decide +kernel
theorem dX10_doc_20 : decode cX10_doc 20 = .ok (.ireturn, 1) := by decide +kernel
theorem dX10_doc_21 : decode cX10_doc 21 = .ok (.iload_n 2, 1) := by decide +kernel
theorem dX10_doc_22 : decode cX10_doc 22 = .ok (.tableswitch 97 0 4 #[34, 41, 56, 72, 91], 34) := by decide +kernel
theorem dX10_doc_56 : decode cX10_doc 56 = .ok (.aload_n 0, 1) := by decide +kernel
theorem dX10_doc_57 : decode cX10_doc 57 = .ok (.getfield 19, 3) := by decide +kernel
theorem dX10_doc_60 : decode cX10_doc 60 = .ok (.iload_n 1, 1) := by decide +kernel
theorem dX10_doc_61 : decode cX10_doc 61 = .ok (.iaload, 1) := by decide +kernel
theorem dX10_doc_62 : decode cX10_doc 62 = .ok (.ireturn, 1) := by decide +kernel
theorem dX10_doc_63 : decode cX10_doc 63 = .ok (.aload_n 0, 1) := by decide +kernel
theorem dX10_doc_64 : decode cX10_doc 64 = .ok (.getfield 22, 3) := by decide +kernel
theorem dX10_doc_67 : decode cX10_doc 67 = .ok (.iload_n 1, 1) := by decide +kernel
theorem dX10_doc_68 : decode cX10_doc 68 = .ok (.baload, 1) := by decide +kernel
theorem dX10_doc_69 : decode cX10_doc 69 = .ok (.ifCond .eq 7, 3) := by decide +kernel
theorem dX10_doc_72 : decode cX10_doc 72 = .ok (.iconst 1, 1) := by decide +kernel
theorem dX10_doc_73 : decode cX10_doc 73 = .ok (.goto 4, 3) := by decide +kernel
theorem dX10_doc_76 : decode cX10_doc 76 = .ok (.iconst 0, 1) := by decide +kernel
theorem dX10_doc_77 : decode cX10_doc 77 = .ok (.ireturn, 1) := by decide +kernel
theorem dX10_doc_78 : decode cX10_doc 78 = .ok (.aload_n 0, 1) := by decide +kernel
theorem dX10_doc_79 : decode cX10_doc 79 = .ok (.iconst 0, 1) := by decide +kernel
theorem dX10_doc_80 : decode cX10_doc 80 = .ok (.iload_n 1, 1) := by decide +kernel
theorem dX10_doc_81 : decode cX10_doc 81 = .ok (.iconst (-1), 1) := by decide +kernel
theorem dX10_doc_82 : decode cX10_doc 82 = .ok (.invokevirtual 134, 3) := by decide +kernel
theorem dX10_doc_85 : decode cX10_doc 85 = .ok (.ifCond .eq 7, 3) := by decide +kernel
theorem dX10_doc_88 : decode cX10_doc 88 = .ok (.iconst 1, 1) := by decide +kernel
theorem dX10_doc_89 : decode cX10_doc 89 = .ok (.goto 4, 3) := by decide +kernel
theorem dX10_doc_92 : decode cX10_doc 92 = .ok (.iconst 0, 1) := by decide +kernel
theorem dX10_doc_93 : decode cX10_doc 93 = .ok (.ireturn, 1) := by decide +kernel
theorem dX10_doc_94 : decode cX10_doc 94 = .ok (.aload_n 0, 1) := by decide +kernel
theorem dX10_doc_95 : decode cX10_doc 95 = .ok (.getfield 22, 3) := by decide +kernel
theorem dX10_doc_98 : decode cX10_doc 98 = .ok (.iload_n 1, 1) := by decide +kernel
theorem dX10_doc_99 : decode cX10_doc 99 = .ok (.baload, 1) := by decide +kernel
theorem dX10_doc_100 : decode cX10_doc 100 = .ok (.ifCond .eq 11, 3) := by decide +kernel
theorem dX10_doc_103 : decode cX10_doc 103 = .ok (.aload_n 0, 1) := by decide +kernel
theorem dX10_doc_104 : decode cX10_doc 104 = .ok (.iload_n 1, 1) := by decide +kernel
theorem dX10_doc_105 : decode cX10_doc 105 = .ok (.invokevirtual 146, 3) := by decide +kernel
theorem dX10_doc_108 : decode cX10_doc 108 = .ok (.goto 4, 3) := by decide +kernel
theorem dX10_doc_111 : decode cX10_doc 111 = .ok (.iconst (-1), 1) := by decide +kernel
theorem dX10_doc_112 : decode cX10_doc 112 = .ok (.ireturn, 1) := by decide +kernel
theorem dX10_doc_113 : decode cX10_doc 113 = .ok (.aload_n 0, 1) := by decide +kernel
theorem dX10_doc_114 : decode cX10_doc 114 = .ok (.iload_n 1, 1) := by decide +kernel
theorem dX10_doc_115 : decode cX10_doc 115 = .ok (.invokevirtual 149, 3) := by decide +kernel
theorem dX10_doc_118 : decode cX10_doc 118 = .ok (.ireturn, 1) := by decide +kernel
theorem dX10_doc_119 : decode cX10_doc 119 = .ok (.iconst (-1), 1) := by decide +kernel
theorem dX10_doc_120 : decode cX10_doc 120 = .ok (.ireturn, 1) := by decide +kernel
def wX10_doc (I : Nat → Int32) (A : Nat → Nat → Int32) (x1 : Int32) (x2 : Int32) (post : Int32 → (Nat → Int32) → (Nat → Nat → Int32) → Prop) : Prop := (∀ I_1, I_1 = va_up I 0 0 → wX10_within x1 0 ((I_1 3) - 1) (fun r13 => if r13 = 0 then (post (-1) I_1 A) else (if x2 = 0 then (vp_in x1 40 ∧ (post (A 4 x1.toNatClampNeg) I_1 A)) else (if x2 = 1 then (vp_in x1 40 ∧ (if (A 5 x1.toNatClampNeg) = 0 then (post 0 I_1 A) else (post 1 I_1 A))) else (if x2 = 2 then (wX10_isNear I_1 A 0 x1 (-1) (fun r82 => if r82 = 0 then (post 0 I_1 A) else (post 1 I_1 A))) else (if x2 = 3 then (vp_in x1 40 ∧ (if (A 5 x1.toNatClampNeg) = 0 then (post (-1) I_1 A) else (wX10_passedBy I_1 A x1 (fun r105 => post r105 I_1 A)))) else (if x2 = 4 then (wX10_placeOf I_1 A x1 (fun r115 I_2 A_1 => post r115 I_2 A_1)) else (post (-1) I_1 A))))))))
abbrev rmX10_doc : Room := { frames := 3, cells := 0, slots := 0, locals := 80 }
theorem wd_X10_doc : Cond.instanceMethod yX10_doc ∈ BW ∧ Cond.selects yX10_doc.cls yX10_doc yX10_doc ∈ BW ∧ Cond.initialized yX10_doc.cls ∈ BW ∧ Cond.code yX10_doc cX10_doc 3 (some .int) ∈ BW := ⟨mw_5_89, mw_5_90, mw_1_11, mw_5_91⟩
set_option maxHeartbeats 4000000 in
set_option maxRecDepth 100000 in
theorem c_X10_doc {l : Launch} {D : va_G} {cy : Nat → ClassId} {ad : Nat → Nat} {Ad : Nat → Prop} (hAd : adok 16 Ad ad) (I : Nat → Int32) (A : Nat → Nat → Int32) (x1 : Int32) (x2 : Int32)  (post : Int32 → (Nat → Int32) → (Nat → Nat → Int32) → Prop) (h : wX10_doc I A x1 x2 post) : Met l yX10_doc (.code yX10_doc cX10_doc 3 (some .int) :: BW) rmX10_doc (va_Pc [.ref (ad 0), .int x1, .int x2] (fun U => kC D cy U ∧ va_P D vwCl (wM cy ad I A) U.heap)) (qMi D cy ad Ad (fun r u => post r u.1 u.2)) 0 0 Ad := by
  refine startMi (by decide) (Nat.le_of_ble_eq_true rfl) (lv := [(0, .ref (ad 0)), (1, .int x1), (2, .int x2)]) rfl (fun p e s m args below meth c Q ls hx hb hml hT hown hK hret hl hP hS => ?_)
  unfold wX10_doc at h
  refine lv_aload_n hx hb dX10_doc_0 rfl (lv_at hl 0 rfl) ?_
  refine lv_iconst (v := 0) hx hb dX10_doc_1 (by decide) ?_
  refine pM_X10_thrown hAd hx hb hT hown hK.1 hP hS (hT _ mw_4_137) dX10_doc_2 (fun H locs hP hS => ?_)
  obtain ⟨I_1, eI_1⟩ : ∃ z, z = va_up I 0 0 := ⟨_, rfl⟩
  rw [← eI_1] at hP
  replace h := h I_1 eI_1
  refine lv_iload_n hx hb dX10_doc_5 rfl (lv_at hl 1 rfl) ?_
  refine lv_iconst (v := 0) hx hb dX10_doc_6 (by decide) ?_
  refine lv_aload_n hx hb dX10_doc_7 rfl (lv_at hl 0 rfl) ?_
  refine va_get (T := TX10) hx hb hT inlX10 hown hK.1 hP 0 he_X10 rfl 3 (by decide) (hT _ mw_4_140) (fun _ h9 => h9) rfl dX10_doc_8 ?_
  refine lv_iconst (v := 1) hx hb dX10_doc_11 (by decide) ?_
  refine lv_isub hx hb dX10_doc_12 ?_
  refine callSMi (As := [.int x1, .int 0, .int ((I_1 3) - 1)]) (rest := []) (n := 3) (c_X10_within x1 0 ((I_1 3) - 1) _ h) hx hb hT hown hP hS mw_4_213 wd_X10_within (by decide +kernel) ⟨rfl, rfl⟩ (by decide) rfl hl.1 hml rfl (Nat.le_of_ble_eq_true rfl) dX10_doc_13 ⟨Nat.zero_le _, Nat.zero_le _⟩ (fun r13 H locs h hP hS => ?_)
  try dsimp only at h
  refine lv_if_ne (tgt := 21) hx hb dX10_doc_16 (by decide) (fun hc => ?_) (fun hc => ?_)
  · rw [if_neg hc] at h
    refine lv_iload_n hx hb dX10_doc_21 rfl (lv_at hl 2 rfl) ?_
    by_cases hc_4 : x2 = 0
    · rw [if_pos hc_4] at h
      refine lv_tableIn (tgt := 56) hx hb dX10_doc_22 (by rw [hc_4]; decide) (by rw [hc_4]; decide) (by rw [hc_4]; rfl) (by decide) ?_
      refine lv_aload_n hx hb dX10_doc_56 rfl (lv_at hl 0 rfl) ?_
      refine va_get (T := TX10) hx hb hT inlX10 hown hK.1 hP 0 he_X10 rfl 7 (by decide) (hT _ mw_4_144) (fun _ h9 => h9) rfl dX10_doc_57 ?_
      refine lv_iload_n hx hb dX10_doc_60 rfl (lv_at hl 1 rfl) ?_
      obtain ⟨hi, h⟩ := h
      refine lM_I hx hb hK.1 hP (by decide) rfl hi dX10_doc_61 ?_
      exact hret _ (I_1, A) dX10_doc_62 h hP hS
    rw [if_neg hc_4] at h
    by_cases hc_5 : x2 = 1
    · rw [if_pos hc_5] at h
      refine lv_tableIn (tgt := 63) hx hb dX10_doc_22 (by rw [hc_5]; decide) (by rw [hc_5]; decide) (by rw [hc_5]; rfl) (by decide) ?_
      refine lv_aload_n hx hb dX10_doc_63 rfl (lv_at hl 0 rfl) ?_
      refine va_get (T := TX10) hx hb hT inlX10 hown hK.1 hP 0 he_X10 rfl 8 (by decide) (hT _ mw_4_145) (fun _ h9 => h9) rfl dX10_doc_64 ?_
      refine lv_iload_n hx hb dX10_doc_67 rfl (lv_at hl 1 rfl) ?_
      obtain ⟨hi_1, h⟩ := h
      refine lM_Z hx hb hK.1 hP (by decide) rfl hi_1 dX10_doc_68 ?_
      refine lv_if_eq (tgt := 76) hx hb dX10_doc_69 (by decide) (fun hc_1 => ?_) (fun hc_1 => ?_)
      · rw [if_pos hc_1] at h
        refine lv_iconst (v := 0) hx hb dX10_doc_76 (by decide) ?_
        exact hret _ (I_1, A) dX10_doc_77 h hP hS
      · rw [if_neg hc_1] at h
        refine lv_iconst (v := 1) hx hb dX10_doc_72 (by decide) ?_
        refine lv_goto (tgt := 77) hx hb dX10_doc_73 (by decide) ?_
        exact hret _ (I_1, A) dX10_doc_77 h hP hS
    rw [if_neg hc_5] at h
    by_cases hc_6 : x2 = 2
    · rw [if_pos hc_6] at h
      refine lv_tableIn (tgt := 78) hx hb dX10_doc_22 (by rw [hc_6]; decide) (by rw [hc_6]; decide) (by rw [hc_6]; rfl) (by decide) ?_
      refine lv_aload_n hx hb dX10_doc_78 rfl (lv_at hl 0 rfl) ?_
      refine lv_iconst (v := 0) hx hb dX10_doc_79 (by decide) ?_
      refine lv_iload_n hx hb dX10_doc_80 rfl (lv_at hl 1 rfl) ?_
      refine lv_iconst (v := (-1)) hx hb dX10_doc_81 (by decide) ?_
      refine callMi (k := 0) (As := [.int 0, .int x1, .int (-1)]) (rest := []) (n := 3) (c_X10_isNear hAd I_1 A 0 x1 (-1) _ h) hx hb hT hown hK hP hS mw_5_92 wd_X10_isNear (by decide +kernel) ⟨rfl, rfl⟩ (by decide) rfl rfl he_X10 rfl hl.1 hml rfl (Nat.le_of_ble_eq_true rfl) dX10_doc_82 ⟨Nat.zero_le _, Nat.zero_le _⟩ (fun r82 u H locs h hP hS => ?_)
      obtain ⟨Iu, Au⟩ := u
      dsimp only at h hP
      obtain ⟨h, rfl, rfl⟩ := h
      try dsimp only at h
      refine lv_if_eq (tgt := 92) hx hb dX10_doc_85 (by decide) (fun hc_2 => ?_) (fun hc_2 => ?_)
      · rw [if_pos hc_2] at h
        refine lv_iconst (v := 0) hx hb dX10_doc_92 (by decide) ?_
        exact hret _ (I_1, A) dX10_doc_93 h hP hS
      · rw [if_neg hc_2] at h
        refine lv_iconst (v := 1) hx hb dX10_doc_88 (by decide) ?_
        refine lv_goto (tgt := 93) hx hb dX10_doc_89 (by decide) ?_
        exact hret _ (I_1, A) dX10_doc_93 h hP hS
    rw [if_neg hc_6] at h
    by_cases hc_7 : x2 = 3
    · rw [if_pos hc_7] at h
      refine lv_tableIn (tgt := 94) hx hb dX10_doc_22 (by rw [hc_7]; decide) (by rw [hc_7]; decide) (by rw [hc_7]; rfl) (by decide) ?_
      refine lv_aload_n hx hb dX10_doc_94 rfl (lv_at hl 0 rfl) ?_
      refine va_get (T := TX10) hx hb hT inlX10 hown hK.1 hP 0 he_X10 rfl 8 (by decide) (hT _ mw_4_145) (fun _ h9 => h9) rfl dX10_doc_95 ?_
      refine lv_iload_n hx hb dX10_doc_98 rfl (lv_at hl 1 rfl) ?_
      obtain ⟨hi_2, h⟩ := h
      refine lM_Z hx hb hK.1 hP (by decide) rfl hi_2 dX10_doc_99 ?_
      refine lv_if_eq (tgt := 111) hx hb dX10_doc_100 (by decide) (fun hc_3 => ?_) (fun hc_3 => ?_)
      · rw [if_pos hc_3] at h
        refine lv_iconst (v := (-1)) hx hb dX10_doc_111 (by decide) ?_
        exact hret _ (I_1, A) dX10_doc_112 h hP hS
      · rw [if_neg hc_3] at h
        refine lv_aload_n hx hb dX10_doc_103 rfl (lv_at hl 0 rfl) ?_
        refine lv_iload_n hx hb dX10_doc_104 rfl (lv_at hl 1 rfl) ?_
        refine callMi (k := 0) (As := [.int x1]) (rest := []) (n := 1) (c_X10_passedBy hAd I_1 A x1 _ h) hx hb hT hown hK hP hS mw_5_112 wd_X10_passedBy (by decide +kernel) ⟨rfl, rfl⟩ (by decide) rfl rfl he_X10 rfl hl.1 hml rfl (Nat.le_of_ble_eq_true rfl) dX10_doc_105 ⟨Nat.zero_le _, Nat.zero_le _⟩ (fun r105 u H locs h hP hS => ?_)
        obtain ⟨Iu_1, Au_1⟩ := u
        dsimp only at h hP
        obtain ⟨h, rfl, rfl⟩ := h
        try dsimp only at h
        refine lv_goto (tgt := 112) hx hb dX10_doc_108 (by decide) ?_
        exact hret _ (I_1, A) dX10_doc_112 h hP hS
    rw [if_neg hc_7] at h
    by_cases hc_8 : x2 = 4
    · rw [if_pos hc_8] at h
      refine lv_tableIn (tgt := 113) hx hb dX10_doc_22 (by rw [hc_8]; decide) (by rw [hc_8]; decide) (by rw [hc_8]; rfl) (by decide) ?_
      refine lv_aload_n hx hb dX10_doc_113 rfl (lv_at hl 0 rfl) ?_
      refine lv_iload_n hx hb dX10_doc_114 rfl (lv_at hl 1 rfl) ?_
      refine callMi (k := 0) (As := [.int x1]) (rest := []) (n := 1) (c_X10_placeOf hAd I_1 A x1 _ h) hx hb hT hown hK hP hS mw_5_116 wd_X10_placeOf (by decide +kernel) ⟨rfl, rfl⟩ (by decide) rfl rfl he_X10 rfl hl.1 hml rfl (Nat.le_of_ble_eq_true rfl) dX10_doc_115 ⟨Nat.zero_le _, Nat.zero_le _⟩ (fun r115 u H locs h hP hS => ?_)
      obtain ⟨I_2, A_1⟩ := u
      dsimp only at h hP
      exact hret _ (I_2, A_1) dX10_doc_118 h hP hS
    rw [if_neg hc_8] at h
    refine lv_tableOut (tgt := 119) hx hb dX10_doc_22 (sw_out_4 hc_4 hc_5 hc_6 hc_7 hc_8) (by decide) ?_
    refine lv_iconst (v := (-1)) hx hb dX10_doc_119 (by decide) ?_
    exact hret _ (I_1, A) dX10_doc_120 h hP hS
  · rw [if_pos hc] at h
    refine lv_iconst (v := (-1)) hx hb dX10_doc_19 (by decide) ?_
    exact hret _ (I_1, A) dX10_doc_20 h hP hS
theorem dX10_has_0 : decode cX10_has 0 = .ok (.aload_n 0, 1) := by decide +kernel
theorem dX10_has_1 : decode cX10_has 1 = .ok (.iconst 0, 1) := by decide +kernel
theorem dX10_has_2 : decode cX10_has 2 = .ok (.putfield 56, 3) := by decide +kernel
theorem dX10_has_5 : decode cX10_has 5 = .ok (.aload_n 0, 1) := by decide +kernel
theorem dX10_has_6 : decode cX10_has 6 = .ok (.iload_n 1, 1) := by decide +kernel
theorem dX10_has_7 : decode cX10_has 7 = .ok (.invokevirtual 97, 3) := by decide +kernel
theorem dX10_has_10 : decode cX10_has 10 = .ok (.ifCond .eq 24, 3) := by decide +kernel
theorem dX10_has_13 : decode cX10_has 13 = .ok (.aload_n 0, 1) := by decide +kernel
theorem dX10_has_14 : decode cX10_has 14 = .ok (.iload_n 2, 1) := by decide +kernel
theorem dX10_has_15 : decode cX10_has 15 = .ok (.invokevirtual 77, 3) := by decide +kernel
theorem dX10_has_18 : decode cX10_has 18 = .ok (.ifCond .eq 16, 3) := by decide +kernel
theorem dX10_has_21 : decode cX10_has 21 = .ok (.aload_n 0, 1) := by decide +kernel
theorem dX10_has_22 : decode cX10_has 22 = .ok (.iload_n 1, 1) := by decide +kernel
theorem dX10_has_23 : decode cX10_has 23 = .ok (.iload_n 2, 1) := by decide +kernel
theorem dX10_has_24 : decode cX10_has 24 = .ok (.invokevirtual 122, 3) := by decide +kernel
theorem dX10_has_27 : decode cX10_has 27 = .ok (.ifCond .eq 7, 3) := by decide +kernel
theorem dX10_has_30 : decode cX10_has 30 = .ok (.iconst 1, 1) := by decide +kernel
theorem dX10_has_31 : decode cX10_has 31 = .ok (.goto 4, 3) := by decide +kernel
theorem dX10_has_34 : decode cX10_has 34 = .ok (.iconst 0, 1) := by decide +kernel
theorem dX10_has_35 : decode cX10_has 35 = .ok (.ireturn, 1) := by decide +kernel
def wX10_has (I : Nat → Int32) (A : Nat → Nat → Int32) (x1 : Int32) (x2 : Int32) (post : Int32 → (Nat → Int32) → Prop) : Prop := (∀ I_1, I_1 = va_up I 0 0 → wX10_isThere I_1 A x1 (fun r7 => if r7 = 0 then (post 0 I_1) else (wX10_isCategory I_1 A x2 (fun r15 => if r15 = 0 then (post 0 I_1) else (wX10_hasIt I_1 A x1 x2 (fun r24 => if r24 = 0 then (post 0 I_1) else (post 1 I_1)))))))
abbrev rmX10_has : Room := { frames := 1, cells := 0, slots := 0, locals := 22 }
theorem wd_X10_has : Cond.instanceMethod yX10_has ∈ BW ∧ Cond.selects yX10_has.cls yX10_has yX10_has ∈ BW ∧ Cond.initialized yX10_has.cls ∈ BW ∧ Cond.code yX10_has cX10_has 3 (some .boolean) ∈ BW := ⟨mw_5_129, mw_5_130, mw_1_11, mw_5_131⟩
set_option maxHeartbeats 4000000 in
set_option maxRecDepth 100000 in
theorem c_X10_has {l : Launch} {D : va_G} {cy : Nat → ClassId} {ad : Nat → Nat} {Ad : Nat → Prop} (hAd : adok 16 Ad ad) (I : Nat → Int32) (A : Nat → Nat → Int32) (x1 : Int32) (x2 : Int32)  (post : Int32 → (Nat → Int32) → Prop) (h : wX10_has I A x1 x2 post) : Met l yX10_has (.code yX10_has cX10_has 3 (some .boolean) :: BW) rmX10_has (va_Pc [.ref (ad 0), .int x1, .int x2] (fun U => kC D cy U ∧ va_P D vwCl (wM cy ad I A) U.heap)) (qMi D cy ad Ad (fun r u => post r u.1 ∧ A = u.2)) 0 0 Ad := by
  refine startMz (by decide) (Nat.le_of_ble_eq_true rfl) (lv := [(0, .ref (ad 0)), (1, .int x1), (2, .int x2)]) rfl (fun p e s m args below meth c Q ls hx hb hml hT hown hK hret hl hP hS => ?_)
  unfold wX10_has at h
  refine lv_aload_n hx hb dX10_has_0 rfl (lv_at hl 0 rfl) ?_
  refine lv_iconst (v := 0) hx hb dX10_has_1 (by decide) ?_
  refine pM_X10_thrown hAd hx hb hT hown hK.1 hP hS (hT _ mw_4_137) dX10_has_2 (fun H locs hP hS => ?_)
  obtain ⟨I_1, eI_1⟩ : ∃ z, z = va_up I 0 0 := ⟨_, rfl⟩
  rw [← eI_1] at hP
  replace h := h I_1 eI_1
  refine lv_aload_n hx hb dX10_has_5 rfl (lv_at hl 0 rfl) ?_
  refine lv_iload_n hx hb dX10_has_6 rfl (lv_at hl 1 rfl) ?_
  refine callMi (k := 0) (As := [.int x1]) (rest := []) (n := 1) (c_X10_isThere hAd I_1 A x1 _ h) hx hb hT hown hK hP hS mw_5_20 wd_X10_isThere (by decide +kernel) ⟨rfl, rfl⟩ (by decide) rfl rfl he_X10 rfl hl.1 hml rfl (Nat.le_of_ble_eq_true rfl) dX10_has_7 ⟨Nat.zero_le _, Nat.zero_le _⟩ (fun r7 u H locs h hP hS => ?_)
  obtain ⟨Iu, Au⟩ := u
  dsimp only at h hP
  obtain ⟨h, rfl, rfl⟩ := h
  try dsimp only at h
  refine lv_if_eq (tgt := 34) hx hb dX10_has_10 (by decide) (fun hc => ?_) (fun hc => ?_)
  · rw [if_pos hc] at h
    refine lv_iconst (v := 0) hx hb dX10_has_34 (by decide) ?_
    exact hret _ (I_1, A) zb_0 dX10_has_35 ⟨h, rfl⟩ hP hS
  · rw [if_neg hc] at h
    refine lv_aload_n hx hb dX10_has_13 rfl (lv_at hl 0 rfl) ?_
    refine lv_iload_n hx hb dX10_has_14 rfl (lv_at hl 2 rfl) ?_
    refine callMi (k := 0) (As := [.int x2]) (rest := []) (n := 1) (c_X10_isCategory hAd I_1 A x2 _ h) hx hb hT hown hK hP hS mw_4_232 wd_X10_isCategory (by decide +kernel) ⟨rfl, rfl⟩ (by decide) rfl rfl he_X10 rfl hl.1 hml rfl (Nat.le_of_ble_eq_true rfl) dX10_has_15 ⟨Nat.zero_le _, Nat.zero_le _⟩ (fun r15 u H locs h hP hS => ?_)
    obtain ⟨Iu_1, Au_1⟩ := u
    dsimp only at h hP
    obtain ⟨h, rfl, rfl⟩ := h
    try dsimp only at h
    refine lv_if_eq (tgt := 34) hx hb dX10_has_18 (by decide) (fun hc_1 => ?_) (fun hc_1 => ?_)
    · rw [if_pos hc_1] at h
      refine lv_iconst (v := 0) hx hb dX10_has_34 (by decide) ?_
      exact hret _ (I_1, A) zb_0 dX10_has_35 ⟨h, rfl⟩ hP hS
    · rw [if_neg hc_1] at h
      refine lv_aload_n hx hb dX10_has_21 rfl (lv_at hl 0 rfl) ?_
      refine lv_iload_n hx hb dX10_has_22 rfl (lv_at hl 1 rfl) ?_
      refine lv_iload_n hx hb dX10_has_23 rfl (lv_at hl 2 rfl) ?_
      refine callMi (k := 0) (As := [.int x1, .int x2]) (rest := []) (n := 2) (c_X10_hasIt hAd I_1 A x1 x2 _ h) hx hb hT hown hK hP hS mw_5_100 wd_X10_hasIt (by decide +kernel) ⟨rfl, rfl⟩ (by decide) rfl rfl he_X10 rfl hl.1 hml rfl (Nat.le_of_ble_eq_true rfl) dX10_has_24 ⟨Nat.zero_le _, Nat.zero_le _⟩ (fun r24 u H locs h hP hS => ?_)
      obtain ⟨Iu_2, Au_2⟩ := u
      dsimp only at h hP
      obtain ⟨h, rfl, rfl⟩ := h
      try dsimp only at h
      refine lv_if_eq (tgt := 34) hx hb dX10_has_27 (by decide) (fun hc_2 => ?_) (fun hc_2 => ?_)
      · rw [if_pos hc_2] at h
        refine lv_iconst (v := 0) hx hb dX10_has_34 (by decide) ?_
        exact hret _ (I_1, A) zb_0 dX10_has_35 ⟨h, rfl⟩ hP hS
      · rw [if_neg hc_2] at h
        refine lv_iconst (v := 1) hx hb dX10_has_30 (by decide) ?_
        refine lv_goto (tgt := 35) hx hb dX10_has_31 (by decide) ?_
        exact hret _ (I_1, A) zb_1 dX10_has_35 ⟨h, rfl⟩ hP hS
theorem dX10_numberOf_0 : decode cX10_numberOf 0 = .ok (.aload_n 0, 1) := by decide +kernel
theorem dX10_numberOf_1 : decode cX10_numberOf 1 = .ok (.aload_n 0, 1) := by decide +kernel
theorem dX10_numberOf_2 : decode cX10_numberOf 2 = .ok (.iload_n 1, 1) := by decide +kernel
theorem dX10_numberOf_3 : decode cX10_numberOf 3 = .ok (.iload_n 2, 1) := by decide +kernel
theorem dX10_numberOf_4 : decode cX10_numberOf 4 = .ok (.invokevirtual 103, 3) := by decide +kernel
theorem dX10_numberOf_7 : decode cX10_numberOf 7 = .ok (.ifCond .eq 7, 3) := by decide +kernel
theorem dX10_numberOf_10 : decode cX10_numberOf 10 = .ok (.iconst 0, 1) := by decide +kernel
theorem dX10_numberOf_11 : decode cX10_numberOf 11 = .ok (.goto 4, 3) := by decide +kernel
theorem dX10_numberOf_14 : decode cX10_numberOf 14 = .ok (.iconst 1, 1) := by decide +kernel
theorem dX10_numberOf_15 : decode cX10_numberOf 15 = .ok (.putfield 56, 3) := by decide +kernel
theorem dX10_numberOf_18 : decode cX10_numberOf 18 = .ok (.aload_n 0, 1) := by decide +kernel
theorem dX10_numberOf_19 : decode cX10_numberOf 19 = .ok (.getfield 56, 3) := by decide +kernel
theorem dX10_numberOf_22 : decode cX10_numberOf 22 = .ok (.ifCond .le 7, 3) := by decide +kernel
theorem dX10_numberOf_25 : decode cX10_numberOf 25 = .ok (.iconst 0, 1) := by decide +kernel
theorem dX10_numberOf_26 : decode cX10_numberOf 26 = .ok (.goto 13, 3) := by decide +kernel
theorem dX10_numberOf_29 : decode cX10_numberOf 29 = .ok (.aload_n 0, 1) := by decide +kernel
theorem dX10_numberOf_30 : decode cX10_numberOf 30 = .ok (.getfield 29, 3) := by decide +kernel
theorem dX10_numberOf_33 : decode cX10_numberOf 33 = .ok (.iconst 5, 1) := by decide +kernel
theorem dX10_numberOf_34 : decode cX10_numberOf 34 = .ok (.iload_n 1, 1) := by decide +kernel
theorem dX10_numberOf_35 : decode cX10_numberOf 35 = .ok (.imul, 1) := by decide +kernel
theorem dX10_numberOf_36 : decode cX10_numberOf 36 = .ok (.iload_n 2, 1) := by decide +kernel
theorem dX10_numberOf_37 : decode cX10_numberOf 37 = .ok (.iadd, 1) := by decide +kernel
theorem dX10_numberOf_38 : decode cX10_numberOf 38 = .ok (.iaload, 1) := by decide +kernel
theorem dX10_numberOf_39 : decode cX10_numberOf 39 = .ok (.ireturn, 1) := by decide +kernel
def wX10_numberOf (I : Nat → Int32) (A : Nat → Nat → Int32) (x1 : Int32) (x2 : Int32) (post : Int32 → (Nat → Int32) → Prop) : Prop := wX10_isNumbered I A x1 x2 (fun r4 => jn (fun (t : Int32) => (∀ I_1, I_1 = va_up I 0 t → if (I_1 0) ≤ 0 then (vp_in ((5 * x1) + x2) 200 ∧ (post (A 7 ((5 * x1) + x2).toNatClampNeg) I_1)) else (post 0 I_1))) (fun k => if r4 = 0 then (k 1) else (k 0)))
abbrev rmX10_numberOf : Room := { frames := 3, cells := 0, slots := 0, locals := 64 }
theorem wd_X10_numberOf : Cond.instanceMethod yX10_numberOf ∈ BW ∧ Cond.selects yX10_numberOf.cls yX10_numberOf yX10_numberOf ∈ BW ∧ Cond.initialized yX10_numberOf.cls ∈ BW ∧ Cond.code yX10_numberOf cX10_numberOf 3 (some .int) ∈ BW := ⟨mw_5_133, mw_5_134, mw_1_11, mw_5_135⟩
set_option maxHeartbeats 4000000 in
set_option maxRecDepth 100000 in
theorem c_X10_numberOf {l : Launch} {D : va_G} {cy : Nat → ClassId} {ad : Nat → Nat} {Ad : Nat → Prop} (hAd : adok 16 Ad ad) (I : Nat → Int32) (A : Nat → Nat → Int32) (x1 : Int32) (x2 : Int32)  (post : Int32 → (Nat → Int32) → Prop) (h : wX10_numberOf I A x1 x2 post) : Met l yX10_numberOf (.code yX10_numberOf cX10_numberOf 3 (some .int) :: BW) rmX10_numberOf (va_Pc [.ref (ad 0), .int x1, .int x2] (fun U => kC D cy U ∧ va_P D vwCl (wM cy ad I A) U.heap)) (qMi D cy ad Ad (fun r u => post r u.1 ∧ A = u.2)) 0 0 Ad := by
  refine startMi (by decide) (Nat.le_of_ble_eq_true rfl) (lv := [(0, .ref (ad 0)), (1, .int x1), (2, .int x2)]) rfl (fun p e s m args below meth c Q ls hx hb hml hT hown hK hret hl hP hS => ?_)
  unfold wX10_numberOf at h
  refine lv_aload_n hx hb dX10_numberOf_0 rfl (lv_at hl 0 rfl) ?_
  refine lv_aload_n hx hb dX10_numberOf_1 rfl (lv_at hl 0 rfl) ?_
  refine lv_iload_n hx hb dX10_numberOf_2 rfl (lv_at hl 1 rfl) ?_
  refine lv_iload_n hx hb dX10_numberOf_3 rfl (lv_at hl 2 rfl) ?_
  refine callMi (k := 0) (As := [.int x1, .int x2]) (rest := [.ref (ad 0)]) (n := 2) (c_X10_isNumbered hAd I A x1 x2 _ h) hx hb hT hown hK hP hS mw_5_36 wd_X10_isNumbered (by decide +kernel) ⟨rfl, rfl⟩ (by decide) rfl rfl he_X10 rfl hl.1 hml rfl (Nat.le_of_ble_eq_true rfl) dX10_numberOf_4 ⟨Nat.zero_le _, Nat.zero_le _⟩ (fun r4 u H locs h hP hS => ?_)
  obtain ⟨Iu, Au⟩ := u
  dsimp only at h hP
  obtain ⟨h, rfl, rfl⟩ := h
  try dsimp only at h
  obtain ⟨k, hk, h⟩ := jn_ex h
  try dsimp only at h
  have J : ∀ (t : Int32), k t → ∀ (ls : Array Slot) (H : Heap) (locs : List Loc), lv_has ls 3 [(0, .ref (ad 0)), (1, .int x1), (2, .int x2)] → va_P D vwCl (wM cy ad I A) H → va_S Ad s.heap H locs → W p l e rmX10_numberOf s m args below meth c H locs 0 0 Q (F0 m 15 ls [.int t, .ref (ad 0)]) := by
    intro t h ls H locs hl hP hS
    replace h := hk _ h
    try dsimp only at h
    refine pM_X10_thrown hAd hx hb hT hown hK.1 hP hS (hT _ mw_4_137) dX10_numberOf_15 (fun H locs hP hS => ?_)
    obtain ⟨I_1, eI_1⟩ : ∃ z, z = va_up I 0 t := ⟨_, rfl⟩
    rw [← eI_1] at hP
    replace h := h I_1 eI_1
    refine lv_aload_n hx hb dX10_numberOf_18 rfl (lv_at hl 0 rfl) ?_
    refine va_get (T := TX10) hx hb hT inlX10 hown hK.1 hP 0 he_X10 rfl 0 (by decide) (hT _ mw_4_137) (fun _ h9 => h9) rfl dX10_numberOf_19 ?_
    refine lv_if_le (tgt := 29) hx hb dX10_numberOf_22 (by decide) (fun hc => ?_) (fun hc => ?_)
    · rw [if_pos hc] at h
      refine lv_aload_n hx hb dX10_numberOf_29 rfl (lv_at hl 0 rfl) ?_
      refine va_get (T := TX10) hx hb hT inlX10 hown hK.1 hP 0 he_X10 rfl 10 (by decide) (hT _ mw_4_147) (fun _ h9 => h9) rfl dX10_numberOf_30 ?_
      refine lv_iconst (v := 5) hx hb dX10_numberOf_33 (by decide) ?_
      refine lv_iload_n hx hb dX10_numberOf_34 rfl (lv_at hl 1 rfl) ?_
      refine lv_imul hx hb dX10_numberOf_35 ?_
      refine lv_iload_n hx hb dX10_numberOf_36 rfl (lv_at hl 2 rfl) ?_
      refine lv_iadd hx hb dX10_numberOf_37 ?_
      obtain ⟨hi, h⟩ := h
      refine lM_I hx hb hK.1 hP (by decide) rfl hi dX10_numberOf_38 ?_
      exact hret _ (I_1, A) dX10_numberOf_39 ⟨h, rfl⟩ hP hS
    · rw [if_neg hc] at h
      refine lv_iconst (v := 0) hx hb dX10_numberOf_25 (by decide) ?_
      refine lv_goto (tgt := 39) hx hb dX10_numberOf_26 (by decide) ?_
      exact hret _ (I_1, A) dX10_numberOf_39 ⟨h, rfl⟩ hP hS
  refine lv_if_eq (tgt := 14) hx hb dX10_numberOf_7 (by decide) (fun hc_1 => ?_) (fun hc_1 => ?_)
  · rw [if_pos hc_1] at h
    refine lv_iconst (v := 1) hx hb dX10_numberOf_14 (by decide) ?_
    exact J 1 h _ _ _ (lv_sub hl [0, 1, 2] rfl) hP hS
  · rw [if_neg hc_1] at h
    refine lv_iconst (v := 0) hx hb dX10_numberOf_10 (by decide) ?_
    refine lv_goto (tgt := 15) hx hb dX10_numberOf_11 (by decide) ?_
    exact J 0 h _ _ _ (lv_sub hl [0, 1, 2] rfl) hP hS
theorem dX10_hit_0 : decode cX10_hit 0 = .ok (.aload_n 0, 1) := by decide +kernel
theorem dX10_hit_1 : decode cX10_hit 1 = .ok (.iconst 0, 1) := by decide +kernel
theorem dX10_hit_2 : decode cX10_hit 2 = .ok (.putfield 56, 3) := by decide +kernel
theorem dX10_hit_5 : decode cX10_hit 5 = .ok (.aload_n 0, 1) := by decide +kernel
theorem dX10_hit_6 : decode cX10_hit 6 = .ok (.invokevirtual 143, 3) := by decide +kernel
theorem dX10_hit_9 : decode cX10_hit 9 = .ok (.iconst 0, 1) := by decide +kernel
theorem dX10_hit_10 : decode cX10_hit 10 = .ok (.istore_n 2, 1) := by decide +kernel
theorem dX10_hit_11 : decode cX10_hit 11 = .ok (.iconst 0, 1) := by decide +kernel
theorem dX10_hit_12 : decode cX10_hit 12 = .ok (.istore_n 3, 1) := by decide +kernel
theorem dX10_hit_13 : decode cX10_hit 13 = .ok (.iload_n 3, 1) := by decide +kernel
theorem dX10_hit_14 : decode cX10_hit 14 = .ok (.aload_n 0, 1) := by decide +kernel
theorem dX10_hit_15 : decode cX10_hit 15 = .ok (.getfield 137, 3) := by decide +kernel
theorem dX10_hit_18 : decode cX10_hit 18 = .ok (.if_icmp .ge 53, 3) := by decide +kernel
theorem dX10_hit_21 : decode cX10_hit 21 = .ok (.aload_n 0, 1) := by decide +kernel
theorem dX10_hit_22 : decode cX10_hit 22 = .ok (.iconst 0, 1) := by decide +kernel
theorem dX10_hit_23 : decode cX10_hit 23 = .ok (.aload_n 0, 1) := by decide +kernel
theorem dX10_hit_24 : decode cX10_hit 24 = .ok (.getfield 41, 3) := by decide +kernel
theorem dX10_hit_27 : decode cX10_hit 27 = .ok (.iload_n 3, 1) := by decide +kernel
theorem dX10_hit_28 : decode cX10_hit 28 = .ok (.iaload, 1) := by decide +kernel
theorem dX10_hit_29 : decode cX10_hit 29 = .ok (.iconst (-1), 1) := by decide +kernel
theorem dX10_hit_30 : decode cX10_hit 30 = .ok (.invokevirtual 134, 3) := by decide +kernel
theorem dX10_hit_33 : decode cX10_hit 33 = .ok (.istore 4, 2) := by decide +kernel
theorem dX10_hit_35 : decode cX10_hit 35 = .ok (.iload 4, 2) := by decide +kernel
theorem dX10_hit_37 : decode cX10_hit 37 = .ok (.ifCond .eq 15, 3) := by decide +kernel
theorem dX10_hit_40 : decode cX10_hit 40 = .ok (.iload_n 2, 1) := by decide +kernel
theorem dX10_hit_41 : decode cX10_hit 41 = .ok (.iload_n 1, 1) := by decide +kernel
theorem dX10_hit_42 : decode cX10_hit 42 = .ok (.if_icmp .ne 10, 3) := by decide +kernel
theorem dX10_hit_45 : decode cX10_hit 45 = .ok (.aload_n 0, 1) := by decide +kernel
theorem dX10_hit_46 : decode cX10_hit 46 = .ok (.getfield 41, 3) := by decide +kernel
theorem dX10_hit_49 : decode cX10_hit 49 = .ok (.iload_n 3, 1) := by decide +kernel
theorem dX10_hit_50 : decode cX10_hit 50 = .ok (.iaload, 1) := by decide +kernel
theorem dX10_hit_51 : decode cX10_hit 51 = .ok (.ireturn, 1) := by decide +kernel
theorem dX10_hit_52 : decode cX10_hit 52 = .ok (.iload_n 2, 1) := by decide +kernel
theorem dX10_hit_53 : decode cX10_hit 53 = .ok (.iload 4, 2) := by decide +kernel
theorem dX10_hit_55 : decode cX10_hit 55 = .ok (.ifCond .eq 7, 3) := by decide +kernel
theorem dX10_hit_58 : decode cX10_hit 58 = .ok (.iconst 1, 1) := by decide +kernel
theorem dX10_hit_59 : decode cX10_hit 59 = .ok (.goto 4, 3) := by decide +kernel
theorem dX10_hit_62 : decode cX10_hit 62 = .ok (.iconst 0, 1) := by decide +kernel
theorem dX10_hit_63 : decode cX10_hit 63 = .ok (.iadd, 1) := by decide +kernel
theorem dX10_hit_64 : decode cX10_hit 64 = .ok (.istore_n 2, 1) := by decide +kernel
theorem dX10_hit_65 : decode cX10_hit 65 = .ok (.iinc 3 1, 3) := by decide +kernel
theorem dX10_hit_68 : decode cX10_hit 68 = .ok (.goto (-55), 3) := by decide +kernel
theorem dX10_hit_71 : decode cX10_hit 71 = .ok (.iconst (-1), 1) := by decide +kernel
theorem dX10_hit_72 : decode cX10_hit 72 = .ok (.ireturn, 1) := by decide +kernel
def wX10_hit (I : Nat → Int32) (A : Nat → Nat → Int32) (x1 : Int32) (post : Int32 → (Nat → Int32) → (Nat → Nat → Int32) → Prop) : Prop := (∀ I_1, I_1 = va_up I 0 0 → wX10_orders I_1 A  (fun I_2 A_1 => ∃ n, lfix (fun (r : (Int32 × Int32) → Prop) (v3, v2) => if (I_2 5) ≤ v3 then (post (-1) I_2 A_1) else (vp_in v3 40 ∧ (wX10_isNear I_2 A_1 0 (A_1 11 v3.toNatClampNeg) (-1) (fun r30 => jn (fun (_ : Unit) => jn (fun (t : Int32) => ∀ v2_1 : Int32, v2_1 = v2 + t → ∀ v3_1 : Int32, v3_1 = v3 + 1 → r (v3_1, v2_1)) (fun k_1 => if r30 = 0 then (k_1 0) else (k_1 1))) (fun k => if r30 = 0 then (k ()) else (if v2 = x1 then (vp_in v3 40 ∧ (post (A_1 11 v3.toNatClampNeg) I_2 A_1)) else (k ()))))))) n (0, 0)))
abbrev rmX10_hit : Room := { frames := 3, cells := 0, slots := 0, locals := 80 }
theorem wd_X10_hit : Cond.instanceMethod yX10_hit ∈ BW ∧ Cond.selects yX10_hit.cls yX10_hit yX10_hit ∈ BW ∧ Cond.initialized yX10_hit.cls ∈ BW ∧ Cond.code yX10_hit cX10_hit 5 (some .int) ∈ BW := ⟨mw_5_137, mw_5_138, mw_1_11, mw_5_139⟩
set_option maxHeartbeats 4000000 in
set_option maxRecDepth 100000 in
theorem c_X10_hit {l : Launch} {D : va_G} {cy : Nat → ClassId} {ad : Nat → Nat} {Ad : Nat → Prop} (hAd : adok 16 Ad ad) (I : Nat → Int32) (A : Nat → Nat → Int32) (x1 : Int32)  (post : Int32 → (Nat → Int32) → (Nat → Nat → Int32) → Prop) (h : wX10_hit I A x1 post) : Met l yX10_hit (.code yX10_hit cX10_hit 5 (some .int) :: BW) rmX10_hit (va_Pc [.ref (ad 0), .int x1] (fun U => kC D cy U ∧ va_P D vwCl (wM cy ad I A) U.heap)) (qMi D cy ad Ad (fun r u => post r u.1 u.2)) 0 0 Ad := by
  refine startMi (by decide) (Nat.le_of_ble_eq_true rfl) (lv := [(0, .ref (ad 0)), (1, .int x1)]) rfl (fun p e s m args below meth c Q ls hx hb hml hT hown hK hret hl hP hS => ?_)
  unfold wX10_hit at h
  refine lv_aload_n hx hb dX10_hit_0 rfl (lv_at hl 0 rfl) ?_
  refine lv_iconst (v := 0) hx hb dX10_hit_1 (by decide) ?_
  refine pM_X10_thrown hAd hx hb hT hown hK.1 hP hS (hT _ mw_4_137) dX10_hit_2 (fun H locs hP hS => ?_)
  obtain ⟨I_1, eI_1⟩ : ∃ z, z = va_up I 0 0 := ⟨_, rfl⟩
  rw [← eI_1] at hP
  replace h := h I_1 eI_1
  refine lv_aload_n hx hb dX10_hit_5 rfl (lv_at hl 0 rfl) ?_
  refine callMv (k := 0) (As := []) (rest := []) (n := 0) (c_X10_orders hAd I_1 A  _ h) hx hb hT hown hK hP hS mw_5_120 wd_X10_orders (by decide +kernel) ⟨rfl, rfl⟩ (by decide) rfl rfl he_X10 rfl hl.1 hml rfl (Nat.le_of_ble_eq_true rfl) dX10_hit_6 ⟨Nat.zero_le _, Nat.zero_le _⟩ (fun u H locs h hP hS => ?_)
  obtain ⟨I_2, A_1⟩ := u
  dsimp only at h hP
  refine lv_iconst (v := 0) hx hb dX10_hit_9 (by decide) ?_
  refine lv_istore_n (lv' := [(2, .int 0), (0, .ref (ad 0)), (1, .int x1)]) hx hb dX10_hit_10 rfl hl (by decide) rfl (fun ls hl => ?_)
  refine lv_iconst (v := 0) hx hb dX10_hit_11 (by decide) ?_
  refine lv_istore_n (lv' := [(3, .int 0), (2, .int 0), (0, .ref (ad 0)), (1, .int x1)]) hx hb dX10_hit_12 rfl hl (by decide) rfl (fun ls hl => ?_)
  obtain ⟨F, n, h, hF, hG⟩ := lfix_ex h
  have LP : ∀ (n : Nat) (v3 : Int32) (v2 : Int32) (ls : Array Slot) (H : Heap) (locs : List Loc), F n (v3, v2) → lv_has ls 5 [(3, .int v3), (2, .int v2), (0, .ref (ad 0)), (1, .int x1)] → va_P D vwCl (wM cy ad I_2 A_1) H → va_S Ad s.heap H locs → W p l e rmX10_hit s m args below meth c H locs 0 0 Q (F0 m 13 ls []) := by
    intro n
    induction n with
    | zero => intro v3 v2 ls H locs h _ _ _; exact absurd h (hF _)
    | succ n ih =>
      intro v3 v2 ls H locs h hl hP hS
      replace h := hG _ _ h
      try dsimp only at h
      refine lv_iload_n hx hb dX10_hit_13 rfl (lv_at hl 0 rfl) ?_
      refine lv_aload_n hx hb dX10_hit_14 rfl (lv_at hl 2 rfl) ?_
      refine va_get (T := TX10) hx hb hT inlX10 hown hK.1 hP 0 he_X10 rfl 16 (by decide) (hT _ mw_4_153) (fun _ h9 => h9) rfl dX10_hit_15 ?_
      refine lv_icmp_ge (tgt := 71) hx hb dX10_hit_18 (by decide) (fun hc => ?_) (fun hc => ?_)
      · rw [if_pos hc] at h
        refine lv_iconst (v := (-1)) hx hb dX10_hit_71 (by decide) ?_
        exact hret _ (I_2, A_1) dX10_hit_72 h hP hS
      · rw [if_neg hc] at h
        refine lv_aload_n hx hb dX10_hit_21 rfl (lv_at hl 2 rfl) ?_
        refine lv_iconst (v := 0) hx hb dX10_hit_22 (by decide) ?_
        refine lv_aload_n hx hb dX10_hit_23 rfl (lv_at hl 2 rfl) ?_
        refine va_get (T := TX10) hx hb hT inlX10 hown hK.1 hP 0 he_X10 rfl 15 (by decide) (hT _ mw_4_152) (fun _ h9 => h9) rfl dX10_hit_24 ?_
        refine lv_iload_n hx hb dX10_hit_27 rfl (lv_at hl 0 rfl) ?_
        obtain ⟨hi, h⟩ := h
        refine lM_I hx hb hK.1 hP (by decide) rfl hi dX10_hit_28 ?_
        refine lv_iconst (v := (-1)) hx hb dX10_hit_29 (by decide) ?_
        refine callMi (k := 0) (As := [.int 0, .int (A_1 11 v3.toNatClampNeg), .int (-1)]) (rest := []) (n := 3) (c_X10_isNear hAd I_2 A_1 0 (A_1 11 v3.toNatClampNeg) (-1) _ h) hx hb hT hown hK hP hS mw_5_92 wd_X10_isNear (by decide +kernel) ⟨rfl, rfl⟩ (by decide) rfl rfl he_X10 rfl hl.1 hml rfl (Nat.le_of_ble_eq_true rfl) dX10_hit_30 ⟨Nat.zero_le _, Nat.zero_le _⟩ (fun r30 u H locs h hP hS => ?_)
        obtain ⟨Iu, Au⟩ := u
        dsimp only at h hP
        obtain ⟨h, rfl, rfl⟩ := h
        try dsimp only at h
        refine lv_istore (lv' := [(4, .int r30), (3, .int v3), (2, .int v2), (0, .ref (ad 0)), (1, .int x1)]) hx hb dX10_hit_33 hl (by decide) rfl (fun ls hl => ?_)
        refine lv_iload hx hb dX10_hit_35 (lv_at hl 0 rfl) ?_
        obtain ⟨k, hk, h⟩ := jn_ex h
        try dsimp only at h
        have J : k () → ∀ (ls : Array Slot) (H : Heap) (locs : List Loc), lv_has ls 5 [(4, .int r30), (3, .int v3), (2, .int v2), (0, .ref (ad 0)), (1, .int x1)] → va_P D vwCl (wM cy ad I_2 A_1) H → va_S Ad s.heap H locs → W p l e rmX10_hit s m args below meth c H locs 0 0 Q (F0 m 52 ls []) := by
          intro  h ls H locs hl hP hS
          replace h := hk _ h
          try dsimp only at h
          refine lv_iload_n hx hb dX10_hit_52 rfl (lv_at hl 2 rfl) ?_
          refine lv_iload hx hb dX10_hit_53 (lv_at hl 0 rfl) ?_
          obtain ⟨k_1, hk_1, h⟩ := jn_ex h
          try dsimp only at h
          have J_1 : ∀ (t : Int32), k_1 t → ∀ (ls : Array Slot) (H : Heap) (locs : List Loc), lv_has ls 5 [(3, .int v3), (0, .ref (ad 0)), (1, .int x1)] → va_P D vwCl (wM cy ad I_2 A_1) H → va_S Ad s.heap H locs → W p l e rmX10_hit s m args below meth c H locs 0 0 Q (F0 m 63 ls [.int t, .int v2]) := by
            intro t h ls H locs hl hP hS
            replace h := hk_1 _ h
            try dsimp only at h
            refine lv_iadd hx hb dX10_hit_63 ?_
            refine lv_topi (fun v2_1 ev2_1 => ?_)
            replace h := h v2_1 ev2_1
            refine lv_istore_n (lv' := [(2, .int v2_1), (3, .int v3), (0, .ref (ad 0)), (1, .int x1)]) hx hb dX10_hit_64 rfl hl (by decide) rfl (fun ls hl => ?_)
            obtain ⟨v3_1, ev3_1⟩ : ∃ z : Int32, z = v3 + 1 := ⟨_, rfl⟩
            replace h := h v3_1 ev3_1
            refine lv_iinc (v := v3_1) (lv' := [(3, .int v3_1), (2, .int v2_1), (0, .ref (ad 0)), (1, .int x1)]) hx hb dX10_hit_65 hl (k := 1) rfl (by rw [ev3_1]; rfl) (by decide) rfl (fun ls hl => ?_)
            refine lv_goto (tgt := 13) hx hb dX10_hit_68 (by decide) ?_
            exact ih v3_1 v2_1 _ _ _ h (lv_sub hl [0, 1, 2, 3] rfl) hP hS
          refine lv_if_eq (tgt := 62) hx hb dX10_hit_55 (by decide) (fun hc_1 => ?_) (fun hc_1 => ?_)
          · rw [if_pos hc_1] at h
            refine lv_iconst (v := 0) hx hb dX10_hit_62 (by decide) ?_
            exact J_1 0 h _ _ _ (lv_sub hl [1, 3, 4] rfl) hP hS
          · rw [if_neg hc_1] at h
            refine lv_iconst (v := 1) hx hb dX10_hit_58 (by decide) ?_
            refine lv_goto (tgt := 63) hx hb dX10_hit_59 (by decide) ?_
            exact J_1 1 h _ _ _ (lv_sub hl [1, 3, 4] rfl) hP hS
        refine lv_if_eq (tgt := 52) hx hb dX10_hit_37 (by decide) (fun hc_2 => ?_) (fun hc_2 => ?_)
        · rw [if_pos hc_2] at h
          exact J  h _ _ _ (lv_sub hl [0, 1, 2, 3, 4] rfl) hP hS
        · rw [if_neg hc_2] at h
          refine lv_iload_n hx hb dX10_hit_40 rfl (lv_at hl 2 rfl) ?_
          refine lv_iload_n hx hb dX10_hit_41 rfl (lv_at hl 4 rfl) ?_
          refine lv_icmp_ne (tgt := 52) hx hb dX10_hit_42 (by decide) (fun hc_3 => ?_) (fun hc_3 => ?_)
          · rw [if_neg hc_3] at h
            exact J  h _ _ _ (lv_sub hl [0, 1, 2, 3, 4] rfl) hP hS
          · rw [if_pos hc_3] at h
            refine lv_aload_n hx hb dX10_hit_45 rfl (lv_at hl 3 rfl) ?_
            refine va_get (T := TX10) hx hb hT inlX10 hown hK.1 hP 0 he_X10 rfl 15 (by decide) (hT _ mw_4_152) (fun _ h9 => h9) rfl dX10_hit_46 ?_
            refine lv_iload_n hx hb dX10_hit_49 rfl (lv_at hl 1 rfl) ?_
            obtain ⟨hi_1, h⟩ := h
            refine lM_I hx hb hK.1 hP (by decide) rfl hi_1 dX10_hit_50 ?_
            exact hret _ (I_2, A_1) dX10_hit_51 h hP hS
  exact LP _ 0 0 _ _ _ h (lv_sub hl [0, 1, 2, 3] rfl) hP hS
theorem dX10_near_0 : decode cX10_near 0 = .ok (.aload_n 0, 1) := by decide +kernel
theorem dX10_near_1 : decode cX10_near 1 = .ok (.iconst 0, 1) := by decide +kernel
theorem dX10_near_2 : decode cX10_near 2 = .ok (.putfield 56, 3) := by decide +kernel
theorem dX10_near_5 : decode cX10_near 5 = .ok (.aload_n 0, 1) := by decide +kernel
theorem dX10_near_6 : decode cX10_near 6 = .ok (.iload_n 1, 1) := by decide +kernel
theorem dX10_near_7 : decode cX10_near 7 = .ok (.invokevirtual 63, 3) := by decide +kernel
theorem dX10_near_10 : decode cX10_near 10 = .ok (.ifCond .ne 5, 3) := by decide +kernel
theorem dX10_near_13 : decode cX10_near 13 = .ok (.iconst (-1), 1) := by decide +kernel
theorem dX10_near_14 : decode cX10_near 14 = .ok (.ireturn, 1) := by decide +kernel
theorem dX10_near_15 : decode cX10_near 15 = .ok (.iconst 0, 1) := by decide +kernel
theorem dX10_near_16 : decode cX10_near 16 = .ok (.istore_n 2, 1) := by decide +kernel
theorem dX10_near_17 : decode cX10_near 17 = .ok (.iconst 0, 1) := by decide +kernel
theorem dX10_near_18 : decode cX10_near 18 = .ok (.istore_n 3, 1) := by decide +kernel
theorem dX10_near_19 : decode cX10_near 19 = .ok (.iload_n 3, 1) := by decide +kernel
theorem dX10_near_20 : decode cX10_near 20 = .ok (.aload_n 0, 1) := by decide +kernel
theorem dX10_near_21 : decode cX10_near 21 = .ok (.getfield 70, 3) := by decide +kernel
theorem dX10_near_24 : decode cX10_near 24 = .ok (.if_icmp .ge 27, 3) := by decide +kernel
theorem dX10_near_27 : decode cX10_near 27 = .ok (.iload_n 2, 1) := by decide +kernel
theorem dX10_near_28 : decode cX10_near 28 = .ok (.aload_n 0, 1) := by decide +kernel
theorem dX10_near_29 : decode cX10_near 29 = .ok (.iconst 0, 1) := by decide +kernel
theorem dX10_near_30 : decode cX10_near 30 = .ok (.iload_n 3, 1) := by decide +kernel
theorem dX10_near_31 : decode cX10_near 31 = .ok (.iload_n 1, 1) := by decide +kernel
theorem dX10_near_32 : decode cX10_near 32 = .ok (.invokevirtual 134, 3) := by decide +kernel
theorem dX10_near_35 : decode cX10_near 35 = .ok (.ifCond .eq 7, 3) := by decide +kernel
theorem dX10_near_38 : decode cX10_near 38 = .ok (.iconst 1, 1) := by decide +kernel
theorem dX10_near_39 : decode cX10_near 39 = .ok (.goto 4, 3) := by decide +kernel
theorem dX10_near_42 : decode cX10_near 42 = .ok (.iconst 0, 1) := by decide +kernel
theorem dX10_near_43 : decode cX10_near 43 = .ok (.iadd, 1) := by decide +kernel
theorem dX10_near_44 : decode cX10_near 44 = .ok (.istore_n 2, 1) := by decide +kernel
theorem dX10_near_45 : decode cX10_near 45 = .ok (.iinc 3 1, 3) := by decide +kernel
theorem dX10_near_48 : decode cX10_near 48 = .ok (.goto (-29), 3) := by decide +kernel
theorem dX10_near_51 : decode cX10_near 51 = .ok (.iload_n 2, 1) := by decide +kernel
theorem dX10_near_52 : decode cX10_near 52 = .ok (.ireturn, 1) := by decide +kernel
def wX10_near (I : Nat → Int32) (A : Nat → Nat → Int32) (x1 : Int32) (post : Int32 → (Nat → Int32) → Prop) : Prop := (∀ I_1, I_1 = va_up I 0 0 → wX10_isAxis I_1 A x1 (fun r7 => if r7 = 0 then (post (-1) I_1) else (∃ n, lfix (fun (r : (Int32 × Int32) → Prop) (v3, v2) => if (I_1 3) ≤ v3 then (post v2 I_1) else (wX10_isNear I_1 A 0 v3 x1 (fun r32 => jn (fun (t : Int32) => ∀ v2_1 : Int32, v2_1 = v2 + t → ∀ v3_1 : Int32, v3_1 = v3 + 1 → r (v3_1, v2_1)) (fun k => if r32 = 0 then (k 0) else (k 1))))) n (0, 0))))
abbrev rmX10_near : Room := { frames := 3, cells := 0, slots := 0, locals := 80 }
theorem wd_X10_near : Cond.instanceMethod yX10_near ∈ BW ∧ Cond.selects yX10_near.cls yX10_near yX10_near ∈ BW ∧ Cond.initialized yX10_near.cls ∈ BW ∧ Cond.code yX10_near cX10_near 4 (some .int) ∈ BW := ⟨mw_5_141, mw_5_142, mw_1_11, mw_5_143⟩
set_option maxHeartbeats 4000000 in
set_option maxRecDepth 100000 in
theorem c_X10_near {l : Launch} {D : va_G} {cy : Nat → ClassId} {ad : Nat → Nat} {Ad : Nat → Prop} (hAd : adok 16 Ad ad) (I : Nat → Int32) (A : Nat → Nat → Int32) (x1 : Int32)  (post : Int32 → (Nat → Int32) → Prop) (h : wX10_near I A x1 post) : Met l yX10_near (.code yX10_near cX10_near 4 (some .int) :: BW) rmX10_near (va_Pc [.ref (ad 0), .int x1] (fun U => kC D cy U ∧ va_P D vwCl (wM cy ad I A) U.heap)) (qMi D cy ad Ad (fun r u => post r u.1 ∧ A = u.2)) 0 0 Ad := by
  refine startMi (by decide) (Nat.le_of_ble_eq_true rfl) (lv := [(0, .ref (ad 0)), (1, .int x1)]) rfl (fun p e s m args below meth c Q ls hx hb hml hT hown hK hret hl hP hS => ?_)
  unfold wX10_near at h
  refine lv_aload_n hx hb dX10_near_0 rfl (lv_at hl 0 rfl) ?_
  refine lv_iconst (v := 0) hx hb dX10_near_1 (by decide) ?_
  refine pM_X10_thrown hAd hx hb hT hown hK.1 hP hS (hT _ mw_4_137) dX10_near_2 (fun H locs hP hS => ?_)
  obtain ⟨I_1, eI_1⟩ : ∃ z, z = va_up I 0 0 := ⟨_, rfl⟩
  rw [← eI_1] at hP
  replace h := h I_1 eI_1
  refine lv_aload_n hx hb dX10_near_5 rfl (lv_at hl 0 rfl) ?_
  refine lv_iload_n hx hb dX10_near_6 rfl (lv_at hl 1 rfl) ?_
  refine callMi (k := 0) (As := [.int x1]) (rest := []) (n := 1) (c_X10_isAxis hAd I_1 A x1 _ h) hx hb hT hown hK hP hS mw_4_224 wd_X10_isAxis (by decide +kernel) ⟨rfl, rfl⟩ (by decide) rfl rfl he_X10 rfl hl.1 hml rfl (Nat.le_of_ble_eq_true rfl) dX10_near_7 ⟨Nat.zero_le _, Nat.zero_le _⟩ (fun r7 u H locs h hP hS => ?_)
  obtain ⟨Iu, Au⟩ := u
  dsimp only at h hP
  obtain ⟨h, rfl, rfl⟩ := h
  try dsimp only at h
  refine lv_if_ne (tgt := 15) hx hb dX10_near_10 (by decide) (fun hc => ?_) (fun hc => ?_)
  · rw [if_neg hc] at h
    refine lv_iconst (v := 0) hx hb dX10_near_15 (by decide) ?_
    refine lv_istore_n (lv' := [(2, .int 0), (0, .ref (ad 0)), (1, .int x1)]) hx hb dX10_near_16 rfl hl (by decide) rfl (fun ls hl => ?_)
    refine lv_iconst (v := 0) hx hb dX10_near_17 (by decide) ?_
    refine lv_istore_n (lv' := [(3, .int 0), (2, .int 0), (0, .ref (ad 0)), (1, .int x1)]) hx hb dX10_near_18 rfl hl (by decide) rfl (fun ls hl => ?_)
    obtain ⟨F, n, h, hF, hG⟩ := lfix_ex h
    have LP : ∀ (n : Nat) (v3 : Int32) (v2 : Int32) (ls : Array Slot) (H : Heap) (locs : List Loc), F n (v3, v2) → lv_has ls 4 [(3, .int v3), (2, .int v2), (0, .ref (ad 0)), (1, .int x1)] → va_P D vwCl (wM cy ad I_1 A) H → va_S Ad s.heap H locs → W p l e rmX10_near s m args below meth c H locs 0 0 Q (F0 m 19 ls []) := by
      intro n
      induction n with
      | zero => intro v3 v2 ls H locs h _ _ _; exact absurd h (hF _)
      | succ n ih =>
        intro v3 v2 ls H locs h hl hP hS
        replace h := hG _ _ h
        try dsimp only at h
        refine lv_iload_n hx hb dX10_near_19 rfl (lv_at hl 0 rfl) ?_
        refine lv_aload_n hx hb dX10_near_20 rfl (lv_at hl 2 rfl) ?_
        refine va_get (T := TX10) hx hb hT inlX10 hown hK.1 hP 0 he_X10 rfl 3 (by decide) (hT _ mw_4_140) (fun _ h9 => h9) rfl dX10_near_21 ?_
        refine lv_icmp_ge (tgt := 51) hx hb dX10_near_24 (by decide) (fun hc_1 => ?_) (fun hc_1 => ?_)
        · rw [if_pos hc_1] at h
          refine lv_iload_n hx hb dX10_near_51 rfl (lv_at hl 1 rfl) ?_
          exact hret _ (I_1, A) dX10_near_52 ⟨h, rfl⟩ hP hS
        · rw [if_neg hc_1] at h
          refine lv_iload_n hx hb dX10_near_27 rfl (lv_at hl 1 rfl) ?_
          refine lv_aload_n hx hb dX10_near_28 rfl (lv_at hl 2 rfl) ?_
          refine lv_iconst (v := 0) hx hb dX10_near_29 (by decide) ?_
          refine lv_iload_n hx hb dX10_near_30 rfl (lv_at hl 0 rfl) ?_
          refine lv_iload_n hx hb dX10_near_31 rfl (lv_at hl 3 rfl) ?_
          refine callMi (k := 0) (As := [.int 0, .int v3, .int x1]) (rest := [.int v2]) (n := 3) (c_X10_isNear hAd I_1 A 0 v3 x1 _ h) hx hb hT hown hK hP hS mw_5_92 wd_X10_isNear (by decide +kernel) ⟨rfl, rfl⟩ (by decide) rfl rfl he_X10 rfl hl.1 hml rfl (Nat.le_of_ble_eq_true rfl) dX10_near_32 ⟨Nat.zero_le _, Nat.zero_le _⟩ (fun r32 u H locs h hP hS => ?_)
          obtain ⟨Iu_1, Au_1⟩ := u
          dsimp only at h hP
          obtain ⟨h, rfl, rfl⟩ := h
          try dsimp only at h
          obtain ⟨k, hk, h⟩ := jn_ex h
          try dsimp only at h
          have J : ∀ (t : Int32), k t → ∀ (ls : Array Slot) (H : Heap) (locs : List Loc), lv_has ls 4 [(3, .int v3), (0, .ref (ad 0)), (1, .int x1)] → va_P D vwCl (wM cy ad I_1 A) H → va_S Ad s.heap H locs → W p l e rmX10_near s m args below meth c H locs 0 0 Q (F0 m 43 ls [.int t, .int v2]) := by
            intro t h ls H locs hl hP hS
            replace h := hk _ h
            try dsimp only at h
            refine lv_iadd hx hb dX10_near_43 ?_
            refine lv_topi (fun v2_1 ev2_1 => ?_)
            replace h := h v2_1 ev2_1
            refine lv_istore_n (lv' := [(2, .int v2_1), (3, .int v3), (0, .ref (ad 0)), (1, .int x1)]) hx hb dX10_near_44 rfl hl (by decide) rfl (fun ls hl => ?_)
            obtain ⟨v3_1, ev3_1⟩ : ∃ z : Int32, z = v3 + 1 := ⟨_, rfl⟩
            replace h := h v3_1 ev3_1
            refine lv_iinc (v := v3_1) (lv' := [(3, .int v3_1), (2, .int v2_1), (0, .ref (ad 0)), (1, .int x1)]) hx hb dX10_near_45 hl (k := 1) rfl (by rw [ev3_1]; rfl) (by decide) rfl (fun ls hl => ?_)
            refine lv_goto (tgt := 19) hx hb dX10_near_48 (by decide) ?_
            exact ih v3_1 v2_1 _ _ _ h (lv_sub hl [0, 1, 2, 3] rfl) hP hS
          refine lv_if_eq (tgt := 42) hx hb dX10_near_35 (by decide) (fun hc_2 => ?_) (fun hc_2 => ?_)
          · rw [if_pos hc_2] at h
            refine lv_iconst (v := 0) hx hb dX10_near_42 (by decide) ?_
            exact J 0 h _ _ _ (lv_sub hl [0, 2, 3] rfl) hP hS
          · rw [if_neg hc_2] at h
            refine lv_iconst (v := 1) hx hb dX10_near_38 (by decide) ?_
            refine lv_goto (tgt := 43) hx hb dX10_near_39 (by decide) ?_
            exact J 1 h _ _ _ (lv_sub hl [0, 2, 3] rfl) hP hS
    exact LP _ 0 0 _ _ _ h (lv_sub hl [0, 1, 2, 3] rfl) hP hS
  · rw [if_pos hc] at h
    refine lv_iconst (v := (-1)) hx hb dX10_near_13 (by decide) ?_
    exact hret _ (I_1, A) dX10_near_14 ⟨h, rfl⟩ hP hS
theorem dX10_lifted_0 : decode cX10_lifted 0 = .ok (.aload_n 0, 1) := by decide +kernel
theorem dX10_lifted_1 : decode cX10_lifted 1 = .ok (.getfield 7, 3) := by decide +kernel
theorem dX10_lifted_4 : decode cX10_lifted 4 = .ok (.iload_n 1, 1) := by decide +kernel
theorem dX10_lifted_5 : decode cX10_lifted 5 = .ok (.iaload, 1) := by decide +kernel
theorem dX10_lifted_6 : decode cX10_lifted 6 = .ok (.iconst 1, 1) := by decide +kernel
theorem dX10_lifted_7 : decode cX10_lifted 7 = .ok (.if_icmp .ne 7, 3) := by decide +kernel
theorem dX10_lifted_10 : decode cX10_lifted 10 = .ok (.iconst (-1), 1) := by decide +kernel
theorem dX10_lifted_11 : decode cX10_lifted 11 = .ok (.goto 4, 3) := by decide +kernel
theorem dX10_lifted_14 : decode cX10_lifted 14 = .ok (.iload_n 1, 1) := by decide +kernel
theorem dX10_lifted_15 : decode cX10_lifted 15 = .ok (.ireturn, 1) := by decide +kernel
def wX10_lifted (I : Nat → Int32) (A : Nat → Nat → Int32) (x1 : Int32) (post : Int32 → Prop) : Prop := vp_in x1 5 ∧ (if (A 1 x1.toNatClampNeg) = 1 then (post (-1)) else (post x1))
abbrev rmX10_lifted : Room := { frames := 0, cells := 0, slots := 0, locals := 0 }
theorem wd_X10_lifted : Cond.instanceMethod yX10_lifted ∈ BW ∧ Cond.selects yX10_lifted.cls yX10_lifted yX10_lifted ∈ BW ∧ Cond.initialized yX10_lifted.cls ∈ BW ∧ Cond.code yX10_lifted cX10_lifted 2 (some .int) ∈ BW := ⟨mw_5_158, mp_43, mw_1_11, mw_5_159⟩
set_option maxHeartbeats 4000000 in
set_option maxRecDepth 100000 in
theorem c_X10_lifted {l : Launch} {D : va_G} {cy : Nat → ClassId} {ad : Nat → Nat} {Ad : Nat → Prop} (hAd : adok 16 Ad ad) (I : Nat → Int32) (A : Nat → Nat → Int32) (x1 : Int32)  (post : Int32 → Prop) (h : wX10_lifted I A x1 post) : Met l yX10_lifted (.code yX10_lifted cX10_lifted 2 (some .int) :: BW) rmX10_lifted (va_Pc [.ref (ad 0), .int x1] (fun U => kC D cy U ∧ va_P D vwCl (wM cy ad I A) U.heap)) (qMi D cy ad Ad (fun r u => post r  ∧ I = u.1 ∧ A = u.2)) 0 0 Ad := by
  refine startMi (by decide) (Nat.le_of_ble_eq_true rfl) (lv := [(0, .ref (ad 0)), (1, .int x1)]) rfl (fun p e s m args below meth c Q ls hx hb hml hT hown hK hret hl hP hS => ?_)
  unfold wX10_lifted at h
  refine lv_aload_n hx hb dX10_lifted_0 rfl (lv_at hl 0 rfl) ?_
  refine va_get (T := TX10) hx hb hT inlX10 hown hK.1 hP 0 he_X10 rfl 4 (by decide) (hT _ mw_4_141) (fun _ h9 => h9) rfl dX10_lifted_1 ?_
  refine lv_iload_n hx hb dX10_lifted_4 rfl (lv_at hl 1 rfl) ?_
  obtain ⟨hi, h⟩ := h
  refine lM_I hx hb hK.1 hP (by decide) rfl hi dX10_lifted_5 ?_
  refine lv_iconst (v := 1) hx hb dX10_lifted_6 (by decide) ?_
  refine lv_icmp_ne (tgt := 14) hx hb dX10_lifted_7 (by decide) (fun hc => ?_) (fun hc => ?_)
  · rw [if_neg hc] at h
    refine lv_iload_n hx hb dX10_lifted_14 rfl (lv_at hl 1 rfl) ?_
    exact hret _ (I, A) dX10_lifted_15 ⟨h, rfl, rfl⟩ hP hS
  · rw [if_pos hc] at h
    refine lv_iconst (v := (-1)) hx hb dX10_lifted_10 (by decide) ?_
    refine lv_goto (tgt := 15) hx hb dX10_lifted_11 (by decide) ?_
    exact hret _ (I, A) dX10_lifted_15 ⟨h, rfl, rfl⟩ hP hS
theorem dX10_counts_0 : decode cX10_counts 0 = .ok (.aload_n 0, 1) := by decide +kernel
theorem dX10_counts_1 : decode cX10_counts 1 = .ok (.iconst 0, 1) := by decide +kernel
theorem dX10_counts_2 : decode cX10_counts 2 = .ok (.iload_n 1, 1) := by decide +kernel
theorem dX10_counts_3 : decode cX10_counts 3 = .ok (.aload_n 0, 1) := by decide +kernel
theorem dX10_counts_4 : decode cX10_counts 4 = .ok (.aload_n 0, 1) := by decide +kernel
theorem dX10_counts_5 : decode cX10_counts 5 = .ok (.getfield 13, 3) := by decide +kernel
theorem dX10_counts_8 : decode cX10_counts 8 = .ok (.iload_n 2, 1) := by decide +kernel
theorem dX10_counts_9 : decode cX10_counts 9 = .ok (.iaload, 1) := by decide +kernel
theorem dX10_counts_10 : decode cX10_counts 10 = .ok (.invokevirtual 152, 3) := by decide +kernel
theorem dX10_counts_13 : decode cX10_counts 13 = .ok (.invokevirtual 134, 3) := by decide +kernel
theorem dX10_counts_16 : decode cX10_counts 16 = .ok (.ifCond .eq 16, 3) := by decide +kernel
theorem dX10_counts_19 : decode cX10_counts 19 = .ok (.aload_n 0, 1) := by decide +kernel
theorem dX10_counts_20 : decode cX10_counts 20 = .ok (.iload_n 1, 1) := by decide +kernel
theorem dX10_counts_21 : decode cX10_counts 21 = .ok (.iload_n 2, 1) := by decide +kernel
theorem dX10_counts_22 : decode cX10_counts 22 = .ok (.invokevirtual 122, 3) := by decide +kernel
theorem dX10_counts_25 : decode cX10_counts 25 = .ok (.ifCond .eq 7, 3) := by decide +kernel
theorem dX10_counts_28 : decode cX10_counts 28 = .ok (.iconst 1, 1) := by decide +kernel
theorem dX10_counts_29 : decode cX10_counts 29 = .ok (.goto 4, 3) := by decide +kernel
theorem dX10_counts_32 : decode cX10_counts 32 = .ok (.iconst 0, 1) := by decide +kernel
theorem dX10_counts_33 : decode cX10_counts 33 = .ok (.ireturn, 1) := by decide +kernel
def wX10_counts (I : Nat → Int32) (A : Nat → Nat → Int32) (x1 : Int32) (x2 : Int32) (post : Int32 → Prop) : Prop := vp_in x2 40 ∧ (wX10_lifted I A (A 2 x2.toNatClampNeg) (fun r10 => wX10_isNear I A 0 x1 r10 (fun r13 => if r13 = 0 then (post 0) else (wX10_hasIt I A x1 x2 (fun r22 => if r22 = 0 then (post 0) else (post 1))))))
abbrev rmX10_counts : Room := { frames := 3, cells := 0, slots := 0, locals := 80 }
theorem wd_X10_counts : Cond.instanceMethod yX10_counts ∈ BW ∧ Cond.selects yX10_counts.cls yX10_counts yX10_counts ∈ BW ∧ Cond.initialized yX10_counts.cls ∈ BW ∧ Cond.code yX10_counts cX10_counts 3 (some .boolean) ∈ BW := ⟨mw_5_154, mp_42, mw_1_11, mw_5_155⟩
set_option maxHeartbeats 4000000 in
set_option maxRecDepth 100000 in
theorem c_X10_counts {l : Launch} {D : va_G} {cy : Nat → ClassId} {ad : Nat → Nat} {Ad : Nat → Prop} (hAd : adok 16 Ad ad) (I : Nat → Int32) (A : Nat → Nat → Int32) (x1 : Int32) (x2 : Int32)  (post : Int32 → Prop) (h : wX10_counts I A x1 x2 post) : Met l yX10_counts (.code yX10_counts cX10_counts 3 (some .boolean) :: BW) rmX10_counts (va_Pc [.ref (ad 0), .int x1, .int x2] (fun U => kC D cy U ∧ va_P D vwCl (wM cy ad I A) U.heap)) (qMi D cy ad Ad (fun r u => post r  ∧ I = u.1 ∧ A = u.2)) 0 0 Ad := by
  refine startMz (by decide) (Nat.le_of_ble_eq_true rfl) (lv := [(0, .ref (ad 0)), (1, .int x1), (2, .int x2)]) rfl (fun p e s m args below meth c Q ls hx hb hml hT hown hK hret hl hP hS => ?_)
  unfold wX10_counts at h
  refine lv_aload_n hx hb dX10_counts_0 rfl (lv_at hl 0 rfl) ?_
  refine lv_iconst (v := 0) hx hb dX10_counts_1 (by decide) ?_
  refine lv_iload_n hx hb dX10_counts_2 rfl (lv_at hl 1 rfl) ?_
  refine lv_aload_n hx hb dX10_counts_3 rfl (lv_at hl 0 rfl) ?_
  refine lv_aload_n hx hb dX10_counts_4 rfl (lv_at hl 0 rfl) ?_
  refine va_get (T := TX10) hx hb hT inlX10 hown hK.1 hP 0 he_X10 rfl 5 (by decide) (hT _ mw_4_142) (fun _ h9 => h9) rfl dX10_counts_5 ?_
  refine lv_iload_n hx hb dX10_counts_8 rfl (lv_at hl 2 rfl) ?_
  obtain ⟨hi, h⟩ := h
  refine lM_I hx hb hK.1 hP (by decide) rfl hi dX10_counts_9 ?_
  refine callMi (k := 0) (As := [.int (A 2 x2.toNatClampNeg)]) (rest := [.int x1, .int 0, .ref (ad 0)]) (n := 1) (c_X10_lifted hAd I A (A 2 x2.toNatClampNeg) _ h) hx hb hT hown hK hP hS mw_5_156 wd_X10_lifted (by decide +kernel) ⟨rfl, rfl⟩ (by decide) rfl rfl he_X10 rfl hl.1 hml rfl (Nat.le_of_ble_eq_true rfl) dX10_counts_10 ⟨Nat.zero_le _, Nat.zero_le _⟩ (fun r10 u H locs h hP hS => ?_)
  obtain ⟨Iu, Au⟩ := u
  dsimp only at h hP
  obtain ⟨h, rfl, rfl⟩ := h
  try dsimp only at h
  refine callMi (k := 0) (As := [.int 0, .int x1, .int r10]) (rest := []) (n := 3) (c_X10_isNear hAd I A 0 x1 r10 _ h) hx hb hT hown hK hP hS mw_5_92 wd_X10_isNear (by decide +kernel) ⟨rfl, rfl⟩ (by decide) rfl rfl he_X10 rfl hl.1 hml rfl (Nat.le_of_ble_eq_true rfl) dX10_counts_13 ⟨Nat.zero_le _, Nat.zero_le _⟩ (fun r13 u H locs h hP hS => ?_)
  obtain ⟨Iu_1, Au_1⟩ := u
  dsimp only at h hP
  obtain ⟨h, rfl, rfl⟩ := h
  try dsimp only at h
  refine lv_if_eq (tgt := 32) hx hb dX10_counts_16 (by decide) (fun hc => ?_) (fun hc => ?_)
  · rw [if_pos hc] at h
    refine lv_iconst (v := 0) hx hb dX10_counts_32 (by decide) ?_
    exact hret _ (I, A) zb_0 dX10_counts_33 ⟨h, rfl, rfl⟩ hP hS
  · rw [if_neg hc] at h
    refine lv_aload_n hx hb dX10_counts_19 rfl (lv_at hl 0 rfl) ?_
    refine lv_iload_n hx hb dX10_counts_20 rfl (lv_at hl 1 rfl) ?_
    refine lv_iload_n hx hb dX10_counts_21 rfl (lv_at hl 2 rfl) ?_
    refine callMi (k := 0) (As := [.int x1, .int x2]) (rest := []) (n := 2) (c_X10_hasIt hAd I A x1 x2 _ h) hx hb hT hown hK hP hS mw_5_100 wd_X10_hasIt (by decide +kernel) ⟨rfl, rfl⟩ (by decide) rfl rfl he_X10 rfl hl.1 hml rfl (Nat.le_of_ble_eq_true rfl) dX10_counts_22 ⟨Nat.zero_le _, Nat.zero_le _⟩ (fun r22 u H locs h hP hS => ?_)
    obtain ⟨Iu_2, Au_2⟩ := u
    dsimp only at h hP
    obtain ⟨h, rfl, rfl⟩ := h
    try dsimp only at h
    refine lv_if_eq (tgt := 32) hx hb dX10_counts_25 (by decide) (fun hc_1 => ?_) (fun hc_1 => ?_)
    · rw [if_pos hc_1] at h
      refine lv_iconst (v := 0) hx hb dX10_counts_32 (by decide) ?_
      exact hret _ (I, A) zb_0 dX10_counts_33 ⟨h, rfl, rfl⟩ hP hS
    · rw [if_neg hc_1] at h
      refine lv_iconst (v := 1) hx hb dX10_counts_28 (by decide) ?_
      refine lv_goto (tgt := 33) hx hb dX10_counts_29 (by decide) ?_
      exact hret _ (I, A) zb_1 dX10_counts_33 ⟨h, rfl, rfl⟩ hP hS
theorem dX10_shownOf_0 : decode cX10_shownOf 0 = .ok (.iconst 0, 1) := by decide +kernel
theorem dX10_shownOf_1 : decode cX10_shownOf 1 = .ok (.istore_n 2, 1) := by decide +kernel
theorem dX10_shownOf_2 : decode cX10_shownOf 2 = .ok (.iconst 0, 1) := by decide +kernel
theorem dX10_shownOf_3 : decode cX10_shownOf 3 = .ok (.istore_n 3, 1) := by decide +kernel
theorem dX10_shownOf_4 : decode cX10_shownOf 4 = .ok (.iload_n 3, 1) := by decide +kernel
theorem dX10_shownOf_5 : decode cX10_shownOf 5 = .ok (.aload_n 0, 1) := by decide +kernel
theorem dX10_shownOf_6 : decode cX10_shownOf 6 = .ok (.getfield 70, 3) := by decide +kernel
theorem dX10_shownOf_9 : decode cX10_shownOf 9 = .ok (.if_icmp .ge 26, 3) := by decide +kernel
theorem dX10_shownOf_12 : decode cX10_shownOf 12 = .ok (.iload_n 2, 1) := by decide +kernel
theorem dX10_shownOf_13 : decode cX10_shownOf 13 = .ok (.aload_n 0, 1) := by decide +kernel
theorem dX10_shownOf_14 : decode cX10_shownOf 14 = .ok (.iload_n 3, 1) := by decide +kernel
theorem dX10_shownOf_15 : decode cX10_shownOf 15 = .ok (.iload_n 1, 1) := by decide +kernel
theorem dX10_shownOf_16 : decode cX10_shownOf 16 = .ok (.invokevirtual 155, 3) := by decide +kernel
theorem dX10_shownOf_19 : decode cX10_shownOf 19 = .ok (.ifCond .eq 7, 3) := by decide +kernel
theorem dX10_shownOf_22 : decode cX10_shownOf 22 = .ok (.iconst 1, 1) := by decide +kernel
theorem dX10_shownOf_23 : decode cX10_shownOf 23 = .ok (.goto 4, 3) := by decide +kernel
theorem dX10_shownOf_26 : decode cX10_shownOf 26 = .ok (.iconst 0, 1) := by decide +kernel
theorem dX10_shownOf_27 : decode cX10_shownOf 27 = .ok (.iadd, 1) := by decide +kernel
theorem dX10_shownOf_28 : decode cX10_shownOf 28 = .ok (.istore_n 2, 1) := by decide +kernel
theorem dX10_shownOf_29 : decode cX10_shownOf 29 = .ok (.iinc 3 1, 3) := by decide +kernel
theorem dX10_shownOf_32 : decode cX10_shownOf 32 = .ok (.goto (-28), 3) := by decide +kernel
theorem dX10_shownOf_35 : decode cX10_shownOf 35 = .ok (.iload_n 2, 1) := by decide +kernel
theorem dX10_shownOf_36 : decode cX10_shownOf 36 = .ok (.ireturn, 1) := by decide +kernel
def wX10_shownOf (I : Nat → Int32) (A : Nat → Nat → Int32) (x1 : Int32) (post : Int32 → Prop) : Prop := ∃ n, lfix (fun (r : (Int32 × Int32) → Prop) (v3, v2) => if (I 3) ≤ v3 then (post v2) else (wX10_counts I A v3 x1 (fun r16 => jn (fun (t : Int32) => ∀ v2_1 : Int32, v2_1 = v2 + t → ∀ v3_1 : Int32, v3_1 = v3 + 1 → r (v3_1, v2_1)) (fun k => if r16 = 0 then (k 0) else (k 1))))) n (0, 0)
abbrev rmX10_shownOf : Room := { frames := 4, cells := 0, slots := 0, locals := 102 }
theorem wd_X10_shownOf : Cond.instanceMethod yX10_shownOf ∈ BW ∧ Cond.selects yX10_shownOf.cls yX10_shownOf yX10_shownOf ∈ BW ∧ Cond.initialized yX10_shownOf.cls ∈ BW ∧ Cond.code yX10_shownOf cX10_shownOf 4 (some .int) ∈ BW := ⟨mw_5_150, mp_41, mw_1_11, mw_5_151⟩
set_option maxHeartbeats 4000000 in
set_option maxRecDepth 100000 in
theorem c_X10_shownOf {l : Launch} {D : va_G} {cy : Nat → ClassId} {ad : Nat → Nat} {Ad : Nat → Prop} (hAd : adok 16 Ad ad) (I : Nat → Int32) (A : Nat → Nat → Int32) (x1 : Int32)  (post : Int32 → Prop) (h : wX10_shownOf I A x1 post) : Met l yX10_shownOf (.code yX10_shownOf cX10_shownOf 4 (some .int) :: BW) rmX10_shownOf (va_Pc [.ref (ad 0), .int x1] (fun U => kC D cy U ∧ va_P D vwCl (wM cy ad I A) U.heap)) (qMi D cy ad Ad (fun r u => post r  ∧ I = u.1 ∧ A = u.2)) 0 0 Ad := by
  refine startMi (by decide) (Nat.le_of_ble_eq_true rfl) (lv := [(0, .ref (ad 0)), (1, .int x1)]) rfl (fun p e s m args below meth c Q ls hx hb hml hT hown hK hret hl hP hS => ?_)
  unfold wX10_shownOf at h
  refine lv_iconst (v := 0) hx hb dX10_shownOf_0 (by decide) ?_
  refine lv_istore_n (lv' := [(2, .int 0), (0, .ref (ad 0)), (1, .int x1)]) hx hb dX10_shownOf_1 rfl hl (by decide) rfl (fun ls hl => ?_)
  refine lv_iconst (v := 0) hx hb dX10_shownOf_2 (by decide) ?_
  refine lv_istore_n (lv' := [(3, .int 0), (2, .int 0), (0, .ref (ad 0)), (1, .int x1)]) hx hb dX10_shownOf_3 rfl hl (by decide) rfl (fun ls hl => ?_)
  obtain ⟨F, n, h, hF, hG⟩ := lfix_ex h
  have LP : ∀ (n : Nat) (v3 : Int32) (v2 : Int32) (ls : Array Slot) (H : Heap) (locs : List Loc), F n (v3, v2) → lv_has ls 4 [(3, .int v3), (2, .int v2), (0, .ref (ad 0)), (1, .int x1)] → va_P D vwCl (wM cy ad I A) H → va_S Ad s.heap H locs → W p l e rmX10_shownOf s m args below meth c H locs 0 0 Q (F0 m 4 ls []) := by
    intro n
    induction n with
    | zero => intro v3 v2 ls H locs h _ _ _; exact absurd h (hF _)
    | succ n ih =>
      intro v3 v2 ls H locs h hl hP hS
      replace h := hG _ _ h
      try dsimp only at h
      refine lv_iload_n hx hb dX10_shownOf_4 rfl (lv_at hl 0 rfl) ?_
      refine lv_aload_n hx hb dX10_shownOf_5 rfl (lv_at hl 2 rfl) ?_
      refine va_get (T := TX10) hx hb hT inlX10 hown hK.1 hP 0 he_X10 rfl 3 (by decide) (hT _ mw_4_140) (fun _ h9 => h9) rfl dX10_shownOf_6 ?_
      refine lv_icmp_ge (tgt := 35) hx hb dX10_shownOf_9 (by decide) (fun hc => ?_) (fun hc => ?_)
      · rw [if_pos hc] at h
        refine lv_iload_n hx hb dX10_shownOf_35 rfl (lv_at hl 1 rfl) ?_
        exact hret _ (I, A) dX10_shownOf_36 ⟨h, rfl, rfl⟩ hP hS
      · rw [if_neg hc] at h
        refine lv_iload_n hx hb dX10_shownOf_12 rfl (lv_at hl 1 rfl) ?_
        refine lv_aload_n hx hb dX10_shownOf_13 rfl (lv_at hl 2 rfl) ?_
        refine lv_iload_n hx hb dX10_shownOf_14 rfl (lv_at hl 0 rfl) ?_
        refine lv_iload_n hx hb dX10_shownOf_15 rfl (lv_at hl 3 rfl) ?_
        refine callMi (k := 0) (As := [.int v3, .int x1]) (rest := [.int v2]) (n := 2) (c_X10_counts hAd I A v3 x1 _ h) hx hb hT hown hK hP hS mw_5_152 wd_X10_counts (by decide +kernel) ⟨rfl, rfl⟩ (by decide) rfl rfl he_X10 rfl hl.1 hml rfl (Nat.le_of_ble_eq_true rfl) dX10_shownOf_16 ⟨Nat.zero_le _, Nat.zero_le _⟩ (fun r16 u H locs h hP hS => ?_)
        obtain ⟨Iu, Au⟩ := u
        dsimp only at h hP
        obtain ⟨h, rfl, rfl⟩ := h
        try dsimp only at h
        obtain ⟨k, hk, h⟩ := jn_ex h
        try dsimp only at h
        have J : ∀ (t : Int32), k t → ∀ (ls : Array Slot) (H : Heap) (locs : List Loc), lv_has ls 4 [(3, .int v3), (0, .ref (ad 0)), (1, .int x1)] → va_P D vwCl (wM cy ad I A) H → va_S Ad s.heap H locs → W p l e rmX10_shownOf s m args below meth c H locs 0 0 Q (F0 m 27 ls [.int t, .int v2]) := by
          intro t h ls H locs hl hP hS
          replace h := hk _ h
          try dsimp only at h
          refine lv_iadd hx hb dX10_shownOf_27 ?_
          refine lv_topi (fun v2_1 ev2_1 => ?_)
          replace h := h v2_1 ev2_1
          refine lv_istore_n (lv' := [(2, .int v2_1), (3, .int v3), (0, .ref (ad 0)), (1, .int x1)]) hx hb dX10_shownOf_28 rfl hl (by decide) rfl (fun ls hl => ?_)
          obtain ⟨v3_1, ev3_1⟩ : ∃ z : Int32, z = v3 + 1 := ⟨_, rfl⟩
          replace h := h v3_1 ev3_1
          refine lv_iinc (v := v3_1) (lv' := [(3, .int v3_1), (2, .int v2_1), (0, .ref (ad 0)), (1, .int x1)]) hx hb dX10_shownOf_29 hl (k := 1) rfl (by rw [ev3_1]; rfl) (by decide) rfl (fun ls hl => ?_)
          refine lv_goto (tgt := 4) hx hb dX10_shownOf_32 (by decide) ?_
          exact ih v3_1 v2_1 _ _ _ h (lv_sub hl [0, 1, 2, 3] rfl) hP hS
        refine lv_if_eq (tgt := 26) hx hb dX10_shownOf_19 (by decide) (fun hc_1 => ?_) (fun hc_1 => ?_)
        · rw [if_pos hc_1] at h
          refine lv_iconst (v := 0) hx hb dX10_shownOf_26 (by decide) ?_
          exact J 0 h _ _ _ (lv_sub hl [0, 2, 3] rfl) hP hS
        · rw [if_neg hc_1] at h
          refine lv_iconst (v := 1) hx hb dX10_shownOf_22 (by decide) ?_
          refine lv_goto (tgt := 27) hx hb dX10_shownOf_23 (by decide) ?_
          exact J 1 h _ _ _ (lv_sub hl [0, 2, 3] rfl) hP hS
  exact LP _ 0 0 _ _ _ h (lv_sub hl [0, 1, 2, 3] rfl) hP hS
