theorem dX1_clear_0 : decode cX1_clear 0 = .ok (.aload_n 0, 1) := by decide +kernel
theorem dX1_clear_1 : decode cX1_clear 1 = .ok (.iconst 0, 1) := by decide +kernel
theorem dX1_clear_2 : decode cX1_clear 2 = .ok (.putfield 25, 3) := by decide +kernel
theorem dX1_clear_5 : decode cX1_clear 5 = .ok (.return_, 1) := by decide +kernel
def wX1_clear (I : Nat → Int32) (L : Nat → Int64) (A : Nat → Nat → Int32) (B : Nat → Nat → Int64)  (post : (Nat → Int32) → Prop) : Prop := (∀ I_1, I_1 = va_up I 6 0 → post I_1)
abbrev rmX1_clear : Room := { frames := 0, cells := 0, slots := 0, locals := 0 }
theorem wd_X1_clear : Cond.instanceMethod yX1_clear ∈ BW ∧ Cond.selects yX1_clear.cls yX1_clear yX1_clear ∈ BW ∧ Cond.initialized yX1_clear.cls ∈ BW ∧ Cond.code yX1_clear cX1_clear 1 (none : Option Jvm.ClassFile.FieldType) ∈ BW := ⟨mw_3_213, mw_3_214, mw_1_10, mw_3_215⟩
set_option maxHeartbeats 4000000 in
set_option maxRecDepth 100000 in
theorem c_X1_clear {l : Launch} {D : va_G} {cy : Nat → ClassId} {ad : Nat → Nat} {Ad : Nat → Prop} (hAd : adok 103 Ad ad) (I : Nat → Int32) (L : Nat → Int64) (A : Nat → Nat → Int32) (B : Nat → Nat → Int64)   (post : (Nat → Int32) → Prop) (h : wX1_clear I L A B  post) : Met l yX1_clear (.code yX1_clear cX1_clear 1 (none : Option Jvm.ClassFile.FieldType) :: BW) rmX1_clear (va_Pc [.ref (ad 6)] (fun U => kC D cy U ∧ va_P D vwCl (wC cy ad I L A B) U.heap)) (qCv D cy ad Ad (fun u => post u.1 ∧ L = u.2.1 ∧ A = u.2.2.1 ∧ B = u.2.2.2)) 0 0 Ad := by
  refine startCv (by decide) (Nat.le_of_ble_eq_true rfl) (lv := [(0, .ref (ad 6))]) rfl (fun p e s m args below meth c Q ls hx hb hml hT hown hK hret hl hP hS => ?_)
  unfold wX1_clear at h
  refine lv_aload_n hx hb dX1_clear_0 rfl (lv_at hl 0 rfl) ?_
  refine lv_iconst (v := 0) hx hb dX1_clear_1 (by decide) ?_
  refine pC_X1_size hAd hx hb hT hown hK.1 hP hS (hT _ mw_1_234) dX1_clear_2 (fun H locs hP hS => ?_)
  obtain ⟨I_1, eI_1⟩ : ∃ z, z = va_up I 6 0 := ⟨_, rfl⟩
  rw [← eI_1] at hP
  replace h := h I_1 eI_1
  exact hret (I_1, L, A, B) dX1_clear_5 ⟨h, rfl, rfl, rfl⟩ hP hS
theorem dX1_put_0 : decode cX1_put 0 = .ok (.aload_n 0, 1) := by decide +kernel
theorem dX1_put_1 : decode cX1_put 1 = .ok (.getfield 25, 3) := by decide +kernel
theorem dX1_put_4 : decode cX1_put 4 = .ok (.bipush 12, 2) := by decide +kernel
theorem dX1_put_6 : decode cX1_put 6 = .ok (.if_icmp .ge 33, 3) := by decide +kernel
theorem dX1_put_9 : decode cX1_put 9 = .ok (.aload_n 0, 1) := by decide +kernel
theorem dX1_put_10 : decode cX1_put 10 = .ok (.getfield 9, 3) := by decide +kernel
theorem dX1_put_13 : decode cX1_put 13 = .ok (.aload_n 0, 1) := by decide +kernel
theorem dX1_put_14 : decode cX1_put 14 = .ok (.getfield 25, 3) := by decide +kernel
theorem dX1_put_17 : decode cX1_put 17 = .ok (.iload_n 1, 1) := by decide +kernel
theorem dX1_put_18 : decode cX1_put 18 = .ok (.iastore, 1) := by decide +kernel
theorem dX1_put_19 : decode cX1_put 19 = .ok (.aload_n 0, 1) := by decide +kernel
theorem dX1_put_20 : decode cX1_put 20 = .ok (.getfield 15, 3) := by decide +kernel
theorem dX1_put_23 : decode cX1_put 23 = .ok (.aload_n 0, 1) := by decide +kernel
theorem dX1_put_24 : decode cX1_put 24 = .ok (.getfield 25, 3) := by decide +kernel
theorem dX1_put_27 : decode cX1_put 27 = .ok (.lload_n 2, 1) := by decide +kernel
theorem dX1_put_28 : decode cX1_put 28 = .ok (.lastore, 1) := by decide +kernel
theorem dX1_put_29 : decode cX1_put 29 = .ok (.aload_n 0, 1) := by decide +kernel
theorem dX1_put_30 : decode cX1_put 30 = .ok (.dup, 1) := by decide +kernel
theorem dX1_put_31 : decode cX1_put 31 = .ok (.getfield 25, 3) := by decide +kernel
theorem dX1_put_34 : decode cX1_put 34 = .ok (.iconst 1, 1) := by decide +kernel
theorem dX1_put_35 : decode cX1_put 35 = .ok (.iadd, 1) := by decide +kernel
theorem dX1_put_36 : decode cX1_put 36 = .ok (.putfield 25, 3) := by decide +kernel
theorem dX1_put_39 : decode cX1_put 39 = .ok (.return_, 1) := by decide +kernel
def wX1_put (I : Nat → Int32) (L : Nat → Int64) (A : Nat → Nat → Int32) (B : Nat → Nat → Int64) (x1 : Int32) (x2 : Int64) (post : (Nat → Int32) → (Nat → Nat → Int32) → (Nat → Nat → Int64) → Prop) : Prop := if 12 ≤ (I 6) then (post I A B) else (vp_in (I 6) 12 ∧ (∀ A_1, A_1 = va_up A 50 (upd (A 50) (I 6).toNatClampNeg x1) → vp_in (I 6) 12 ∧ (∀ B_1, B_1 = va_up B 51 (vp_updL (B 51) (I 6).toNatClampNeg x2) → (∀ I_1, I_1 = va_up I 6 ((I 6) + 1) → post I_1 A_1 B_1))))
abbrev rmX1_put : Room := { frames := 0, cells := 0, slots := 0, locals := 0 }
theorem wd_X1_put : Cond.instanceMethod yX1_put ∈ BW ∧ Cond.selects yX1_put.cls yX1_put yX1_put ∈ BW ∧ Cond.initialized yX1_put.cls ∈ BW ∧ Cond.code yX1_put cX1_put 4 (none : Option Jvm.ClassFile.FieldType) ∈ BW := ⟨mw_3_217, mw_3_218, mw_1_10, mw_3_219⟩
set_option maxHeartbeats 4000000 in
set_option maxRecDepth 100000 in
theorem c_X1_put {l : Launch} {D : va_G} {cy : Nat → ClassId} {ad : Nat → Nat} {Ad : Nat → Prop} (hAd : adok 103 Ad ad) (I : Nat → Int32) (L : Nat → Int64) (A : Nat → Nat → Int32) (B : Nat → Nat → Int64) (x1 : Int32) (x2 : Int64)  (post : (Nat → Int32) → (Nat → Nat → Int32) → (Nat → Nat → Int64) → Prop) (h : wX1_put I L A B x1 x2 post) : Met l yX1_put (.code yX1_put cX1_put 4 (none : Option Jvm.ClassFile.FieldType) :: BW) rmX1_put (va_Pc [.ref (ad 6), .int x1, .long x2] (fun U => kC D cy U ∧ va_P D vwCl (wC cy ad I L A B) U.heap)) (qCv D cy ad Ad (fun u => post u.1 u.2.2.1 u.2.2.2 ∧ L = u.2.1)) 0 0 Ad := by
  refine startCv (by decide) (Nat.le_of_ble_eq_true rfl) (lv := [(0, .ref (ad 6)), (1, .int x1), (2, .long x2)]) rfl (fun p e s m args below meth c Q ls hx hb hml hT hown hK hret hl hP hS => ?_)
  unfold wX1_put at h
  refine lv_aload_n hx hb dX1_put_0 rfl (lv_at hl 0 rfl) ?_
  refine va_get (T := TX1) hx hb hT inlX1 hown hK.1 hP 6 he_X1 rfl 4 (by decide) (hT _ mw_1_234) (fun _ h9 => h9) rfl dX1_put_1 ?_
  refine lv_bipush (v := 12) hx hb dX1_put_4 (by decide) ?_
  refine lv_icmp_ge (tgt := 39) hx hb dX1_put_6 (by decide) (fun hc => ?_) (fun hc => ?_)
  · rw [if_pos hc] at h
    exact hret (I, L, A, B) dX1_put_39 ⟨h, rfl⟩ hP hS
  · rw [if_neg hc] at h
    refine lv_aload_n hx hb dX1_put_9 rfl (lv_at hl 0 rfl) ?_
    refine va_get (T := TX1) hx hb hT inlX1 hown hK.1 hP 6 he_X1 rfl 0 (by decide) (hT _ mw_1_229) (fun _ h9 => h9) rfl dX1_put_10 ?_
    refine lv_aload_n hx hb dX1_put_13 rfl (lv_at hl 0 rfl) ?_
    refine va_get (T := TX1) hx hb hT inlX1 hown hK.1 hP 6 he_X1 rfl 4 (by decide) (hT _ mw_1_234) (fun _ h9 => h9) rfl dX1_put_14 ?_
    refine lv_iload_n hx hb dX1_put_17 rfl (lv_at hl 1 rfl) ?_
    obtain ⟨hi, h⟩ := h
    refine sC_I hAd hx hb hK.1 hP hS (by decide) (fun _ => rfl) hi dX1_put_18 (fun H locs hP hS => ?_)
    obtain ⟨A_1, eA_1⟩ : ∃ z, z = va_up A 50 (upd (A 50) (I 6).toNatClampNeg x1) := ⟨_, rfl⟩
    rw [← eA_1] at hP
    replace h := h A_1 eA_1
    refine lv_aload_n hx hb dX1_put_19 rfl (lv_at hl 0 rfl) ?_
    refine va_get (T := TX1) hx hb hT inlX1 hown hK.1 hP 6 he_X1 rfl 1 (by decide) (hT _ mw_1_230) (fun _ h9 => h9) rfl dX1_put_20 ?_
    refine lv_aload_n hx hb dX1_put_23 rfl (lv_at hl 0 rfl) ?_
    refine va_get (T := TX1) hx hb hT inlX1 hown hK.1 hP 6 he_X1 rfl 4 (by decide) (hT _ mw_1_234) (fun _ h9 => h9) rfl dX1_put_24 ?_
    refine lv_lload_n hx hb dX1_put_27 rfl (lv_at hl 2 rfl) ?_
    obtain ⟨hi_1, h⟩ := h
    refine sC_J hAd hx hb hK.1 hP hS (by decide) (fun _ => rfl) hi_1 dX1_put_28 (fun H locs hP hS => ?_)
    obtain ⟨B_1, eB_1⟩ : ∃ z, z = va_up B 51 (vp_updL (B 51) (I 6).toNatClampNeg x2) := ⟨_, rfl⟩
    rw [← eB_1] at hP
    replace h := h B_1 eB_1
    refine lv_aload_n hx hb dX1_put_29 rfl (lv_at hl 0 rfl) ?_
    refine lv_dup hx hb dX1_put_30 rfl ?_
    refine va_get (T := TX1) hx hb hT inlX1 hown hK.1 hP 6 he_X1 rfl 4 (by decide) (hT _ mw_1_234) (fun _ h9 => h9) rfl dX1_put_31 ?_
    refine lv_iconst (v := 1) hx hb dX1_put_34 (by decide) ?_
    refine lv_iadd hx hb dX1_put_35 ?_
    refine pC_X1_size hAd hx hb hT hown hK.1 hP hS (hT _ mw_1_234) dX1_put_36 (fun H locs hP hS => ?_)
    obtain ⟨I_1, eI_1⟩ : ∃ z, z = va_up I 6 ((I 6) + 1) := ⟨_, rfl⟩
    rw [← eI_1] at hP
    replace h := h I_1 eI_1
    exact hret (I_1, L, A_1, B_1) dX1_put_39 ⟨h, rfl⟩ hP hS
theorem dX1_choose_0 : decode cX1_choose 0 = .ok (.iload_n 2, 1) := by decide +kernel
theorem dX1_choose_1 : decode cX1_choose 1 = .ok (.iload_n 3, 1) := by decide +kernel
theorem dX1_choose_2 : decode cX1_choose 2 = .ok (.if_icmp .lt 16, 3) := by decide +kernel
theorem dX1_choose_5 : decode cX1_choose 5 = .ok (.lload 4, 2) := by decide +kernel
theorem dX1_choose_7 : decode cX1_choose 7 = .ok (.lconst 0, 1) := by decide +kernel
theorem dX1_choose_8 : decode cX1_choose 8 = .ok (.lcmp, 1) := by decide +kernel
theorem dX1_choose_9 : decode cX1_choose 9 = .ok (.ifCond .ne 7, 3) := by decide +kernel
theorem dX1_choose_12 : decode cX1_choose 12 = .ok (.iconst 1, 1) := by decide +kernel
theorem dX1_choose_13 : decode cX1_choose 13 = .ok (.goto 4, 3) := by decide +kernel
theorem dX1_choose_16 : decode cX1_choose 16 = .ok (.iconst 0, 1) := by decide +kernel
theorem dX1_choose_17 : decode cX1_choose 17 = .ok (.ireturn, 1) := by decide +kernel
theorem dX1_choose_18 : decode cX1_choose 18 = .ok (.iload_n 1, 1) := by decide +kernel
theorem dX1_choose_19 : decode cX1_choose 19 = .ok (.istore 6, 2) := by decide +kernel
theorem dX1_choose_21 : decode cX1_choose 21 = .ok (.iload 6, 2) := by decide +kernel
theorem dX1_choose_23 : decode cX1_choose 23 = .ok (.aload_n 0, 1) := by decide +kernel
theorem dX1_choose_24 : decode cX1_choose 24 = .ok (.getfield 25, 3) := by decide +kernel
theorem dX1_choose_27 : decode cX1_choose 27 = .ok (.if_icmp .ge 74, 3) := by decide +kernel
theorem dX1_choose_30 : decode cX1_choose 30 = .ok (.lload 4, 2) := by decide +kernel
theorem dX1_choose_32 : decode cX1_choose 32 = .ok (.aload_n 0, 1) := by decide +kernel
theorem dX1_choose_33 : decode cX1_choose 33 = .ok (.getfield 19, 3) := by decide +kernel
theorem dX1_choose_36 : decode cX1_choose 36 = .ok (.iload 6, 2) := by decide +kernel
theorem dX1_choose_38 : decode cX1_choose 38 = .ok (.laload, 1) := by decide +kernel
theorem dX1_choose_39 : decode cX1_choose 39 = .ok (.ldc2_w 33, 3) := by decide +kernel
theorem dX1_choose_42 : decode cX1_choose 42 = .ok (.lxor, 1) := by decide +kernel
theorem dX1_choose_43 : decode cX1_choose 43 = .ok (.land, 1) := by decide +kernel
theorem dX1_choose_44 : decode cX1_choose 44 = .ok (.lconst 0, 1) := by decide +kernel
theorem dX1_choose_45 : decode cX1_choose 45 = .ok (.lcmp, 1) := by decide +kernel
theorem dX1_choose_46 : decode cX1_choose 46 = .ok (.ifCond .eq 5, 3) := by decide +kernel
theorem dX1_choose_49 : decode cX1_choose 49 = .ok (.iconst 0, 1) := by decide +kernel
theorem dX1_choose_50 : decode cX1_choose 50 = .ok (.ireturn, 1) := by decide +kernel
theorem dX1_choose_51 : decode cX1_choose 51 = .ok (.aload_n 0, 1) := by decide +kernel
theorem dX1_choose_52 : decode cX1_choose 52 = .ok (.getfield 22, 3) := by decide +kernel
theorem dX1_choose_55 : decode cX1_choose 55 = .ok (.iload_n 2, 1) := by decide +kernel
theorem dX1_choose_56 : decode cX1_choose 56 = .ok (.aload_n 0, 1) := by decide +kernel
theorem dX1_choose_57 : decode cX1_choose 57 = .ok (.getfield 9, 3) := by decide +kernel
theorem dX1_choose_60 : decode cX1_choose 60 = .ok (.iload 6, 2) := by decide +kernel
theorem dX1_choose_62 : decode cX1_choose 62 = .ok (.iaload, 1) := by decide +kernel
theorem dX1_choose_63 : decode cX1_choose 63 = .ok (.iastore, 1) := by decide +kernel
theorem dX1_choose_64 : decode cX1_choose 64 = .ok (.aload_n 0, 1) := by decide +kernel
theorem dX1_choose_65 : decode cX1_choose 65 = .ok (.iload 6, 2) := by decide +kernel
theorem dX1_choose_67 : decode cX1_choose 67 = .ok (.iconst 1, 1) := by decide +kernel
theorem dX1_choose_68 : decode cX1_choose 68 = .ok (.iadd, 1) := by decide +kernel
theorem dX1_choose_69 : decode cX1_choose 69 = .ok (.iload_n 2, 1) := by decide +kernel
theorem dX1_choose_70 : decode cX1_choose 70 = .ok (.iconst 1, 1) := by decide +kernel
theorem dX1_choose_71 : decode cX1_choose 71 = .ok (.iadd, 1) := by decide +kernel
theorem dX1_choose_72 : decode cX1_choose 72 = .ok (.iload_n 3, 1) := by decide +kernel
theorem dX1_choose_73 : decode cX1_choose 73 = .ok (.lload 4, 2) := by decide +kernel
theorem dX1_choose_75 : decode cX1_choose 75 = .ok (.aload_n 0, 1) := by decide +kernel
theorem dX1_choose_76 : decode cX1_choose 76 = .ok (.getfield 15, 3) := by decide +kernel
theorem dX1_choose_79 : decode cX1_choose 79 = .ok (.iload 6, 2) := by decide +kernel
theorem dX1_choose_81 : decode cX1_choose 81 = .ok (.laload, 1) := by decide +kernel
theorem dX1_choose_82 : decode cX1_choose 82 = .ok (.ldc2_w 33, 3) := by decide +kernel
theorem dX1_choose_85 : decode cX1_choose 85 = .ok (.lxor, 1) := by decide +kernel
theorem dX1_choose_86 : decode cX1_choose 86 = .ok (.land, 1) := by decide +kernel
theorem dX1_choose_87 : decode cX1_choose 87 = .ok (.invokevirtual 29, 3) := by decide +kernel
theorem dX1_choose_90 : decode cX1_choose 90 = .ok (.ifCond .eq 5, 3) := by decide +kernel
theorem dX1_choose_93 : decode cX1_choose 93 = .ok (.iconst 1, 1) := by decide +kernel
theorem dX1_choose_94 : decode cX1_choose 94 = .ok (.ireturn, 1) := by decide +kernel
theorem dX1_choose_95 : decode cX1_choose 95 = .ok (.iinc 6 1, 3) := by decide +kernel
theorem dX1_choose_98 : decode cX1_choose 98 = .ok (.goto (-77), 3) := by decide +kernel
theorem dX1_choose_101 : decode cX1_choose 101 = .ok (.iconst 0, 1) := by decide +kernel
theorem dX1_choose_102 : decode cX1_choose 102 = .ok (.ireturn, 1) := by decide +kernel
def wX1_choose : Nat → (Nat → Int32) → (Nat → Int64) → (Nat → Nat → Int32) → (Nat → Nat → Int64) → Int32 → Int32 → Int32 → Int64 → (Int32 → (Nat → Nat → Int32) → Prop) → Prop
  | 0 => fun _ _ _ _ _ _ _ _ _ => False
  | d + 1 => fun I L A B x1 x2 x3 x4 post => if x2 < x3 then (∃ n, lfix (fun (r : (Int32 × (Nat → Nat → Int32)) → Prop) (v6, A_1) => if (I 6) ≤ v6 then (post 0 A_1) else (vp_in v6 13 ∧ (if (lg_cmp (x4 &&& ((B 52 v6.toNatClampNeg) ^^^ (-1))) 0) = 0 then (vp_in v6 12 ∧ (vp_in x2 12 ∧ (∀ A_2, A_2 = va_up A_1 53 (upd (A_1 53) x2.toNatClampNeg (A_1 50 v6.toNatClampNeg)) → vp_in v6 12 ∧ (wX1_choose d I L A_2 B (v6 + 1) (x2 + 1) x3 (x4 &&& ((B 51 v6.toNatClampNeg) ^^^ (-1))) (fun r87 A_3 => if r87 = 0 then (∀ v6_1 : Int32, v6_1 = v6 + 1 → r (v6_1, A_3)) else (post 1 A_3)))))) else (post 0 A_1)))) n (x1, A)) else (if (lg_cmp x4 0) = 0 then (post 1 A) else (post 0 A))
abbrev rmX1_choose (d : Nat) : Room := { frames := d, cells := 0, slots := 0, locals := 26 * d }
theorem wd_X1_choose : Cond.instanceMethod yX1_choose ∈ BW ∧ Cond.selects yX1_choose.cls yX1_choose yX1_choose ∈ BW ∧ Cond.initialized yX1_choose.cls ∈ BW ∧ Cond.code yX1_choose cX1_choose 7 (some .boolean) ∈ BW := ⟨mw_3_226, mp_16, mw_1_10, mw_3_227⟩
set_option maxHeartbeats 4000000 in
set_option maxRecDepth 100000 in
theorem c_X1_choose (d : Nat) : ∀ {l : Launch} {D : va_G} {cy : Nat → ClassId} {ad : Nat → Nat} {Ad : Nat → Prop} (hAd : adok 103 Ad ad) (I : Nat → Int32) (L : Nat → Int64) (A : Nat → Nat → Int32) (B : Nat → Nat → Int64) (x1 : Int32) (x2 : Int32) (x3 : Int32) (x4 : Int64) (post : Int32 → (Nat → Nat → Int32) → Prop) (h : wX1_choose d I L A B x1 x2 x3 x4 post), Met l yX1_choose (.code yX1_choose cX1_choose 7 (some .boolean) :: BW) (rmX1_choose d) (va_Pc [.ref (ad 6), .int x1, .int x2, .int x3, .long x4] (fun U => kC D cy U ∧ va_P D vwCl (wC cy ad I L A B) U.heap)) (qCi D cy ad Ad (fun r u => post r u.2.2.1 ∧ I = u.1 ∧ L = u.2.1 ∧ B = u.2.2.2)) 0 0 Ad := by
  intro l D cy ad Ad hAd
  induction d with
  | zero => intro I L A B x1 x2 x3 x4 post h; exact h.elim
  | succ d ihd =>
    intro I L A B x1 x2 x3 x4 post h
    refine startCz (by decide) (Nat.le_of_ble_eq_true rfl) (lv := [(0, .ref (ad 6)), (1, .int x1), (2, .int x2), (3, .int x3), (4, .long x4)]) rfl (fun p e s m args below meth c Q ls hx hb hml hT hown hK hret hl hP hS => ?_)
    unfold wX1_choose at h
    refine lv_iload_n hx hb dX1_choose_0 rfl (lv_at hl 2 rfl) ?_
    refine lv_iload_n hx hb dX1_choose_1 rfl (lv_at hl 3 rfl) ?_
    refine lv_icmp_lt (tgt := 18) hx hb dX1_choose_2 (by decide) (fun hc => ?_) (fun hc => ?_)
    · rw [if_pos hc] at h
      refine lv_iload_n hx hb dX1_choose_18 rfl (lv_at hl 1 rfl) ?_
      refine lv_istore (lv' := [(6, .int x1), (0, .ref (ad 6)), (1, .int x1), (2, .int x2), (3, .int x3), (4, .long x4)]) hx hb dX1_choose_19 hl (by decide) rfl (fun ls hl => ?_)
      obtain ⟨F, n, h, hF, hG⟩ := lfix_ex h
      have LP : ∀ (n : Nat) (v6 : Int32) (A_1 : Nat → Nat → Int32) (ls : Array Slot) (H : Heap) (locs : List Loc), F n (v6, A_1) → lv_has ls 7 [(6, .int v6), (0, .ref (ad 6)), (2, .int x2), (3, .int x3), (4, .long x4)] → va_P D vwCl (wC cy ad I L A_1 B) H → va_S Ad s.heap H locs → W p l e (rmX1_choose (d + 1)) s m args below meth c H locs 0 0 Q (F0 m 21 ls []) := by
        intro n
        induction n with
        | zero => intro v6 A_1 ls H locs h _ _ _; exact absurd h (hF _)
        | succ n ih =>
          intro v6 A_1 ls H locs h hl hP hS
          replace h := hG _ _ h
          try dsimp only at h
          refine lv_iload hx hb dX1_choose_21 (lv_at hl 0 rfl) ?_
          refine lv_aload_n hx hb dX1_choose_23 rfl (lv_at hl 1 rfl) ?_
          refine va_get (T := TX1) hx hb hT inlX1 hown hK.1 hP 6 he_X1 rfl 4 (by decide) (hT _ mw_1_234) (fun _ h9 => h9) rfl dX1_choose_24 ?_
          refine lv_icmp_ge (tgt := 101) hx hb dX1_choose_27 (by decide) (fun hc_1 => ?_) (fun hc_1 => ?_)
          · rw [if_pos hc_1] at h
            refine lv_iconst (v := 0) hx hb dX1_choose_101 (by decide) ?_
            exact hret _ (I, L, A_1, B) zb_0 dX1_choose_102 ⟨h, rfl, rfl, rfl⟩ hP hS
          · rw [if_neg hc_1] at h
            refine lv_lload hx hb dX1_choose_30 (lv_at hl 4 rfl) ?_
            refine lv_aload_n hx hb dX1_choose_32 rfl (lv_at hl 1 rfl) ?_
            refine va_get (T := TX1) hx hb hT inlX1 hown hK.1 hP 6 he_X1 rfl 2 (by decide) (hT _ mw_1_231) (fun _ h9 => h9) rfl dX1_choose_33 ?_
            refine lv_iload hx hb dX1_choose_36 (lv_at hl 0 rfl) ?_
            obtain ⟨hi, h⟩ := h
            refine lC_J hx hb hK.1 hP (by decide) rfl hi dX1_choose_38 ?_
            refine lv_ldc2 (v := (-1)) hx hb hown (hT _ mw_3_228) dX1_choose_39 ?_
            refine lv_lxor hx hb dX1_choose_42 ?_
            refine lv_land hx hb dX1_choose_43 ?_
            refine lv_lconst (v := 0) hx hb dX1_choose_44 (by decide) ?_
            refine W.lcmp hx hb dX1_choose_45 ?_
            refine lv_if_eq (tgt := 51) hx hb dX1_choose_46 (by decide) (fun hc_2 => ?_) (fun hc_2 => ?_)
            · rw [if_pos hc_2] at h
              refine lv_aload_n hx hb dX1_choose_51 rfl (lv_at hl 1 rfl) ?_
              refine va_get (T := TX1) hx hb hT inlX1 hown hK.1 hP 6 he_X1 rfl 3 (by decide) (hT _ mw_1_232) (fun _ h9 => h9) rfl dX1_choose_52 ?_
              refine lv_iload_n hx hb dX1_choose_55 rfl (lv_at hl 2 rfl) ?_
              refine lv_aload_n hx hb dX1_choose_56 rfl (lv_at hl 1 rfl) ?_
              refine va_get (T := TX1) hx hb hT inlX1 hown hK.1 hP 6 he_X1 rfl 0 (by decide) (hT _ mw_1_229) (fun _ h9 => h9) rfl dX1_choose_57 ?_
              refine lv_iload hx hb dX1_choose_60 (lv_at hl 0 rfl) ?_
              obtain ⟨hi_1, h⟩ := h
              refine lC_I hx hb hK.1 hP (by decide) rfl hi_1 dX1_choose_62 ?_
              obtain ⟨hi_2, h⟩ := h
              refine sC_I hAd hx hb hK.1 hP hS (by decide) (fun _ => rfl) hi_2 dX1_choose_63 (fun H locs hP hS => ?_)
              obtain ⟨A_2, eA_2⟩ : ∃ z, z = va_up A_1 53 (upd (A_1 53) x2.toNatClampNeg (A_1 50 v6.toNatClampNeg)) := ⟨_, rfl⟩
              rw [← eA_2] at hP
              replace h := h A_2 eA_2
              refine lv_aload_n hx hb dX1_choose_64 rfl (lv_at hl 1 rfl) ?_
              refine lv_iload hx hb dX1_choose_65 (lv_at hl 0 rfl) ?_
              refine lv_iconst (v := 1) hx hb dX1_choose_67 (by decide) ?_
              refine lv_iadd hx hb dX1_choose_68 ?_
              refine lv_iload_n hx hb dX1_choose_69 rfl (lv_at hl 2 rfl) ?_
              refine lv_iconst (v := 1) hx hb dX1_choose_70 (by decide) ?_
              refine lv_iadd hx hb dX1_choose_71 ?_
              refine lv_iload_n hx hb dX1_choose_72 rfl (lv_at hl 3 rfl) ?_
              refine lv_lload hx hb dX1_choose_73 (lv_at hl 4 rfl) ?_
              refine lv_aload_n hx hb dX1_choose_75 rfl (lv_at hl 1 rfl) ?_
              refine va_get (T := TX1) hx hb hT inlX1 hown hK.1 hP 6 he_X1 rfl 1 (by decide) (hT _ mw_1_230) (fun _ h9 => h9) rfl dX1_choose_76 ?_
              refine lv_iload hx hb dX1_choose_79 (lv_at hl 0 rfl) ?_
              obtain ⟨hi_3, h⟩ := h
              refine lC_J hx hb hK.1 hP (by decide) rfl hi_3 dX1_choose_81 ?_
              refine lv_ldc2 (v := (-1)) hx hb hown (hT _ mw_3_228) dX1_choose_82 ?_
              refine lv_lxor hx hb dX1_choose_85 ?_
              refine lv_land hx hb dX1_choose_86 ?_
              refine callCi (k := 6) (As := [.int (v6 + 1), .int (x2 + 1), .int x3, .long (x4 &&& ((B 51 v6.toNatClampNeg) ^^^ (-1)))]) (rest := []) (n := 4) (ihd I L A_2 B (v6 + 1) (x2 + 1) x3 (x4 &&& ((B 51 v6.toNatClampNeg) ^^^ (-1))) _ h) hx hb hT hown hK hP hS mw_3_224 wd_X1_choose (by decide +kernel) ⟨rfl, rfl⟩ (by constructor <;> simp only [] <;> omega) rfl rfl he_X1 rfl hl.1 hml rfl (Nat.le_of_ble_eq_true rfl) dX1_choose_87 ⟨Nat.zero_le _, Nat.zero_le _⟩ (fun r87 u H locs h hP hS => ?_)
              obtain ⟨Iu, Lu, A_3, Bu⟩ := u
              dsimp only at h hP
              obtain ⟨h, rfl, rfl, rfl⟩ := h
              try dsimp only at h
              refine lv_if_eq (tgt := 95) hx hb dX1_choose_90 (by decide) (fun hc_3 => ?_) (fun hc_3 => ?_)
              · rw [if_pos hc_3] at h
                obtain ⟨v6_1, ev6_1⟩ : ∃ z : Int32, z = v6 + 1 := ⟨_, rfl⟩
                replace h := h v6_1 ev6_1
                refine lv_iinc (v := v6_1) (lv' := [(6, .int v6_1), (0, .ref (ad 6)), (2, .int x2), (3, .int x3), (4, .long x4)]) hx hb dX1_choose_95 hl (k := 0) rfl (by rw [ev6_1]; rfl) (by decide) rfl (fun ls hl => ?_)
                refine lv_goto (tgt := 21) hx hb dX1_choose_98 (by decide) ?_
                exact ih v6_1 A_3 _ _ _ h (lv_sub hl [0, 1, 2, 3, 4] rfl) hP hS
              · rw [if_neg hc_3] at h
                refine lv_iconst (v := 1) hx hb dX1_choose_93 (by decide) ?_
                exact hret _ (I, L, A_3, B) zb_1 dX1_choose_94 ⟨h, rfl, rfl, rfl⟩ hP hS
            · rw [if_neg hc_2] at h
              refine lv_iconst (v := 0) hx hb dX1_choose_49 (by decide) ?_
              exact hret _ (I, L, A_1, B) zb_0 dX1_choose_50 ⟨h, rfl, rfl, rfl⟩ hP hS
      exact LP _ x1 A _ _ _ h (lv_sub hl [0, 1, 3, 4, 5] rfl) hP hS
    · rw [if_neg hc] at h
      refine lv_lload hx hb dX1_choose_5 (lv_at hl 4 rfl) ?_
      refine lv_lconst (v := 0) hx hb dX1_choose_7 (by decide) ?_
      refine W.lcmp hx hb dX1_choose_8 ?_
      refine lv_if_ne (tgt := 16) hx hb dX1_choose_9 (by decide) (fun hc_4 => ?_) (fun hc_4 => ?_)
      · rw [if_neg hc_4] at h
        refine lv_iconst (v := 0) hx hb dX1_choose_16 (by decide) ?_
        exact hret _ (I, L, A, B) zb_0 dX1_choose_17 ⟨h, rfl, rfl, rfl⟩ hP hS
      · rw [if_pos hc_4] at h
        refine lv_iconst (v := 1) hx hb dX1_choose_12 (by decide) ?_
        refine lv_goto (tgt := 17) hx hb dX1_choose_13 (by decide) ?_
        exact hret _ (I, L, A, B) zb_1 dX1_choose_17 ⟨h, rfl, rfl, rfl⟩ hP hS
theorem dX1_solve_0 : decode cX1_solve 0 = .ok (.aload_n 0, 1) := by decide +kernel
theorem dX1_solve_1 : decode cX1_solve 1 = .ok (.getfield 19, 3) := by decide +kernel
theorem dX1_solve_4 : decode cX1_solve 4 = .ok (.aload_n 0, 1) := by decide +kernel
theorem dX1_solve_5 : decode cX1_solve 5 = .ok (.getfield 25, 3) := by decide +kernel
theorem dX1_solve_8 : decode cX1_solve 8 = .ok (.lconst 0, 1) := by decide +kernel
theorem dX1_solve_9 : decode cX1_solve 9 = .ok (.lastore, 1) := by decide +kernel
theorem dX1_solve_10 : decode cX1_solve 10 = .ok (.aload_n 0, 1) := by decide +kernel
theorem dX1_solve_11 : decode cX1_solve 11 = .ok (.getfield 25, 3) := by decide +kernel
theorem dX1_solve_14 : decode cX1_solve 14 = .ok (.iconst 1, 1) := by decide +kernel
theorem dX1_solve_15 : decode cX1_solve 15 = .ok (.isub, 1) := by decide +kernel
theorem dX1_solve_16 : decode cX1_solve 16 = .ok (.istore_n 3, 1) := by decide +kernel
theorem dX1_solve_17 : decode cX1_solve 17 = .ok (.iload_n 3, 1) := by decide +kernel
theorem dX1_solve_18 : decode cX1_solve 18 = .ok (.ifCond .lt 30, 3) := by decide +kernel
theorem dX1_solve_21 : decode cX1_solve 21 = .ok (.aload_n 0, 1) := by decide +kernel
theorem dX1_solve_22 : decode cX1_solve 22 = .ok (.getfield 19, 3) := by decide +kernel
theorem dX1_solve_25 : decode cX1_solve 25 = .ok (.iload_n 3, 1) := by decide +kernel
theorem dX1_solve_26 : decode cX1_solve 26 = .ok (.aload_n 0, 1) := by decide +kernel
theorem dX1_solve_27 : decode cX1_solve 27 = .ok (.getfield 19, 3) := by decide +kernel
theorem dX1_solve_30 : decode cX1_solve 30 = .ok (.iload_n 3, 1) := by decide +kernel
theorem dX1_solve_31 : decode cX1_solve 31 = .ok (.iconst 1, 1) := by decide +kernel
theorem dX1_solve_32 : decode cX1_solve 32 = .ok (.iadd, 1) := by decide +kernel
theorem dX1_solve_33 : decode cX1_solve 33 = .ok (.laload, 1) := by decide +kernel
theorem dX1_solve_34 : decode cX1_solve 34 = .ok (.aload_n 0, 1) := by decide +kernel
theorem dX1_solve_35 : decode cX1_solve 35 = .ok (.getfield 15, 3) := by decide +kernel
theorem dX1_solve_38 : decode cX1_solve 38 = .ok (.iload_n 3, 1) := by decide +kernel
theorem dX1_solve_39 : decode cX1_solve 39 = .ok (.laload, 1) := by decide +kernel
theorem dX1_solve_40 : decode cX1_solve 40 = .ok (.lor, 1) := by decide +kernel
theorem dX1_solve_41 : decode cX1_solve 41 = .ok (.lastore, 1) := by decide +kernel
theorem dX1_solve_42 : decode cX1_solve 42 = .ok (.iinc 3 (-1), 3) := by decide +kernel
theorem dX1_solve_45 : decode cX1_solve 45 = .ok (.goto (-28), 3) := by decide +kernel
theorem dX1_solve_48 : decode cX1_solve 48 = .ok (.iconst 0, 1) := by decide +kernel
theorem dX1_solve_49 : decode cX1_solve 49 = .ok (.istore_n 3, 1) := by decide +kernel
theorem dX1_solve_50 : decode cX1_solve 50 = .ok (.iload_n 3, 1) := by decide +kernel
theorem dX1_solve_51 : decode cX1_solve 51 = .ok (.aload_n 0, 1) := by decide +kernel
theorem dX1_solve_52 : decode cX1_solve 52 = .ok (.getfield 25, 3) := by decide +kernel
theorem dX1_solve_55 : decode cX1_solve 55 = .ok (.if_icmp .gt 22, 3) := by decide +kernel
theorem dX1_solve_58 : decode cX1_solve 58 = .ok (.aload_n 0, 1) := by decide +kernel
theorem dX1_solve_59 : decode cX1_solve 59 = .ok (.iconst 0, 1) := by decide +kernel
theorem dX1_solve_60 : decode cX1_solve 60 = .ok (.iconst 0, 1) := by decide +kernel
theorem dX1_solve_61 : decode cX1_solve 61 = .ok (.iload_n 3, 1) := by decide +kernel
theorem dX1_solve_62 : decode cX1_solve 62 = .ok (.lload_n 1, 1) := by decide +kernel
theorem dX1_solve_63 : decode cX1_solve 63 = .ok (.invokevirtual 29, 3) := by decide +kernel
theorem dX1_solve_66 : decode cX1_solve 66 = .ok (.ifCond .eq 5, 3) := by decide +kernel
theorem dX1_solve_69 : decode cX1_solve 69 = .ok (.iload_n 3, 1) := by decide +kernel
theorem dX1_solve_70 : decode cX1_solve 70 = .ok (.ireturn, 1) := by decide +kernel
theorem dX1_solve_71 : decode cX1_solve 71 = .ok (.iinc 3 1, 3) := by decide +kernel
theorem dX1_solve_74 : decode cX1_solve 74 = .ok (.goto (-24), 3) := by decide +kernel
theorem dX1_solve_77 : decode cX1_solve 77 = .ok (.iconst (-1), 1) := by decide +kernel
theorem dX1_solve_78 : decode cX1_solve 78 = .ok (.ireturn, 1) := by decide +kernel
def wX1_solve (I : Nat → Int32) (L : Nat → Int64) (A : Nat → Nat → Int32) (B : Nat → Nat → Int64) (x1 : Int64) (post : Int32 → (Nat → Nat → Int32) → (Nat → Nat → Int64) → Prop) : Prop := vp_in (I 6) 13 ∧ (∀ B_1, B_1 = va_up B 52 (vp_updL (B 52) (I 6).toNatClampNeg 0) → ∀ v3 : Int32, v3 = (I 6) - 1 → ∃ n, lfix (fun (r : (Int32 × (Nat → Nat → Int64)) → Prop) (v3_1, B_2) => if v3_1 < 0 then (∃ n_1, lfix (fun (r_1 : (Int32 × (Nat → Nat → Int32)) → Prop) (v3_2, A_1) => if (I 6) < v3_2 then (post (-1) A_1 B_2) else (wX1_choose 14 I L A_1 B_2 0 0 v3_2 x1 (fun r63 A_2 => if r63 = 0 then (∀ v3_3 : Int32, v3_3 = v3_2 + 1 → r_1 (v3_3, A_2)) else (post v3_2 A_2 B_2)))) n_1 (0, A)) else (vp_in (v3_1 + 1) 13 ∧ (vp_in v3_1 12 ∧ (vp_in v3_1 13 ∧ (∀ B_3, B_3 = va_up B_2 52 (vp_updL (B_2 52) v3_1.toNatClampNeg ((B_2 52 (v3_1 + 1).toNatClampNeg) ||| (B_2 51 v3_1.toNatClampNeg))) → ∀ v3_4 : Int32, v3_4 = v3_1 + (-1) → r (v3_4, B_3)))))) n (v3, B_1))
abbrev rmX1_solve : Room := { frames := 15, cells := 0, slots := 0, locals := 390 }
theorem wd_X1_solve : Cond.instanceMethod yX1_solve ∈ BW ∧ Cond.selects yX1_solve.cls yX1_solve yX1_solve ∈ BW ∧ Cond.initialized yX1_solve.cls ∈ BW ∧ Cond.code yX1_solve cX1_solve 4 (some .int) ∈ BW := ⟨mw_3_221, mw_3_222, mw_1_10, mw_3_223⟩
set_option maxHeartbeats 4000000 in
set_option maxRecDepth 100000 in
theorem c_X1_solve {l : Launch} {D : va_G} {cy : Nat → ClassId} {ad : Nat → Nat} {Ad : Nat → Prop} (hAd : adok 103 Ad ad) (I : Nat → Int32) (L : Nat → Int64) (A : Nat → Nat → Int32) (B : Nat → Nat → Int64) (x1 : Int64)  (post : Int32 → (Nat → Nat → Int32) → (Nat → Nat → Int64) → Prop) (h : wX1_solve I L A B x1 post) : Met l yX1_solve (.code yX1_solve cX1_solve 4 (some .int) :: BW) rmX1_solve (va_Pc [.ref (ad 6), .long x1] (fun U => kC D cy U ∧ va_P D vwCl (wC cy ad I L A B) U.heap)) (qCi D cy ad Ad (fun r u => post r u.2.2.1 u.2.2.2 ∧ I = u.1 ∧ L = u.2.1)) 0 0 Ad := by
  refine startCi (by decide) (Nat.le_of_ble_eq_true rfl) (lv := [(0, .ref (ad 6)), (1, .long x1)]) rfl (fun p e s m args below meth c Q ls hx hb hml hT hown hK hret hl hP hS => ?_)
  unfold wX1_solve at h
  refine lv_aload_n hx hb dX1_solve_0 rfl (lv_at hl 0 rfl) ?_
  refine va_get (T := TX1) hx hb hT inlX1 hown hK.1 hP 6 he_X1 rfl 2 (by decide) (hT _ mw_1_231) (fun _ h9 => h9) rfl dX1_solve_1 ?_
  refine lv_aload_n hx hb dX1_solve_4 rfl (lv_at hl 0 rfl) ?_
  refine va_get (T := TX1) hx hb hT inlX1 hown hK.1 hP 6 he_X1 rfl 4 (by decide) (hT _ mw_1_234) (fun _ h9 => h9) rfl dX1_solve_5 ?_
  refine lv_lconst (v := 0) hx hb dX1_solve_8 (by decide) ?_
  obtain ⟨hi, h⟩ := h
  refine sC_J hAd hx hb hK.1 hP hS (by decide) (fun _ => rfl) hi dX1_solve_9 (fun H locs hP hS => ?_)
  obtain ⟨B_1, eB_1⟩ : ∃ z, z = va_up B 52 (vp_updL (B 52) (I 6).toNatClampNeg 0) := ⟨_, rfl⟩
  rw [← eB_1] at hP
  replace h := h B_1 eB_1
  refine lv_aload_n hx hb dX1_solve_10 rfl (lv_at hl 0 rfl) ?_
  refine va_get (T := TX1) hx hb hT inlX1 hown hK.1 hP 6 he_X1 rfl 4 (by decide) (hT _ mw_1_234) (fun _ h9 => h9) rfl dX1_solve_11 ?_
  refine lv_iconst (v := 1) hx hb dX1_solve_14 (by decide) ?_
  refine lv_isub hx hb dX1_solve_15 ?_
  refine lv_topi (fun v3 ev3 => ?_)
  replace h := h v3 ev3
  refine lv_istore_n (lv' := [(3, .int v3), (0, .ref (ad 6)), (1, .long x1)]) hx hb dX1_solve_16 rfl hl (by decide) rfl (fun ls hl => ?_)
  obtain ⟨F, n, h, hF, hG⟩ := lfix_ex h
  have LP : ∀ (n : Nat) (v3_1 : Int32) (B_2 : Nat → Nat → Int64) (ls : Array Slot) (H : Heap) (locs : List Loc), F n (v3_1, B_2) → lv_has ls 4 [(3, .int v3_1), (0, .ref (ad 6)), (1, .long x1)] → va_P D vwCl (wC cy ad I L A B_2) H → va_S Ad s.heap H locs → W p l e rmX1_solve s m args below meth c H locs 0 0 Q (F0 m 17 ls []) := by
    intro n
    induction n with
    | zero => intro v3_1 B_2 ls H locs h _ _ _; exact absurd h (hF _)
    | succ n ih =>
      intro v3_1 B_2 ls H locs h hl hP hS
      replace h := hG _ _ h
      try dsimp only at h
      refine lv_iload_n hx hb dX1_solve_17 rfl (lv_at hl 0 rfl) ?_
      refine lv_if_lt (tgt := 48) hx hb dX1_solve_18 (by decide) (fun hc => ?_) (fun hc => ?_)
      · rw [if_pos hc] at h
        refine lv_iconst (v := 0) hx hb dX1_solve_48 (by decide) ?_
        refine lv_istore_n (lv' := [(3, .int 0), (0, .ref (ad 6)), (1, .long x1)]) hx hb dX1_solve_49 rfl hl (by decide) rfl (fun ls hl => ?_)
        obtain ⟨F_1, n_1, h, hF_1, hG_1⟩ := lfix_ex h
        have LP_1 : ∀ (n_1 : Nat) (v3_2 : Int32) (A_1 : Nat → Nat → Int32) (ls : Array Slot) (H : Heap) (locs : List Loc), F_1 n_1 (v3_2, A_1) → lv_has ls 4 [(3, .int v3_2), (0, .ref (ad 6)), (1, .long x1)] → va_P D vwCl (wC cy ad I L A_1 B_2) H → va_S Ad s.heap H locs → W p l e rmX1_solve s m args below meth c H locs 0 0 Q (F0 m 50 ls []) := by
          intro n_1
          induction n_1 with
          | zero => intro v3_2 A_1 ls H locs h _ _ _; exact absurd h (hF_1 _)
          | succ n_1 ih_1 =>
            intro v3_2 A_1 ls H locs h hl hP hS
            replace h := hG_1 _ _ h
            try dsimp only at h
            refine lv_iload_n hx hb dX1_solve_50 rfl (lv_at hl 0 rfl) ?_
            refine lv_aload_n hx hb dX1_solve_51 rfl (lv_at hl 1 rfl) ?_
            refine va_get (T := TX1) hx hb hT inlX1 hown hK.1 hP 6 he_X1 rfl 4 (by decide) (hT _ mw_1_234) (fun _ h9 => h9) rfl dX1_solve_52 ?_
            refine lv_icmp_gt (tgt := 77) hx hb dX1_solve_55 (by decide) (fun hc_1 => ?_) (fun hc_1 => ?_)
            · rw [if_pos hc_1] at h
              refine lv_iconst (v := (-1)) hx hb dX1_solve_77 (by decide) ?_
              exact hret _ (I, L, A_1, B_2) dX1_solve_78 ⟨h, rfl, rfl⟩ hP hS
            · rw [if_neg hc_1] at h
              refine lv_aload_n hx hb dX1_solve_58 rfl (lv_at hl 1 rfl) ?_
              refine lv_iconst (v := 0) hx hb dX1_solve_59 (by decide) ?_
              refine lv_iconst (v := 0) hx hb dX1_solve_60 (by decide) ?_
              refine lv_iload_n hx hb dX1_solve_61 rfl (lv_at hl 0 rfl) ?_
              refine lv_lload_n hx hb dX1_solve_62 rfl (lv_at hl 2 rfl) ?_
              refine callCi (k := 6) (As := [.int 0, .int 0, .int v3_2, .long x1]) (rest := []) (n := 4) (c_X1_choose 14 hAd I L A_1 B_2 0 0 v3_2 x1 _ h) hx hb hT hown hK hP hS mw_3_224 wd_X1_choose (by decide +kernel) ⟨rfl, rfl⟩ (by decide) rfl rfl he_X1 rfl hl.1 hml rfl (Nat.le_of_ble_eq_true rfl) dX1_solve_63 ⟨Nat.zero_le _, Nat.zero_le _⟩ (fun r63 u H locs h hP hS => ?_)
              obtain ⟨Iu, Lu, A_2, Bu⟩ := u
              dsimp only at h hP
              obtain ⟨h, rfl, rfl, rfl⟩ := h
              try dsimp only at h
              refine lv_if_eq (tgt := 71) hx hb dX1_solve_66 (by decide) (fun hc_2 => ?_) (fun hc_2 => ?_)
              · rw [if_pos hc_2] at h
                obtain ⟨v3_3, ev3_3⟩ : ∃ z : Int32, z = v3_2 + 1 := ⟨_, rfl⟩
                replace h := h v3_3 ev3_3
                refine lv_iinc (v := v3_3) (lv' := [(3, .int v3_3), (0, .ref (ad 6)), (1, .long x1)]) hx hb dX1_solve_71 hl (k := 0) rfl (by rw [ev3_3]; rfl) (by decide) rfl (fun ls hl => ?_)
                refine lv_goto (tgt := 50) hx hb dX1_solve_74 (by decide) ?_
                exact ih_1 v3_3 A_2 _ _ _ h (lv_sub hl [0, 1, 2] rfl) hP hS
              · rw [if_neg hc_2] at h
                refine lv_iload_n hx hb dX1_solve_69 rfl (lv_at hl 0 rfl) ?_
                exact hret _ (I, L, A_2, B_2) dX1_solve_70 ⟨h, rfl, rfl⟩ hP hS
        exact LP_1 _ 0 A _ _ _ h (lv_sub hl [0, 1, 2] rfl) hP hS
      · rw [if_neg hc] at h
        refine lv_aload_n hx hb dX1_solve_21 rfl (lv_at hl 1 rfl) ?_
        refine va_get (T := TX1) hx hb hT inlX1 hown hK.1 hP 6 he_X1 rfl 2 (by decide) (hT _ mw_1_231) (fun _ h9 => h9) rfl dX1_solve_22 ?_
        refine lv_iload_n hx hb dX1_solve_25 rfl (lv_at hl 0 rfl) ?_
        refine lv_aload_n hx hb dX1_solve_26 rfl (lv_at hl 1 rfl) ?_
        refine va_get (T := TX1) hx hb hT inlX1 hown hK.1 hP 6 he_X1 rfl 2 (by decide) (hT _ mw_1_231) (fun _ h9 => h9) rfl dX1_solve_27 ?_
        refine lv_iload_n hx hb dX1_solve_30 rfl (lv_at hl 0 rfl) ?_
        refine lv_iconst (v := 1) hx hb dX1_solve_31 (by decide) ?_
        refine lv_iadd hx hb dX1_solve_32 ?_
        obtain ⟨hi_1, h⟩ := h
        refine lC_J hx hb hK.1 hP (by decide) rfl hi_1 dX1_solve_33 ?_
        refine lv_aload_n hx hb dX1_solve_34 rfl (lv_at hl 1 rfl) ?_
        refine va_get (T := TX1) hx hb hT inlX1 hown hK.1 hP 6 he_X1 rfl 1 (by decide) (hT _ mw_1_230) (fun _ h9 => h9) rfl dX1_solve_35 ?_
        refine lv_iload_n hx hb dX1_solve_38 rfl (lv_at hl 0 rfl) ?_
        obtain ⟨hi_2, h⟩ := h
        refine lC_J hx hb hK.1 hP (by decide) rfl hi_2 dX1_solve_39 ?_
        refine lv_lor hx hb dX1_solve_40 ?_
        obtain ⟨hi_3, h⟩ := h
        refine sC_J hAd hx hb hK.1 hP hS (by decide) (fun _ => rfl) hi_3 dX1_solve_41 (fun H locs hP hS => ?_)
        obtain ⟨B_3, eB_3⟩ : ∃ z, z = va_up B_2 52 (vp_updL (B_2 52) v3_1.toNatClampNeg ((B_2 52 (v3_1 + 1).toNatClampNeg) ||| (B_2 51 v3_1.toNatClampNeg))) := ⟨_, rfl⟩
        rw [← eB_3] at hP
        replace h := h B_3 eB_3
        obtain ⟨v3_4, ev3_4⟩ : ∃ z : Int32, z = v3_1 + (-1) := ⟨_, rfl⟩
        replace h := h v3_4 ev3_4
        refine lv_iinc (v := v3_4) (lv' := [(3, .int v3_4), (0, .ref (ad 6)), (1, .long x1)]) hx hb dX1_solve_42 hl (k := 0) rfl (by rw [ev3_4]; rfl) (by decide) rfl (fun ls hl => ?_)
        refine lv_goto (tgt := 17) hx hb dX1_solve_45 (by decide) ?_
        exact ih v3_4 B_3 _ _ _ h (lv_sub hl [0, 1, 2] rfl) hP hS
  exact LP _ v3 B_1 _ _ _ h (lv_sub hl [0, 1, 2] rfl) hP hS
theorem dX2_knows_0 : decode cX2_knows 0 = .ok (.iload_n 1, 1) := by decide +kernel
theorem dX2_knows_1 : decode cX2_knows 1 = .ok (.ifCond .lt 15, 3) := by decide +kernel
theorem dX2_knows_4 : decode cX2_knows 4 = .ok (.iload_n 1, 1) := by decide +kernel
theorem dX2_knows_5 : decode cX2_knows 5 = .ok (.aload_n 0, 1) := by decide +kernel
theorem dX2_knows_6 : decode cX2_knows 6 = .ok (.getfield 28, 3) := by decide +kernel
theorem dX2_knows_9 : decode cX2_knows 9 = .ok (.if_icmp .ge 7, 3) := by decide +kernel
theorem dX2_knows_12 : decode cX2_knows 12 = .ok (.iconst 1, 1) := by decide +kernel
theorem dX2_knows_13 : decode cX2_knows 13 = .ok (.goto 4, 3) := by decide +kernel
theorem dX2_knows_16 : decode cX2_knows 16 = .ok (.iconst 0, 1) := by decide +kernel
theorem dX2_knows_17 : decode cX2_knows 17 = .ok (.ireturn, 1) := by decide +kernel
def wX2_knows (I : Nat → Int32) (L : Nat → Int64) (A : Nat → Nat → Int32) (B : Nat → Nat → Int64) (x1 : Int32) (post : Int32 → Prop) : Prop := if x1 < 0 then (post 0) else (if (I 1) ≤ x1 then (post 0) else (post 1))
abbrev rmX2_knows : Room := { frames := 0, cells := 0, slots := 0, locals := 0 }
theorem wd_X2_knows : Cond.instanceMethod yX2_knows ∈ BW ∧ Cond.selects yX2_knows.cls yX2_knows yX2_knows ∈ BW ∧ Cond.initialized yX2_knows.cls ∈ BW ∧ Cond.code yX2_knows cX2_knows 2 (some .boolean) ∈ BW := ⟨mw_2_102, mw_2_103, mw_1_2, mw_2_104⟩
set_option maxHeartbeats 4000000 in
set_option maxRecDepth 100000 in
theorem c_X2_knows {l : Launch} {D : va_G} {cy : Nat → ClassId} {ad : Nat → Nat} {Ad : Nat → Prop} (hAd : adok 103 Ad ad) (I : Nat → Int32) (L : Nat → Int64) (A : Nat → Nat → Int32) (B : Nat → Nat → Int64) (x1 : Int32)  (post : Int32 → Prop) (h : wX2_knows I L A B x1 post) : Met l yX2_knows (.code yX2_knows cX2_knows 2 (some .boolean) :: BW) rmX2_knows (va_Pc [.ref (ad 1), .int x1] (fun U => kC D cy U ∧ va_P D vwCl (wC cy ad I L A B) U.heap)) (qCi D cy ad Ad (fun r u => post r  ∧ I = u.1 ∧ L = u.2.1 ∧ A = u.2.2.1 ∧ B = u.2.2.2)) 0 0 Ad := by
  refine startCz (by decide) (Nat.le_of_ble_eq_true rfl) (lv := [(0, .ref (ad 1)), (1, .int x1)]) rfl (fun p e s m args below meth c Q ls hx hb hml hT hown hK hret hl hP hS => ?_)
  unfold wX2_knows at h
  refine lv_iload_n hx hb dX2_knows_0 rfl (lv_at hl 1 rfl) ?_
  refine lv_if_lt (tgt := 16) hx hb dX2_knows_1 (by decide) (fun hc => ?_) (fun hc => ?_)
  · rw [if_pos hc] at h
    refine lv_iconst (v := 0) hx hb dX2_knows_16 (by decide) ?_
    exact hret _ (I, L, A, B) zb_0 dX2_knows_17 ⟨h, rfl, rfl, rfl, rfl⟩ hP hS
  · rw [if_neg hc] at h
    refine lv_iload_n hx hb dX2_knows_4 rfl (lv_at hl 1 rfl) ?_
    refine lv_aload_n hx hb dX2_knows_5 rfl (lv_at hl 0 rfl) ?_
    refine va_get (T := TX2) hx hb hT inlX2 hown hK.1 hP 1 he_X2 rfl 5 (by decide) (hT _ mw_1_45) (fun _ h9 => h9) rfl dX2_knows_6 ?_
    refine lv_icmp_ge (tgt := 16) hx hb dX2_knows_9 (by decide) (fun hc_1 => ?_) (fun hc_1 => ?_)
    · rw [if_pos hc_1] at h
      refine lv_iconst (v := 0) hx hb dX2_knows_16 (by decide) ?_
      exact hret _ (I, L, A, B) zb_0 dX2_knows_17 ⟨h, rfl, rfl, rfl, rfl⟩ hP hS
    · rw [if_neg hc_1] at h
      refine lv_iconst (v := 1) hx hb dX2_knows_12 (by decide) ?_
      refine lv_goto (tgt := 17) hx hb dX2_knows_13 (by decide) ?_
      exact hret _ (I, L, A, B) zb_1 dX2_knows_17 ⟨h, rfl, rfl, rfl, rfl⟩ hP hS
theorem dX2_hangUnder_0 : decode cX2_hangUnder 0 = .ok (.iload_n 1, 1) := by decide +kernel
theorem dX2_hangUnder_1 : decode cX2_hangUnder 1 = .ok (.istore 4, 2) := by decide +kernel
theorem dX2_hangUnder_3 : decode cX2_hangUnder 3 = .ok (.iconst 0, 1) := by decide +kernel
theorem dX2_hangUnder_4 : decode cX2_hangUnder 4 = .ok (.istore 5, 2) := by decide +kernel
theorem dX2_hangUnder_6 : decode cX2_hangUnder 6 = .ok (.iload 5, 2) := by decide +kernel
theorem dX2_hangUnder_8 : decode cX2_hangUnder 8 = .ok (.iconst 5, 1) := by decide +kernel
theorem dX2_hangUnder_9 : decode cX2_hangUnder 9 = .ok (.if_icmp .gt 38, 3) := by decide +kernel
theorem dX2_hangUnder_12 : decode cX2_hangUnder 12 = .ok (.aload_n 0, 1) := by decide +kernel
theorem dX2_hangUnder_13 : decode cX2_hangUnder 13 = .ok (.iload 4, 2) := by decide +kernel
theorem dX2_hangUnder_15 : decode cX2_hangUnder 15 = .ok (.invokevirtual 40, 3) := by decide +kernel
theorem dX2_hangUnder_18 : decode cX2_hangUnder 18 = .ok (.ifCond .eq 29, 3) := by decide +kernel
theorem dX2_hangUnder_21 : decode cX2_hangUnder 21 = .ok (.aload_n 0, 1) := by decide +kernel
theorem dX2_hangUnder_22 : decode cX2_hangUnder 22 = .ok (.getfield 18, 3) := by decide +kernel
theorem dX2_hangUnder_25 : decode cX2_hangUnder 25 = .ok (.iload 4, 2) := by decide +kernel
theorem dX2_hangUnder_27 : decode cX2_hangUnder 27 = .ok (.dup2, 1) := by decide +kernel
theorem dX2_hangUnder_28 : decode cX2_hangUnder 28 = .ok (.laload, 1) := by decide +kernel
theorem dX2_hangUnder_29 : decode cX2_hangUnder 29 = .ok (.lload_n 2, 1) := by decide +kernel
theorem dX2_hangUnder_30 : decode cX2_hangUnder 30 = .ok (.lor, 1) := by decide +kernel
theorem dX2_hangUnder_31 : decode cX2_hangUnder 31 = .ok (.lastore, 1) := by decide +kernel
theorem dX2_hangUnder_32 : decode cX2_hangUnder 32 = .ok (.aload_n 0, 1) := by decide +kernel
theorem dX2_hangUnder_33 : decode cX2_hangUnder 33 = .ok (.getfield 15, 3) := by decide +kernel
theorem dX2_hangUnder_36 : decode cX2_hangUnder 36 = .ok (.iload 4, 2) := by decide +kernel
theorem dX2_hangUnder_38 : decode cX2_hangUnder 38 = .ok (.iaload, 1) := by decide +kernel
theorem dX2_hangUnder_39 : decode cX2_hangUnder 39 = .ok (.istore 4, 2) := by decide +kernel
theorem dX2_hangUnder_41 : decode cX2_hangUnder 41 = .ok (.iinc 5 1, 3) := by decide +kernel
theorem dX2_hangUnder_44 : decode cX2_hangUnder 44 = .ok (.goto (-38), 3) := by decide +kernel
theorem dX2_hangUnder_47 : decode cX2_hangUnder 47 = .ok (.return_, 1) := by decide +kernel
def wX2_hangUnder (I : Nat → Int32) (L : Nat → Int64) (A : Nat → Nat → Int32) (B : Nat → Nat → Int64) (x1 : Int32) (x2 : Int64) (post : (Nat → Nat → Int64) → Prop) : Prop := ∃ n, lfix (fun (r : (Int32 × Int32 × (Nat → Nat → Int64)) → Prop) (v5, v4, B_1) => if 5 < v5 then (post B_1) else (wX2_knows I L A B_1 v4 (fun r15 => if r15 = 0 then (post B_1) else (vp_in v4 40 ∧ (vp_in v4 40 ∧ (∀ B_2, B_2 = va_up B_1 38 (vp_updL (B_1 38) v4.toNatClampNeg ((B_1 38 v4.toNatClampNeg) ||| x2)) → vp_in v4 40 ∧ (∀ v4_1 : Int32, v4_1 = A 37 v4.toNatClampNeg → ∀ v5_1 : Int32, v5_1 = v5 + 1 → r (v5_1, v4_1, B_2)))))))) n (0, x1, B)
abbrev rmX2_hangUnder : Room := { frames := 1, cells := 0, slots := 0, locals := 21 }
theorem wd_X2_hangUnder : Cond.instanceMethod yX2_hangUnder ∈ BW ∧ Cond.selects yX2_hangUnder.cls yX2_hangUnder yX2_hangUnder ∈ BW ∧ Cond.initialized yX2_hangUnder.cls ∈ BW ∧ Cond.code yX2_hangUnder cX2_hangUnder 6 (none : Option Jvm.ClassFile.FieldType) ∈ BW := ⟨mw_2_117, mp_2, mw_1_2, mw_2_118⟩
set_option maxHeartbeats 4000000 in
set_option maxRecDepth 100000 in
theorem c_X2_hangUnder {l : Launch} {D : va_G} {cy : Nat → ClassId} {ad : Nat → Nat} {Ad : Nat → Prop} (hAd : adok 103 Ad ad) (I : Nat → Int32) (L : Nat → Int64) (A : Nat → Nat → Int32) (B : Nat → Nat → Int64) (x1 : Int32) (x2 : Int64)  (post : (Nat → Nat → Int64) → Prop) (h : wX2_hangUnder I L A B x1 x2 post) : Met l yX2_hangUnder (.code yX2_hangUnder cX2_hangUnder 6 (none : Option Jvm.ClassFile.FieldType) :: BW) rmX2_hangUnder (va_Pc [.ref (ad 1), .int x1, .long x2] (fun U => kC D cy U ∧ va_P D vwCl (wC cy ad I L A B) U.heap)) (qCv D cy ad Ad (fun u => post u.2.2.2 ∧ I = u.1 ∧ L = u.2.1 ∧ A = u.2.2.1)) 0 0 Ad := by
  refine startCv (by decide) (Nat.le_of_ble_eq_true rfl) (lv := [(0, .ref (ad 1)), (1, .int x1), (2, .long x2)]) rfl (fun p e s m args below meth c Q ls hx hb hml hT hown hK hret hl hP hS => ?_)
  unfold wX2_hangUnder at h
  refine lv_iload_n hx hb dX2_hangUnder_0 rfl (lv_at hl 1 rfl) ?_
  refine lv_istore (lv' := [(4, .int x1), (0, .ref (ad 1)), (1, .int x1), (2, .long x2)]) hx hb dX2_hangUnder_1 hl (by decide) rfl (fun ls hl => ?_)
  refine lv_iconst (v := 0) hx hb dX2_hangUnder_3 (by decide) ?_
  refine lv_istore (lv' := [(5, .int 0), (4, .int x1), (0, .ref (ad 1)), (1, .int x1), (2, .long x2)]) hx hb dX2_hangUnder_4 hl (by decide) rfl (fun ls hl => ?_)
  obtain ⟨F, n, h, hF, hG⟩ := lfix_ex h
  have LP : ∀ (n : Nat) (v5 : Int32) (v4 : Int32) (B_1 : Nat → Nat → Int64) (ls : Array Slot) (H : Heap) (locs : List Loc), F n (v5, v4, B_1) → lv_has ls 6 [(5, .int v5), (4, .int v4), (0, .ref (ad 1)), (2, .long x2)] → va_P D vwCl (wC cy ad I L A B_1) H → va_S Ad s.heap H locs → W p l e rmX2_hangUnder s m args below meth c H locs 0 0 Q (F0 m 6 ls []) := by
    intro n
    induction n with
    | zero => intro v5 v4 B_1 ls H locs h _ _ _; exact absurd h (hF _)
    | succ n ih =>
      intro v5 v4 B_1 ls H locs h hl hP hS
      replace h := hG _ _ h
      try dsimp only at h
      refine lv_iload hx hb dX2_hangUnder_6 (lv_at hl 0 rfl) ?_
      refine lv_iconst (v := 5) hx hb dX2_hangUnder_8 (by decide) ?_
      refine lv_icmp_gt (tgt := 47) hx hb dX2_hangUnder_9 (by decide) (fun hc => ?_) (fun hc => ?_)
      · rw [if_pos hc] at h
        exact hret (I, L, A, B_1) dX2_hangUnder_47 ⟨h, rfl, rfl, rfl⟩ hP hS
      · rw [if_neg hc] at h
        refine lv_aload_n hx hb dX2_hangUnder_12 rfl (lv_at hl 2 rfl) ?_
        refine lv_iload hx hb dX2_hangUnder_13 (lv_at hl 1 rfl) ?_
        refine callCi (k := 1) (As := [.int v4]) (rest := []) (n := 1) (c_X2_knows hAd I L A B_1 v4 _ h) hx hb hT hown hK hP hS mw_2_109 wd_X2_knows (by decide +kernel) ⟨rfl, rfl⟩ (by decide) rfl rfl he_X2 rfl hl.1 hml rfl (Nat.le_of_ble_eq_true rfl) dX2_hangUnder_15 ⟨Nat.zero_le _, Nat.zero_le _⟩ (fun r15 u H locs h hP hS => ?_)
        obtain ⟨Iu, Lu, Au, Bu⟩ := u
        dsimp only at h hP
        obtain ⟨h, rfl, rfl, rfl, rfl⟩ := h
        try dsimp only at h
        refine lv_if_eq (tgt := 47) hx hb dX2_hangUnder_18 (by decide) (fun hc_1 => ?_) (fun hc_1 => ?_)
        · rw [if_pos hc_1] at h
          exact hret (I, L, A, B_1) dX2_hangUnder_47 ⟨h, rfl, rfl, rfl⟩ hP hS
        · rw [if_neg hc_1] at h
          refine lv_aload_n hx hb dX2_hangUnder_21 rfl (lv_at hl 2 rfl) ?_
          refine va_get (T := TX2) hx hb hT inlX2 hown hK.1 hP 1 he_X2 rfl 2 (by decide) (hT _ mw_1_38) (fun _ h9 => h9) rfl dX2_hangUnder_22 ?_
          refine lv_iload hx hb dX2_hangUnder_25 (lv_at hl 1 rfl) ?_
          refine lv_dup2_11 hx hb dX2_hangUnder_27 rfl rfl ?_
          obtain ⟨hi, h⟩ := h
          refine lC_J hx hb hK.1 hP (by decide) rfl hi dX2_hangUnder_28 ?_
          refine lv_lload_n hx hb dX2_hangUnder_29 rfl (lv_at hl 3 rfl) ?_
          refine lv_lor hx hb dX2_hangUnder_30 ?_
          obtain ⟨hi_1, h⟩ := h
          refine sC_J hAd hx hb hK.1 hP hS (by decide) (fun _ => rfl) hi_1 dX2_hangUnder_31 (fun H locs hP hS => ?_)
          obtain ⟨B_2, eB_2⟩ : ∃ z, z = va_up B_1 38 (vp_updL (B_1 38) v4.toNatClampNeg ((B_1 38 v4.toNatClampNeg) ||| x2)) := ⟨_, rfl⟩
          rw [← eB_2] at hP
          replace h := h B_2 eB_2
          refine lv_aload_n hx hb dX2_hangUnder_32 rfl (lv_at hl 2 rfl) ?_
          refine va_get (T := TX2) hx hb hT inlX2 hown hK.1 hP 1 he_X2 rfl 1 (by decide) (hT _ mw_1_36) (fun _ h9 => h9) rfl dX2_hangUnder_33 ?_
          refine lv_iload hx hb dX2_hangUnder_36 (lv_at hl 1 rfl) ?_
          obtain ⟨hi_2, h⟩ := h
          refine lC_I hx hb hK.1 hP (by decide) rfl hi_2 dX2_hangUnder_38 ?_
          refine lv_topi (fun v4_1 ev4_1 => ?_)
          replace h := h v4_1 ev4_1
          refine lv_istore (lv' := [(4, .int v4_1), (5, .int v5), (0, .ref (ad 1)), (2, .long x2)]) hx hb dX2_hangUnder_39 hl (by decide) rfl (fun ls hl => ?_)
          obtain ⟨v5_1, ev5_1⟩ : ∃ z : Int32, z = v5 + 1 := ⟨_, rfl⟩
          replace h := h v5_1 ev5_1
          refine lv_iinc (v := v5_1) (lv' := [(5, .int v5_1), (4, .int v4_1), (0, .ref (ad 1)), (2, .long x2)]) hx hb dX2_hangUnder_41 hl (k := 1) rfl (by rw [ev5_1]; rfl) (by decide) rfl (fun ls hl => ?_)
          refine lv_goto (tgt := 6) hx hb dX2_hangUnder_44 (by decide) ?_
          exact ih v5_1 v4_1 B_2 _ _ _ h (lv_sub hl [0, 1, 2, 3] rfl) hP hS
  exact LP _ 0 x1 B _ _ _ h (lv_sub hl [0, 1, 2, 4] rfl) hP hS
theorem dX2_grow_0 : decode cX2_grow 0 = .ok (.aload_n 0, 1) := by decide +kernel
theorem dX2_grow_1 : decode cX2_grow 1 = .ok (.getfield 28, 3) := by decide +kernel
theorem dX2_grow_4 : decode cX2_grow 4 = .ok (.istore_n 3, 1) := by decide +kernel
theorem dX2_grow_5 : decode cX2_grow 5 = .ok (.aload_n 0, 1) := by decide +kernel
theorem dX2_grow_6 : decode cX2_grow 6 = .ok (.dup, 1) := by decide +kernel
theorem dX2_grow_7 : decode cX2_grow 7 = .ok (.getfield 28, 3) := by decide +kernel
theorem dX2_grow_10 : decode cX2_grow 10 = .ok (.iconst 1, 1) := by decide +kernel
theorem dX2_grow_11 : decode cX2_grow 11 = .ok (.iadd, 1) := by decide +kernel
theorem dX2_grow_12 : decode cX2_grow 12 = .ok (.putfield 28, 3) := by decide +kernel
theorem dX2_grow_15 : decode cX2_grow 15 = .ok (.aload_n 0, 1) := by decide +kernel
theorem dX2_grow_16 : decode cX2_grow 16 = .ok (.getfield 9, 3) := by decide +kernel
theorem dX2_grow_19 : decode cX2_grow 19 = .ok (.iload_n 3, 1) := by decide +kernel
theorem dX2_grow_20 : decode cX2_grow 20 = .ok (.iload_n 1, 1) := by decide +kernel
theorem dX2_grow_21 : decode cX2_grow 21 = .ok (.iastore, 1) := by decide +kernel
theorem dX2_grow_22 : decode cX2_grow 22 = .ok (.aload_n 0, 1) := by decide +kernel
theorem dX2_grow_23 : decode cX2_grow 23 = .ok (.getfield 15, 3) := by decide +kernel
theorem dX2_grow_26 : decode cX2_grow 26 = .ok (.iload_n 3, 1) := by decide +kernel
theorem dX2_grow_27 : decode cX2_grow 27 = .ok (.iload_n 2, 1) := by decide +kernel
theorem dX2_grow_28 : decode cX2_grow 28 = .ok (.iastore, 1) := by decide +kernel
theorem dX2_grow_29 : decode cX2_grow 29 = .ok (.aload_n 0, 1) := by decide +kernel
theorem dX2_grow_30 : decode cX2_grow 30 = .ok (.iload_n 2, 1) := by decide +kernel
theorem dX2_grow_31 : decode cX2_grow 31 = .ok (.iload_n 3, 1) := by decide +kernel
theorem dX2_grow_32 : decode cX2_grow 32 = .ok (.invokestatic 32, 3) := by decide +kernel
theorem dX2_grow_35 : decode cX2_grow 35 = .ok (.invokevirtual 36, 3) := by decide +kernel
theorem dX2_grow_38 : decode cX2_grow 38 = .ok (.iload_n 3, 1) := by decide +kernel
theorem dX2_grow_39 : decode cX2_grow 39 = .ok (.ireturn, 1) := by decide +kernel
def wX2_grow (I : Nat → Int32) (L : Nat → Int64) (A : Nat → Nat → Int32) (B : Nat → Nat → Int64) (x1 : Int32) (x2 : Int32) (post : Int32 → (Nat → Int32) → (Nat → Nat → Int32) → (Nat → Nat → Int64) → Prop) : Prop := ∀ v3 : Int32, v3 = I 1 → (∀ I_1, I_1 = va_up I 1 ((I 1) + 1) → vp_in v3 40 ∧ (∀ A_1, A_1 = va_up A 36 (upd (A 36) v3.toNatClampNeg x1) → vp_in v3 40 ∧ (∀ A_2, A_2 = va_up A_1 37 (upd (A_1 37) v3.toNatClampNeg x2) → wX9_bit v3 (fun r32 => wX2_hangUnder I_1 L A_2 B x2 r32 (fun B_1 => post v3 I_1 A_2 B_1)))))
abbrev rmX2_grow : Room := { frames := 2, cells := 0, slots := 0, locals := 46 }
theorem wd_X2_grow : Cond.instanceMethod yX2_grow ∈ BW ∧ Cond.selects yX2_grow.cls yX2_grow yX2_grow ∈ BW ∧ Cond.initialized yX2_grow.cls ∈ BW ∧ Cond.code yX2_grow cX2_grow 4 (some .int) ∈ BW := ⟨mw_2_111, mw_2_112, mw_1_2, mw_2_113⟩
set_option maxHeartbeats 4000000 in
set_option maxRecDepth 100000 in
theorem c_X2_grow {l : Launch} {D : va_G} {cy : Nat → ClassId} {ad : Nat → Nat} {Ad : Nat → Prop} (hAd : adok 103 Ad ad) (I : Nat → Int32) (L : Nat → Int64) (A : Nat → Nat → Int32) (B : Nat → Nat → Int64) (x1 : Int32) (x2 : Int32)  (post : Int32 → (Nat → Int32) → (Nat → Nat → Int32) → (Nat → Nat → Int64) → Prop) (h : wX2_grow I L A B x1 x2 post) : Met l yX2_grow (.code yX2_grow cX2_grow 4 (some .int) :: BW) rmX2_grow (va_Pc [.ref (ad 1), .int x1, .int x2] (fun U => kC D cy U ∧ va_P D vwCl (wC cy ad I L A B) U.heap)) (qCi D cy ad Ad (fun r u => post r u.1 u.2.2.1 u.2.2.2 ∧ L = u.2.1)) 0 0 Ad := by
  refine startCi (by decide) (Nat.le_of_ble_eq_true rfl) (lv := [(0, .ref (ad 1)), (1, .int x1), (2, .int x2)]) rfl (fun p e s m args below meth c Q ls hx hb hml hT hown hK hret hl hP hS => ?_)
  unfold wX2_grow at h
  refine lv_aload_n hx hb dX2_grow_0 rfl (lv_at hl 0 rfl) ?_
  refine va_get (T := TX2) hx hb hT inlX2 hown hK.1 hP 1 he_X2 rfl 5 (by decide) (hT _ mw_1_45) (fun _ h9 => h9) rfl dX2_grow_1 ?_
  refine lv_topi (fun v3 ev3 => ?_)
  replace h := h v3 ev3
  refine lv_istore_n (lv' := [(3, .int v3), (0, .ref (ad 1)), (1, .int x1), (2, .int x2)]) hx hb dX2_grow_4 rfl hl (by decide) rfl (fun ls hl => ?_)
  refine lv_aload_n hx hb dX2_grow_5 rfl (lv_at hl 1 rfl) ?_
  refine lv_dup hx hb dX2_grow_6 rfl ?_
  refine va_get (T := TX2) hx hb hT inlX2 hown hK.1 hP 1 he_X2 rfl 5 (by decide) (hT _ mw_1_45) (fun _ h9 => h9) rfl dX2_grow_7 ?_
  refine lv_iconst (v := 1) hx hb dX2_grow_10 (by decide) ?_
  refine lv_iadd hx hb dX2_grow_11 ?_
  refine pC_X2_size hAd hx hb hT hown hK.1 hP hS (hT _ mw_1_45) dX2_grow_12 (fun H locs hP hS => ?_)
  obtain ⟨I_1, eI_1⟩ : ∃ z, z = va_up I 1 ((I 1) + 1) := ⟨_, rfl⟩
  rw [← eI_1] at hP
  replace h := h I_1 eI_1
  refine lv_aload_n hx hb dX2_grow_15 rfl (lv_at hl 1 rfl) ?_
  refine va_get (T := TX2) hx hb hT inlX2 hown hK.1 hP 1 he_X2 rfl 0 (by decide) (hT _ mw_1_33) (fun _ h9 => h9) rfl dX2_grow_16 ?_
  refine lv_iload_n hx hb dX2_grow_19 rfl (lv_at hl 0 rfl) ?_
  refine lv_iload_n hx hb dX2_grow_20 rfl (lv_at hl 2 rfl) ?_
  obtain ⟨hi, h⟩ := h
  refine sC_I hAd hx hb hK.1 hP hS (by decide) (fun _ => rfl) hi dX2_grow_21 (fun H locs hP hS => ?_)
  obtain ⟨A_1, eA_1⟩ : ∃ z, z = va_up A 36 (upd (A 36) v3.toNatClampNeg x1) := ⟨_, rfl⟩
  rw [← eA_1] at hP
  replace h := h A_1 eA_1
  refine lv_aload_n hx hb dX2_grow_22 rfl (lv_at hl 1 rfl) ?_
  refine va_get (T := TX2) hx hb hT inlX2 hown hK.1 hP 1 he_X2 rfl 1 (by decide) (hT _ mw_1_36) (fun _ h9 => h9) rfl dX2_grow_23 ?_
  refine lv_iload_n hx hb dX2_grow_26 rfl (lv_at hl 0 rfl) ?_
  refine lv_iload_n hx hb dX2_grow_27 rfl (lv_at hl 3 rfl) ?_
  obtain ⟨hi_1, h⟩ := h
  refine sC_I hAd hx hb hK.1 hP hS (by decide) (fun _ => rfl) hi_1 dX2_grow_28 (fun H locs hP hS => ?_)
  obtain ⟨A_2, eA_2⟩ : ∃ z, z = va_up A_1 37 (upd (A_1 37) v3.toNatClampNeg x2) := ⟨_, rfl⟩
  rw [← eA_2] at hP
  replace h := h A_2 eA_2
  refine lv_aload_n hx hb dX2_grow_29 rfl (lv_at hl 1 rfl) ?_
  refine lv_iload_n hx hb dX2_grow_30 rfl (lv_at hl 3 rfl) ?_
  refine lv_iload_n hx hb dX2_grow_31 rfl (lv_at hl 0 rfl) ?_
  refine callNl (As := [.int v3]) (rest := [.int x2, .ref (ad 1)]) (n := 1) (c_X9_bit v3 _ h) hx hb hT hown hP hS (hK.2 _ (List.mem_of_getElem? (i := 3) rfl)) wd_X9_bit (by decide +kernel) ⟨rfl, rfl⟩ (by decide) rfl hl.1 hml rfl (Nat.le_of_ble_eq_true rfl) dX2_grow_32 ⟨Nat.zero_le _, Nat.zero_le _⟩ (fun r32 H locs h hP hS => ?_)
  try dsimp only at h
  refine callCv (k := 1) (As := [.int x2, .long r32]) (rest := []) (n := 2) (c_X2_hangUnder hAd I_1 L A_2 B x2 r32 _ h) hx hb hT hown hK hP hS mw_2_115 wd_X2_hangUnder (by decide +kernel) ⟨rfl, rfl⟩ (by decide) rfl rfl he_X2 rfl hl.1 hml rfl (Nat.le_of_ble_eq_true rfl) dX2_grow_35 ⟨Nat.zero_le _, Nat.zero_le _⟩ (fun u H locs h hP hS => ?_)
  obtain ⟨Iu, Lu, Au, B_1⟩ := u
  dsimp only at h hP
  obtain ⟨h, rfl, rfl, rfl⟩ := h
  try dsimp only at h
  refine lv_iload_n hx hb dX2_grow_38 rfl (lv_at hl 0 rfl) ?_
  exact hret _ (I_1, L, A_2, B_1) dX2_grow_39 ⟨h, rfl⟩ hP hS
theorem dX2_taggedIn_0 : decode cX2_taggedIn 0 = .ok (.lconst 0, 1) := by decide +kernel
theorem dX2_taggedIn_1 : decode cX2_taggedIn 1 = .ok (.lstore_n 3, 1) := by decide +kernel
theorem dX2_taggedIn_2 : decode cX2_taggedIn 2 = .ok (.iconst 0, 1) := by decide +kernel
theorem dX2_taggedIn_3 : decode cX2_taggedIn 3 = .ok (.istore 5, 2) := by decide +kernel
theorem dX2_taggedIn_5 : decode cX2_taggedIn 5 = .ok (.iload 5, 2) := by decide +kernel
theorem dX2_taggedIn_7 : decode cX2_taggedIn 7 = .ok (.aload_n 0, 1) := by decide +kernel
theorem dX2_taggedIn_8 : decode cX2_taggedIn 8 = .ok (.getfield 28, 3) := by decide +kernel
theorem dX2_taggedIn_11 : decode cX2_taggedIn 11 = .ok (.if_icmp .ge 28, 3) := by decide +kernel
theorem dX2_taggedIn_14 : decode cX2_taggedIn 14 = .ok (.lload_n 1, 1) := by decide +kernel
theorem dX2_taggedIn_15 : decode cX2_taggedIn 15 = .ok (.iload 5, 2) := by decide +kernel
theorem dX2_taggedIn_17 : decode cX2_taggedIn 17 = .ok (.invokestatic 54, 3) := by decide +kernel
theorem dX2_taggedIn_20 : decode cX2_taggedIn 20 = .ok (.ifCond .eq 13, 3) := by decide +kernel
theorem dX2_taggedIn_23 : decode cX2_taggedIn 23 = .ok (.lload_n 3, 1) := by decide +kernel
theorem dX2_taggedIn_24 : decode cX2_taggedIn 24 = .ok (.aload_n 0, 1) := by decide +kernel
theorem dX2_taggedIn_25 : decode cX2_taggedIn 25 = .ok (.getfield 22, 3) := by decide +kernel
theorem dX2_taggedIn_28 : decode cX2_taggedIn 28 = .ok (.iload 5, 2) := by decide +kernel
theorem dX2_taggedIn_30 : decode cX2_taggedIn 30 = .ok (.laload, 1) := by decide +kernel
theorem dX2_taggedIn_31 : decode cX2_taggedIn 31 = .ok (.lor, 1) := by decide +kernel
theorem dX2_taggedIn_32 : decode cX2_taggedIn 32 = .ok (.lstore_n 3, 1) := by decide +kernel
theorem dX2_taggedIn_33 : decode cX2_taggedIn 33 = .ok (.iinc 5 1, 3) := by decide +kernel
theorem dX2_taggedIn_36 : decode cX2_taggedIn 36 = .ok (.goto (-31), 3) := by decide +kernel
theorem dX2_taggedIn_39 : decode cX2_taggedIn 39 = .ok (.lload_n 3, 1) := by decide +kernel
theorem dX2_taggedIn_40 : decode cX2_taggedIn 40 = .ok (.lreturn, 1) := by decide +kernel
def wX2_taggedIn (I : Nat → Int32) (L : Nat → Int64) (A : Nat → Nat → Int32) (B : Nat → Nat → Int64) (x1 : Int64) (post : Int64 → Prop) : Prop := ∃ n, lfix (fun (r : (Int32 × Int64) → Prop) (v5, v3) => if (I 1) ≤ v5 then (post v3) else (wX9_inSet x1 v5 (fun r17 => if r17 = 0 then (∀ v5_1 : Int32, v5_1 = v5 + 1 → r (v5_1, v3)) else (vp_in v5 40 ∧ (∀ v3_1 : Int64, v3_1 = v3 ||| (B 39 v5.toNatClampNeg) → ∀ v5_2 : Int32, v5_2 = v5 + 1 → r (v5_2, v3_1)))))) n (0, 0)
abbrev rmX2_taggedIn : Room := { frames := 1, cells := 0, slots := 0, locals := 22 }
theorem wd_X2_taggedIn : Cond.instanceMethod yX2_taggedIn ∈ BW ∧ Cond.selects yX2_taggedIn.cls yX2_taggedIn yX2_taggedIn ∈ BW ∧ Cond.initialized yX2_taggedIn.cls ∈ BW ∧ Cond.code yX2_taggedIn cX2_taggedIn 6 (some .long) ∈ BW := ⟨mw_2_146, mp_4, mw_1_2, mw_2_147⟩
set_option maxHeartbeats 4000000 in
set_option maxRecDepth 100000 in
theorem c_X2_taggedIn {l : Launch} {D : va_G} {cy : Nat → ClassId} {ad : Nat → Nat} {Ad : Nat → Prop} (hAd : adok 103 Ad ad) (I : Nat → Int32) (L : Nat → Int64) (A : Nat → Nat → Int32) (B : Nat → Nat → Int64) (x1 : Int64)  (post : Int64 → Prop) (h : wX2_taggedIn I L A B x1 post) : Met l yX2_taggedIn (.code yX2_taggedIn cX2_taggedIn 6 (some .long) :: BW) rmX2_taggedIn (va_Pc [.ref (ad 1), .long x1] (fun U => kC D cy U ∧ va_P D vwCl (wC cy ad I L A B) U.heap)) (qCl D cy ad Ad (fun r u => post r  ∧ I = u.1 ∧ L = u.2.1 ∧ A = u.2.2.1 ∧ B = u.2.2.2)) 0 0 Ad := by
  refine startCl (by decide) (Nat.le_of_ble_eq_true rfl) (lv := [(0, .ref (ad 1)), (1, .long x1)]) rfl (fun p e s m args below meth c Q ls hx hb hml hT hown hK hret hl hP hS => ?_)
  unfold wX2_taggedIn at h
  refine lv_lconst (v := 0) hx hb dX2_taggedIn_0 (by decide) ?_
  refine lv_lstore_n (lv' := [(3, .long 0), (0, .ref (ad 1)), (1, .long x1)]) hx hb dX2_taggedIn_1 rfl hl (by decide) rfl (fun ls hl => ?_)
  refine lv_iconst (v := 0) hx hb dX2_taggedIn_2 (by decide) ?_
  refine lv_istore (lv' := [(5, .int 0), (3, .long 0), (0, .ref (ad 1)), (1, .long x1)]) hx hb dX2_taggedIn_3 hl (by decide) rfl (fun ls hl => ?_)
  obtain ⟨F, n, h, hF, hG⟩ := lfix_ex h
  have LP : ∀ (n : Nat) (v5 : Int32) (v3 : Int64) (ls : Array Slot) (H : Heap) (locs : List Loc), F n (v5, v3) → lv_has ls 6 [(5, .int v5), (3, .long v3), (0, .ref (ad 1)), (1, .long x1)] → va_P D vwCl (wC cy ad I L A B) H → va_S Ad s.heap H locs → W p l e rmX2_taggedIn s m args below meth c H locs 0 0 Q (F0 m 5 ls []) := by
    intro n
    induction n with
    | zero => intro v5 v3 ls H locs h _ _ _; exact absurd h (hF _)
    | succ n ih =>
      intro v5 v3 ls H locs h hl hP hS
      replace h := hG _ _ h
      try dsimp only at h
      refine lv_iload hx hb dX2_taggedIn_5 (lv_at hl 0 rfl) ?_
      refine lv_aload_n hx hb dX2_taggedIn_7 rfl (lv_at hl 2 rfl) ?_
      refine va_get (T := TX2) hx hb hT inlX2 hown hK.1 hP 1 he_X2 rfl 5 (by decide) (hT _ mw_1_45) (fun _ h9 => h9) rfl dX2_taggedIn_8 ?_
      refine lv_icmp_ge (tgt := 39) hx hb dX2_taggedIn_11 (by decide) (fun hc => ?_) (fun hc => ?_)
      · rw [if_pos hc] at h
        refine lv_lload_n hx hb dX2_taggedIn_39 rfl (lv_at hl 1 rfl) ?_
        exact hret _ (I, L, A, B) dX2_taggedIn_40 ⟨h, rfl, rfl, rfl, rfl⟩ hP hS
      · rw [if_neg hc] at h
        refine lv_lload_n hx hb dX2_taggedIn_14 rfl (lv_at hl 3 rfl) ?_
        refine lv_iload hx hb dX2_taggedIn_15 (lv_at hl 0 rfl) ?_
        refine callNi (As := [.long x1, .int v5]) (rest := []) (n := 2) (c_X9_inSet x1 v5 _ h) hx hb hT hown hP hS (hK.2 _ (List.mem_of_getElem? (i := 0) rfl)) wd_X9_inSet (by decide +kernel) ⟨rfl, rfl⟩ (by decide) rfl hl.1 hml rfl (Nat.le_of_ble_eq_true rfl) dX2_taggedIn_17 ⟨Nat.zero_le _, Nat.zero_le _⟩ (fun r17 H locs h hP hS => ?_)
        try dsimp only at h
        refine lv_if_eq (tgt := 33) hx hb dX2_taggedIn_20 (by decide) (fun hc_1 => ?_) (fun hc_1 => ?_)
        · rw [if_pos hc_1] at h
          obtain ⟨v5_1, ev5_1⟩ : ∃ z : Int32, z = v5 + 1 := ⟨_, rfl⟩
          replace h := h v5_1 ev5_1
          refine lv_iinc (v := v5_1) (lv' := [(5, .int v5_1), (3, .long v3), (0, .ref (ad 1)), (1, .long x1)]) hx hb dX2_taggedIn_33 hl (k := 0) rfl (by rw [ev5_1]; rfl) (by decide) rfl (fun ls hl => ?_)
          refine lv_goto (tgt := 5) hx hb dX2_taggedIn_36 (by decide) ?_
          exact ih v5_1 v3 _ _ _ h (lv_sub hl [0, 1, 2, 3] rfl) hP hS
        · rw [if_neg hc_1] at h
          refine lv_lload_n hx hb dX2_taggedIn_23 rfl (lv_at hl 1 rfl) ?_
          refine lv_aload_n hx hb dX2_taggedIn_24 rfl (lv_at hl 2 rfl) ?_
          refine va_get (T := TX2) hx hb hT inlX2 hown hK.1 hP 1 he_X2 rfl 3 (by decide) (hT _ mw_1_40) (fun _ h9 => h9) rfl dX2_taggedIn_25 ?_
          refine lv_iload hx hb dX2_taggedIn_28 (lv_at hl 0 rfl) ?_
          obtain ⟨hi, h⟩ := h
          refine lC_J hx hb hK.1 hP (by decide) rfl hi dX2_taggedIn_30 ?_
          refine lv_lor hx hb dX2_taggedIn_31 ?_
          refine lv_topl (fun v3_1 ev3_1 => ?_)
          replace h := h v3_1 ev3_1
          refine lv_lstore_n (lv' := [(3, .long v3_1), (5, .int v5), (0, .ref (ad 1)), (1, .long x1)]) hx hb dX2_taggedIn_32 rfl hl (by decide) rfl (fun ls hl => ?_)
          obtain ⟨v5_2, ev5_2⟩ : ∃ z : Int32, z = v5 + 1 := ⟨_, rfl⟩
          replace h := h v5_2 ev5_2
          refine lv_iinc (v := v5_2) (lv' := [(5, .int v5_2), (3, .long v3_1), (0, .ref (ad 1)), (1, .long x1)]) hx hb dX2_taggedIn_33 hl (k := 1) rfl (by rw [ev5_2]; rfl) (by decide) rfl (fun ls hl => ?_)
          refine lv_goto (tgt := 5) hx hb dX2_taggedIn_36 (by decide) ?_
          exact ih v5_2 v3_1 _ _ _ h (lv_sub hl [0, 1, 2, 3] rfl) hP hS
  exact LP _ 0 0 _ _ _ h (lv_sub hl [0, 1, 2, 3] rfl) hP hS
theorem dX2_gather_0 : decode cX2_gather 0 = .ok (.iload_n 1, 1) := by decide +kernel
theorem dX2_gather_1 : decode cX2_gather 1 = .ok (.istore_n 2, 1) := by decide +kernel
theorem dX2_gather_2 : decode cX2_gather 2 = .ok (.iconst 0, 1) := by decide +kernel
theorem dX2_gather_3 : decode cX2_gather 3 = .ok (.istore_n 3, 1) := by decide +kernel
theorem dX2_gather_4 : decode cX2_gather 4 = .ok (.iload_n 3, 1) := by decide +kernel
theorem dX2_gather_5 : decode cX2_gather 5 = .ok (.iconst 5, 1) := by decide +kernel
theorem dX2_gather_6 : decode cX2_gather 6 = .ok (.if_icmp .gt 45, 3) := by decide +kernel
theorem dX2_gather_9 : decode cX2_gather 9 = .ok (.aload_n 0, 1) := by decide +kernel
theorem dX2_gather_10 : decode cX2_gather 10 = .ok (.iload_n 2, 1) := by decide +kernel
theorem dX2_gather_11 : decode cX2_gather 11 = .ok (.invokevirtual 40, 3) := by decide +kernel
theorem dX2_gather_14 : decode cX2_gather 14 = .ok (.ifCond .eq 37, 3) := by decide +kernel
theorem dX2_gather_17 : decode cX2_gather 17 = .ok (.aload_n 0, 1) := by decide +kernel
theorem dX2_gather_18 : decode cX2_gather 18 = .ok (.getfield 25, 3) := by decide +kernel
theorem dX2_gather_21 : decode cX2_gather 21 = .ok (.iload_n 2, 1) := by decide +kernel
theorem dX2_gather_22 : decode cX2_gather 22 = .ok (.aload_n 0, 1) := by decide +kernel
theorem dX2_gather_23 : decode cX2_gather 23 = .ok (.aload_n 0, 1) := by decide +kernel
theorem dX2_gather_24 : decode cX2_gather 24 = .ok (.getfield 18, 3) := by decide +kernel
theorem dX2_gather_27 : decode cX2_gather 27 = .ok (.iload_n 2, 1) := by decide +kernel
theorem dX2_gather_28 : decode cX2_gather 28 = .ok (.laload, 1) := by decide +kernel
theorem dX2_gather_29 : decode cX2_gather 29 = .ok (.iload_n 2, 1) := by decide +kernel
theorem dX2_gather_30 : decode cX2_gather 30 = .ok (.invokestatic 32, 3) := by decide +kernel
theorem dX2_gather_33 : decode cX2_gather 33 = .ok (.lor, 1) := by decide +kernel
theorem dX2_gather_34 : decode cX2_gather 34 = .ok (.invokevirtual 50, 3) := by decide +kernel
theorem dX2_gather_37 : decode cX2_gather 37 = .ok (.lastore, 1) := by decide +kernel
theorem dX2_gather_38 : decode cX2_gather 38 = .ok (.aload_n 0, 1) := by decide +kernel
theorem dX2_gather_39 : decode cX2_gather 39 = .ok (.getfield 15, 3) := by decide +kernel
theorem dX2_gather_42 : decode cX2_gather 42 = .ok (.iload_n 2, 1) := by decide +kernel
theorem dX2_gather_43 : decode cX2_gather 43 = .ok (.iaload, 1) := by decide +kernel
theorem dX2_gather_44 : decode cX2_gather 44 = .ok (.istore_n 2, 1) := by decide +kernel
theorem dX2_gather_45 : decode cX2_gather 45 = .ok (.iinc 3 1, 3) := by decide +kernel
theorem dX2_gather_48 : decode cX2_gather 48 = .ok (.goto (-44), 3) := by decide +kernel
theorem dX2_gather_51 : decode cX2_gather 51 = .ok (.return_, 1) := by decide +kernel
def wX2_gather (I : Nat → Int32) (L : Nat → Int64) (A : Nat → Nat → Int32) (B : Nat → Nat → Int64) (x1 : Int32) (post : (Nat → Nat → Int64) → Prop) : Prop := ∃ n, lfix (fun (r : (Int32 × Int32 × (Nat → Nat → Int64)) → Prop) (v3, v2, B_1) => if 5 < v3 then (post B_1) else (wX2_knows I L A B_1 v2 (fun r11 => if r11 = 0 then (post B_1) else (vp_in v2 40 ∧ (wX9_bit v2 (fun r30 => wX2_taggedIn I L A B_1 ((B_1 38 v2.toNatClampNeg) ||| r30) (fun r34 => vp_in v2 40 ∧ (∀ B_2, B_2 = va_up B_1 40 (vp_updL (B_1 40) v2.toNatClampNeg r34) → vp_in v2 40 ∧ (∀ v2_1 : Int32, v2_1 = A 37 v2.toNatClampNeg → ∀ v3_1 : Int32, v3_1 = v3 + 1 → r (v3_1, v2_1, B_2)))))))))) n (0, x1, B)
abbrev rmX2_gather : Room := { frames := 2, cells := 0, slots := 0, locals := 47 }
theorem wd_X2_gather : Cond.instanceMethod yX2_gather ∈ BW ∧ Cond.selects yX2_gather.cls yX2_gather yX2_gather ∈ BW ∧ Cond.initialized yX2_gather.cls ∈ BW ∧ Cond.code yX2_gather cX2_gather 4 (none : Option Jvm.ClassFile.FieldType) ∈ BW := ⟨mw_2_142, mp_3, mw_1_2, mw_2_143⟩
set_option maxHeartbeats 4000000 in
set_option maxRecDepth 100000 in
theorem c_X2_gather {l : Launch} {D : va_G} {cy : Nat → ClassId} {ad : Nat → Nat} {Ad : Nat → Prop} (hAd : adok 103 Ad ad) (I : Nat → Int32) (L : Nat → Int64) (A : Nat → Nat → Int32) (B : Nat → Nat → Int64) (x1 : Int32)  (post : (Nat → Nat → Int64) → Prop) (h : wX2_gather I L A B x1 post) : Met l yX2_gather (.code yX2_gather cX2_gather 4 (none : Option Jvm.ClassFile.FieldType) :: BW) rmX2_gather (va_Pc [.ref (ad 1), .int x1] (fun U => kC D cy U ∧ va_P D vwCl (wC cy ad I L A B) U.heap)) (qCv D cy ad Ad (fun u => post u.2.2.2 ∧ I = u.1 ∧ L = u.2.1 ∧ A = u.2.2.1)) 0 0 Ad := by
  refine startCv (by decide) (Nat.le_of_ble_eq_true rfl) (lv := [(0, .ref (ad 1)), (1, .int x1)]) rfl (fun p e s m args below meth c Q ls hx hb hml hT hown hK hret hl hP hS => ?_)
  unfold wX2_gather at h
  refine lv_iload_n hx hb dX2_gather_0 rfl (lv_at hl 1 rfl) ?_
  refine lv_istore_n (lv' := [(2, .int x1), (0, .ref (ad 1)), (1, .int x1)]) hx hb dX2_gather_1 rfl hl (by decide) rfl (fun ls hl => ?_)
  refine lv_iconst (v := 0) hx hb dX2_gather_2 (by decide) ?_
  refine lv_istore_n (lv' := [(3, .int 0), (2, .int x1), (0, .ref (ad 1)), (1, .int x1)]) hx hb dX2_gather_3 rfl hl (by decide) rfl (fun ls hl => ?_)
  obtain ⟨F, n, h, hF, hG⟩ := lfix_ex h
  have LP : ∀ (n : Nat) (v3 : Int32) (v2 : Int32) (B_1 : Nat → Nat → Int64) (ls : Array Slot) (H : Heap) (locs : List Loc), F n (v3, v2, B_1) → lv_has ls 4 [(3, .int v3), (2, .int v2), (0, .ref (ad 1))] → va_P D vwCl (wC cy ad I L A B_1) H → va_S Ad s.heap H locs → W p l e rmX2_gather s m args below meth c H locs 0 0 Q (F0 m 4 ls []) := by
    intro n
    induction n with
    | zero => intro v3 v2 B_1 ls H locs h _ _ _; exact absurd h (hF _)
    | succ n ih =>
      intro v3 v2 B_1 ls H locs h hl hP hS
      replace h := hG _ _ h
      try dsimp only at h
      refine lv_iload_n hx hb dX2_gather_4 rfl (lv_at hl 0 rfl) ?_
      refine lv_iconst (v := 5) hx hb dX2_gather_5 (by decide) ?_
      refine lv_icmp_gt (tgt := 51) hx hb dX2_gather_6 (by decide) (fun hc => ?_) (fun hc => ?_)
      · rw [if_pos hc] at h
        exact hret (I, L, A, B_1) dX2_gather_51 ⟨h, rfl, rfl, rfl⟩ hP hS
      · rw [if_neg hc] at h
        refine lv_aload_n hx hb dX2_gather_9 rfl (lv_at hl 2 rfl) ?_
        refine lv_iload_n hx hb dX2_gather_10 rfl (lv_at hl 1 rfl) ?_
        refine callCi (k := 1) (As := [.int v2]) (rest := []) (n := 1) (c_X2_knows hAd I L A B_1 v2 _ h) hx hb hT hown hK hP hS mw_2_109 wd_X2_knows (by decide +kernel) ⟨rfl, rfl⟩ (by decide) rfl rfl he_X2 rfl hl.1 hml rfl (Nat.le_of_ble_eq_true rfl) dX2_gather_11 ⟨Nat.zero_le _, Nat.zero_le _⟩ (fun r11 u H locs h hP hS => ?_)
        obtain ⟨Iu, Lu, Au, Bu⟩ := u
        dsimp only at h hP
        obtain ⟨h, rfl, rfl, rfl, rfl⟩ := h
        try dsimp only at h
        refine lv_if_eq (tgt := 51) hx hb dX2_gather_14 (by decide) (fun hc_1 => ?_) (fun hc_1 => ?_)
        · rw [if_pos hc_1] at h
          exact hret (I, L, A, B_1) dX2_gather_51 ⟨h, rfl, rfl, rfl⟩ hP hS
        · rw [if_neg hc_1] at h
          refine lv_aload_n hx hb dX2_gather_17 rfl (lv_at hl 2 rfl) ?_
          refine va_get (T := TX2) hx hb hT inlX2 hown hK.1 hP 1 he_X2 rfl 4 (by decide) (hT _ mw_1_42) (fun _ h9 => h9) rfl dX2_gather_18 ?_
          refine lv_iload_n hx hb dX2_gather_21 rfl (lv_at hl 1 rfl) ?_
          refine lv_aload_n hx hb dX2_gather_22 rfl (lv_at hl 2 rfl) ?_
          refine lv_aload_n hx hb dX2_gather_23 rfl (lv_at hl 2 rfl) ?_
          refine va_get (T := TX2) hx hb hT inlX2 hown hK.1 hP 1 he_X2 rfl 2 (by decide) (hT _ mw_1_38) (fun _ h9 => h9) rfl dX2_gather_24 ?_
          refine lv_iload_n hx hb dX2_gather_27 rfl (lv_at hl 1 rfl) ?_
          obtain ⟨hi, h⟩ := h
          refine lC_J hx hb hK.1 hP (by decide) rfl hi dX2_gather_28 ?_
          refine lv_iload_n hx hb dX2_gather_29 rfl (lv_at hl 1 rfl) ?_
          refine callNl (As := [.int v2]) (rest := [.long (B_1 38 v2.toNatClampNeg), .ref (ad 1), .int v2, .ref (ad 40)]) (n := 1) (c_X9_bit v2 _ h) hx hb hT hown hP hS (hK.2 _ (List.mem_of_getElem? (i := 3) rfl)) wd_X9_bit (by decide +kernel) ⟨rfl, rfl⟩ (by decide) rfl hl.1 hml rfl (Nat.le_of_ble_eq_true rfl) dX2_gather_30 ⟨Nat.zero_le _, Nat.zero_le _⟩ (fun r30 H locs h hP hS => ?_)
          try dsimp only at h
          refine lv_lor hx hb dX2_gather_33 ?_
          refine callCl (k := 1) (As := [.long ((B_1 38 v2.toNatClampNeg) ||| r30)]) (rest := [.int v2, .ref (ad 40)]) (n := 1) (c_X2_taggedIn hAd I L A B_1 ((B_1 38 v2.toNatClampNeg) ||| r30) _ h) hx hb hT hown hK hP hS mw_2_144 wd_X2_taggedIn (by decide +kernel) ⟨rfl, rfl⟩ (by decide) rfl rfl he_X2 rfl hl.1 hml rfl (Nat.le_of_ble_eq_true rfl) dX2_gather_34 ⟨Nat.zero_le _, Nat.zero_le _⟩ (fun r34 u H locs h hP hS => ?_)
          obtain ⟨Iu_1, Lu_1, Au_1, Bu_1⟩ := u
          dsimp only at h hP
          obtain ⟨h, rfl, rfl, rfl, rfl⟩ := h
          try dsimp only at h
          obtain ⟨hi_1, h⟩ := h
          refine sC_J hAd hx hb hK.1 hP hS (by decide) (fun _ => rfl) hi_1 dX2_gather_37 (fun H locs hP hS => ?_)
          obtain ⟨B_2, eB_2⟩ : ∃ z, z = va_up B_1 40 (vp_updL (B_1 40) v2.toNatClampNeg r34) := ⟨_, rfl⟩
          rw [← eB_2] at hP
          replace h := h B_2 eB_2
          refine lv_aload_n hx hb dX2_gather_38 rfl (lv_at hl 2 rfl) ?_
          refine va_get (T := TX2) hx hb hT inlX2 hown hK.1 hP 1 he_X2 rfl 1 (by decide) (hT _ mw_1_36) (fun _ h9 => h9) rfl dX2_gather_39 ?_
          refine lv_iload_n hx hb dX2_gather_42 rfl (lv_at hl 1 rfl) ?_
          obtain ⟨hi_2, h⟩ := h
          refine lC_I hx hb hK.1 hP (by decide) rfl hi_2 dX2_gather_43 ?_
          refine lv_topi (fun v2_1 ev2_1 => ?_)
          replace h := h v2_1 ev2_1
          refine lv_istore_n (lv' := [(2, .int v2_1), (3, .int v3), (0, .ref (ad 1))]) hx hb dX2_gather_44 rfl hl (by decide) rfl (fun ls hl => ?_)
          obtain ⟨v3_1, ev3_1⟩ : ∃ z : Int32, z = v3 + 1 := ⟨_, rfl⟩
          replace h := h v3_1 ev3_1
          refine lv_iinc (v := v3_1) (lv' := [(3, .int v3_1), (2, .int v2_1), (0, .ref (ad 1))]) hx hb dX2_gather_45 hl (k := 1) rfl (by rw [ev3_1]; rfl) (by decide) rfl (fun ls hl => ?_)
          refine lv_goto (tgt := 4) hx hb dX2_gather_48 (by decide) ?_
          exact ih v3_1 v2_1 B_2 _ _ _ h (lv_sub hl [0, 1, 2] rfl) hP hS
  exact LP _ 0 x1 B _ _ _ h (lv_sub hl [0, 1, 2] rfl) hP hS
theorem dX2_hang_0 : decode cX2_hang 0 = .ok (.aload_n 0, 1) := by decide +kernel
theorem dX2_hang_1 : decode cX2_hang 1 = .ok (.getfield 15, 3) := by decide +kernel
theorem dX2_hang_4 : decode cX2_hang 4 = .ok (.iload_n 1, 1) := by decide +kernel
theorem dX2_hang_5 : decode cX2_hang 5 = .ok (.iaload, 1) := by decide +kernel
theorem dX2_hang_6 : decode cX2_hang 6 = .ok (.istore_n 3, 1) := by decide +kernel
theorem dX2_hang_7 : decode cX2_hang 7 = .ok (.aload_n 0, 1) := by decide +kernel
theorem dX2_hang_8 : decode cX2_hang 8 = .ok (.getfield 18, 3) := by decide +kernel
theorem dX2_hang_11 : decode cX2_hang 11 = .ok (.iload_n 1, 1) := by decide +kernel
theorem dX2_hang_12 : decode cX2_hang 12 = .ok (.laload, 1) := by decide +kernel
theorem dX2_hang_13 : decode cX2_hang 13 = .ok (.iload_n 1, 1) := by decide +kernel
theorem dX2_hang_14 : decode cX2_hang 14 = .ok (.invokestatic 32, 3) := by decide +kernel
theorem dX2_hang_17 : decode cX2_hang 17 = .ok (.lor, 1) := by decide +kernel
theorem dX2_hang_18 : decode cX2_hang 18 = .ok (.lstore 4, 2) := by decide +kernel
theorem dX2_hang_20 : decode cX2_hang 20 = .ok (.iload_n 3, 1) := by decide +kernel
theorem dX2_hang_21 : decode cX2_hang 21 = .ok (.istore 6, 2) := by decide +kernel
theorem dX2_hang_23 : decode cX2_hang 23 = .ok (.iconst 0, 1) := by decide +kernel
theorem dX2_hang_24 : decode cX2_hang 24 = .ok (.istore 7, 2) := by decide +kernel
theorem dX2_hang_26 : decode cX2_hang 26 = .ok (.iload 7, 2) := by decide +kernel
theorem dX2_hang_28 : decode cX2_hang 28 = .ok (.iconst 5, 1) := by decide +kernel
theorem dX2_hang_29 : decode cX2_hang 29 = .ok (.if_icmp .gt 43, 3) := by decide +kernel
theorem dX2_hang_32 : decode cX2_hang 32 = .ok (.aload_n 0, 1) := by decide +kernel
theorem dX2_hang_33 : decode cX2_hang 33 = .ok (.iload 6, 2) := by decide +kernel
theorem dX2_hang_35 : decode cX2_hang 35 = .ok (.invokevirtual 40, 3) := by decide +kernel
theorem dX2_hang_38 : decode cX2_hang 38 = .ok (.ifCond .eq 34, 3) := by decide +kernel
theorem dX2_hang_41 : decode cX2_hang 41 = .ok (.aload_n 0, 1) := by decide +kernel
theorem dX2_hang_42 : decode cX2_hang 42 = .ok (.getfield 18, 3) := by decide +kernel
theorem dX2_hang_45 : decode cX2_hang 45 = .ok (.iload 6, 2) := by decide +kernel
theorem dX2_hang_47 : decode cX2_hang 47 = .ok (.dup2, 1) := by decide +kernel
theorem dX2_hang_48 : decode cX2_hang 48 = .ok (.laload, 1) := by decide +kernel
theorem dX2_hang_49 : decode cX2_hang 49 = .ok (.lload 4, 2) := by decide +kernel
theorem dX2_hang_51 : decode cX2_hang 51 = .ok (.ldc2_w 44, 3) := by decide +kernel
theorem dX2_hang_54 : decode cX2_hang 54 = .ok (.lxor, 1) := by decide +kernel
theorem dX2_hang_55 : decode cX2_hang 55 = .ok (.land, 1) := by decide +kernel
theorem dX2_hang_56 : decode cX2_hang 56 = .ok (.lastore, 1) := by decide +kernel
theorem dX2_hang_57 : decode cX2_hang 57 = .ok (.aload_n 0, 1) := by decide +kernel
theorem dX2_hang_58 : decode cX2_hang 58 = .ok (.getfield 15, 3) := by decide +kernel
theorem dX2_hang_61 : decode cX2_hang 61 = .ok (.iload 6, 2) := by decide +kernel
theorem dX2_hang_63 : decode cX2_hang 63 = .ok (.iaload, 1) := by decide +kernel
theorem dX2_hang_64 : decode cX2_hang 64 = .ok (.istore 6, 2) := by decide +kernel
theorem dX2_hang_66 : decode cX2_hang 66 = .ok (.iinc 7 1, 3) := by decide +kernel
theorem dX2_hang_69 : decode cX2_hang 69 = .ok (.goto (-43), 3) := by decide +kernel
theorem dX2_hang_72 : decode cX2_hang 72 = .ok (.aload_n 0, 1) := by decide +kernel
theorem dX2_hang_73 : decode cX2_hang 73 = .ok (.getfield 15, 3) := by decide +kernel
theorem dX2_hang_76 : decode cX2_hang 76 = .ok (.iload_n 1, 1) := by decide +kernel
theorem dX2_hang_77 : decode cX2_hang 77 = .ok (.iload_n 2, 1) := by decide +kernel
theorem dX2_hang_78 : decode cX2_hang 78 = .ok (.iastore, 1) := by decide +kernel
theorem dX2_hang_79 : decode cX2_hang 79 = .ok (.aload_n 0, 1) := by decide +kernel
theorem dX2_hang_80 : decode cX2_hang 80 = .ok (.iload_n 2, 1) := by decide +kernel
theorem dX2_hang_81 : decode cX2_hang 81 = .ok (.lload 4, 2) := by decide +kernel
theorem dX2_hang_83 : decode cX2_hang 83 = .ok (.invokevirtual 36, 3) := by decide +kernel
theorem dX2_hang_86 : decode cX2_hang 86 = .ok (.aload_n 0, 1) := by decide +kernel
theorem dX2_hang_87 : decode cX2_hang 87 = .ok (.iload_n 3, 1) := by decide +kernel
theorem dX2_hang_88 : decode cX2_hang 88 = .ok (.invokevirtual 46, 3) := by decide +kernel
theorem dX2_hang_91 : decode cX2_hang 91 = .ok (.aload_n 0, 1) := by decide +kernel
theorem dX2_hang_92 : decode cX2_hang 92 = .ok (.iload_n 2, 1) := by decide +kernel
theorem dX2_hang_93 : decode cX2_hang 93 = .ok (.invokevirtual 46, 3) := by decide +kernel
theorem dX2_hang_96 : decode cX2_hang 96 = .ok (.return_, 1) := by decide +kernel
def wX2_hang (I : Nat → Int32) (L : Nat → Int64) (A : Nat → Nat → Int32) (B : Nat → Nat → Int64) (x1 : Int32) (x2 : Int32) (post : (Nat → Nat → Int32) → (Nat → Nat → Int64) → Prop) : Prop := vp_in x1 40 ∧ (∀ v3 : Int32, v3 = A 37 x1.toNatClampNeg → vp_in x1 40 ∧ (wX9_bit x1 (fun r14 => ∀ v4 : Int64, v4 = (B 38 x1.toNatClampNeg) ||| r14 → ∃ n, lfix (fun (r : (Int32 × Int32 × (Nat → Nat → Int64)) → Prop) (v7, v6, B_1) => jn (fun (_ : Unit) => vp_in x1 40 ∧ (∀ A_1, A_1 = va_up A 37 (upd (A 37) x1.toNatClampNeg x2) → wX2_hangUnder I L A_1 B_1 x2 v4 (fun B_2 => wX2_gather I L A_1 B_2 v3 (fun B_3 => wX2_gather I L A_1 B_3 x2 (fun B_4 => post A_1 B_4))))) (fun k => if 5 < v7 then (k ()) else (wX2_knows I L A B_1 v6 (fun r35 => if r35 = 0 then (k ()) else (vp_in v6 40 ∧ (vp_in v6 40 ∧ (∀ B_5, B_5 = va_up B_1 38 (vp_updL (B_1 38) v6.toNatClampNeg ((B_1 38 v6.toNatClampNeg) &&& (v4 ^^^ (-1)))) → vp_in v6 40 ∧ (∀ v6_1 : Int32, v6_1 = A 37 v6.toNatClampNeg → ∀ v7_1 : Int32, v7_1 = v7 + 1 → r (v7_1, v6_1, B_5))))))))) n (0, v3, B))))
abbrev rmX2_hang : Room := { frames := 3, cells := 0, slots := 0, locals := 70 }
theorem wd_X2_hang : Cond.instanceMethod yX2_hang ∈ BW ∧ Cond.selects yX2_hang.cls yX2_hang yX2_hang ∈ BW ∧ Cond.initialized yX2_hang.cls ∈ BW ∧ Cond.code yX2_hang cX2_hang 8 (none : Option Jvm.ClassFile.FieldType) ∈ BW := ⟨mw_2_137, mw_2_138, mw_1_2, mw_2_139⟩
set_option maxHeartbeats 4000000 in
set_option maxRecDepth 100000 in
theorem c_X2_hang {l : Launch} {D : va_G} {cy : Nat → ClassId} {ad : Nat → Nat} {Ad : Nat → Prop} (hAd : adok 103 Ad ad) (I : Nat → Int32) (L : Nat → Int64) (A : Nat → Nat → Int32) (B : Nat → Nat → Int64) (x1 : Int32) (x2 : Int32)  (post : (Nat → Nat → Int32) → (Nat → Nat → Int64) → Prop) (h : wX2_hang I L A B x1 x2 post) : Met l yX2_hang (.code yX2_hang cX2_hang 8 (none : Option Jvm.ClassFile.FieldType) :: BW) rmX2_hang (va_Pc [.ref (ad 1), .int x1, .int x2] (fun U => kC D cy U ∧ va_P D vwCl (wC cy ad I L A B) U.heap)) (qCv D cy ad Ad (fun u => post u.2.2.1 u.2.2.2 ∧ I = u.1 ∧ L = u.2.1)) 0 0 Ad := by
  refine startCv (by decide) (Nat.le_of_ble_eq_true rfl) (lv := [(0, .ref (ad 1)), (1, .int x1), (2, .int x2)]) rfl (fun p e s m args below meth c Q ls hx hb hml hT hown hK hret hl hP hS => ?_)
  unfold wX2_hang at h
  refine lv_aload_n hx hb dX2_hang_0 rfl (lv_at hl 0 rfl) ?_
  refine va_get (T := TX2) hx hb hT inlX2 hown hK.1 hP 1 he_X2 rfl 1 (by decide) (hT _ mw_1_36) (fun _ h9 => h9) rfl dX2_hang_1 ?_
  refine lv_iload_n hx hb dX2_hang_4 rfl (lv_at hl 1 rfl) ?_
  obtain ⟨hi, h⟩ := h
  refine lC_I hx hb hK.1 hP (by decide) rfl hi dX2_hang_5 ?_
  refine lv_topi (fun v3 ev3 => ?_)
  replace h := h v3 ev3
  refine lv_istore_n (lv' := [(3, .int v3), (0, .ref (ad 1)), (1, .int x1), (2, .int x2)]) hx hb dX2_hang_6 rfl hl (by decide) rfl (fun ls hl => ?_)
  refine lv_aload_n hx hb dX2_hang_7 rfl (lv_at hl 1 rfl) ?_
  refine va_get (T := TX2) hx hb hT inlX2 hown hK.1 hP 1 he_X2 rfl 2 (by decide) (hT _ mw_1_38) (fun _ h9 => h9) rfl dX2_hang_8 ?_
  refine lv_iload_n hx hb dX2_hang_11 rfl (lv_at hl 2 rfl) ?_
  obtain ⟨hi_1, h⟩ := h
  refine lC_J hx hb hK.1 hP (by decide) rfl hi_1 dX2_hang_12 ?_
  refine lv_iload_n hx hb dX2_hang_13 rfl (lv_at hl 2 rfl) ?_
  refine callNl (As := [.int x1]) (rest := [.long (B 38 x1.toNatClampNeg)]) (n := 1) (c_X9_bit x1 _ h) hx hb hT hown hP hS (hK.2 _ (List.mem_of_getElem? (i := 3) rfl)) wd_X9_bit (by decide +kernel) ⟨rfl, rfl⟩ (by decide) rfl hl.1 hml rfl (Nat.le_of_ble_eq_true rfl) dX2_hang_14 ⟨Nat.zero_le _, Nat.zero_le _⟩ (fun r14 H locs h hP hS => ?_)
  try dsimp only at h
  refine lv_lor hx hb dX2_hang_17 ?_
  refine lv_topl (fun v4 ev4 => ?_)
  replace h := h v4 ev4
  refine lv_lstore (lv' := [(4, .long v4), (3, .int v3), (0, .ref (ad 1)), (1, .int x1), (2, .int x2)]) hx hb dX2_hang_18 hl (by decide) rfl (fun ls hl => ?_)
  refine lv_iload_n hx hb dX2_hang_20 rfl (lv_at hl 1 rfl) ?_
  refine lv_istore (lv' := [(6, .int v3), (4, .long v4), (3, .int v3), (0, .ref (ad 1)), (1, .int x1), (2, .int x2)]) hx hb dX2_hang_21 hl (by decide) rfl (fun ls hl => ?_)
  refine lv_iconst (v := 0) hx hb dX2_hang_23 (by decide) ?_
  refine lv_istore (lv' := [(7, .int 0), (6, .int v3), (4, .long v4), (3, .int v3), (0, .ref (ad 1)), (1, .int x1), (2, .int x2)]) hx hb dX2_hang_24 hl (by decide) rfl (fun ls hl => ?_)
  obtain ⟨F, n, h, hF, hG⟩ := lfix_ex h
  have LP : ∀ (n : Nat) (v7 : Int32) (v6 : Int32) (B_1 : Nat → Nat → Int64) (ls : Array Slot) (H : Heap) (locs : List Loc), F n (v7, v6, B_1) → lv_has ls 8 [(7, .int v7), (6, .int v6), (4, .long v4), (3, .int v3), (0, .ref (ad 1)), (1, .int x1), (2, .int x2)] → va_P D vwCl (wC cy ad I L A B_1) H → va_S Ad s.heap H locs → W p l e rmX2_hang s m args below meth c H locs 0 0 Q (F0 m 26 ls []) := by
    intro n
    induction n with
    | zero => intro v7 v6 B_1 ls H locs h _ _ _; exact absurd h (hF _)
    | succ n ih =>
      intro v7 v6 B_1 ls H locs h hl hP hS
      replace h := hG _ _ h
      try dsimp only at h
      refine lv_iload hx hb dX2_hang_26 (lv_at hl 0 rfl) ?_
      refine lv_iconst (v := 5) hx hb dX2_hang_28 (by decide) ?_
      obtain ⟨k, hk, h⟩ := jn_ex h
      try dsimp only at h
      have J : k () → ∀ (ls : Array Slot) (H : Heap) (locs : List Loc), lv_has ls 8 [(4, .long v4), (3, .int v3), (0, .ref (ad 1)), (1, .int x1), (2, .int x2)] → va_P D vwCl (wC cy ad I L A B_1) H → va_S Ad s.heap H locs → W p l e rmX2_hang s m args below meth c H locs 0 0 Q (F0 m 72 ls []) := by
        intro  h ls H locs hl hP hS
        replace h := hk _ h
        try dsimp only at h
        refine lv_aload_n hx hb dX2_hang_72 rfl (lv_at hl 2 rfl) ?_
        refine va_get (T := TX2) hx hb hT inlX2 hown hK.1 hP 1 he_X2 rfl 1 (by decide) (hT _ mw_1_36) (fun _ h9 => h9) rfl dX2_hang_73 ?_
        refine lv_iload_n hx hb dX2_hang_76 rfl (lv_at hl 3 rfl) ?_
        refine lv_iload_n hx hb dX2_hang_77 rfl (lv_at hl 4 rfl) ?_
        obtain ⟨hi_2, h⟩ := h
        refine sC_I hAd hx hb hK.1 hP hS (by decide) (fun _ => rfl) hi_2 dX2_hang_78 (fun H locs hP hS => ?_)
        obtain ⟨A_1, eA_1⟩ : ∃ z, z = va_up A 37 (upd (A 37) x1.toNatClampNeg x2) := ⟨_, rfl⟩
        rw [← eA_1] at hP
        replace h := h A_1 eA_1
        refine lv_aload_n hx hb dX2_hang_79 rfl (lv_at hl 2 rfl) ?_
        refine lv_iload_n hx hb dX2_hang_80 rfl (lv_at hl 4 rfl) ?_
        refine lv_lload hx hb dX2_hang_81 (lv_at hl 0 rfl) ?_
        refine callCv (k := 1) (As := [.int x2, .long v4]) (rest := []) (n := 2) (c_X2_hangUnder hAd I L A_1 B_1 x2 v4 _ h) hx hb hT hown hK hP hS mw_2_115 wd_X2_hangUnder (by decide +kernel) ⟨rfl, rfl⟩ (by decide) rfl rfl he_X2 rfl hl.1 hml rfl (Nat.le_of_ble_eq_true rfl) dX2_hang_83 ⟨Nat.zero_le _, Nat.zero_le _⟩ (fun u H locs h hP hS => ?_)
        obtain ⟨Iu, Lu, Au, B_2⟩ := u
        dsimp only at h hP
        obtain ⟨h, rfl, rfl, rfl⟩ := h
        try dsimp only at h
        refine lv_aload_n hx hb dX2_hang_86 rfl (lv_at hl 2 rfl) ?_
        refine lv_iload_n hx hb dX2_hang_87 rfl (lv_at hl 1 rfl) ?_
        refine callCv (k := 1) (As := [.int v3]) (rest := []) (n := 1) (c_X2_gather hAd I L A_1 B_2 v3 _ h) hx hb hT hown hK hP hS mw_2_140 wd_X2_gather (by decide +kernel) ⟨rfl, rfl⟩ (by decide) rfl rfl he_X2 rfl hl.1 hml rfl (Nat.le_of_ble_eq_true rfl) dX2_hang_88 ⟨Nat.zero_le _, Nat.zero_le _⟩ (fun u H locs h hP hS => ?_)
        obtain ⟨Iu_1, Lu_1, Au_1, B_3⟩ := u
        dsimp only at h hP
        obtain ⟨h, rfl, rfl, rfl⟩ := h
        try dsimp only at h
        refine lv_aload_n hx hb dX2_hang_91 rfl (lv_at hl 2 rfl) ?_
        refine lv_iload_n hx hb dX2_hang_92 rfl (lv_at hl 4 rfl) ?_
        refine callCv (k := 1) (As := [.int x2]) (rest := []) (n := 1) (c_X2_gather hAd I L A_1 B_3 x2 _ h) hx hb hT hown hK hP hS mw_2_140 wd_X2_gather (by decide +kernel) ⟨rfl, rfl⟩ (by decide) rfl rfl he_X2 rfl hl.1 hml rfl (Nat.le_of_ble_eq_true rfl) dX2_hang_93 ⟨Nat.zero_le _, Nat.zero_le _⟩ (fun u H locs h hP hS => ?_)
        obtain ⟨Iu_2, Lu_2, Au_2, B_4⟩ := u
        dsimp only at h hP
        obtain ⟨h, rfl, rfl, rfl⟩ := h
        try dsimp only at h
        exact hret (I, L, A_1, B_4) dX2_hang_96 ⟨h, rfl, rfl⟩ hP hS
      refine lv_icmp_gt (tgt := 72) hx hb dX2_hang_29 (by decide) (fun hc => ?_) (fun hc => ?_)
      · rw [if_pos hc] at h
        exact J  h _ _ _ (lv_sub hl [2, 3, 4, 5, 6] rfl) hP hS
      · rw [if_neg hc] at h
        refine lv_aload_n hx hb dX2_hang_32 rfl (lv_at hl 4 rfl) ?_
        refine lv_iload hx hb dX2_hang_33 (lv_at hl 1 rfl) ?_
        refine callCi (k := 1) (As := [.int v6]) (rest := []) (n := 1) (c_X2_knows hAd I L A B_1 v6 _ h) hx hb hT hown hK hP hS mw_2_109 wd_X2_knows (by decide +kernel) ⟨rfl, rfl⟩ (by decide) rfl rfl he_X2 rfl hl.1 hml rfl (Nat.le_of_ble_eq_true rfl) dX2_hang_35 ⟨Nat.zero_le _, Nat.zero_le _⟩ (fun r35 u H locs h hP hS => ?_)
        obtain ⟨Iu_3, Lu_3, Au_3, Bu⟩ := u
        dsimp only at h hP
        obtain ⟨h, rfl, rfl, rfl, rfl⟩ := h
        try dsimp only at h
        refine lv_if_eq (tgt := 72) hx hb dX2_hang_38 (by decide) (fun hc_1 => ?_) (fun hc_1 => ?_)
        · rw [if_pos hc_1] at h
          exact J  h _ _ _ (lv_sub hl [2, 3, 4, 5, 6] rfl) hP hS
        · rw [if_neg hc_1] at h
          refine lv_aload_n hx hb dX2_hang_41 rfl (lv_at hl 4 rfl) ?_
          refine va_get (T := TX2) hx hb hT inlX2 hown hK.1 hP 1 he_X2 rfl 2 (by decide) (hT _ mw_1_38) (fun _ h9 => h9) rfl dX2_hang_42 ?_
          refine lv_iload hx hb dX2_hang_45 (lv_at hl 1 rfl) ?_
          refine lv_dup2_11 hx hb dX2_hang_47 rfl rfl ?_
          obtain ⟨hi_3, h⟩ := h
          refine lC_J hx hb hK.1 hP (by decide) rfl hi_3 dX2_hang_48 ?_
          refine lv_lload hx hb dX2_hang_49 (lv_at hl 2 rfl) ?_
          refine lv_ldc2 (v := (-1)) hx hb hown (hT _ mw_2_65) dX2_hang_51 ?_
          refine lv_lxor hx hb dX2_hang_54 ?_
          refine lv_land hx hb dX2_hang_55 ?_
          obtain ⟨hi_4, h⟩ := h
          refine sC_J hAd hx hb hK.1 hP hS (by decide) (fun _ => rfl) hi_4 dX2_hang_56 (fun H locs hP hS => ?_)
          obtain ⟨B_5, eB_5⟩ : ∃ z, z = va_up B_1 38 (vp_updL (B_1 38) v6.toNatClampNeg ((B_1 38 v6.toNatClampNeg) &&& (v4 ^^^ (-1)))) := ⟨_, rfl⟩
          rw [← eB_5] at hP
          replace h := h B_5 eB_5
          refine lv_aload_n hx hb dX2_hang_57 rfl (lv_at hl 4 rfl) ?_
          refine va_get (T := TX2) hx hb hT inlX2 hown hK.1 hP 1 he_X2 rfl 1 (by decide) (hT _ mw_1_36) (fun _ h9 => h9) rfl dX2_hang_58 ?_
          refine lv_iload hx hb dX2_hang_61 (lv_at hl 1 rfl) ?_
          obtain ⟨hi_5, h⟩ := h
          refine lC_I hx hb hK.1 hP (by decide) rfl hi_5 dX2_hang_63 ?_
          refine lv_topi (fun v6_1 ev6_1 => ?_)
          replace h := h v6_1 ev6_1
          refine lv_istore (lv' := [(6, .int v6_1), (7, .int v7), (4, .long v4), (3, .int v3), (0, .ref (ad 1)), (1, .int x1), (2, .int x2)]) hx hb dX2_hang_64 hl (by decide) rfl (fun ls hl => ?_)
          obtain ⟨v7_1, ev7_1⟩ : ∃ z : Int32, z = v7 + 1 := ⟨_, rfl⟩
          replace h := h v7_1 ev7_1
          refine lv_iinc (v := v7_1) (lv' := [(7, .int v7_1), (6, .int v6_1), (4, .long v4), (3, .int v3), (0, .ref (ad 1)), (1, .int x1), (2, .int x2)]) hx hb dX2_hang_66 hl (k := 1) rfl (by rw [ev7_1]; rfl) (by decide) rfl (fun ls hl => ?_)
          refine lv_goto (tgt := 26) hx hb dX2_hang_69 (by decide) ?_
          exact ih v7_1 v6_1 B_5 _ _ _ h (lv_sub hl [0, 1, 2, 3, 4, 5, 6] rfl) hP hS
  exact LP _ 0 v3 B _ _ _ h (lv_sub hl [0, 1, 2, 3, 4, 5, 6] rfl) hP hS
theorem dX2_turnTag_0 : decode cX2_turnTag 0 = .ok (.aload_n 0, 1) := by decide +kernel
theorem dX2_turnTag_1 : decode cX2_turnTag 1 = .ok (.getfield 22, 3) := by decide +kernel
theorem dX2_turnTag_4 : decode cX2_turnTag 4 = .ok (.iload_n 1, 1) := by decide +kernel
theorem dX2_turnTag_5 : decode cX2_turnTag 5 = .ok (.dup2, 1) := by decide +kernel
theorem dX2_turnTag_6 : decode cX2_turnTag 6 = .ok (.laload, 1) := by decide +kernel
theorem dX2_turnTag_7 : decode cX2_turnTag 7 = .ok (.iload_n 2, 1) := by decide +kernel
theorem dX2_turnTag_8 : decode cX2_turnTag 8 = .ok (.invokestatic 32, 3) := by decide +kernel
theorem dX2_turnTag_11 : decode cX2_turnTag 11 = .ok (.lxor, 1) := by decide +kernel
theorem dX2_turnTag_12 : decode cX2_turnTag 12 = .ok (.lastore, 1) := by decide +kernel
theorem dX2_turnTag_13 : decode cX2_turnTag 13 = .ok (.aload_n 0, 1) := by decide +kernel
theorem dX2_turnTag_14 : decode cX2_turnTag 14 = .ok (.iload_n 1, 1) := by decide +kernel
theorem dX2_turnTag_15 : decode cX2_turnTag 15 = .ok (.invokevirtual 46, 3) := by decide +kernel
theorem dX2_turnTag_18 : decode cX2_turnTag 18 = .ok (.return_, 1) := by decide +kernel
def wX2_turnTag (I : Nat → Int32) (L : Nat → Int64) (A : Nat → Nat → Int32) (B : Nat → Nat → Int64) (x1 : Int32) (x2 : Int32) (post : (Nat → Nat → Int64) → Prop) : Prop := vp_in x1 40 ∧ (wX9_bit x2 (fun r8 => vp_in x1 40 ∧ (∀ B_1, B_1 = va_up B 39 (vp_updL (B 39) x1.toNatClampNeg ((B 39 x1.toNatClampNeg) ^^^ r8)) → wX2_gather I L A B_1 x1 (fun B_2 => post B_2))))
abbrev rmX2_turnTag : Room := { frames := 3, cells := 0, slots := 0, locals := 70 }
theorem wd_X2_turnTag : Cond.instanceMethod yX2_turnTag ∈ BW ∧ Cond.selects yX2_turnTag.cls yX2_turnTag yX2_turnTag ∈ BW ∧ Cond.initialized yX2_turnTag.cls ∈ BW ∧ Cond.code yX2_turnTag cX2_turnTag 3 (none : Option Jvm.ClassFile.FieldType) ∈ BW := ⟨mw_2_184, mw_2_185, mw_1_2, mw_2_186⟩
set_option maxHeartbeats 4000000 in
set_option maxRecDepth 100000 in
theorem c_X2_turnTag {l : Launch} {D : va_G} {cy : Nat → ClassId} {ad : Nat → Nat} {Ad : Nat → Prop} (hAd : adok 103 Ad ad) (I : Nat → Int32) (L : Nat → Int64) (A : Nat → Nat → Int32) (B : Nat → Nat → Int64) (x1 : Int32) (x2 : Int32)  (post : (Nat → Nat → Int64) → Prop) (h : wX2_turnTag I L A B x1 x2 post) : Met l yX2_turnTag (.code yX2_turnTag cX2_turnTag 3 (none : Option Jvm.ClassFile.FieldType) :: BW) rmX2_turnTag (va_Pc [.ref (ad 1), .int x1, .int x2] (fun U => kC D cy U ∧ va_P D vwCl (wC cy ad I L A B) U.heap)) (qCv D cy ad Ad (fun u => post u.2.2.2 ∧ I = u.1 ∧ L = u.2.1 ∧ A = u.2.2.1)) 0 0 Ad := by
  refine startCv (by decide) (Nat.le_of_ble_eq_true rfl) (lv := [(0, .ref (ad 1)), (1, .int x1), (2, .int x2)]) rfl (fun p e s m args below meth c Q ls hx hb hml hT hown hK hret hl hP hS => ?_)
  unfold wX2_turnTag at h
  refine lv_aload_n hx hb dX2_turnTag_0 rfl (lv_at hl 0 rfl) ?_
  refine va_get (T := TX2) hx hb hT inlX2 hown hK.1 hP 1 he_X2 rfl 3 (by decide) (hT _ mw_1_40) (fun _ h9 => h9) rfl dX2_turnTag_1 ?_
  refine lv_iload_n hx hb dX2_turnTag_4 rfl (lv_at hl 1 rfl) ?_
  refine lv_dup2_11 hx hb dX2_turnTag_5 rfl rfl ?_
  obtain ⟨hi, h⟩ := h
  refine lC_J hx hb hK.1 hP (by decide) rfl hi dX2_turnTag_6 ?_
  refine lv_iload_n hx hb dX2_turnTag_7 rfl (lv_at hl 2 rfl) ?_
  refine callNl (As := [.int x2]) (rest := [.long (B 39 x1.toNatClampNeg), .int x1, .ref (ad 39)]) (n := 1) (c_X9_bit x2 _ h) hx hb hT hown hP hS (hK.2 _ (List.mem_of_getElem? (i := 3) rfl)) wd_X9_bit (by decide +kernel) ⟨rfl, rfl⟩ (by decide) rfl hl.1 hml rfl (Nat.le_of_ble_eq_true rfl) dX2_turnTag_8 ⟨Nat.zero_le _, Nat.zero_le _⟩ (fun r8 H locs h hP hS => ?_)
  try dsimp only at h
  refine lv_lxor hx hb dX2_turnTag_11 ?_
  obtain ⟨hi_1, h⟩ := h
  refine sC_J hAd hx hb hK.1 hP hS (by decide) (fun _ => rfl) hi_1 dX2_turnTag_12 (fun H locs hP hS => ?_)
  obtain ⟨B_1, eB_1⟩ : ∃ z, z = va_up B 39 (vp_updL (B 39) x1.toNatClampNeg ((B 39 x1.toNatClampNeg) ^^^ r8)) := ⟨_, rfl⟩
  rw [← eB_1] at hP
  replace h := h B_1 eB_1
  refine lv_aload_n hx hb dX2_turnTag_13 rfl (lv_at hl 0 rfl) ?_
  refine lv_iload_n hx hb dX2_turnTag_14 rfl (lv_at hl 1 rfl) ?_
  refine callCv (k := 1) (As := [.int x1]) (rest := []) (n := 1) (c_X2_gather hAd I L A B_1 x1 _ h) hx hb hT hown hK hP hS mw_2_140 wd_X2_gather (by decide +kernel) ⟨rfl, rfl⟩ (by decide) rfl rfl he_X2 rfl hl.1 hml rfl (Nat.le_of_ble_eq_true rfl) dX2_turnTag_15 ⟨Nat.zero_le _, Nat.zero_le _⟩ (fun u H locs h hP hS => ?_)
  obtain ⟨Iu, Lu, Au, B_2⟩ := u
  dsimp only at h hP
  obtain ⟨h, rfl, rfl, rfl⟩ := h
  try dsimp only at h
  exact hret (I, L, A, B_2) dX2_turnTag_18 ⟨h, rfl, rfl, rfl⟩ hP hS
theorem dX2_taggedOn_0 : decode cX2_taggedOn 0 = .ok (.lconst 0, 1) := by decide +kernel
theorem dX2_taggedOn_1 : decode cX2_taggedOn 1 = .ok (.lstore_n 2, 1) := by decide +kernel
theorem dX2_taggedOn_2 : decode cX2_taggedOn 2 = .ok (.iconst 0, 1) := by decide +kernel
theorem dX2_taggedOn_3 : decode cX2_taggedOn 3 = .ok (.istore 4, 2) := by decide +kernel
theorem dX2_taggedOn_5 : decode cX2_taggedOn 5 = .ok (.iload 4, 2) := by decide +kernel
theorem dX2_taggedOn_7 : decode cX2_taggedOn 7 = .ok (.aload_n 0, 1) := by decide +kernel
theorem dX2_taggedOn_8 : decode cX2_taggedOn 8 = .ok (.getfield 28, 3) := by decide +kernel
theorem dX2_taggedOn_11 : decode cX2_taggedOn 11 = .ok (.if_icmp .ge 30, 3) := by decide +kernel
theorem dX2_taggedOn_14 : decode cX2_taggedOn 14 = .ok (.aload_n 0, 1) := by decide +kernel
theorem dX2_taggedOn_15 : decode cX2_taggedOn 15 = .ok (.getfield 9, 3) := by decide +kernel
theorem dX2_taggedOn_18 : decode cX2_taggedOn 18 = .ok (.iload 4, 2) := by decide +kernel
theorem dX2_taggedOn_20 : decode cX2_taggedOn 20 = .ok (.iaload, 1) := by decide +kernel
theorem dX2_taggedOn_21 : decode cX2_taggedOn 21 = .ok (.iload_n 1, 1) := by decide +kernel
theorem dX2_taggedOn_22 : decode cX2_taggedOn 22 = .ok (.if_icmp .ne 13, 3) := by decide +kernel
theorem dX2_taggedOn_25 : decode cX2_taggedOn 25 = .ok (.lload_n 2, 1) := by decide +kernel
theorem dX2_taggedOn_26 : decode cX2_taggedOn 26 = .ok (.aload_n 0, 1) := by decide +kernel
theorem dX2_taggedOn_27 : decode cX2_taggedOn 27 = .ok (.getfield 22, 3) := by decide +kernel
theorem dX2_taggedOn_30 : decode cX2_taggedOn 30 = .ok (.iload 4, 2) := by decide +kernel
theorem dX2_taggedOn_32 : decode cX2_taggedOn 32 = .ok (.laload, 1) := by decide +kernel
theorem dX2_taggedOn_33 : decode cX2_taggedOn 33 = .ok (.lor, 1) := by decide +kernel
theorem dX2_taggedOn_34 : decode cX2_taggedOn 34 = .ok (.lstore_n 2, 1) := by decide +kernel
theorem dX2_taggedOn_35 : decode cX2_taggedOn 35 = .ok (.iinc 4 1, 3) := by decide +kernel
theorem dX2_taggedOn_38 : decode cX2_taggedOn 38 = .ok (.goto (-33), 3) := by decide +kernel
theorem dX2_taggedOn_41 : decode cX2_taggedOn 41 = .ok (.lload_n 2, 1) := by decide +kernel
theorem dX2_taggedOn_42 : decode cX2_taggedOn 42 = .ok (.lreturn, 1) := by decide +kernel
def wX2_taggedOn (I : Nat → Int32) (L : Nat → Int64) (A : Nat → Nat → Int32) (B : Nat → Nat → Int64) (x1 : Int32) (post : Int64 → Prop) : Prop := ∃ n, lfix (fun (r : (Int32 × Int64) → Prop) (v4, v2) => if (I 1) ≤ v4 then (post v2) else (vp_in v4 40 ∧ (if (A 36 v4.toNatClampNeg) = x1 then (vp_in v4 40 ∧ (∀ v2_1 : Int64, v2_1 = v2 ||| (B 39 v4.toNatClampNeg) → ∀ v4_2 : Int32, v4_2 = v4 + 1 → r (v4_2, v2_1))) else (∀ v4_1 : Int32, v4_1 = v4 + 1 → r (v4_1, v2))))) n (0, 0)
abbrev rmX2_taggedOn : Room := { frames := 0, cells := 0, slots := 0, locals := 0 }
theorem wd_X2_taggedOn : Cond.instanceMethod yX2_taggedOn ∈ BW ∧ Cond.selects yX2_taggedOn.cls yX2_taggedOn yX2_taggedOn ∈ BW ∧ Cond.initialized yX2_taggedOn.cls ∈ BW ∧ Cond.code yX2_taggedOn cX2_taggedOn 5 (some .long) ∈ BW := ⟨mw_2_57, mw_2_58, mw_1_2, mw_2_59⟩
set_option maxHeartbeats 4000000 in
set_option maxRecDepth 100000 in
theorem c_X2_taggedOn {l : Launch} {D : va_G} {cy : Nat → ClassId} {ad : Nat → Nat} {Ad : Nat → Prop} (hAd : adok 103 Ad ad) (I : Nat → Int32) (L : Nat → Int64) (A : Nat → Nat → Int32) (B : Nat → Nat → Int64) (x1 : Int32)  (post : Int64 → Prop) (h : wX2_taggedOn I L A B x1 post) : Met l yX2_taggedOn (.code yX2_taggedOn cX2_taggedOn 5 (some .long) :: BW) rmX2_taggedOn (va_Pc [.ref (ad 1), .int x1] (fun U => kC D cy U ∧ va_P D vwCl (wC cy ad I L A B) U.heap)) (qCl D cy ad Ad (fun r u => post r  ∧ I = u.1 ∧ L = u.2.1 ∧ A = u.2.2.1 ∧ B = u.2.2.2)) 0 0 Ad := by
  refine startCl (by decide) (Nat.le_of_ble_eq_true rfl) (lv := [(0, .ref (ad 1)), (1, .int x1)]) rfl (fun p e s m args below meth c Q ls hx hb hml hT hown hK hret hl hP hS => ?_)
  unfold wX2_taggedOn at h
  refine lv_lconst (v := 0) hx hb dX2_taggedOn_0 (by decide) ?_
  refine lv_lstore_n (lv' := [(2, .long 0), (0, .ref (ad 1)), (1, .int x1)]) hx hb dX2_taggedOn_1 rfl hl (by decide) rfl (fun ls hl => ?_)
  refine lv_iconst (v := 0) hx hb dX2_taggedOn_2 (by decide) ?_
  refine lv_istore (lv' := [(4, .int 0), (2, .long 0), (0, .ref (ad 1)), (1, .int x1)]) hx hb dX2_taggedOn_3 hl (by decide) rfl (fun ls hl => ?_)
  obtain ⟨F, n, h, hF, hG⟩ := lfix_ex h
  have LP : ∀ (n : Nat) (v4 : Int32) (v2 : Int64) (ls : Array Slot) (H : Heap) (locs : List Loc), F n (v4, v2) → lv_has ls 5 [(4, .int v4), (2, .long v2), (0, .ref (ad 1)), (1, .int x1)] → va_P D vwCl (wC cy ad I L A B) H → va_S Ad s.heap H locs → W p l e rmX2_taggedOn s m args below meth c H locs 0 0 Q (F0 m 5 ls []) := by
    intro n
    induction n with
    | zero => intro v4 v2 ls H locs h _ _ _; exact absurd h (hF _)
    | succ n ih =>
      intro v4 v2 ls H locs h hl hP hS
      replace h := hG _ _ h
      try dsimp only at h
      refine lv_iload hx hb dX2_taggedOn_5 (lv_at hl 0 rfl) ?_
      refine lv_aload_n hx hb dX2_taggedOn_7 rfl (lv_at hl 2 rfl) ?_
      refine va_get (T := TX2) hx hb hT inlX2 hown hK.1 hP 1 he_X2 rfl 5 (by decide) (hT _ mw_1_45) (fun _ h9 => h9) rfl dX2_taggedOn_8 ?_
      refine lv_icmp_ge (tgt := 41) hx hb dX2_taggedOn_11 (by decide) (fun hc => ?_) (fun hc => ?_)
      · rw [if_pos hc] at h
        refine lv_lload_n hx hb dX2_taggedOn_41 rfl (lv_at hl 1 rfl) ?_
        exact hret _ (I, L, A, B) dX2_taggedOn_42 ⟨h, rfl, rfl, rfl, rfl⟩ hP hS
      · rw [if_neg hc] at h
        refine lv_aload_n hx hb dX2_taggedOn_14 rfl (lv_at hl 2 rfl) ?_
        refine va_get (T := TX2) hx hb hT inlX2 hown hK.1 hP 1 he_X2 rfl 0 (by decide) (hT _ mw_1_33) (fun _ h9 => h9) rfl dX2_taggedOn_15 ?_
        refine lv_iload hx hb dX2_taggedOn_18 (lv_at hl 0 rfl) ?_
        obtain ⟨hi, h⟩ := h
        refine lC_I hx hb hK.1 hP (by decide) rfl hi dX2_taggedOn_20 ?_
        refine lv_iload_n hx hb dX2_taggedOn_21 rfl (lv_at hl 3 rfl) ?_
        refine lv_icmp_ne (tgt := 35) hx hb dX2_taggedOn_22 (by decide) (fun hc_1 => ?_) (fun hc_1 => ?_)
        · rw [if_neg hc_1] at h
          obtain ⟨v4_1, ev4_1⟩ : ∃ z : Int32, z = v4 + 1 := ⟨_, rfl⟩
          replace h := h v4_1 ev4_1
          refine lv_iinc (v := v4_1) (lv' := [(4, .int v4_1), (2, .long v2), (0, .ref (ad 1)), (1, .int x1)]) hx hb dX2_taggedOn_35 hl (k := 0) rfl (by rw [ev4_1]; rfl) (by decide) rfl (fun ls hl => ?_)
          refine lv_goto (tgt := 5) hx hb dX2_taggedOn_38 (by decide) ?_
          exact ih v4_1 v2 _ _ _ h (lv_sub hl [0, 1, 2, 3] rfl) hP hS
        · rw [if_pos hc_1] at h
          refine lv_lload_n hx hb dX2_taggedOn_25 rfl (lv_at hl 1 rfl) ?_
          refine lv_aload_n hx hb dX2_taggedOn_26 rfl (lv_at hl 2 rfl) ?_
          refine va_get (T := TX2) hx hb hT inlX2 hown hK.1 hP 1 he_X2 rfl 3 (by decide) (hT _ mw_1_40) (fun _ h9 => h9) rfl dX2_taggedOn_27 ?_
          refine lv_iload hx hb dX2_taggedOn_30 (lv_at hl 0 rfl) ?_
          obtain ⟨hi_1, h⟩ := h
          refine lC_J hx hb hK.1 hP (by decide) rfl hi_1 dX2_taggedOn_32 ?_
          refine lv_lor hx hb dX2_taggedOn_33 ?_
          refine lv_topl (fun v2_1 ev2_1 => ?_)
          replace h := h v2_1 ev2_1
          refine lv_lstore_n (lv' := [(2, .long v2_1), (4, .int v4), (0, .ref (ad 1)), (1, .int x1)]) hx hb dX2_taggedOn_34 rfl hl (by decide) rfl (fun ls hl => ?_)
          obtain ⟨v4_2, ev4_2⟩ : ∃ z : Int32, z = v4 + 1 := ⟨_, rfl⟩
          replace h := h v4_2 ev4_2
          refine lv_iinc (v := v4_2) (lv' := [(4, .int v4_2), (2, .long v2_1), (0, .ref (ad 1)), (1, .int x1)]) hx hb dX2_taggedOn_35 hl (k := 1) rfl (by rw [ev4_2]; rfl) (by decide) rfl (fun ls hl => ?_)
          refine lv_goto (tgt := 5) hx hb dX2_taggedOn_38 (by decide) ?_
          exact ih v4_2 v2_1 _ _ _ h (lv_sub hl [0, 1, 2, 3] rfl) hP hS
  exact LP _ 0 0 _ _ _ h (lv_sub hl [0, 1, 2, 3] rfl) hP hS
theorem dX2_levelBelow_0 : decode cX2_levelBelow 0 = .ok (.iconst 0, 1) := by decide +kernel
theorem dX2_levelBelow_1 : decode cX2_levelBelow 1 = .ok (.istore_n 2, 1) := by decide +kernel
theorem dX2_levelBelow_2 : decode cX2_levelBelow 2 = .ok (.iload_n 1, 1) := by decide +kernel
theorem dX2_levelBelow_3 : decode cX2_levelBelow 3 = .ok (.istore_n 3, 1) := by decide +kernel
theorem dX2_levelBelow_4 : decode cX2_levelBelow 4 = .ok (.iconst 0, 1) := by decide +kernel
theorem dX2_levelBelow_5 : decode cX2_levelBelow 5 = .ok (.istore 4, 2) := by decide +kernel
theorem dX2_levelBelow_7 : decode cX2_levelBelow 7 = .ok (.iload 4, 2) := by decide +kernel
theorem dX2_levelBelow_9 : decode cX2_levelBelow 9 = .ok (.iconst 5, 1) := by decide +kernel
theorem dX2_levelBelow_10 : decode cX2_levelBelow 10 = .ok (.if_icmp .gt 27, 3) := by decide +kernel
theorem dX2_levelBelow_13 : decode cX2_levelBelow 13 = .ok (.aload_n 0, 1) := by decide +kernel
theorem dX2_levelBelow_14 : decode cX2_levelBelow 14 = .ok (.iload_n 3, 1) := by decide +kernel
theorem dX2_levelBelow_15 : decode cX2_levelBelow 15 = .ok (.invokevirtual 40, 3) := by decide +kernel
theorem dX2_levelBelow_18 : decode cX2_levelBelow 18 = .ok (.ifCond .eq 19, 3) := by decide +kernel
theorem dX2_levelBelow_21 : decode cX2_levelBelow 21 = .ok (.iinc 2 1, 3) := by decide +kernel
theorem dX2_levelBelow_24 : decode cX2_levelBelow 24 = .ok (.aload_n 0, 1) := by decide +kernel
theorem dX2_levelBelow_25 : decode cX2_levelBelow 25 = .ok (.getfield 15, 3) := by decide +kernel
theorem dX2_levelBelow_28 : decode cX2_levelBelow 28 = .ok (.iload_n 3, 1) := by decide +kernel
theorem dX2_levelBelow_29 : decode cX2_levelBelow 29 = .ok (.iaload, 1) := by decide +kernel
theorem dX2_levelBelow_30 : decode cX2_levelBelow 30 = .ok (.istore_n 3, 1) := by decide +kernel
theorem dX2_levelBelow_31 : decode cX2_levelBelow 31 = .ok (.iinc 4 1, 3) := by decide +kernel
theorem dX2_levelBelow_34 : decode cX2_levelBelow 34 = .ok (.goto (-27), 3) := by decide +kernel
theorem dX2_levelBelow_37 : decode cX2_levelBelow 37 = .ok (.iload_n 2, 1) := by decide +kernel
theorem dX2_levelBelow_38 : decode cX2_levelBelow 38 = .ok (.ireturn, 1) := by decide +kernel
def wX2_levelBelow (I : Nat → Int32) (L : Nat → Int64) (A : Nat → Nat → Int32) (B : Nat → Nat → Int64) (x1 : Int32) (post : Int32 → Prop) : Prop := ∃ n, lfix (fun (r : (Int32 × Int32 × Int32) → Prop) (v4, v3, v2) => if 5 < v4 then (post v2) else (wX2_knows I L A B v3 (fun r15 => if r15 = 0 then (post v2) else (∀ v2_1 : Int32, v2_1 = v2 + 1 → vp_in v3 40 ∧ (∀ v3_1 : Int32, v3_1 = A 37 v3.toNatClampNeg → ∀ v4_1 : Int32, v4_1 = v4 + 1 → r (v4_1, v3_1, v2_1)))))) n (0, x1, 0)
abbrev rmX2_levelBelow : Room := { frames := 1, cells := 0, slots := 0, locals := 21 }
theorem wd_X2_levelBelow : Cond.instanceMethod yX2_levelBelow ∈ BW ∧ Cond.selects yX2_levelBelow.cls yX2_levelBelow yX2_levelBelow ∈ BW ∧ Cond.initialized yX2_levelBelow.cls ∈ BW ∧ Cond.code yX2_levelBelow cX2_levelBelow 5 (some .int) ∈ BW := ⟨mw_2_106, mw_2_107, mw_1_2, mw_2_108⟩
set_option maxHeartbeats 4000000 in
set_option maxRecDepth 100000 in
theorem c_X2_levelBelow {l : Launch} {D : va_G} {cy : Nat → ClassId} {ad : Nat → Nat} {Ad : Nat → Prop} (hAd : adok 103 Ad ad) (I : Nat → Int32) (L : Nat → Int64) (A : Nat → Nat → Int32) (B : Nat → Nat → Int64) (x1 : Int32)  (post : Int32 → Prop) (h : wX2_levelBelow I L A B x1 post) : Met l yX2_levelBelow (.code yX2_levelBelow cX2_levelBelow 5 (some .int) :: BW) rmX2_levelBelow (va_Pc [.ref (ad 1), .int x1] (fun U => kC D cy U ∧ va_P D vwCl (wC cy ad I L A B) U.heap)) (qCi D cy ad Ad (fun r u => post r  ∧ I = u.1 ∧ L = u.2.1 ∧ A = u.2.2.1 ∧ B = u.2.2.2)) 0 0 Ad := by
  refine startCi (by decide) (Nat.le_of_ble_eq_true rfl) (lv := [(0, .ref (ad 1)), (1, .int x1)]) rfl (fun p e s m args below meth c Q ls hx hb hml hT hown hK hret hl hP hS => ?_)
  unfold wX2_levelBelow at h
  refine lv_iconst (v := 0) hx hb dX2_levelBelow_0 (by decide) ?_
  refine lv_istore_n (lv' := [(2, .int 0), (0, .ref (ad 1)), (1, .int x1)]) hx hb dX2_levelBelow_1 rfl hl (by decide) rfl (fun ls hl => ?_)
  refine lv_iload_n hx hb dX2_levelBelow_2 rfl (lv_at hl 2 rfl) ?_
  refine lv_istore_n (lv' := [(3, .int x1), (2, .int 0), (0, .ref (ad 1)), (1, .int x1)]) hx hb dX2_levelBelow_3 rfl hl (by decide) rfl (fun ls hl => ?_)
  refine lv_iconst (v := 0) hx hb dX2_levelBelow_4 (by decide) ?_
  refine lv_istore (lv' := [(4, .int 0), (3, .int x1), (2, .int 0), (0, .ref (ad 1)), (1, .int x1)]) hx hb dX2_levelBelow_5 hl (by decide) rfl (fun ls hl => ?_)
  obtain ⟨F, n, h, hF, hG⟩ := lfix_ex h
  have LP : ∀ (n : Nat) (v4 : Int32) (v3 : Int32) (v2 : Int32) (ls : Array Slot) (H : Heap) (locs : List Loc), F n (v4, v3, v2) → lv_has ls 5 [(4, .int v4), (3, .int v3), (2, .int v2), (0, .ref (ad 1))] → va_P D vwCl (wC cy ad I L A B) H → va_S Ad s.heap H locs → W p l e rmX2_levelBelow s m args below meth c H locs 0 0 Q (F0 m 7 ls []) := by
    intro n
    induction n with
    | zero => intro v4 v3 v2 ls H locs h _ _ _; exact absurd h (hF _)
    | succ n ih =>
      intro v4 v3 v2 ls H locs h hl hP hS
      replace h := hG _ _ h
      try dsimp only at h
      refine lv_iload hx hb dX2_levelBelow_7 (lv_at hl 0 rfl) ?_
      refine lv_iconst (v := 5) hx hb dX2_levelBelow_9 (by decide) ?_
      refine lv_icmp_gt (tgt := 37) hx hb dX2_levelBelow_10 (by decide) (fun hc => ?_) (fun hc => ?_)
      · rw [if_pos hc] at h
        refine lv_iload_n hx hb dX2_levelBelow_37 rfl (lv_at hl 2 rfl) ?_
        exact hret _ (I, L, A, B) dX2_levelBelow_38 ⟨h, rfl, rfl, rfl, rfl⟩ hP hS
      · rw [if_neg hc] at h
        refine lv_aload_n hx hb dX2_levelBelow_13 rfl (lv_at hl 3 rfl) ?_
        refine lv_iload_n hx hb dX2_levelBelow_14 rfl (lv_at hl 1 rfl) ?_
        refine callCi (k := 1) (As := [.int v3]) (rest := []) (n := 1) (c_X2_knows hAd I L A B v3 _ h) hx hb hT hown hK hP hS mw_2_109 wd_X2_knows (by decide +kernel) ⟨rfl, rfl⟩ (by decide) rfl rfl he_X2 rfl hl.1 hml rfl (Nat.le_of_ble_eq_true rfl) dX2_levelBelow_15 ⟨Nat.zero_le _, Nat.zero_le _⟩ (fun r15 u H locs h hP hS => ?_)
        obtain ⟨Iu, Lu, Au, Bu⟩ := u
        dsimp only at h hP
        obtain ⟨h, rfl, rfl, rfl, rfl⟩ := h
        try dsimp only at h
        refine lv_if_eq (tgt := 37) hx hb dX2_levelBelow_18 (by decide) (fun hc_1 => ?_) (fun hc_1 => ?_)
        · rw [if_pos hc_1] at h
          refine lv_iload_n hx hb dX2_levelBelow_37 rfl (lv_at hl 2 rfl) ?_
          exact hret _ (I, L, A, B) dX2_levelBelow_38 ⟨h, rfl, rfl, rfl, rfl⟩ hP hS
        · rw [if_neg hc_1] at h
          obtain ⟨v2_1, ev2_1⟩ : ∃ z : Int32, z = v2 + 1 := ⟨_, rfl⟩
          replace h := h v2_1 ev2_1
          refine lv_iinc (v := v2_1) (lv' := [(2, .int v2_1), (4, .int v4), (3, .int v3), (0, .ref (ad 1))]) hx hb dX2_levelBelow_21 hl (k := 2) rfl (by rw [ev2_1]; rfl) (by decide) rfl (fun ls hl => ?_)
          refine lv_aload_n hx hb dX2_levelBelow_24 rfl (lv_at hl 3 rfl) ?_
          refine va_get (T := TX2) hx hb hT inlX2 hown hK.1 hP 1 he_X2 rfl 1 (by decide) (hT _ mw_1_36) (fun _ h9 => h9) rfl dX2_levelBelow_25 ?_
          refine lv_iload_n hx hb dX2_levelBelow_28 rfl (lv_at hl 2 rfl) ?_
          obtain ⟨hi, h⟩ := h
          refine lC_I hx hb hK.1 hP (by decide) rfl hi dX2_levelBelow_29 ?_
          refine lv_topi (fun v3_1 ev3_1 => ?_)
          replace h := h v3_1 ev3_1
          refine lv_istore_n (lv' := [(3, .int v3_1), (2, .int v2_1), (4, .int v4), (0, .ref (ad 1))]) hx hb dX2_levelBelow_30 rfl hl (by decide) rfl (fun ls hl => ?_)
          obtain ⟨v4_1, ev4_1⟩ : ∃ z : Int32, z = v4 + 1 := ⟨_, rfl⟩
          replace h := h v4_1 ev4_1
          refine lv_iinc (v := v4_1) (lv' := [(4, .int v4_1), (3, .int v3_1), (2, .int v2_1), (0, .ref (ad 1))]) hx hb dX2_levelBelow_31 hl (k := 2) rfl (by rw [ev4_1]; rfl) (by decide) rfl (fun ls hl => ?_)
          refine lv_goto (tgt := 7) hx hb dX2_levelBelow_34 (by decide) ?_
          exact ih v4_1 v3_1 v2_1 _ _ _ h (lv_sub hl [0, 1, 2, 3] rfl) hP hS
  exact LP _ 0 x1 0 _ _ _ h (lv_sub hl [0, 1, 2, 3] rfl) hP hS
theorem dX2_level_0 : decode cX2_level 0 = .ok (.aload_n 0, 1) := by decide +kernel
theorem dX2_level_1 : decode cX2_level 1 = .ok (.aload_n 0, 1) := by decide +kernel
theorem dX2_level_2 : decode cX2_level 2 = .ok (.getfield 15, 3) := by decide +kernel
theorem dX2_level_5 : decode cX2_level 5 = .ok (.iload_n 1, 1) := by decide +kernel
theorem dX2_level_6 : decode cX2_level 6 = .ok (.iaload, 1) := by decide +kernel
theorem dX2_level_7 : decode cX2_level 7 = .ok (.invokevirtual 58, 3) := by decide +kernel
theorem dX2_level_10 : decode cX2_level 10 = .ok (.ireturn, 1) := by decide +kernel
def wX2_level (I : Nat → Int32) (L : Nat → Int64) (A : Nat → Nat → Int32) (B : Nat → Nat → Int64) (x1 : Int32) (post : Int32 → Prop) : Prop := vp_in x1 40 ∧ (wX2_levelBelow I L A B (A 37 x1.toNatClampNeg) (fun r7 => post r7))
abbrev rmX2_level : Room := { frames := 2, cells := 0, slots := 0, locals := 45 }
theorem wd_X2_level : Cond.instanceMethod yX2_level ∈ BW ∧ Cond.selects yX2_level.cls yX2_level yX2_level ∈ BW ∧ Cond.initialized yX2_level.cls ∈ BW ∧ Cond.code yX2_level cX2_level 2 (some .int) ∈ BW := ⟨mw_2_129, mw_2_130, mw_1_2, mw_2_131⟩
set_option maxHeartbeats 4000000 in
set_option maxRecDepth 100000 in
theorem c_X2_level {l : Launch} {D : va_G} {cy : Nat → ClassId} {ad : Nat → Nat} {Ad : Nat → Prop} (hAd : adok 103 Ad ad) (I : Nat → Int32) (L : Nat → Int64) (A : Nat → Nat → Int32) (B : Nat → Nat → Int64) (x1 : Int32)  (post : Int32 → Prop) (h : wX2_level I L A B x1 post) : Met l yX2_level (.code yX2_level cX2_level 2 (some .int) :: BW) rmX2_level (va_Pc [.ref (ad 1), .int x1] (fun U => kC D cy U ∧ va_P D vwCl (wC cy ad I L A B) U.heap)) (qCi D cy ad Ad (fun r u => post r  ∧ I = u.1 ∧ L = u.2.1 ∧ A = u.2.2.1 ∧ B = u.2.2.2)) 0 0 Ad := by
  refine startCi (by decide) (Nat.le_of_ble_eq_true rfl) (lv := [(0, .ref (ad 1)), (1, .int x1)]) rfl (fun p e s m args below meth c Q ls hx hb hml hT hown hK hret hl hP hS => ?_)
  unfold wX2_level at h
  refine lv_aload_n hx hb dX2_level_0 rfl (lv_at hl 0 rfl) ?_
  refine lv_aload_n hx hb dX2_level_1 rfl (lv_at hl 0 rfl) ?_
  refine va_get (T := TX2) hx hb hT inlX2 hown hK.1 hP 1 he_X2 rfl 1 (by decide) (hT _ mw_1_36) (fun _ h9 => h9) rfl dX2_level_2 ?_
  refine lv_iload_n hx hb dX2_level_5 rfl (lv_at hl 1 rfl) ?_
  obtain ⟨hi, h⟩ := h
  refine lC_I hx hb hK.1 hP (by decide) rfl hi dX2_level_6 ?_
  refine callCi (k := 1) (As := [.int (A 37 x1.toNatClampNeg)]) (rest := []) (n := 1) (c_X2_levelBelow hAd I L A B (A 37 x1.toNatClampNeg) _ h) hx hb hT hown hK hP hS mw_2_132 wd_X2_levelBelow (by decide +kernel) ⟨rfl, rfl⟩ (by decide) rfl rfl he_X2 rfl hl.1 hml rfl (Nat.le_of_ble_eq_true rfl) dX2_level_7 ⟨Nat.zero_le _, Nat.zero_le _⟩ (fun r7 u H locs h hP hS => ?_)
  obtain ⟨Iu, Lu, Au, Bu⟩ := u
  dsimp only at h hP
  obtain ⟨h, rfl, rfl, rfl, rfl⟩ := h
  try dsimp only at h
  exact hret _ (I, L, A, B) dX2_level_10 ⟨h, rfl, rfl, rfl, rfl⟩ hP hS
theorem dX2_height_0 : decode cX2_height 0 = .ok (.aload_n 0, 1) := by decide +kernel
theorem dX2_height_1 : decode cX2_height 1 = .ok (.iload_n 1, 1) := by decide +kernel
theorem dX2_height_2 : decode cX2_height 2 = .ok (.invokevirtual 62, 3) := by decide +kernel
theorem dX2_height_5 : decode cX2_height 5 = .ok (.istore_n 2, 1) := by decide +kernel
theorem dX2_height_6 : decode cX2_height 6 = .ok (.iconst 0, 1) := by decide +kernel
theorem dX2_height_7 : decode cX2_height 7 = .ok (.istore_n 3, 1) := by decide +kernel
theorem dX2_height_8 : decode cX2_height 8 = .ok (.iload_n 3, 1) := by decide +kernel
theorem dX2_height_9 : decode cX2_height 9 = .ok (.aload_n 0, 1) := by decide +kernel
theorem dX2_height_10 : decode cX2_height 10 = .ok (.getfield 28, 3) := by decide +kernel
theorem dX2_height_13 : decode cX2_height 13 = .ok (.if_icmp .ge 32, 3) := by decide +kernel
theorem dX2_height_16 : decode cX2_height 16 = .ok (.aload_n 0, 1) := by decide +kernel
theorem dX2_height_17 : decode cX2_height 17 = .ok (.getfield 18, 3) := by decide +kernel
theorem dX2_height_20 : decode cX2_height 20 = .ok (.iload_n 1, 1) := by decide +kernel
theorem dX2_height_21 : decode cX2_height 21 = .ok (.laload, 1) := by decide +kernel
theorem dX2_height_22 : decode cX2_height 22 = .ok (.iload_n 3, 1) := by decide +kernel
theorem dX2_height_23 : decode cX2_height 23 = .ok (.invokestatic 54, 3) := by decide +kernel
theorem dX2_height_26 : decode cX2_height 26 = .ok (.ifCond .eq 13, 3) := by decide +kernel
theorem dX2_height_29 : decode cX2_height 29 = .ok (.iload_n 2, 1) := by decide +kernel
theorem dX2_height_30 : decode cX2_height 30 = .ok (.aload_n 0, 1) := by decide +kernel
theorem dX2_height_31 : decode cX2_height 31 = .ok (.iload_n 3, 1) := by decide +kernel
theorem dX2_height_32 : decode cX2_height 32 = .ok (.invokevirtual 62, 3) := by decide +kernel
theorem dX2_height_35 : decode cX2_height 35 = .ok (.invokestatic 65, 3) := by decide +kernel
theorem dX2_height_38 : decode cX2_height 38 = .ok (.istore_n 2, 1) := by decide +kernel
theorem dX2_height_39 : decode cX2_height 39 = .ok (.iinc 3 1, 3) := by decide +kernel
theorem dX2_height_42 : decode cX2_height 42 = .ok (.goto (-34), 3) := by decide +kernel
theorem dX2_height_45 : decode cX2_height 45 = .ok (.iload_n 2, 1) := by decide +kernel
theorem dX2_height_46 : decode cX2_height 46 = .ok (.aload_n 0, 1) := by decide +kernel
theorem dX2_height_47 : decode cX2_height 47 = .ok (.iload_n 1, 1) := by decide +kernel
theorem dX2_height_48 : decode cX2_height 48 = .ok (.invokevirtual 62, 3) := by decide +kernel
theorem dX2_height_51 : decode cX2_height 51 = .ok (.isub, 1) := by decide +kernel
theorem dX2_height_52 : decode cX2_height 52 = .ok (.ireturn, 1) := by decide +kernel
def wX2_height (I : Nat → Int32) (L : Nat → Int64) (A : Nat → Nat → Int32) (B : Nat → Nat → Int64) (x1 : Int32) (post : Int32 → Prop) : Prop := wX2_level I L A B x1 (fun r2 => ∃ n, lfix (fun (r : (Int32 × Int32) → Prop) (v3, v2) => if (I 1) ≤ v3 then (wX2_level I L A B x1 (fun r48 => post (v2 - r48))) else (vp_in x1 40 ∧ (wX9_inSet (B 38 x1.toNatClampNeg) v3 (fun r23 => if r23 = 0 then (∀ v3_1 : Int32, v3_1 = v3 + 1 → r (v3_1, v2)) else (wX2_level I L A B v3 (fun r32 => ∀ r35 : Int32, r35 = (if v2 < r32 then r32 else v2) → ∀ v3_2 : Int32, v3_2 = v3 + 1 → r (v3_2, r35))))))) n (0, r2))
abbrev rmX2_height : Room := { frames := 3, cells := 0, slots := 0, locals := 66 }
theorem wd_X2_height : Cond.instanceMethod yX2_height ∈ BW ∧ Cond.selects yX2_height.cls yX2_height yX2_height ∈ BW ∧ Cond.initialized yX2_height.cls ∈ BW ∧ Cond.code yX2_height cX2_height 4 (some .int) ∈ BW := ⟨mw_2_125, mw_2_126, mw_1_2, mw_2_127⟩
set_option maxHeartbeats 4000000 in
set_option maxRecDepth 100000 in
theorem c_X2_height {l : Launch} {D : va_G} {cy : Nat → ClassId} {ad : Nat → Nat} {Ad : Nat → Prop} (hAd : adok 103 Ad ad) (I : Nat → Int32) (L : Nat → Int64) (A : Nat → Nat → Int32) (B : Nat → Nat → Int64) (x1 : Int32)  (post : Int32 → Prop) (h : wX2_height I L A B x1 post) : Met l yX2_height (.code yX2_height cX2_height 4 (some .int) :: BW) rmX2_height (va_Pc [.ref (ad 1), .int x1] (fun U => kC D cy U ∧ va_P D vwCl (wC cy ad I L A B) U.heap)) (qCi D cy ad Ad (fun r u => post r  ∧ I = u.1 ∧ L = u.2.1 ∧ A = u.2.2.1 ∧ B = u.2.2.2)) 0 0 Ad := by
  refine startCi (by decide) (Nat.le_of_ble_eq_true rfl) (lv := [(0, .ref (ad 1)), (1, .int x1)]) rfl (fun p e s m args below meth c Q ls hx hb hml hT hown hK hret hl hP hS => ?_)
  unfold wX2_height at h
  refine lv_aload_n hx hb dX2_height_0 rfl (lv_at hl 0 rfl) ?_
  refine lv_iload_n hx hb dX2_height_1 rfl (lv_at hl 1 rfl) ?_
  refine callCi (k := 1) (As := [.int x1]) (rest := []) (n := 1) (c_X2_level hAd I L A B x1 _ h) hx hb hT hown hK hP hS mw_2_128 wd_X2_level (by decide +kernel) ⟨rfl, rfl⟩ (by decide) rfl rfl he_X2 rfl hl.1 hml rfl (Nat.le_of_ble_eq_true rfl) dX2_height_2 ⟨Nat.zero_le _, Nat.zero_le _⟩ (fun r2 u H locs h hP hS => ?_)
  obtain ⟨Iu, Lu, Au, Bu⟩ := u
  dsimp only at h hP
  obtain ⟨h, rfl, rfl, rfl, rfl⟩ := h
  try dsimp only at h
  refine lv_istore_n (lv' := [(2, .int r2), (0, .ref (ad 1)), (1, .int x1)]) hx hb dX2_height_5 rfl hl (by decide) rfl (fun ls hl => ?_)
  refine lv_iconst (v := 0) hx hb dX2_height_6 (by decide) ?_
  refine lv_istore_n (lv' := [(3, .int 0), (2, .int r2), (0, .ref (ad 1)), (1, .int x1)]) hx hb dX2_height_7 rfl hl (by decide) rfl (fun ls hl => ?_)
  obtain ⟨F, n, h, hF, hG⟩ := lfix_ex h
  have LP : ∀ (n : Nat) (v3 : Int32) (v2 : Int32) (ls : Array Slot) (H : Heap) (locs : List Loc), F n (v3, v2) → lv_has ls 4 [(3, .int v3), (2, .int v2), (0, .ref (ad 1)), (1, .int x1)] → va_P D vwCl (wC cy ad I L A B) H → va_S Ad s.heap H locs → W p l e rmX2_height s m args below meth c H locs 0 0 Q (F0 m 8 ls []) := by
    intro n
    induction n with
    | zero => intro v3 v2 ls H locs h _ _ _; exact absurd h (hF _)
    | succ n ih =>
      intro v3 v2 ls H locs h hl hP hS
      replace h := hG _ _ h
      try dsimp only at h
      refine lv_iload_n hx hb dX2_height_8 rfl (lv_at hl 0 rfl) ?_
      refine lv_aload_n hx hb dX2_height_9 rfl (lv_at hl 2 rfl) ?_
      refine va_get (T := TX2) hx hb hT inlX2 hown hK.1 hP 1 he_X2 rfl 5 (by decide) (hT _ mw_1_45) (fun _ h9 => h9) rfl dX2_height_10 ?_
      refine lv_icmp_ge (tgt := 45) hx hb dX2_height_13 (by decide) (fun hc => ?_) (fun hc => ?_)
      · rw [if_pos hc] at h
        refine lv_iload_n hx hb dX2_height_45 rfl (lv_at hl 1 rfl) ?_
        refine lv_aload_n hx hb dX2_height_46 rfl (lv_at hl 2 rfl) ?_
        refine lv_iload_n hx hb dX2_height_47 rfl (lv_at hl 3 rfl) ?_
        refine callCi (k := 1) (As := [.int x1]) (rest := [.int v2]) (n := 1) (c_X2_level hAd I L A B x1 _ h) hx hb hT hown hK hP hS mw_2_128 wd_X2_level (by decide +kernel) ⟨rfl, rfl⟩ (by decide) rfl rfl he_X2 rfl hl.1 hml rfl (Nat.le_of_ble_eq_true rfl) dX2_height_48 ⟨Nat.zero_le _, Nat.zero_le _⟩ (fun r48 u H locs h hP hS => ?_)
        obtain ⟨Iu_1, Lu_1, Au_1, Bu_1⟩ := u
        dsimp only at h hP
        obtain ⟨h, rfl, rfl, rfl, rfl⟩ := h
        try dsimp only at h
        refine lv_isub hx hb dX2_height_51 ?_
        exact hret _ (I, L, A, B) dX2_height_52 ⟨h, rfl, rfl, rfl, rfl⟩ hP hS
      · rw [if_neg hc] at h
        refine lv_aload_n hx hb dX2_height_16 rfl (lv_at hl 2 rfl) ?_
        refine va_get (T := TX2) hx hb hT inlX2 hown hK.1 hP 1 he_X2 rfl 2 (by decide) (hT _ mw_1_38) (fun _ h9 => h9) rfl dX2_height_17 ?_
        refine lv_iload_n hx hb dX2_height_20 rfl (lv_at hl 3 rfl) ?_
        obtain ⟨hi, h⟩ := h
        refine lC_J hx hb hK.1 hP (by decide) rfl hi dX2_height_21 ?_
        refine lv_iload_n hx hb dX2_height_22 rfl (lv_at hl 0 rfl) ?_
        refine callNi (As := [.long (B 38 x1.toNatClampNeg), .int v3]) (rest := []) (n := 2) (c_X9_inSet (B 38 x1.toNatClampNeg) v3 _ h) hx hb hT hown hP hS (hK.2 _ (List.mem_of_getElem? (i := 0) rfl)) wd_X9_inSet (by decide +kernel) ⟨rfl, rfl⟩ (by decide) rfl hl.1 hml rfl (Nat.le_of_ble_eq_true rfl) dX2_height_23 ⟨Nat.zero_le _, Nat.zero_le _⟩ (fun r23 H locs h hP hS => ?_)
        try dsimp only at h
        refine lv_if_eq (tgt := 39) hx hb dX2_height_26 (by decide) (fun hc_1 => ?_) (fun hc_1 => ?_)
        · rw [if_pos hc_1] at h
          obtain ⟨v3_1, ev3_1⟩ : ∃ z : Int32, z = v3 + 1 := ⟨_, rfl⟩
          replace h := h v3_1 ev3_1
          refine lv_iinc (v := v3_1) (lv' := [(3, .int v3_1), (2, .int v2), (0, .ref (ad 1)), (1, .int x1)]) hx hb dX2_height_39 hl (k := 0) rfl (by rw [ev3_1]; rfl) (by decide) rfl (fun ls hl => ?_)
          refine lv_goto (tgt := 8) hx hb dX2_height_42 (by decide) ?_
          exact ih v3_1 v2 _ _ _ h (lv_sub hl [0, 1, 2, 3] rfl) hP hS
        · rw [if_neg hc_1] at h
          refine lv_iload_n hx hb dX2_height_29 rfl (lv_at hl 1 rfl) ?_
          refine lv_aload_n hx hb dX2_height_30 rfl (lv_at hl 2 rfl) ?_
          refine lv_iload_n hx hb dX2_height_31 rfl (lv_at hl 0 rfl) ?_
          refine callCi (k := 1) (As := [.int v3]) (rest := [.int v2]) (n := 1) (c_X2_level hAd I L A B v3 _ h) hx hb hT hown hK hP hS mw_2_128 wd_X2_level (by decide +kernel) ⟨rfl, rfl⟩ (by decide) rfl rfl he_X2 rfl hl.1 hml rfl (Nat.le_of_ble_eq_true rfl) dX2_height_32 ⟨Nat.zero_le _, Nat.zero_le _⟩ (fun r32 u H locs h hP hS => ?_)
          obtain ⟨Iu_2, Lu_2, Au_2, Bu_2⟩ := u
          dsimp only at h hP
          obtain ⟨h, rfl, rfl, rfl, rfl⟩ := h
          try dsimp only at h
          refine va_mmax hx hb (by rw [hml]; exact hl.1.symm) hown (hT _ mw_2_133) (hT _ mw_2_134) (hT _ mw_1_12) (hT _ mw_2_135) (Nat.le_of_ble_eq_true rfl) (Nat.le_of_ble_eq_true rfl) (Nat.zero_le _) (Nat.zero_le _) dX2_height_35 ?_
          refine lv_topi (fun r35 er35 => ?_)
          replace h := h r35 er35
          refine lv_istore_n (lv' := [(2, .int r35), (3, .int v3), (0, .ref (ad 1)), (1, .int x1)]) hx hb dX2_height_38 rfl hl (by decide) rfl (fun ls hl => ?_)
          obtain ⟨v3_2, ev3_2⟩ : ∃ z : Int32, z = v3 + 1 := ⟨_, rfl⟩
          replace h := h v3_2 ev3_2
          refine lv_iinc (v := v3_2) (lv' := [(3, .int v3_2), (2, .int r35), (0, .ref (ad 1)), (1, .int x1)]) hx hb dX2_height_39 hl (k := 1) rfl (by rw [ev3_2]; rfl) (by decide) rfl (fun ls hl => ?_)
          refine lv_goto (tgt := 8) hx hb dX2_height_42 (by decide) ?_
          exact ih v3_2 r35 _ _ _ h (lv_sub hl [0, 1, 2, 3] rfl) hP hS
  exact LP _ 0 r2 _ _ _ h (lv_sub hl [0, 1, 2, 3] rfl) hP hS
theorem dX2_havingAny_0 : decode cX2_havingAny 0 = .ok (.lconst 0, 1) := by decide +kernel
theorem dX2_havingAny_1 : decode cX2_havingAny 1 = .ok (.lstore_n 3, 1) := by decide +kernel
theorem dX2_havingAny_2 : decode cX2_havingAny 2 = .ok (.iconst 0, 1) := by decide +kernel
theorem dX2_havingAny_3 : decode cX2_havingAny 3 = .ok (.istore 5, 2) := by decide +kernel
theorem dX2_havingAny_5 : decode cX2_havingAny 5 = .ok (.iload 5, 2) := by decide +kernel
theorem dX2_havingAny_7 : decode cX2_havingAny 7 = .ok (.aload_n 0, 1) := by decide +kernel
theorem dX2_havingAny_8 : decode cX2_havingAny 8 = .ok (.getfield 28, 3) := by decide +kernel
theorem dX2_havingAny_11 : decode cX2_havingAny 11 = .ok (.if_icmp .ge 28, 3) := by decide +kernel
theorem dX2_havingAny_14 : decode cX2_havingAny 14 = .ok (.lload_n 1, 1) := by decide +kernel
theorem dX2_havingAny_15 : decode cX2_havingAny 15 = .ok (.iload 5, 2) := by decide +kernel
theorem dX2_havingAny_17 : decode cX2_havingAny 17 = .ok (.invokestatic 54, 3) := by decide +kernel
theorem dX2_havingAny_20 : decode cX2_havingAny 20 = .ok (.ifCond .eq 13, 3) := by decide +kernel
theorem dX2_havingAny_23 : decode cX2_havingAny 23 = .ok (.lload_n 3, 1) := by decide +kernel
theorem dX2_havingAny_24 : decode cX2_havingAny 24 = .ok (.aload_n 0, 1) := by decide +kernel
theorem dX2_havingAny_25 : decode cX2_havingAny 25 = .ok (.getfield 25, 3) := by decide +kernel
theorem dX2_havingAny_28 : decode cX2_havingAny 28 = .ok (.iload 5, 2) := by decide +kernel
theorem dX2_havingAny_30 : decode cX2_havingAny 30 = .ok (.laload, 1) := by decide +kernel
theorem dX2_havingAny_31 : decode cX2_havingAny 31 = .ok (.lor, 1) := by decide +kernel
theorem dX2_havingAny_32 : decode cX2_havingAny 32 = .ok (.lstore_n 3, 1) := by decide +kernel
theorem dX2_havingAny_33 : decode cX2_havingAny 33 = .ok (.iinc 5 1, 3) := by decide +kernel
theorem dX2_havingAny_36 : decode cX2_havingAny 36 = .ok (.goto (-31), 3) := by decide +kernel
theorem dX2_havingAny_39 : decode cX2_havingAny 39 = .ok (.lload_n 3, 1) := by decide +kernel
theorem dX2_havingAny_40 : decode cX2_havingAny 40 = .ok (.lreturn, 1) := by decide +kernel
def wX2_havingAny (I : Nat → Int32) (L : Nat → Int64) (A : Nat → Nat → Int32) (B : Nat → Nat → Int64) (x1 : Int64) (post : Int64 → Prop) : Prop := ∃ n, lfix (fun (r : (Int32 × Int64) → Prop) (v5, v3) => if (I 1) ≤ v5 then (post v3) else (wX9_inSet x1 v5 (fun r17 => if r17 = 0 then (∀ v5_1 : Int32, v5_1 = v5 + 1 → r (v5_1, v3)) else (vp_in v5 40 ∧ (∀ v3_1 : Int64, v3_1 = v3 ||| (B 40 v5.toNatClampNeg) → ∀ v5_2 : Int32, v5_2 = v5 + 1 → r (v5_2, v3_1)))))) n (0, 0)
abbrev rmX2_havingAny : Room := { frames := 1, cells := 0, slots := 0, locals := 22 }
theorem wd_X2_havingAny : Cond.instanceMethod yX2_havingAny ∈ BW ∧ Cond.selects yX2_havingAny.cls yX2_havingAny yX2_havingAny ∈ BW ∧ Cond.initialized yX2_havingAny.cls ∈ BW ∧ Cond.code yX2_havingAny cX2_havingAny 6 (some .long) ∈ BW := ⟨mw_2_82, mw_2_83, mw_1_2, mw_2_84⟩
set_option maxHeartbeats 4000000 in
set_option maxRecDepth 100000 in
theorem c_X2_havingAny {l : Launch} {D : va_G} {cy : Nat → ClassId} {ad : Nat → Nat} {Ad : Nat → Prop} (hAd : adok 103 Ad ad) (I : Nat → Int32) (L : Nat → Int64) (A : Nat → Nat → Int32) (B : Nat → Nat → Int64) (x1 : Int64)  (post : Int64 → Prop) (h : wX2_havingAny I L A B x1 post) : Met l yX2_havingAny (.code yX2_havingAny cX2_havingAny 6 (some .long) :: BW) rmX2_havingAny (va_Pc [.ref (ad 1), .long x1] (fun U => kC D cy U ∧ va_P D vwCl (wC cy ad I L A B) U.heap)) (qCl D cy ad Ad (fun r u => post r  ∧ I = u.1 ∧ L = u.2.1 ∧ A = u.2.2.1 ∧ B = u.2.2.2)) 0 0 Ad := by
  refine startCl (by decide) (Nat.le_of_ble_eq_true rfl) (lv := [(0, .ref (ad 1)), (1, .long x1)]) rfl (fun p e s m args below meth c Q ls hx hb hml hT hown hK hret hl hP hS => ?_)
  unfold wX2_havingAny at h
  refine lv_lconst (v := 0) hx hb dX2_havingAny_0 (by decide) ?_
  refine lv_lstore_n (lv' := [(3, .long 0), (0, .ref (ad 1)), (1, .long x1)]) hx hb dX2_havingAny_1 rfl hl (by decide) rfl (fun ls hl => ?_)
  refine lv_iconst (v := 0) hx hb dX2_havingAny_2 (by decide) ?_
  refine lv_istore (lv' := [(5, .int 0), (3, .long 0), (0, .ref (ad 1)), (1, .long x1)]) hx hb dX2_havingAny_3 hl (by decide) rfl (fun ls hl => ?_)
  obtain ⟨F, n, h, hF, hG⟩ := lfix_ex h
  have LP : ∀ (n : Nat) (v5 : Int32) (v3 : Int64) (ls : Array Slot) (H : Heap) (locs : List Loc), F n (v5, v3) → lv_has ls 6 [(5, .int v5), (3, .long v3), (0, .ref (ad 1)), (1, .long x1)] → va_P D vwCl (wC cy ad I L A B) H → va_S Ad s.heap H locs → W p l e rmX2_havingAny s m args below meth c H locs 0 0 Q (F0 m 5 ls []) := by
    intro n
    induction n with
    | zero => intro v5 v3 ls H locs h _ _ _; exact absurd h (hF _)
    | succ n ih =>
      intro v5 v3 ls H locs h hl hP hS
      replace h := hG _ _ h
      try dsimp only at h
      refine lv_iload hx hb dX2_havingAny_5 (lv_at hl 0 rfl) ?_
      refine lv_aload_n hx hb dX2_havingAny_7 rfl (lv_at hl 2 rfl) ?_
      refine va_get (T := TX2) hx hb hT inlX2 hown hK.1 hP 1 he_X2 rfl 5 (by decide) (hT _ mw_1_45) (fun _ h9 => h9) rfl dX2_havingAny_8 ?_
      refine lv_icmp_ge (tgt := 39) hx hb dX2_havingAny_11 (by decide) (fun hc => ?_) (fun hc => ?_)
      · rw [if_pos hc] at h
        refine lv_lload_n hx hb dX2_havingAny_39 rfl (lv_at hl 1 rfl) ?_
        exact hret _ (I, L, A, B) dX2_havingAny_40 ⟨h, rfl, rfl, rfl, rfl⟩ hP hS
      · rw [if_neg hc] at h
        refine lv_lload_n hx hb dX2_havingAny_14 rfl (lv_at hl 3 rfl) ?_
        refine lv_iload hx hb dX2_havingAny_15 (lv_at hl 0 rfl) ?_
        refine callNi (As := [.long x1, .int v5]) (rest := []) (n := 2) (c_X9_inSet x1 v5 _ h) hx hb hT hown hP hS (hK.2 _ (List.mem_of_getElem? (i := 0) rfl)) wd_X9_inSet (by decide +kernel) ⟨rfl, rfl⟩ (by decide) rfl hl.1 hml rfl (Nat.le_of_ble_eq_true rfl) dX2_havingAny_17 ⟨Nat.zero_le _, Nat.zero_le _⟩ (fun r17 H locs h hP hS => ?_)
        try dsimp only at h
        refine lv_if_eq (tgt := 33) hx hb dX2_havingAny_20 (by decide) (fun hc_1 => ?_) (fun hc_1 => ?_)
        · rw [if_pos hc_1] at h
          obtain ⟨v5_1, ev5_1⟩ : ∃ z : Int32, z = v5 + 1 := ⟨_, rfl⟩
          replace h := h v5_1 ev5_1
          refine lv_iinc (v := v5_1) (lv' := [(5, .int v5_1), (3, .long v3), (0, .ref (ad 1)), (1, .long x1)]) hx hb dX2_havingAny_33 hl (k := 0) rfl (by rw [ev5_1]; rfl) (by decide) rfl (fun ls hl => ?_)
          refine lv_goto (tgt := 5) hx hb dX2_havingAny_36 (by decide) ?_
          exact ih v5_1 v3 _ _ _ h (lv_sub hl [0, 1, 2, 3] rfl) hP hS
        · rw [if_neg hc_1] at h
          refine lv_lload_n hx hb dX2_havingAny_23 rfl (lv_at hl 1 rfl) ?_
          refine lv_aload_n hx hb dX2_havingAny_24 rfl (lv_at hl 2 rfl) ?_
          refine va_get (T := TX2) hx hb hT inlX2 hown hK.1 hP 1 he_X2 rfl 4 (by decide) (hT _ mw_1_42) (fun _ h9 => h9) rfl dX2_havingAny_25 ?_
          refine lv_iload hx hb dX2_havingAny_28 (lv_at hl 0 rfl) ?_
          obtain ⟨hi, h⟩ := h
          refine lC_J hx hb hK.1 hP (by decide) rfl hi dX2_havingAny_30 ?_
          refine lv_lor hx hb dX2_havingAny_31 ?_
          refine lv_topl (fun v3_1 ev3_1 => ?_)
          replace h := h v3_1 ev3_1
          refine lv_lstore_n (lv' := [(3, .long v3_1), (5, .int v5), (0, .ref (ad 1)), (1, .long x1)]) hx hb dX2_havingAny_32 rfl hl (by decide) rfl (fun ls hl => ?_)
          obtain ⟨v5_2, ev5_2⟩ : ∃ z : Int32, z = v5 + 1 := ⟨_, rfl⟩
          replace h := h v5_2 ev5_2
          refine lv_iinc (v := v5_2) (lv' := [(5, .int v5_2), (3, .long v3_1), (0, .ref (ad 1)), (1, .long x1)]) hx hb dX2_havingAny_33 hl (k := 1) rfl (by rw [ev5_2]; rfl) (by decide) rfl (fun ls hl => ?_)
          refine lv_goto (tgt := 5) hx hb dX2_havingAny_36 (by decide) ?_
          exact ih v5_2 v3_1 _ _ _ h (lv_sub hl [0, 1, 2, 3] rfl) hP hS
  exact LP _ 0 0 _ _ _ h (lv_sub hl [0, 1, 2, 3] rfl) hP hS
theorem dX2_havingAll_0 : decode cX2_havingAll 0 = .ok (.ldc2_w 44, 3) := by decide +kernel
theorem dX2_havingAll_3 : decode cX2_havingAll 3 = .ok (.lstore_n 3, 1) := by decide +kernel
theorem dX2_havingAll_4 : decode cX2_havingAll 4 = .ok (.iconst 0, 1) := by decide +kernel
theorem dX2_havingAll_5 : decode cX2_havingAll 5 = .ok (.istore 5, 2) := by decide +kernel
theorem dX2_havingAll_7 : decode cX2_havingAll 7 = .ok (.iload 5, 2) := by decide +kernel
theorem dX2_havingAll_9 : decode cX2_havingAll 9 = .ok (.aload_n 0, 1) := by decide +kernel
theorem dX2_havingAll_10 : decode cX2_havingAll 10 = .ok (.getfield 28, 3) := by decide +kernel
theorem dX2_havingAll_13 : decode cX2_havingAll 13 = .ok (.if_icmp .ge 28, 3) := by decide +kernel
theorem dX2_havingAll_16 : decode cX2_havingAll 16 = .ok (.lload_n 1, 1) := by decide +kernel
theorem dX2_havingAll_17 : decode cX2_havingAll 17 = .ok (.iload 5, 2) := by decide +kernel
theorem dX2_havingAll_19 : decode cX2_havingAll 19 = .ok (.invokestatic 54, 3) := by decide +kernel
theorem dX2_havingAll_22 : decode cX2_havingAll 22 = .ok (.ifCond .eq 13, 3) := by decide +kernel
theorem dX2_havingAll_25 : decode cX2_havingAll 25 = .ok (.lload_n 3, 1) := by decide +kernel
theorem dX2_havingAll_26 : decode cX2_havingAll 26 = .ok (.aload_n 0, 1) := by decide +kernel
theorem dX2_havingAll_27 : decode cX2_havingAll 27 = .ok (.getfield 25, 3) := by decide +kernel
theorem dX2_havingAll_30 : decode cX2_havingAll 30 = .ok (.iload 5, 2) := by decide +kernel
theorem dX2_havingAll_32 : decode cX2_havingAll 32 = .ok (.laload, 1) := by decide +kernel
theorem dX2_havingAll_33 : decode cX2_havingAll 33 = .ok (.land, 1) := by decide +kernel
theorem dX2_havingAll_34 : decode cX2_havingAll 34 = .ok (.lstore_n 3, 1) := by decide +kernel
theorem dX2_havingAll_35 : decode cX2_havingAll 35 = .ok (.iinc 5 1, 3) := by decide +kernel
theorem dX2_havingAll_38 : decode cX2_havingAll 38 = .ok (.goto (-31), 3) := by decide +kernel
theorem dX2_havingAll_41 : decode cX2_havingAll 41 = .ok (.lload_n 3, 1) := by decide +kernel
theorem dX2_havingAll_42 : decode cX2_havingAll 42 = .ok (.lreturn, 1) := by decide +kernel
def wX2_havingAll (I : Nat → Int32) (L : Nat → Int64) (A : Nat → Nat → Int32) (B : Nat → Nat → Int64) (x1 : Int64) (post : Int64 → Prop) : Prop := ∃ n, lfix (fun (r : (Int32 × Int64) → Prop) (v5, v3) => if (I 1) ≤ v5 then (post v3) else (wX9_inSet x1 v5 (fun r19 => if r19 = 0 then (∀ v5_1 : Int32, v5_1 = v5 + 1 → r (v5_1, v3)) else (vp_in v5 40 ∧ (∀ v3_1 : Int64, v3_1 = v3 &&& (B 40 v5.toNatClampNeg) → ∀ v5_2 : Int32, v5_2 = v5 + 1 → r (v5_2, v3_1)))))) n (0, (-1))
abbrev rmX2_havingAll : Room := { frames := 1, cells := 0, slots := 0, locals := 22 }
theorem wd_X2_havingAll : Cond.instanceMethod yX2_havingAll ∈ BW ∧ Cond.selects yX2_havingAll.cls yX2_havingAll yX2_havingAll ∈ BW ∧ Cond.initialized yX2_havingAll.cls ∈ BW ∧ Cond.code yX2_havingAll cX2_havingAll 6 (some .long) ∈ BW := ⟨mw_2_62, mw_2_63, mw_1_2, mw_2_64⟩
set_option maxHeartbeats 4000000 in
set_option maxRecDepth 100000 in
theorem c_X2_havingAll {l : Launch} {D : va_G} {cy : Nat → ClassId} {ad : Nat → Nat} {Ad : Nat → Prop} (hAd : adok 103 Ad ad) (I : Nat → Int32) (L : Nat → Int64) (A : Nat → Nat → Int32) (B : Nat → Nat → Int64) (x1 : Int64)  (post : Int64 → Prop) (h : wX2_havingAll I L A B x1 post) : Met l yX2_havingAll (.code yX2_havingAll cX2_havingAll 6 (some .long) :: BW) rmX2_havingAll (va_Pc [.ref (ad 1), .long x1] (fun U => kC D cy U ∧ va_P D vwCl (wC cy ad I L A B) U.heap)) (qCl D cy ad Ad (fun r u => post r  ∧ I = u.1 ∧ L = u.2.1 ∧ A = u.2.2.1 ∧ B = u.2.2.2)) 0 0 Ad := by
  refine startCl (by decide) (Nat.le_of_ble_eq_true rfl) (lv := [(0, .ref (ad 1)), (1, .long x1)]) rfl (fun p e s m args below meth c Q ls hx hb hml hT hown hK hret hl hP hS => ?_)
  unfold wX2_havingAll at h
  refine lv_ldc2 (v := (-1)) hx hb hown (hT _ mw_2_65) dX2_havingAll_0 ?_
  refine lv_lstore_n (lv' := [(3, .long (-1)), (0, .ref (ad 1)), (1, .long x1)]) hx hb dX2_havingAll_3 rfl hl (by decide) rfl (fun ls hl => ?_)
  refine lv_iconst (v := 0) hx hb dX2_havingAll_4 (by decide) ?_
  refine lv_istore (lv' := [(5, .int 0), (3, .long (-1)), (0, .ref (ad 1)), (1, .long x1)]) hx hb dX2_havingAll_5 hl (by decide) rfl (fun ls hl => ?_)
  obtain ⟨F, n, h, hF, hG⟩ := lfix_ex h
  have LP : ∀ (n : Nat) (v5 : Int32) (v3 : Int64) (ls : Array Slot) (H : Heap) (locs : List Loc), F n (v5, v3) → lv_has ls 6 [(5, .int v5), (3, .long v3), (0, .ref (ad 1)), (1, .long x1)] → va_P D vwCl (wC cy ad I L A B) H → va_S Ad s.heap H locs → W p l e rmX2_havingAll s m args below meth c H locs 0 0 Q (F0 m 7 ls []) := by
    intro n
    induction n with
    | zero => intro v5 v3 ls H locs h _ _ _; exact absurd h (hF _)
    | succ n ih =>
      intro v5 v3 ls H locs h hl hP hS
      replace h := hG _ _ h
      try dsimp only at h
      refine lv_iload hx hb dX2_havingAll_7 (lv_at hl 0 rfl) ?_
      refine lv_aload_n hx hb dX2_havingAll_9 rfl (lv_at hl 2 rfl) ?_
      refine va_get (T := TX2) hx hb hT inlX2 hown hK.1 hP 1 he_X2 rfl 5 (by decide) (hT _ mw_1_45) (fun _ h9 => h9) rfl dX2_havingAll_10 ?_
      refine lv_icmp_ge (tgt := 41) hx hb dX2_havingAll_13 (by decide) (fun hc => ?_) (fun hc => ?_)
      · rw [if_pos hc] at h
        refine lv_lload_n hx hb dX2_havingAll_41 rfl (lv_at hl 1 rfl) ?_
        exact hret _ (I, L, A, B) dX2_havingAll_42 ⟨h, rfl, rfl, rfl, rfl⟩ hP hS
      · rw [if_neg hc] at h
        refine lv_lload_n hx hb dX2_havingAll_16 rfl (lv_at hl 3 rfl) ?_
        refine lv_iload hx hb dX2_havingAll_17 (lv_at hl 0 rfl) ?_
        refine callNi (As := [.long x1, .int v5]) (rest := []) (n := 2) (c_X9_inSet x1 v5 _ h) hx hb hT hown hP hS (hK.2 _ (List.mem_of_getElem? (i := 0) rfl)) wd_X9_inSet (by decide +kernel) ⟨rfl, rfl⟩ (by decide) rfl hl.1 hml rfl (Nat.le_of_ble_eq_true rfl) dX2_havingAll_19 ⟨Nat.zero_le _, Nat.zero_le _⟩ (fun r19 H locs h hP hS => ?_)
        try dsimp only at h
        refine lv_if_eq (tgt := 35) hx hb dX2_havingAll_22 (by decide) (fun hc_1 => ?_) (fun hc_1 => ?_)
        · rw [if_pos hc_1] at h
          obtain ⟨v5_1, ev5_1⟩ : ∃ z : Int32, z = v5 + 1 := ⟨_, rfl⟩
          replace h := h v5_1 ev5_1
          refine lv_iinc (v := v5_1) (lv' := [(5, .int v5_1), (3, .long v3), (0, .ref (ad 1)), (1, .long x1)]) hx hb dX2_havingAll_35 hl (k := 0) rfl (by rw [ev5_1]; rfl) (by decide) rfl (fun ls hl => ?_)
          refine lv_goto (tgt := 7) hx hb dX2_havingAll_38 (by decide) ?_
          exact ih v5_1 v3 _ _ _ h (lv_sub hl [0, 1, 2, 3] rfl) hP hS
        · rw [if_neg hc_1] at h
          refine lv_lload_n hx hb dX2_havingAll_25 rfl (lv_at hl 1 rfl) ?_
          refine lv_aload_n hx hb dX2_havingAll_26 rfl (lv_at hl 2 rfl) ?_
          refine va_get (T := TX2) hx hb hT inlX2 hown hK.1 hP 1 he_X2 rfl 4 (by decide) (hT _ mw_1_42) (fun _ h9 => h9) rfl dX2_havingAll_27 ?_
          refine lv_iload hx hb dX2_havingAll_30 (lv_at hl 0 rfl) ?_
          obtain ⟨hi, h⟩ := h
          refine lC_J hx hb hK.1 hP (by decide) rfl hi dX2_havingAll_32 ?_
          refine lv_land hx hb dX2_havingAll_33 ?_
          refine lv_topl (fun v3_1 ev3_1 => ?_)
          replace h := h v3_1 ev3_1
          refine lv_lstore_n (lv' := [(3, .long v3_1), (5, .int v5), (0, .ref (ad 1)), (1, .long x1)]) hx hb dX2_havingAll_34 rfl hl (by decide) rfl (fun ls hl => ?_)
          obtain ⟨v5_2, ev5_2⟩ : ∃ z : Int32, z = v5 + 1 := ⟨_, rfl⟩
          replace h := h v5_2 ev5_2
          refine lv_iinc (v := v5_2) (lv' := [(5, .int v5_2), (3, .long v3_1), (0, .ref (ad 1)), (1, .long x1)]) hx hb dX2_havingAll_35 hl (k := 1) rfl (by rw [ev5_2]; rfl) (by decide) rfl (fun ls hl => ?_)
          refine lv_goto (tgt := 7) hx hb dX2_havingAll_38 (by decide) ?_
          exact ih v5_2 v3_1 _ _ _ h (lv_sub hl [0, 1, 2, 3] rfl) hP hS
  exact LP _ 0 (-1) _ _ _ h (lv_sub hl [0, 1, 2, 3] rfl) hP hS
theorem dX2_howManyHeldBy_0 : decode cX2_howManyHeldBy 0 = .ok (.iconst 0, 1) := by decide +kernel
theorem dX2_howManyHeldBy_1 : decode cX2_howManyHeldBy 1 = .ok (.istore_n 3, 1) := by decide +kernel
theorem dX2_howManyHeldBy_2 : decode cX2_howManyHeldBy 2 = .ok (.iconst 0, 1) := by decide +kernel
theorem dX2_howManyHeldBy_3 : decode cX2_howManyHeldBy 3 = .ok (.istore 4, 2) := by decide +kernel
theorem dX2_howManyHeldBy_5 : decode cX2_howManyHeldBy 5 = .ok (.iload 4, 2) := by decide +kernel
theorem dX2_howManyHeldBy_7 : decode cX2_howManyHeldBy 7 = .ok (.aload_n 0, 1) := by decide +kernel
theorem dX2_howManyHeldBy_8 : decode cX2_howManyHeldBy 8 = .ok (.getfield 28, 3) := by decide +kernel
theorem dX2_howManyHeldBy_11 : decode cX2_howManyHeldBy 11 = .ok (.if_icmp .ge 26, 3) := by decide +kernel
theorem dX2_howManyHeldBy_14 : decode cX2_howManyHeldBy 14 = .ok (.aload_n 0, 1) := by decide +kernel
theorem dX2_howManyHeldBy_15 : decode cX2_howManyHeldBy 15 = .ok (.getfield 25, 3) := by decide +kernel
theorem dX2_howManyHeldBy_18 : decode cX2_howManyHeldBy 18 = .ok (.iload 4, 2) := by decide +kernel
theorem dX2_howManyHeldBy_20 : decode cX2_howManyHeldBy 20 = .ok (.laload, 1) := by decide +kernel
theorem dX2_howManyHeldBy_21 : decode cX2_howManyHeldBy 21 = .ok (.lload_n 1, 1) := by decide +kernel
theorem dX2_howManyHeldBy_22 : decode cX2_howManyHeldBy 22 = .ok (.land, 1) := by decide +kernel
theorem dX2_howManyHeldBy_23 : decode cX2_howManyHeldBy 23 = .ok (.lload_n 1, 1) := by decide +kernel
theorem dX2_howManyHeldBy_24 : decode cX2_howManyHeldBy 24 = .ok (.lcmp, 1) := by decide +kernel
theorem dX2_howManyHeldBy_25 : decode cX2_howManyHeldBy 25 = .ok (.ifCond .ne 6, 3) := by decide +kernel
theorem dX2_howManyHeldBy_28 : decode cX2_howManyHeldBy 28 = .ok (.iinc 3 1, 3) := by decide +kernel
theorem dX2_howManyHeldBy_31 : decode cX2_howManyHeldBy 31 = .ok (.iinc 4 1, 3) := by decide +kernel
theorem dX2_howManyHeldBy_34 : decode cX2_howManyHeldBy 34 = .ok (.goto (-29), 3) := by decide +kernel
theorem dX2_howManyHeldBy_37 : decode cX2_howManyHeldBy 37 = .ok (.iload_n 3, 1) := by decide +kernel
theorem dX2_howManyHeldBy_38 : decode cX2_howManyHeldBy 38 = .ok (.ireturn, 1) := by decide +kernel
def wX2_howManyHeldBy (I : Nat → Int32) (L : Nat → Int64) (A : Nat → Nat → Int32) (B : Nat → Nat → Int64) (x1 : Int64) (post : Int32 → Prop) : Prop := ∃ n, lfix (fun (r : (Int32 × Int32) → Prop) (v4, v3) => if (I 1) ≤ v4 then (post v3) else (vp_in v4 40 ∧ (if (lg_cmp ((B 40 v4.toNatClampNeg) &&& x1) x1) = 0 then (∀ v3_1 : Int32, v3_1 = v3 + 1 → ∀ v4_2 : Int32, v4_2 = v4 + 1 → r (v4_2, v3_1)) else (∀ v4_1 : Int32, v4_1 = v4 + 1 → r (v4_1, v3))))) n (0, 0)
abbrev rmX2_howManyHeldBy : Room := { frames := 0, cells := 0, slots := 0, locals := 0 }
theorem wd_X2_howManyHeldBy : Cond.instanceMethod yX2_howManyHeldBy ∈ BW ∧ Cond.selects yX2_howManyHeldBy.cls yX2_howManyHeldBy yX2_howManyHeldBy ∈ BW ∧ Cond.initialized yX2_howManyHeldBy.cls ∈ BW ∧ Cond.code yX2_howManyHeldBy cX2_howManyHeldBy 5 (some .int) ∈ BW := ⟨mw_3_238, mw_3_239, mw_1_2, mw_4_0⟩
set_option maxHeartbeats 4000000 in
set_option maxRecDepth 100000 in
theorem c_X2_howManyHeldBy {l : Launch} {D : va_G} {cy : Nat → ClassId} {ad : Nat → Nat} {Ad : Nat → Prop} (hAd : adok 103 Ad ad) (I : Nat → Int32) (L : Nat → Int64) (A : Nat → Nat → Int32) (B : Nat → Nat → Int64) (x1 : Int64)  (post : Int32 → Prop) (h : wX2_howManyHeldBy I L A B x1 post) : Met l yX2_howManyHeldBy (.code yX2_howManyHeldBy cX2_howManyHeldBy 5 (some .int) :: BW) rmX2_howManyHeldBy (va_Pc [.ref (ad 1), .long x1] (fun U => kC D cy U ∧ va_P D vwCl (wC cy ad I L A B) U.heap)) (qCi D cy ad Ad (fun r u => post r  ∧ I = u.1 ∧ L = u.2.1 ∧ A = u.2.2.1 ∧ B = u.2.2.2)) 0 0 Ad := by
  refine startCi (by decide) (Nat.le_of_ble_eq_true rfl) (lv := [(0, .ref (ad 1)), (1, .long x1)]) rfl (fun p e s m args below meth c Q ls hx hb hml hT hown hK hret hl hP hS => ?_)
  unfold wX2_howManyHeldBy at h
  refine lv_iconst (v := 0) hx hb dX2_howManyHeldBy_0 (by decide) ?_
  refine lv_istore_n (lv' := [(3, .int 0), (0, .ref (ad 1)), (1, .long x1)]) hx hb dX2_howManyHeldBy_1 rfl hl (by decide) rfl (fun ls hl => ?_)
  refine lv_iconst (v := 0) hx hb dX2_howManyHeldBy_2 (by decide) ?_
  refine lv_istore (lv' := [(4, .int 0), (3, .int 0), (0, .ref (ad 1)), (1, .long x1)]) hx hb dX2_howManyHeldBy_3 hl (by decide) rfl (fun ls hl => ?_)
  obtain ⟨F, n, h, hF, hG⟩ := lfix_ex h
  have LP : ∀ (n : Nat) (v4 : Int32) (v3 : Int32) (ls : Array Slot) (H : Heap) (locs : List Loc), F n (v4, v3) → lv_has ls 5 [(4, .int v4), (3, .int v3), (0, .ref (ad 1)), (1, .long x1)] → va_P D vwCl (wC cy ad I L A B) H → va_S Ad s.heap H locs → W p l e rmX2_howManyHeldBy s m args below meth c H locs 0 0 Q (F0 m 5 ls []) := by
    intro n
    induction n with
    | zero => intro v4 v3 ls H locs h _ _ _; exact absurd h (hF _)
    | succ n ih =>
      intro v4 v3 ls H locs h hl hP hS
      replace h := hG _ _ h
      try dsimp only at h
      refine lv_iload hx hb dX2_howManyHeldBy_5 (lv_at hl 0 rfl) ?_
      refine lv_aload_n hx hb dX2_howManyHeldBy_7 rfl (lv_at hl 2 rfl) ?_
      refine va_get (T := TX2) hx hb hT inlX2 hown hK.1 hP 1 he_X2 rfl 5 (by decide) (hT _ mw_1_45) (fun _ h9 => h9) rfl dX2_howManyHeldBy_8 ?_
      refine lv_icmp_ge (tgt := 37) hx hb dX2_howManyHeldBy_11 (by decide) (fun hc => ?_) (fun hc => ?_)
      · rw [if_pos hc] at h
        refine lv_iload_n hx hb dX2_howManyHeldBy_37 rfl (lv_at hl 1 rfl) ?_
        exact hret _ (I, L, A, B) dX2_howManyHeldBy_38 ⟨h, rfl, rfl, rfl, rfl⟩ hP hS
      · rw [if_neg hc] at h
        refine lv_aload_n hx hb dX2_howManyHeldBy_14 rfl (lv_at hl 2 rfl) ?_
        refine va_get (T := TX2) hx hb hT inlX2 hown hK.1 hP 1 he_X2 rfl 4 (by decide) (hT _ mw_1_42) (fun _ h9 => h9) rfl dX2_howManyHeldBy_15 ?_
        refine lv_iload hx hb dX2_howManyHeldBy_18 (lv_at hl 0 rfl) ?_
        obtain ⟨hi, h⟩ := h
        refine lC_J hx hb hK.1 hP (by decide) rfl hi dX2_howManyHeldBy_20 ?_
        refine lv_lload_n hx hb dX2_howManyHeldBy_21 rfl (lv_at hl 3 rfl) ?_
        refine lv_land hx hb dX2_howManyHeldBy_22 ?_
        refine lv_lload_n hx hb dX2_howManyHeldBy_23 rfl (lv_at hl 3 rfl) ?_
        refine W.lcmp hx hb dX2_howManyHeldBy_24 ?_
        refine lv_if_ne (tgt := 31) hx hb dX2_howManyHeldBy_25 (by decide) (fun hc_1 => ?_) (fun hc_1 => ?_)
        · rw [if_neg hc_1] at h
          obtain ⟨v4_1, ev4_1⟩ : ∃ z : Int32, z = v4 + 1 := ⟨_, rfl⟩
          replace h := h v4_1 ev4_1
          refine lv_iinc (v := v4_1) (lv' := [(4, .int v4_1), (3, .int v3), (0, .ref (ad 1)), (1, .long x1)]) hx hb dX2_howManyHeldBy_31 hl (k := 0) rfl (by rw [ev4_1]; rfl) (by decide) rfl (fun ls hl => ?_)
          refine lv_goto (tgt := 5) hx hb dX2_howManyHeldBy_34 (by decide) ?_
          exact ih v4_1 v3 _ _ _ h (lv_sub hl [0, 1, 2, 3] rfl) hP hS
        · rw [if_pos hc_1] at h
          obtain ⟨v3_1, ev3_1⟩ : ∃ z : Int32, z = v3 + 1 := ⟨_, rfl⟩
          replace h := h v3_1 ev3_1
          refine lv_iinc (v := v3_1) (lv' := [(3, .int v3_1), (4, .int v4), (0, .ref (ad 1)), (1, .long x1)]) hx hb dX2_howManyHeldBy_28 hl (k := 1) rfl (by rw [ev3_1]; rfl) (by decide) rfl (fun ls hl => ?_)
          obtain ⟨v4_2, ev4_2⟩ : ∃ z : Int32, z = v4 + 1 := ⟨_, rfl⟩
          replace h := h v4_2 ev4_2
          refine lv_iinc (v := v4_2) (lv' := [(4, .int v4_2), (3, .int v3_1), (0, .ref (ad 1)), (1, .long x1)]) hx hb dX2_howManyHeldBy_31 hl (k := 1) rfl (by rw [ev4_2]; rfl) (by decide) rfl (fun ls hl => ?_)
          refine lv_goto (tgt := 5) hx hb dX2_howManyHeldBy_34 (by decide) ?_
          exact ih v4_2 v3_1 _ _ _ h (lv_sub hl [0, 1, 2, 3] rfl) hP hS
  exact LP _ 0 0 _ _ _ h (lv_sub hl [0, 1, 2, 3] rfl) hP hS
theorem dX3_clear_0 : decode cX3_clear 0 = .ok (.aload_n 0, 1) := by decide +kernel
theorem dX3_clear_1 : decode cX3_clear 1 = .ok (.iconst 0, 1) := by decide +kernel
theorem dX3_clear_2 : decode cX3_clear 2 = .ok (.putfield 18, 3) := by decide +kernel
theorem dX3_clear_5 : decode cX3_clear 5 = .ok (.return_, 1) := by decide +kernel
def wX3_clear (I : Nat → Int32) (L : Nat → Int64) (A : Nat → Nat → Int32) (B : Nat → Nat → Int64) (k0 : Nat) (post : (Nat → Int32) → Prop) : Prop := (∀ I_1, I_1 = va_up I k0 0 → post I_1)
abbrev rmX3_clear : Room := { frames := 0, cells := 0, slots := 0, locals := 0 }
theorem wd_X3_clear : Cond.instanceMethod yX3_clear ∈ BW ∧ Cond.selects yX3_clear.cls yX3_clear yX3_clear ∈ BW ∧ Cond.initialized yX3_clear.cls ∈ BW ∧ Cond.code yX3_clear cX3_clear 1 (none : Option Jvm.ClassFile.FieldType) ∈ BW := ⟨mw_3_165, mw_3_166, mw_1_4, mw_3_167⟩
set_option maxHeartbeats 4000000 in
set_option maxRecDepth 100000 in
theorem c_X3_clear {l : Launch} {D : va_G} {cy : Nat → ClassId} {ad : Nat → Nat} {Ad : Nat → Prop} (hAd : adok 103 Ad ad) (I : Nat → Int32) (L : Nat → Int64) (A : Nat → Nat → Int32) (B : Nat → Nat → Int64) (k0 : Nat) (hk0 : 7 ≤ k0 ∧ k0 < 9) (post : (Nat → Int32) → Prop) (h : wX3_clear I L A B k0 post) : Met l yX3_clear (.code yX3_clear cX3_clear 1 (none : Option Jvm.ClassFile.FieldType) :: BW) rmX3_clear (va_Pc [.ref (ad k0)] (fun U => kC D cy U ∧ va_P D vwCl (wC cy ad I L A B) U.heap)) (qCv D cy ad Ad (fun u => post u.1 ∧ L = u.2.1 ∧ A = u.2.2.1 ∧ B = u.2.2.2)) 0 0 Ad := by
  refine startCv (by decide) (Nat.le_of_ble_eq_true rfl) (lv := [(0, .ref (ad k0))]) rfl (fun p e s m args below meth c Q ls hx hb hml hT hown hK hret hl hP hS => ?_)
  unfold wX3_clear at h
  refine lv_aload_n hx hb dX3_clear_0 rfl (lv_at hl 0 rfl) ?_
  refine lv_iconst (v := 0) hx hb dX3_clear_1 (by decide) ?_
  refine pC_X3_size (by omega) hAd hx hb hT hown hK.1 hP hS (hT _ mw_1_78) dX3_clear_2 (fun H locs hP hS => ?_)
  obtain ⟨I_1, eI_1⟩ : ∃ z, z = va_up I k0 0 := ⟨_, rfl⟩
  rw [← eI_1] at hP
  replace h := h I_1 eI_1
  exact hret (I_1, L, A, B) dX3_clear_5 ⟨h, rfl, rfl, rfl⟩ hP hS
theorem dX3_isAhead_0 : decode cX3_isAhead 0 = .ok (.aload_n 0, 1) := by decide +kernel
theorem dX3_isAhead_1 : decode cX3_isAhead 1 = .ok (.getfield 15, 3) := by decide +kernel
theorem dX3_isAhead_4 : decode cX3_isAhead 4 = .ok (.iload_n 1, 1) := by decide +kernel
theorem dX3_isAhead_5 : decode cX3_isAhead 5 = .ok (.iaload, 1) := by decide +kernel
theorem dX3_isAhead_6 : decode cX3_isAhead 6 = .ok (.aload_n 0, 1) := by decide +kernel
theorem dX3_isAhead_7 : decode cX3_isAhead 7 = .ok (.getfield 15, 3) := by decide +kernel
theorem dX3_isAhead_10 : decode cX3_isAhead 10 = .ok (.iload_n 2, 1) := by decide +kernel
theorem dX3_isAhead_11 : decode cX3_isAhead 11 = .ok (.iaload, 1) := by decide +kernel
theorem dX3_isAhead_12 : decode cX3_isAhead 12 = .ok (.if_icmp .gt 23, 3) := by decide +kernel
theorem dX3_isAhead_15 : decode cX3_isAhead 15 = .ok (.aload_n 0, 1) := by decide +kernel
theorem dX3_isAhead_16 : decode cX3_isAhead 16 = .ok (.getfield 15, 3) := by decide +kernel
theorem dX3_isAhead_19 : decode cX3_isAhead 19 = .ok (.iload_n 1, 1) := by decide +kernel
theorem dX3_isAhead_20 : decode cX3_isAhead 20 = .ok (.iaload, 1) := by decide +kernel
theorem dX3_isAhead_21 : decode cX3_isAhead 21 = .ok (.aload_n 0, 1) := by decide +kernel
theorem dX3_isAhead_22 : decode cX3_isAhead 22 = .ok (.getfield 15, 3) := by decide +kernel
theorem dX3_isAhead_25 : decode cX3_isAhead 25 = .ok (.iload_n 2, 1) := by decide +kernel
theorem dX3_isAhead_26 : decode cX3_isAhead 26 = .ok (.iaload, 1) := by decide +kernel
theorem dX3_isAhead_27 : decode cX3_isAhead 27 = .ok (.if_icmp .ne 12, 3) := by decide +kernel
theorem dX3_isAhead_30 : decode cX3_isAhead 30 = .ok (.iload_n 1, 1) := by decide +kernel
theorem dX3_isAhead_31 : decode cX3_isAhead 31 = .ok (.iload_n 2, 1) := by decide +kernel
theorem dX3_isAhead_32 : decode cX3_isAhead 32 = .ok (.if_icmp .ge 7, 3) := by decide +kernel
theorem dX3_isAhead_35 : decode cX3_isAhead 35 = .ok (.iconst 1, 1) := by decide +kernel
theorem dX3_isAhead_36 : decode cX3_isAhead 36 = .ok (.goto 4, 3) := by decide +kernel
theorem dX3_isAhead_39 : decode cX3_isAhead 39 = .ok (.iconst 0, 1) := by decide +kernel
theorem dX3_isAhead_40 : decode cX3_isAhead 40 = .ok (.ireturn, 1) := by decide +kernel
def wX3_isAhead (I : Nat → Int32) (L : Nat → Int64) (A : Nat → Nat → Int32) (B : Nat → Nat → Int64) (k0 : Nat) (x1 : Int32) (x2 : Int32) (post : Int32 → Prop) : Prop := vp_in x1 40 ∧ (vp_in x2 40 ∧ (if (A (k0 + 36) x2.toNatClampNeg) < (A (k0 + 36) x1.toNatClampNeg) then (post 1) else (vp_in x1 40 ∧ (vp_in x2 40 ∧ (if (A (k0 + 36) x1.toNatClampNeg) = (A (k0 + 36) x2.toNatClampNeg) then (if x2 ≤ x1 then (post 0) else (post 1)) else (post 0))))))
abbrev rmX3_isAhead : Room := { frames := 0, cells := 0, slots := 0, locals := 0 }
theorem wd_X3_isAhead : Cond.instanceMethod yX3_isAhead ∈ BW ∧ Cond.selects yX3_isAhead.cls yX3_isAhead yX3_isAhead ∈ BW ∧ Cond.initialized yX3_isAhead.cls ∈ BW ∧ Cond.code yX3_isAhead cX3_isAhead 3 (some .boolean) ∈ BW := ⟨mw_2_168, mp_6, mw_1_4, mw_2_169⟩
set_option maxHeartbeats 4000000 in
set_option maxRecDepth 100000 in
theorem c_X3_isAhead {l : Launch} {D : va_G} {cy : Nat → ClassId} {ad : Nat → Nat} {Ad : Nat → Prop} (hAd : adok 103 Ad ad) (I : Nat → Int32) (L : Nat → Int64) (A : Nat → Nat → Int32) (B : Nat → Nat → Int64) (k0 : Nat) (x1 : Int32) (x2 : Int32) (hk0 : 7 ≤ k0 ∧ k0 < 9) (post : Int32 → Prop) (h : wX3_isAhead I L A B k0 x1 x2 post) : Met l yX3_isAhead (.code yX3_isAhead cX3_isAhead 3 (some .boolean) :: BW) rmX3_isAhead (va_Pc [.ref (ad k0), .int x1, .int x2] (fun U => kC D cy U ∧ va_P D vwCl (wC cy ad I L A B) U.heap)) (qCi D cy ad Ad (fun r u => post r  ∧ I = u.1 ∧ L = u.2.1 ∧ A = u.2.2.1 ∧ B = u.2.2.2)) 0 0 Ad := by
  refine startCz (by decide) (Nat.le_of_ble_eq_true rfl) (lv := [(0, .ref (ad k0)), (1, .int x1), (2, .int x2)]) rfl (fun p e s m args below meth c Q ls hx hb hml hT hown hK hret hl hP hS => ?_)
  unfold wX3_isAhead at h
  refine lv_aload_n hx hb dX3_isAhead_0 rfl (lv_at hl 0 rfl) ?_
  refine va_get (T := TX3) hx hb hT inlX3 hown hK.1 hP k0 (he_X3 (by omega)) rfl 1 (by decide) (hT _ mw_1_76) (fun _ h9 => h9) rfl dX3_isAhead_1 ?_
  refine lv_iload_n hx hb dX3_isAhead_4 rfl (lv_at hl 1 rfl) ?_
  obtain ⟨hi, h⟩ := h
  refine lC_I hx hb hK.1 hP (by omega) (eC_R40 (Or.inl (by omega))) hi dX3_isAhead_5 ?_
  refine lv_aload_n hx hb dX3_isAhead_6 rfl (lv_at hl 0 rfl) ?_
  refine va_get (T := TX3) hx hb hT inlX3 hown hK.1 hP k0 (he_X3 (by omega)) rfl 1 (by decide) (hT _ mw_1_76) (fun _ h9 => h9) rfl dX3_isAhead_7 ?_
  refine lv_iload_n hx hb dX3_isAhead_10 rfl (lv_at hl 2 rfl) ?_
  obtain ⟨hi_1, h⟩ := h
  refine lC_I hx hb hK.1 hP (by omega) (eC_R40 (Or.inl (by omega))) hi_1 dX3_isAhead_11 ?_
  refine lv_icmp_gt (tgt := 35) hx hb dX3_isAhead_12 (by decide) (fun hc => ?_) (fun hc => ?_)
  · rw [if_pos hc] at h
    refine lv_iconst (v := 1) hx hb dX3_isAhead_35 (by decide) ?_
    refine lv_goto (tgt := 40) hx hb dX3_isAhead_36 (by decide) ?_
    exact hret _ (I, L, A, B) zb_1 dX3_isAhead_40 ⟨h, rfl, rfl, rfl, rfl⟩ hP hS
  · rw [if_neg hc] at h
    refine lv_aload_n hx hb dX3_isAhead_15 rfl (lv_at hl 0 rfl) ?_
    refine va_get (T := TX3) hx hb hT inlX3 hown hK.1 hP k0 (he_X3 (by omega)) rfl 1 (by decide) (hT _ mw_1_76) (fun _ h9 => h9) rfl dX3_isAhead_16 ?_
    refine lv_iload_n hx hb dX3_isAhead_19 rfl (lv_at hl 1 rfl) ?_
    obtain ⟨hi_2, h⟩ := h
    refine lC_I hx hb hK.1 hP (by omega) (eC_R40 (Or.inl (by omega))) hi_2 dX3_isAhead_20 ?_
    refine lv_aload_n hx hb dX3_isAhead_21 rfl (lv_at hl 0 rfl) ?_
    refine va_get (T := TX3) hx hb hT inlX3 hown hK.1 hP k0 (he_X3 (by omega)) rfl 1 (by decide) (hT _ mw_1_76) (fun _ h9 => h9) rfl dX3_isAhead_22 ?_
    refine lv_iload_n hx hb dX3_isAhead_25 rfl (lv_at hl 2 rfl) ?_
    obtain ⟨hi_3, h⟩ := h
    refine lC_I hx hb hK.1 hP (by omega) (eC_R40 (Or.inl (by omega))) hi_3 dX3_isAhead_26 ?_
    refine lv_icmp_ne (tgt := 39) hx hb dX3_isAhead_27 (by decide) (fun hc_1 => ?_) (fun hc_1 => ?_)
    · rw [if_neg hc_1] at h
      refine lv_iconst (v := 0) hx hb dX3_isAhead_39 (by decide) ?_
      exact hret _ (I, L, A, B) zb_0 dX3_isAhead_40 ⟨h, rfl, rfl, rfl, rfl⟩ hP hS
    · rw [if_pos hc_1] at h
      refine lv_iload_n hx hb dX3_isAhead_30 rfl (lv_at hl 1 rfl) ?_
      refine lv_iload_n hx hb dX3_isAhead_31 rfl (lv_at hl 2 rfl) ?_
      refine lv_icmp_ge (tgt := 39) hx hb dX3_isAhead_32 (by decide) (fun hc_2 => ?_) (fun hc_2 => ?_)
      · rw [if_pos hc_2] at h
        refine lv_iconst (v := 0) hx hb dX3_isAhead_39 (by decide) ?_
        exact hret _ (I, L, A, B) zb_0 dX3_isAhead_40 ⟨h, rfl, rfl, rfl, rfl⟩ hP hS
      · rw [if_neg hc_2] at h
        refine lv_iconst (v := 1) hx hb dX3_isAhead_35 (by decide) ?_
        refine lv_goto (tgt := 40) hx hb dX3_isAhead_36 (by decide) ?_
        exact hret _ (I, L, A, B) zb_1 dX3_isAhead_40 ⟨h, rfl, rfl, rfl, rfl⟩ hP hS
theorem dX3_rise_0 : decode cX3_rise 0 = .ok (.aload_n 0, 1) := by decide +kernel
theorem dX3_rise_1 : decode cX3_rise 1 = .ok (.getfield 9, 3) := by decide +kernel
theorem dX3_rise_4 : decode cX3_rise 4 = .ok (.iload_n 1, 1) := by decide +kernel
theorem dX3_rise_5 : decode cX3_rise 5 = .ok (.iaload, 1) := by decide +kernel
theorem dX3_rise_6 : decode cX3_rise 6 = .ok (.istore_n 2, 1) := by decide +kernel
theorem dX3_rise_7 : decode cX3_rise 7 = .ok (.iload_n 1, 1) := by decide +kernel
theorem dX3_rise_8 : decode cX3_rise 8 = .ok (.istore_n 3, 1) := by decide +kernel
theorem dX3_rise_9 : decode cX3_rise 9 = .ok (.iload_n 3, 1) := by decide +kernel
theorem dX3_rise_10 : decode cX3_rise 10 = .ok (.ifCond .le 39, 3) := by decide +kernel
theorem dX3_rise_13 : decode cX3_rise 13 = .ok (.aload_n 0, 1) := by decide +kernel
theorem dX3_rise_14 : decode cX3_rise 14 = .ok (.iload_n 2, 1) := by decide +kernel
theorem dX3_rise_15 : decode cX3_rise 15 = .ok (.aload_n 0, 1) := by decide +kernel
theorem dX3_rise_16 : decode cX3_rise 16 = .ok (.getfield 9, 3) := by decide +kernel
theorem dX3_rise_19 : decode cX3_rise 19 = .ok (.iload_n 3, 1) := by decide +kernel
theorem dX3_rise_20 : decode cX3_rise 20 = .ok (.iconst 1, 1) := by decide +kernel
theorem dX3_rise_21 : decode cX3_rise 21 = .ok (.isub, 1) := by decide +kernel
theorem dX3_rise_22 : decode cX3_rise 22 = .ok (.iaload, 1) := by decide +kernel
theorem dX3_rise_23 : decode cX3_rise 23 = .ok (.invokevirtual 30, 3) := by decide +kernel
theorem dX3_rise_26 : decode cX3_rise 26 = .ok (.ifCond .eq 23, 3) := by decide +kernel
theorem dX3_rise_29 : decode cX3_rise 29 = .ok (.aload_n 0, 1) := by decide +kernel
theorem dX3_rise_30 : decode cX3_rise 30 = .ok (.getfield 9, 3) := by decide +kernel
theorem dX3_rise_33 : decode cX3_rise 33 = .ok (.iload_n 3, 1) := by decide +kernel
theorem dX3_rise_34 : decode cX3_rise 34 = .ok (.aload_n 0, 1) := by decide +kernel
theorem dX3_rise_35 : decode cX3_rise 35 = .ok (.getfield 9, 3) := by decide +kernel
theorem dX3_rise_38 : decode cX3_rise 38 = .ok (.iload_n 3, 1) := by decide +kernel
theorem dX3_rise_39 : decode cX3_rise 39 = .ok (.iconst 1, 1) := by decide +kernel
theorem dX3_rise_40 : decode cX3_rise 40 = .ok (.isub, 1) := by decide +kernel
theorem dX3_rise_41 : decode cX3_rise 41 = .ok (.iaload, 1) := by decide +kernel
theorem dX3_rise_42 : decode cX3_rise 42 = .ok (.iastore, 1) := by decide +kernel
theorem dX3_rise_43 : decode cX3_rise 43 = .ok (.iinc 3 (-1), 3) := by decide +kernel
theorem dX3_rise_46 : decode cX3_rise 46 = .ok (.goto (-37), 3) := by decide +kernel
theorem dX3_rise_49 : decode cX3_rise 49 = .ok (.aload_n 0, 1) := by decide +kernel
theorem dX3_rise_50 : decode cX3_rise 50 = .ok (.getfield 9, 3) := by decide +kernel
theorem dX3_rise_53 : decode cX3_rise 53 = .ok (.iload_n 3, 1) := by decide +kernel
theorem dX3_rise_54 : decode cX3_rise 54 = .ok (.iload_n 2, 1) := by decide +kernel
theorem dX3_rise_55 : decode cX3_rise 55 = .ok (.iastore, 1) := by decide +kernel
theorem dX3_rise_56 : decode cX3_rise 56 = .ok (.return_, 1) := by decide +kernel
def wX3_rise (I : Nat → Int32) (L : Nat → Int64) (A : Nat → Nat → Int32) (B : Nat → Nat → Int64) (k0 : Nat) (x1 : Int32) (post : (Nat → Nat → Int32) → Prop) : Prop := vp_in x1 40 ∧ (∀ v2 : Int32, v2 = A (k0 + 34) x1.toNatClampNeg → ∃ n, lfix (fun (r : (Int32 × (Nat → Nat → Int32)) → Prop) (v3, A_1) => jn (fun (_ : Unit) => vp_in v3 40 ∧ (∀ A_2, A_2 = va_up A_1 (k0 + 34) (upd (A_1 (k0 + 34)) v3.toNatClampNeg v2) → post A_2)) (fun k => if v3 ≤ 0 then (k ()) else (vp_in (v3 - 1) 40 ∧ (wX3_isAhead I L A_1 B k0 v2 (A_1 (k0 + 34) (v3 - 1).toNatClampNeg) (fun r23 => if r23 = 0 then (k ()) else (vp_in (v3 - 1) 40 ∧ (vp_in v3 40 ∧ (∀ A_3, A_3 = va_up A_1 (k0 + 34) (upd (A_1 (k0 + 34)) v3.toNatClampNeg (A_1 (k0 + 34) (v3 - 1).toNatClampNeg)) → ∀ v3_1 : Int32, v3_1 = v3 + (-1) → r (v3_1, A_3))))))))) n (x1, A))
abbrev rmX3_rise : Room := { frames := 1, cells := 0, slots := 0, locals := 22 }
theorem wd_X3_rise : Cond.instanceMethod yX3_rise ∈ BW ∧ Cond.selects yX3_rise.cls yX3_rise yX3_rise ∈ BW ∧ Cond.initialized yX3_rise.cls ∈ BW ∧ Cond.code yX3_rise cX3_rise 4 (none : Option Jvm.ClassFile.FieldType) ∈ BW := ⟨mw_2_164, mp_5, mw_1_4, mw_2_165⟩
set_option maxHeartbeats 4000000 in
set_option maxRecDepth 100000 in
theorem c_X3_rise {l : Launch} {D : va_G} {cy : Nat → ClassId} {ad : Nat → Nat} {Ad : Nat → Prop} (hAd : adok 103 Ad ad) (I : Nat → Int32) (L : Nat → Int64) (A : Nat → Nat → Int32) (B : Nat → Nat → Int64) (k0 : Nat) (x1 : Int32) (hk0 : 7 ≤ k0 ∧ k0 < 9) (post : (Nat → Nat → Int32) → Prop) (h : wX3_rise I L A B k0 x1 post) : Met l yX3_rise (.code yX3_rise cX3_rise 4 (none : Option Jvm.ClassFile.FieldType) :: BW) rmX3_rise (va_Pc [.ref (ad k0), .int x1] (fun U => kC D cy U ∧ va_P D vwCl (wC cy ad I L A B) U.heap)) (qCv D cy ad Ad (fun u => post u.2.2.1 ∧ I = u.1 ∧ L = u.2.1 ∧ B = u.2.2.2)) 0 0 Ad := by
  refine startCv (by decide) (Nat.le_of_ble_eq_true rfl) (lv := [(0, .ref (ad k0)), (1, .int x1)]) rfl (fun p e s m args below meth c Q ls hx hb hml hT hown hK hret hl hP hS => ?_)
  unfold wX3_rise at h
  refine lv_aload_n hx hb dX3_rise_0 rfl (lv_at hl 0 rfl) ?_
  refine va_get (T := TX3) hx hb hT inlX3 hown hK.1 hP k0 (he_X3 (by omega)) rfl 0 (by decide) (hT _ mw_1_74) (fun _ h9 => h9) rfl dX3_rise_1 ?_
  refine lv_iload_n hx hb dX3_rise_4 rfl (lv_at hl 1 rfl) ?_
  obtain ⟨hi, h⟩ := h
  refine lC_I hx hb hK.1 hP (by omega) (eC_R40 (Or.inl (by omega))) hi dX3_rise_5 ?_
  refine lv_topi (fun v2 ev2 => ?_)
  replace h := h v2 ev2
  refine lv_istore_n (lv' := [(2, .int v2), (0, .ref (ad k0)), (1, .int x1)]) hx hb dX3_rise_6 rfl hl (by decide) rfl (fun ls hl => ?_)
  refine lv_iload_n hx hb dX3_rise_7 rfl (lv_at hl 2 rfl) ?_
  refine lv_istore_n (lv' := [(3, .int x1), (2, .int v2), (0, .ref (ad k0)), (1, .int x1)]) hx hb dX3_rise_8 rfl hl (by decide) rfl (fun ls hl => ?_)
  obtain ⟨F, n, h, hF, hG⟩ := lfix_ex h
  have LP : ∀ (n : Nat) (v3 : Int32) (A_1 : Nat → Nat → Int32) (ls : Array Slot) (H : Heap) (locs : List Loc), F n (v3, A_1) → lv_has ls 4 [(3, .int v3), (2, .int v2), (0, .ref (ad k0))] → va_P D vwCl (wC cy ad I L A_1 B) H → va_S Ad s.heap H locs → W p l e rmX3_rise s m args below meth c H locs 0 0 Q (F0 m 9 ls []) := by
    intro n
    induction n with
    | zero => intro v3 A_1 ls H locs h _ _ _; exact absurd h (hF _)
    | succ n ih =>
      intro v3 A_1 ls H locs h hl hP hS
      replace h := hG _ _ h
      try dsimp only at h
      refine lv_iload_n hx hb dX3_rise_9 rfl (lv_at hl 0 rfl) ?_
      obtain ⟨k, hk, h⟩ := jn_ex h
      try dsimp only at h
      have J : k () → ∀ (ls : Array Slot) (H : Heap) (locs : List Loc), lv_has ls 4 [(3, .int v3), (2, .int v2), (0, .ref (ad k0))] → va_P D vwCl (wC cy ad I L A_1 B) H → va_S Ad s.heap H locs → W p l e rmX3_rise s m args below meth c H locs 0 0 Q (F0 m 49 ls []) := by
        intro  h ls H locs hl hP hS
        replace h := hk _ h
        try dsimp only at h
        refine lv_aload_n hx hb dX3_rise_49 rfl (lv_at hl 2 rfl) ?_
        refine va_get (T := TX3) hx hb hT inlX3 hown hK.1 hP k0 (he_X3 (by omega)) rfl 0 (by decide) (hT _ mw_1_74) (fun _ h9 => h9) rfl dX3_rise_50 ?_
        refine lv_iload_n hx hb dX3_rise_53 rfl (lv_at hl 0 rfl) ?_
        refine lv_iload_n hx hb dX3_rise_54 rfl (lv_at hl 1 rfl) ?_
        obtain ⟨hi_1, h⟩ := h
        refine sC_I hAd hx hb hK.1 hP hS (by omega) (fun _ => eC_R40 (Or.inl (by omega))) hi_1 dX3_rise_55 (fun H locs hP hS => ?_)
        obtain ⟨A_2, eA_2⟩ : ∃ z, z = va_up A_1 (k0 + 34) (upd (A_1 (k0 + 34)) v3.toNatClampNeg v2) := ⟨_, rfl⟩
        rw [← eA_2] at hP
        replace h := h A_2 eA_2
        exact hret (I, L, A_2, B) dX3_rise_56 ⟨h, rfl, rfl, rfl⟩ hP hS
      refine lv_if_le (tgt := 49) hx hb dX3_rise_10 (by decide) (fun hc => ?_) (fun hc => ?_)
      · rw [if_pos hc] at h
        exact J  h _ _ _ (lv_sub hl [0, 1, 2] rfl) hP hS
      · rw [if_neg hc] at h
        refine lv_aload_n hx hb dX3_rise_13 rfl (lv_at hl 2 rfl) ?_
        refine lv_iload_n hx hb dX3_rise_14 rfl (lv_at hl 1 rfl) ?_
        refine lv_aload_n hx hb dX3_rise_15 rfl (lv_at hl 2 rfl) ?_
        refine va_get (T := TX3) hx hb hT inlX3 hown hK.1 hP k0 (he_X3 (by omega)) rfl 0 (by decide) (hT _ mw_1_74) (fun _ h9 => h9) rfl dX3_rise_16 ?_
        refine lv_iload_n hx hb dX3_rise_19 rfl (lv_at hl 0 rfl) ?_
        refine lv_iconst (v := 1) hx hb dX3_rise_20 (by decide) ?_
        refine lv_isub hx hb dX3_rise_21 ?_
        obtain ⟨hi_2, h⟩ := h
        refine lC_I hx hb hK.1 hP (by omega) (eC_R40 (Or.inl (by omega))) hi_2 dX3_rise_22 ?_
        refine callCi (k := k0) (As := [.int v2, .int (A_1 (k0 + 34) (v3 - 1).toNatClampNeg)]) (rest := []) (n := 2) (c_X3_isAhead hAd I L A_1 B k0 v2 (A_1 (k0 + 34) (v3 - 1).toNatClampNeg) (by omega) _ h) hx hb hT hown hK hP hS mw_2_166 wd_X3_isAhead (by decide +kernel) ⟨rfl, rfl⟩ (by decide) rfl rfl (he_X3 (by omega)) rfl hl.1 hml rfl (Nat.le_of_ble_eq_true rfl) dX3_rise_23 ⟨Nat.zero_le _, Nat.zero_le _⟩ (fun r23 u H locs h hP hS => ?_)
        obtain ⟨Iu, Lu, Au, Bu⟩ := u
        dsimp only at h hP
        obtain ⟨h, rfl, rfl, rfl, rfl⟩ := h
        try dsimp only at h
        refine lv_if_eq (tgt := 49) hx hb dX3_rise_26 (by decide) (fun hc_1 => ?_) (fun hc_1 => ?_)
        · rw [if_pos hc_1] at h
          exact J  h _ _ _ (lv_sub hl [0, 1, 2] rfl) hP hS
        · rw [if_neg hc_1] at h
          refine lv_aload_n hx hb dX3_rise_29 rfl (lv_at hl 2 rfl) ?_
          refine va_get (T := TX3) hx hb hT inlX3 hown hK.1 hP k0 (he_X3 (by omega)) rfl 0 (by decide) (hT _ mw_1_74) (fun _ h9 => h9) rfl dX3_rise_30 ?_
          refine lv_iload_n hx hb dX3_rise_33 rfl (lv_at hl 0 rfl) ?_
          refine lv_aload_n hx hb dX3_rise_34 rfl (lv_at hl 2 rfl) ?_
          refine va_get (T := TX3) hx hb hT inlX3 hown hK.1 hP k0 (he_X3 (by omega)) rfl 0 (by decide) (hT _ mw_1_74) (fun _ h9 => h9) rfl dX3_rise_35 ?_
          refine lv_iload_n hx hb dX3_rise_38 rfl (lv_at hl 0 rfl) ?_
          refine lv_iconst (v := 1) hx hb dX3_rise_39 (by decide) ?_
          refine lv_isub hx hb dX3_rise_40 ?_
          obtain ⟨hi_3, h⟩ := h
          refine lC_I hx hb hK.1 hP (by omega) (eC_R40 (Or.inl (by omega))) hi_3 dX3_rise_41 ?_
          obtain ⟨hi_4, h⟩ := h
          refine sC_I hAd hx hb hK.1 hP hS (by omega) (fun _ => eC_R40 (Or.inl (by omega))) hi_4 dX3_rise_42 (fun H locs hP hS => ?_)
          obtain ⟨A_3, eA_3⟩ : ∃ z, z = va_up A_1 (k0 + 34) (upd (A_1 (k0 + 34)) v3.toNatClampNeg (A_1 (k0 + 34) (v3 - 1).toNatClampNeg)) := ⟨_, rfl⟩
          rw [← eA_3] at hP
          replace h := h A_3 eA_3
          obtain ⟨v3_1, ev3_1⟩ : ∃ z : Int32, z = v3 + (-1) := ⟨_, rfl⟩
          replace h := h v3_1 ev3_1
          refine lv_iinc (v := v3_1) (lv' := [(3, .int v3_1), (2, .int v2), (0, .ref (ad k0))]) hx hb dX3_rise_43 hl (k := 0) rfl (by rw [ev3_1]; rfl) (by decide) rfl (fun ls hl => ?_)
          refine lv_goto (tgt := 9) hx hb dX3_rise_46 (by decide) ?_
          exact ih v3_1 A_3 _ _ _ h (lv_sub hl [0, 1, 2] rfl) hP hS
  exact LP _ x1 A _ _ _ h (lv_sub hl [0, 1, 2] rfl) hP hS
theorem dX3_put_0 : decode cX3_put 0 = .ok (.aload_n 0, 1) := by decide +kernel
theorem dX3_put_1 : decode cX3_put 1 = .ok (.getfield 18, 3) := by decide +kernel
theorem dX3_put_4 : decode cX3_put 4 = .ok (.aload_n 0, 1) := by decide +kernel
theorem dX3_put_5 : decode cX3_put 5 = .ok (.getfield 9, 3) := by decide +kernel
theorem dX3_put_8 : decode cX3_put 8 = .ok (.arraylength, 1) := by decide +kernel
theorem dX3_put_9 : decode cX3_put 9 = .ok (.if_icmp .ge 40, 3) := by decide +kernel
theorem dX3_put_12 : decode cX3_put 12 = .ok (.aload_n 0, 1) := by decide +kernel
theorem dX3_put_13 : decode cX3_put 13 = .ok (.getfield 15, 3) := by decide +kernel
theorem dX3_put_16 : decode cX3_put 16 = .ok (.iload_n 1, 1) := by decide +kernel
theorem dX3_put_17 : decode cX3_put 17 = .ok (.iload_n 2, 1) := by decide +kernel
theorem dX3_put_18 : decode cX3_put 18 = .ok (.iastore, 1) := by decide +kernel
theorem dX3_put_19 : decode cX3_put 19 = .ok (.aload_n 0, 1) := by decide +kernel
theorem dX3_put_20 : decode cX3_put 20 = .ok (.getfield 9, 3) := by decide +kernel
theorem dX3_put_23 : decode cX3_put 23 = .ok (.aload_n 0, 1) := by decide +kernel
theorem dX3_put_24 : decode cX3_put 24 = .ok (.getfield 18, 3) := by decide +kernel
theorem dX3_put_27 : decode cX3_put 27 = .ok (.iload_n 1, 1) := by decide +kernel
theorem dX3_put_28 : decode cX3_put 28 = .ok (.iastore, 1) := by decide +kernel
theorem dX3_put_29 : decode cX3_put 29 = .ok (.aload_n 0, 1) := by decide +kernel
theorem dX3_put_30 : decode cX3_put 30 = .ok (.dup, 1) := by decide +kernel
theorem dX3_put_31 : decode cX3_put 31 = .ok (.getfield 18, 3) := by decide +kernel
theorem dX3_put_34 : decode cX3_put 34 = .ok (.iconst 1, 1) := by decide +kernel
theorem dX3_put_35 : decode cX3_put 35 = .ok (.iadd, 1) := by decide +kernel
theorem dX3_put_36 : decode cX3_put 36 = .ok (.putfield 18, 3) := by decide +kernel
theorem dX3_put_39 : decode cX3_put 39 = .ok (.aload_n 0, 1) := by decide +kernel
theorem dX3_put_40 : decode cX3_put 40 = .ok (.aload_n 0, 1) := by decide +kernel
theorem dX3_put_41 : decode cX3_put 41 = .ok (.getfield 18, 3) := by decide +kernel
theorem dX3_put_44 : decode cX3_put 44 = .ok (.iconst 1, 1) := by decide +kernel
theorem dX3_put_45 : decode cX3_put 45 = .ok (.isub, 1) := by decide +kernel
theorem dX3_put_46 : decode cX3_put 46 = .ok (.invokevirtual 22, 3) := by decide +kernel
theorem dX3_put_49 : decode cX3_put 49 = .ok (.return_, 1) := by decide +kernel
def wX3_put (I : Nat → Int32) (L : Nat → Int64) (A : Nat → Nat → Int32) (B : Nat → Nat → Int64) (k0 : Nat) (x1 : Int32) (x2 : Int32) (post : (Nat → Int32) → (Nat → Nat → Int32) → Prop) : Prop := if 40 ≤ (I k0) then (post I A) else (vp_in x1 40 ∧ (∀ A_1, A_1 = va_up A (k0 + 36) (upd (A (k0 + 36)) x1.toNatClampNeg x2) → vp_in (I k0) 40 ∧ (∀ A_2, A_2 = va_up A_1 (k0 + 34) (upd (A_1 (k0 + 34)) (I k0).toNatClampNeg x1) → (∀ I_1, I_1 = va_up I k0 ((I k0) + 1) → wX3_rise I_1 L A_2 B k0 ((I_1 k0) - 1) (fun A_3 => post I_1 A_3)))))
abbrev rmX3_put : Room := { frames := 2, cells := 0, slots := 0, locals := 45 }
theorem wd_X3_put : Cond.instanceMethod yX3_put ∈ BW ∧ Cond.selects yX3_put.cls yX3_put yX3_put ∈ BW ∧ Cond.initialized yX3_put.cls ∈ BW ∧ Cond.code yX3_put cX3_put 3 (none : Option Jvm.ClassFile.FieldType) ∈ BW := ⟨mw_2_159, mw_2_160, mw_1_4, mw_2_161⟩
set_option maxHeartbeats 4000000 in
set_option maxRecDepth 100000 in
theorem c_X3_put {l : Launch} {D : va_G} {cy : Nat → ClassId} {ad : Nat → Nat} {Ad : Nat → Prop} (hAd : adok 103 Ad ad) (I : Nat → Int32) (L : Nat → Int64) (A : Nat → Nat → Int32) (B : Nat → Nat → Int64) (k0 : Nat) (x1 : Int32) (x2 : Int32) (hk0 : 7 ≤ k0 ∧ k0 < 9) (post : (Nat → Int32) → (Nat → Nat → Int32) → Prop) (h : wX3_put I L A B k0 x1 x2 post) : Met l yX3_put (.code yX3_put cX3_put 3 (none : Option Jvm.ClassFile.FieldType) :: BW) rmX3_put (va_Pc [.ref (ad k0), .int x1, .int x2] (fun U => kC D cy U ∧ va_P D vwCl (wC cy ad I L A B) U.heap)) (qCv D cy ad Ad (fun u => post u.1 u.2.2.1 ∧ L = u.2.1 ∧ B = u.2.2.2)) 0 0 Ad := by
  refine startCv (by decide) (Nat.le_of_ble_eq_true rfl) (lv := [(0, .ref (ad k0)), (1, .int x1), (2, .int x2)]) rfl (fun p e s m args below meth c Q ls hx hb hml hT hown hK hret hl hP hS => ?_)
  unfold wX3_put at h
  refine lv_aload_n hx hb dX3_put_0 rfl (lv_at hl 0 rfl) ?_
  refine va_get (T := TX3) hx hb hT inlX3 hown hK.1 hP k0 (he_X3 (by omega)) rfl 2 (by decide) (hT _ mw_1_78) (fun _ h9 => h9) rfl dX3_put_1 ?_
  refine lv_aload_n hx hb dX3_put_4 rfl (lv_at hl 0 rfl) ?_
  refine va_get (T := TX3) hx hb hT inlX3 hown hK.1 hP k0 (he_X3 (by omega)) rfl 0 (by decide) (hT _ mw_1_74) (fun _ h9 => h9) rfl dX3_put_5 ?_
  refine va_alen (v := 40) hx hb hK.1 hP (k0 + 34) 0 (by rw [wC_get (by omega)]; exact congrArg some (congrArg (Prod.mk _) (eC_R40 (Or.inl (by omega))))) rfl rfl dX3_put_8 ?_
  refine lv_icmp_ge (tgt := 49) hx hb dX3_put_9 (by decide) (fun hc => ?_) (fun hc => ?_)
  · rw [if_pos hc] at h
    exact hret (I, L, A, B) dX3_put_49 ⟨h, rfl, rfl⟩ hP hS
  · rw [if_neg hc] at h
    refine lv_aload_n hx hb dX3_put_12 rfl (lv_at hl 0 rfl) ?_
    refine va_get (T := TX3) hx hb hT inlX3 hown hK.1 hP k0 (he_X3 (by omega)) rfl 1 (by decide) (hT _ mw_1_76) (fun _ h9 => h9) rfl dX3_put_13 ?_
    refine lv_iload_n hx hb dX3_put_16 rfl (lv_at hl 1 rfl) ?_
    refine lv_iload_n hx hb dX3_put_17 rfl (lv_at hl 2 rfl) ?_
    obtain ⟨hi, h⟩ := h
    refine sC_I hAd hx hb hK.1 hP hS (by omega) (fun _ => eC_R40 (Or.inl (by omega))) hi dX3_put_18 (fun H locs hP hS => ?_)
    obtain ⟨A_1, eA_1⟩ : ∃ z, z = va_up A (k0 + 36) (upd (A (k0 + 36)) x1.toNatClampNeg x2) := ⟨_, rfl⟩
    rw [← eA_1] at hP
    replace h := h A_1 eA_1
    refine lv_aload_n hx hb dX3_put_19 rfl (lv_at hl 0 rfl) ?_
    refine va_get (T := TX3) hx hb hT inlX3 hown hK.1 hP k0 (he_X3 (by omega)) rfl 0 (by decide) (hT _ mw_1_74) (fun _ h9 => h9) rfl dX3_put_20 ?_
    refine lv_aload_n hx hb dX3_put_23 rfl (lv_at hl 0 rfl) ?_
    refine va_get (T := TX3) hx hb hT inlX3 hown hK.1 hP k0 (he_X3 (by omega)) rfl 2 (by decide) (hT _ mw_1_78) (fun _ h9 => h9) rfl dX3_put_24 ?_
    refine lv_iload_n hx hb dX3_put_27 rfl (lv_at hl 1 rfl) ?_
    obtain ⟨hi_1, h⟩ := h
    refine sC_I hAd hx hb hK.1 hP hS (by omega) (fun _ => eC_R40 (Or.inl (by omega))) hi_1 dX3_put_28 (fun H locs hP hS => ?_)
    obtain ⟨A_2, eA_2⟩ : ∃ z, z = va_up A_1 (k0 + 34) (upd (A_1 (k0 + 34)) (I k0).toNatClampNeg x1) := ⟨_, rfl⟩
    rw [← eA_2] at hP
    replace h := h A_2 eA_2
    refine lv_aload_n hx hb dX3_put_29 rfl (lv_at hl 0 rfl) ?_
    refine lv_dup hx hb dX3_put_30 rfl ?_
    refine va_get (T := TX3) hx hb hT inlX3 hown hK.1 hP k0 (he_X3 (by omega)) rfl 2 (by decide) (hT _ mw_1_78) (fun _ h9 => h9) rfl dX3_put_31 ?_
    refine lv_iconst (v := 1) hx hb dX3_put_34 (by decide) ?_
    refine lv_iadd hx hb dX3_put_35 ?_
    refine pC_X3_size (by omega) hAd hx hb hT hown hK.1 hP hS (hT _ mw_1_78) dX3_put_36 (fun H locs hP hS => ?_)
    obtain ⟨I_1, eI_1⟩ : ∃ z, z = va_up I k0 ((I k0) + 1) := ⟨_, rfl⟩
    rw [← eI_1] at hP
    replace h := h I_1 eI_1
    refine lv_aload_n hx hb dX3_put_39 rfl (lv_at hl 0 rfl) ?_
    refine lv_aload_n hx hb dX3_put_40 rfl (lv_at hl 0 rfl) ?_
    refine va_get (T := TX3) hx hb hT inlX3 hown hK.1 hP k0 (he_X3 (by omega)) rfl 2 (by decide) (hT _ mw_1_78) (fun _ h9 => h9) rfl dX3_put_41 ?_
    refine lv_iconst (v := 1) hx hb dX3_put_44 (by decide) ?_
    refine lv_isub hx hb dX3_put_45 ?_
    refine callCv (k := k0) (As := [.int ((I_1 k0) - 1)]) (rest := []) (n := 1) (c_X3_rise hAd I_1 L A_2 B k0 ((I_1 k0) - 1) (by omega) _ h) hx hb hT hown hK hP hS mw_2_162 wd_X3_rise (by decide +kernel) ⟨rfl, rfl⟩ (by decide) rfl rfl (he_X3 (by omega)) rfl hl.1 hml rfl (Nat.le_of_ble_eq_true rfl) dX3_put_46 ⟨Nat.zero_le _, Nat.zero_le _⟩ (fun u H locs h hP hS => ?_)
    obtain ⟨Iu, Lu, A_3, Bu⟩ := u
    dsimp only at h hP
    obtain ⟨h, rfl, rfl, rfl⟩ := h
    try dsimp only at h
    exact hret (I_1, L, A_3, B) dX3_put_49 ⟨h, rfl, rfl⟩ hP hS
theorem dX3_placeOf_0 : decode cX3_placeOf 0 = .ok (.iconst 0, 1) := by decide +kernel
theorem dX3_placeOf_1 : decode cX3_placeOf 1 = .ok (.istore_n 2, 1) := by decide +kernel
theorem dX3_placeOf_2 : decode cX3_placeOf 2 = .ok (.iload_n 2, 1) := by decide +kernel
theorem dX3_placeOf_3 : decode cX3_placeOf 3 = .ok (.aload_n 0, 1) := by decide +kernel
theorem dX3_placeOf_4 : decode cX3_placeOf 4 = .ok (.getfield 18, 3) := by decide +kernel
theorem dX3_placeOf_7 : decode cX3_placeOf 7 = .ok (.if_icmp .ge 21, 3) := by decide +kernel
theorem dX3_placeOf_10 : decode cX3_placeOf 10 = .ok (.aload_n 0, 1) := by decide +kernel
theorem dX3_placeOf_11 : decode cX3_placeOf 11 = .ok (.getfield 9, 3) := by decide +kernel
theorem dX3_placeOf_14 : decode cX3_placeOf 14 = .ok (.iload_n 2, 1) := by decide +kernel
theorem dX3_placeOf_15 : decode cX3_placeOf 15 = .ok (.iaload, 1) := by decide +kernel
theorem dX3_placeOf_16 : decode cX3_placeOf 16 = .ok (.iload_n 1, 1) := by decide +kernel
theorem dX3_placeOf_17 : decode cX3_placeOf 17 = .ok (.if_icmp .ne 5, 3) := by decide +kernel
theorem dX3_placeOf_20 : decode cX3_placeOf 20 = .ok (.iload_n 2, 1) := by decide +kernel
theorem dX3_placeOf_21 : decode cX3_placeOf 21 = .ok (.ireturn, 1) := by decide +kernel
theorem dX3_placeOf_22 : decode cX3_placeOf 22 = .ok (.iinc 2 1, 3) := by decide +kernel
theorem dX3_placeOf_25 : decode cX3_placeOf 25 = .ok (.goto (-23), 3) := by decide +kernel
theorem dX3_placeOf_28 : decode cX3_placeOf 28 = .ok (.iconst (-1), 1) := by decide +kernel
theorem dX3_placeOf_29 : decode cX3_placeOf 29 = .ok (.ireturn, 1) := by decide +kernel
def wX3_placeOf (I : Nat → Int32) (L : Nat → Int64) (A : Nat → Nat → Int32) (B : Nat → Nat → Int64) (k0 : Nat) (x1 : Int32) (post : Int32 → Prop) : Prop := ∃ n, lfix (fun (r : Int32 → Prop) v2 => if (I k0) ≤ v2 then (post (-1)) else (vp_in v2 40 ∧ (if (A (k0 + 34) v2.toNatClampNeg) = x1 then (post v2) else (∀ v2_1 : Int32, v2_1 = v2 + 1 → r v2_1)))) n 0
abbrev rmX3_placeOf : Room := { frames := 0, cells := 0, slots := 0, locals := 0 }
theorem wd_X3_placeOf : Cond.instanceMethod yX3_placeOf ∈ BW ∧ Cond.selects yX3_placeOf.cls yX3_placeOf yX3_placeOf ∈ BW ∧ Cond.initialized yX3_placeOf.cls ∈ BW ∧ Cond.code yX3_placeOf cX3_placeOf 3 (some .int) ∈ BW := ⟨mw_2_219, mw_2_220, mw_1_4, mw_2_221⟩
set_option maxHeartbeats 4000000 in
set_option maxRecDepth 100000 in
theorem c_X3_placeOf {l : Launch} {D : va_G} {cy : Nat → ClassId} {ad : Nat → Nat} {Ad : Nat → Prop} (hAd : adok 103 Ad ad) (I : Nat → Int32) (L : Nat → Int64) (A : Nat → Nat → Int32) (B : Nat → Nat → Int64) (k0 : Nat) (x1 : Int32) (hk0 : 7 ≤ k0 ∧ k0 < 9) (post : Int32 → Prop) (h : wX3_placeOf I L A B k0 x1 post) : Met l yX3_placeOf (.code yX3_placeOf cX3_placeOf 3 (some .int) :: BW) rmX3_placeOf (va_Pc [.ref (ad k0), .int x1] (fun U => kC D cy U ∧ va_P D vwCl (wC cy ad I L A B) U.heap)) (qCi D cy ad Ad (fun r u => post r  ∧ I = u.1 ∧ L = u.2.1 ∧ A = u.2.2.1 ∧ B = u.2.2.2)) 0 0 Ad := by
  refine startCi (by decide) (Nat.le_of_ble_eq_true rfl) (lv := [(0, .ref (ad k0)), (1, .int x1)]) rfl (fun p e s m args below meth c Q ls hx hb hml hT hown hK hret hl hP hS => ?_)
  unfold wX3_placeOf at h
  refine lv_iconst (v := 0) hx hb dX3_placeOf_0 (by decide) ?_
  refine lv_istore_n (lv' := [(2, .int 0), (0, .ref (ad k0)), (1, .int x1)]) hx hb dX3_placeOf_1 rfl hl (by decide) rfl (fun ls hl => ?_)
  obtain ⟨F, n, h, hF, hG⟩ := lfix_ex h
  have LP : ∀ (n : Nat) (v2 : Int32) (ls : Array Slot) (H : Heap) (locs : List Loc), F n v2 → lv_has ls 3 [(2, .int v2), (0, .ref (ad k0)), (1, .int x1)] → va_P D vwCl (wC cy ad I L A B) H → va_S Ad s.heap H locs → W p l e rmX3_placeOf s m args below meth c H locs 0 0 Q (F0 m 2 ls []) := by
    intro n
    induction n with
    | zero => intro v2 ls H locs h _ _ _; exact absurd h (hF _)
    | succ n ih =>
      intro v2 ls H locs h hl hP hS
      replace h := hG _ _ h
      try dsimp only at h
      refine lv_iload_n hx hb dX3_placeOf_2 rfl (lv_at hl 0 rfl) ?_
      refine lv_aload_n hx hb dX3_placeOf_3 rfl (lv_at hl 1 rfl) ?_
      refine va_get (T := TX3) hx hb hT inlX3 hown hK.1 hP k0 (he_X3 (by omega)) rfl 2 (by decide) (hT _ mw_1_78) (fun _ h9 => h9) rfl dX3_placeOf_4 ?_
      refine lv_icmp_ge (tgt := 28) hx hb dX3_placeOf_7 (by decide) (fun hc => ?_) (fun hc => ?_)
      · rw [if_pos hc] at h
        refine lv_iconst (v := (-1)) hx hb dX3_placeOf_28 (by decide) ?_
        exact hret _ (I, L, A, B) dX3_placeOf_29 ⟨h, rfl, rfl, rfl, rfl⟩ hP hS
      · rw [if_neg hc] at h
        refine lv_aload_n hx hb dX3_placeOf_10 rfl (lv_at hl 1 rfl) ?_
        refine va_get (T := TX3) hx hb hT inlX3 hown hK.1 hP k0 (he_X3 (by omega)) rfl 0 (by decide) (hT _ mw_1_74) (fun _ h9 => h9) rfl dX3_placeOf_11 ?_
        refine lv_iload_n hx hb dX3_placeOf_14 rfl (lv_at hl 0 rfl) ?_
        obtain ⟨hi, h⟩ := h
        refine lC_I hx hb hK.1 hP (by omega) (eC_R40 (Or.inl (by omega))) hi dX3_placeOf_15 ?_
        refine lv_iload_n hx hb dX3_placeOf_16 rfl (lv_at hl 2 rfl) ?_
        refine lv_icmp_ne (tgt := 22) hx hb dX3_placeOf_17 (by decide) (fun hc_1 => ?_) (fun hc_1 => ?_)
        · rw [if_neg hc_1] at h
          obtain ⟨v2_1, ev2_1⟩ : ∃ z : Int32, z = v2 + 1 := ⟨_, rfl⟩
          replace h := h v2_1 ev2_1
          refine lv_iinc (v := v2_1) (lv' := [(2, .int v2_1), (0, .ref (ad k0)), (1, .int x1)]) hx hb dX3_placeOf_22 hl (k := 0) rfl (by rw [ev2_1]; rfl) (by decide) rfl (fun ls hl => ?_)
          refine lv_goto (tgt := 2) hx hb dX3_placeOf_25 (by decide) ?_
          exact ih v2_1 _ _ _ h (lv_sub hl [0, 1, 2] rfl) hP hS
        · rw [if_pos hc_1] at h
          refine lv_iload_n hx hb dX3_placeOf_20 rfl (lv_at hl 0 rfl) ?_
          exact hret _ (I, L, A, B) dX3_placeOf_21 ⟨h, rfl, rfl, rfl, rfl⟩ hP hS
  exact LP _ 0 _ _ _ h (lv_sub hl [0, 1, 2] rfl) hP hS
theorem dX3_take_0 : decode cX3_take 0 = .ok (.aload_n 0, 1) := by decide +kernel
theorem dX3_take_1 : decode cX3_take 1 = .ok (.iload_n 1, 1) := by decide +kernel
theorem dX3_take_2 : decode cX3_take 2 = .ok (.invokevirtual 26, 3) := by decide +kernel
theorem dX3_take_5 : decode cX3_take 5 = .ok (.istore_n 2, 1) := by decide +kernel
theorem dX3_take_6 : decode cX3_take 6 = .ok (.iload_n 2, 1) := by decide +kernel
theorem dX3_take_7 : decode cX3_take 7 = .ok (.iconst (-1), 1) := by decide +kernel
theorem dX3_take_8 : decode cX3_take 8 = .ok (.if_icmp .ne 4, 3) := by decide +kernel
theorem dX3_take_11 : decode cX3_take 11 = .ok (.return_, 1) := by decide +kernel
theorem dX3_take_12 : decode cX3_take 12 = .ok (.aload_n 0, 1) := by decide +kernel
theorem dX3_take_13 : decode cX3_take 13 = .ok (.dup, 1) := by decide +kernel
theorem dX3_take_14 : decode cX3_take 14 = .ok (.getfield 18, 3) := by decide +kernel
theorem dX3_take_17 : decode cX3_take 17 = .ok (.iconst 1, 1) := by decide +kernel
theorem dX3_take_18 : decode cX3_take 18 = .ok (.isub, 1) := by decide +kernel
theorem dX3_take_19 : decode cX3_take 19 = .ok (.putfield 18, 3) := by decide +kernel
theorem dX3_take_22 : decode cX3_take 22 = .ok (.iload_n 2, 1) := by decide +kernel
theorem dX3_take_23 : decode cX3_take 23 = .ok (.istore_n 3, 1) := by decide +kernel
theorem dX3_take_24 : decode cX3_take 24 = .ok (.iload_n 3, 1) := by decide +kernel
theorem dX3_take_25 : decode cX3_take 25 = .ok (.aload_n 0, 1) := by decide +kernel
theorem dX3_take_26 : decode cX3_take 26 = .ok (.getfield 18, 3) := by decide +kernel
theorem dX3_take_29 : decode cX3_take 29 = .ok (.if_icmp .ge 23, 3) := by decide +kernel
theorem dX3_take_32 : decode cX3_take 32 = .ok (.aload_n 0, 1) := by decide +kernel
theorem dX3_take_33 : decode cX3_take 33 = .ok (.getfield 9, 3) := by decide +kernel
theorem dX3_take_36 : decode cX3_take 36 = .ok (.iload_n 3, 1) := by decide +kernel
theorem dX3_take_37 : decode cX3_take 37 = .ok (.aload_n 0, 1) := by decide +kernel
theorem dX3_take_38 : decode cX3_take 38 = .ok (.getfield 9, 3) := by decide +kernel
theorem dX3_take_41 : decode cX3_take 41 = .ok (.iload_n 3, 1) := by decide +kernel
theorem dX3_take_42 : decode cX3_take 42 = .ok (.iconst 1, 1) := by decide +kernel
theorem dX3_take_43 : decode cX3_take 43 = .ok (.iadd, 1) := by decide +kernel
theorem dX3_take_44 : decode cX3_take 44 = .ok (.iaload, 1) := by decide +kernel
theorem dX3_take_45 : decode cX3_take 45 = .ok (.iastore, 1) := by decide +kernel
theorem dX3_take_46 : decode cX3_take 46 = .ok (.iinc 3 1, 3) := by decide +kernel
theorem dX3_take_49 : decode cX3_take 49 = .ok (.goto (-25), 3) := by decide +kernel
theorem dX3_take_52 : decode cX3_take 52 = .ok (.return_, 1) := by decide +kernel
def wX3_take (I : Nat → Int32) (L : Nat → Int64) (A : Nat → Nat → Int32) (B : Nat → Nat → Int64) (k0 : Nat) (x1 : Int32) (post : (Nat → Int32) → (Nat → Nat → Int32) → Prop) : Prop := wX3_placeOf I L A B k0 x1 (fun r2 => if r2 = (-1) then (post I A) else ((∀ I_1, I_1 = va_up I k0 ((I k0) - 1) → ∃ n, lfix (fun (r : (Int32 × (Nat → Nat → Int32)) → Prop) (v3, A_1) => if (I_1 k0) ≤ v3 then (post I_1 A_1) else (vp_in (v3 + 1) 40 ∧ (vp_in v3 40 ∧ (∀ A_2, A_2 = va_up A_1 (k0 + 34) (upd (A_1 (k0 + 34)) v3.toNatClampNeg (A_1 (k0 + 34) (v3 + 1).toNatClampNeg)) → ∀ v3_1 : Int32, v3_1 = v3 + 1 → r (v3_1, A_2))))) n (r2, A))))
abbrev rmX3_take : Room := { frames := 1, cells := 0, slots := 0, locals := 22 }
theorem wd_X3_take : Cond.instanceMethod yX3_take ∈ BW ∧ Cond.selects yX3_take.cls yX3_take yX3_take ∈ BW ∧ Cond.initialized yX3_take.cls ∈ BW ∧ Cond.code yX3_take cX3_take 4 (none : Option Jvm.ClassFile.FieldType) ∈ BW := ⟨mw_2_215, mw_2_216, mw_1_4, mw_2_217⟩
set_option maxHeartbeats 4000000 in
set_option maxRecDepth 100000 in
theorem c_X3_take {l : Launch} {D : va_G} {cy : Nat → ClassId} {ad : Nat → Nat} {Ad : Nat → Prop} (hAd : adok 103 Ad ad) (I : Nat → Int32) (L : Nat → Int64) (A : Nat → Nat → Int32) (B : Nat → Nat → Int64) (k0 : Nat) (x1 : Int32) (hk0 : 7 ≤ k0 ∧ k0 < 9) (post : (Nat → Int32) → (Nat → Nat → Int32) → Prop) (h : wX3_take I L A B k0 x1 post) : Met l yX3_take (.code yX3_take cX3_take 4 (none : Option Jvm.ClassFile.FieldType) :: BW) rmX3_take (va_Pc [.ref (ad k0), .int x1] (fun U => kC D cy U ∧ va_P D vwCl (wC cy ad I L A B) U.heap)) (qCv D cy ad Ad (fun u => post u.1 u.2.2.1 ∧ L = u.2.1 ∧ B = u.2.2.2)) 0 0 Ad := by
  refine startCv (by decide) (Nat.le_of_ble_eq_true rfl) (lv := [(0, .ref (ad k0)), (1, .int x1)]) rfl (fun p e s m args below meth c Q ls hx hb hml hT hown hK hret hl hP hS => ?_)
  unfold wX3_take at h
  refine lv_aload_n hx hb dX3_take_0 rfl (lv_at hl 0 rfl) ?_
  refine lv_iload_n hx hb dX3_take_1 rfl (lv_at hl 1 rfl) ?_
  refine callCi (k := k0) (As := [.int x1]) (rest := []) (n := 1) (c_X3_placeOf hAd I L A B k0 x1 (by omega) _ h) hx hb hT hown hK hP hS mw_2_218 wd_X3_placeOf (by decide +kernel) ⟨rfl, rfl⟩ (by decide) rfl rfl (he_X3 (by omega)) rfl hl.1 hml rfl (Nat.le_of_ble_eq_true rfl) dX3_take_2 ⟨Nat.zero_le _, Nat.zero_le _⟩ (fun r2 u H locs h hP hS => ?_)
  obtain ⟨Iu, Lu, Au, Bu⟩ := u
  dsimp only at h hP
  obtain ⟨h, rfl, rfl, rfl, rfl⟩ := h
  try dsimp only at h
  refine lv_istore_n (lv' := [(2, .int r2), (0, .ref (ad k0)), (1, .int x1)]) hx hb dX3_take_5 rfl hl (by decide) rfl (fun ls hl => ?_)
  refine lv_iload_n hx hb dX3_take_6 rfl (lv_at hl 0 rfl) ?_
  refine lv_iconst (v := (-1)) hx hb dX3_take_7 (by decide) ?_
  refine lv_icmp_ne (tgt := 12) hx hb dX3_take_8 (by decide) (fun hc => ?_) (fun hc => ?_)
  · rw [if_neg hc] at h
    refine lv_aload_n hx hb dX3_take_12 rfl (lv_at hl 1 rfl) ?_
    refine lv_dup hx hb dX3_take_13 rfl ?_
    refine va_get (T := TX3) hx hb hT inlX3 hown hK.1 hP k0 (he_X3 (by omega)) rfl 2 (by decide) (hT _ mw_1_78) (fun _ h9 => h9) rfl dX3_take_14 ?_
    refine lv_iconst (v := 1) hx hb dX3_take_17 (by decide) ?_
    refine lv_isub hx hb dX3_take_18 ?_
    refine pC_X3_size (by omega) hAd hx hb hT hown hK.1 hP hS (hT _ mw_1_78) dX3_take_19 (fun H locs hP hS => ?_)
    obtain ⟨I_1, eI_1⟩ : ∃ z, z = va_up I k0 ((I k0) - 1) := ⟨_, rfl⟩
    rw [← eI_1] at hP
    replace h := h I_1 eI_1
    refine lv_iload_n hx hb dX3_take_22 rfl (lv_at hl 0 rfl) ?_
    refine lv_istore_n (lv' := [(3, .int r2), (2, .int r2), (0, .ref (ad k0)), (1, .int x1)]) hx hb dX3_take_23 rfl hl (by decide) rfl (fun ls hl => ?_)
    obtain ⟨F, n, h, hF, hG⟩ := lfix_ex h
    have LP : ∀ (n : Nat) (v3 : Int32) (A_1 : Nat → Nat → Int32) (ls : Array Slot) (H : Heap) (locs : List Loc), F n (v3, A_1) → lv_has ls 4 [(3, .int v3), (0, .ref (ad k0))] → va_P D vwCl (wC cy ad I_1 L A_1 B) H → va_S Ad s.heap H locs → W p l e rmX3_take s m args below meth c H locs 0 0 Q (F0 m 24 ls []) := by
      intro n
      induction n with
      | zero => intro v3 A_1 ls H locs h _ _ _; exact absurd h (hF _)
      | succ n ih =>
        intro v3 A_1 ls H locs h hl hP hS
        replace h := hG _ _ h
        try dsimp only at h
        refine lv_iload_n hx hb dX3_take_24 rfl (lv_at hl 0 rfl) ?_
        refine lv_aload_n hx hb dX3_take_25 rfl (lv_at hl 1 rfl) ?_
        refine va_get (T := TX3) hx hb hT inlX3 hown hK.1 hP k0 (he_X3 (by omega)) rfl 2 (by decide) (hT _ mw_1_78) (fun _ h9 => h9) rfl dX3_take_26 ?_
        refine lv_icmp_ge (tgt := 52) hx hb dX3_take_29 (by decide) (fun hc_1 => ?_) (fun hc_1 => ?_)
        · rw [if_pos hc_1] at h
          exact hret (I_1, L, A_1, B) dX3_take_52 ⟨h, rfl, rfl⟩ hP hS
        · rw [if_neg hc_1] at h
          refine lv_aload_n hx hb dX3_take_32 rfl (lv_at hl 1 rfl) ?_
          refine va_get (T := TX3) hx hb hT inlX3 hown hK.1 hP k0 (he_X3 (by omega)) rfl 0 (by decide) (hT _ mw_1_74) (fun _ h9 => h9) rfl dX3_take_33 ?_
          refine lv_iload_n hx hb dX3_take_36 rfl (lv_at hl 0 rfl) ?_
          refine lv_aload_n hx hb dX3_take_37 rfl (lv_at hl 1 rfl) ?_
          refine va_get (T := TX3) hx hb hT inlX3 hown hK.1 hP k0 (he_X3 (by omega)) rfl 0 (by decide) (hT _ mw_1_74) (fun _ h9 => h9) rfl dX3_take_38 ?_
          refine lv_iload_n hx hb dX3_take_41 rfl (lv_at hl 0 rfl) ?_
          refine lv_iconst (v := 1) hx hb dX3_take_42 (by decide) ?_
          refine lv_iadd hx hb dX3_take_43 ?_
          obtain ⟨hi, h⟩ := h
          refine lC_I hx hb hK.1 hP (by omega) (eC_R40 (Or.inl (by omega))) hi dX3_take_44 ?_
          obtain ⟨hi_1, h⟩ := h
          refine sC_I hAd hx hb hK.1 hP hS (by omega) (fun _ => eC_R40 (Or.inl (by omega))) hi_1 dX3_take_45 (fun H locs hP hS => ?_)
          obtain ⟨A_2, eA_2⟩ : ∃ z, z = va_up A_1 (k0 + 34) (upd (A_1 (k0 + 34)) v3.toNatClampNeg (A_1 (k0 + 34) (v3 + 1).toNatClampNeg)) := ⟨_, rfl⟩
          rw [← eA_2] at hP
          replace h := h A_2 eA_2
          obtain ⟨v3_1, ev3_1⟩ : ∃ z : Int32, z = v3 + 1 := ⟨_, rfl⟩
          replace h := h v3_1 ev3_1
          refine lv_iinc (v := v3_1) (lv' := [(3, .int v3_1), (0, .ref (ad k0))]) hx hb dX3_take_46 hl (k := 0) rfl (by rw [ev3_1]; rfl) (by decide) rfl (fun ls hl => ?_)
          refine lv_goto (tgt := 24) hx hb dX3_take_49 (by decide) ?_
          exact ih v3_1 A_2 _ _ _ h (lv_sub hl [0, 1] rfl) hP hS
    exact LP _ r2 A _ _ _ h (lv_sub hl [0, 2] rfl) hP hS
  · rw [if_pos hc] at h
    exact hret (I, L, A, B) dX3_take_11 ⟨h, rfl, rfl⟩ hP hS
theorem dX3_settle_0 : decode cX3_settle 0 = .ok (.iconst 1, 1) := by decide +kernel
theorem dX3_settle_1 : decode cX3_settle 1 = .ok (.istore_n 1, 1) := by decide +kernel
theorem dX3_settle_2 : decode cX3_settle 2 = .ok (.iload_n 1, 1) := by decide +kernel
theorem dX3_settle_3 : decode cX3_settle 3 = .ok (.aload_n 0, 1) := by decide +kernel
theorem dX3_settle_4 : decode cX3_settle 4 = .ok (.getfield 18, 3) := by decide +kernel
theorem dX3_settle_7 : decode cX3_settle 7 = .ok (.if_icmp .ge 14, 3) := by decide +kernel
theorem dX3_settle_10 : decode cX3_settle 10 = .ok (.aload_n 0, 1) := by decide +kernel
theorem dX3_settle_11 : decode cX3_settle 11 = .ok (.iload_n 1, 1) := by decide +kernel
theorem dX3_settle_12 : decode cX3_settle 12 = .ok (.invokevirtual 22, 3) := by decide +kernel
theorem dX3_settle_15 : decode cX3_settle 15 = .ok (.iinc 1 1, 3) := by decide +kernel
theorem dX3_settle_18 : decode cX3_settle 18 = .ok (.goto (-16), 3) := by decide +kernel
theorem dX3_settle_21 : decode cX3_settle 21 = .ok (.return_, 1) := by decide +kernel
def wX3_settle (I : Nat → Int32) (L : Nat → Int64) (A : Nat → Nat → Int32) (B : Nat → Nat → Int64) (k0 : Nat) (post : (Nat → Nat → Int32) → Prop) : Prop := ∃ n, lfix (fun (r : (Int32 × (Nat → Nat → Int32)) → Prop) (v1, A_1) => if (I k0) ≤ v1 then (post A_1) else (wX3_rise I L A_1 B k0 v1 (fun A_2 => ∀ v1_1 : Int32, v1_1 = v1 + 1 → r (v1_1, A_2)))) n (1, A)
abbrev rmX3_settle : Room := { frames := 2, cells := 0, slots := 0, locals := 45 }
theorem wd_X3_settle : Cond.instanceMethod yX3_settle ∈ BW ∧ Cond.selects yX3_settle.cls yX3_settle yX3_settle ∈ BW ∧ Cond.initialized yX3_settle.cls ∈ BW ∧ Cond.code yX3_settle cX3_settle 2 (none : Option Jvm.ClassFile.FieldType) ∈ BW := ⟨mw_3_186, mw_3_187, mw_1_4, mw_3_188⟩
set_option maxHeartbeats 4000000 in
set_option maxRecDepth 100000 in
theorem c_X3_settle {l : Launch} {D : va_G} {cy : Nat → ClassId} {ad : Nat → Nat} {Ad : Nat → Prop} (hAd : adok 103 Ad ad) (I : Nat → Int32) (L : Nat → Int64) (A : Nat → Nat → Int32) (B : Nat → Nat → Int64) (k0 : Nat) (hk0 : 7 ≤ k0 ∧ k0 < 9) (post : (Nat → Nat → Int32) → Prop) (h : wX3_settle I L A B k0 post) : Met l yX3_settle (.code yX3_settle cX3_settle 2 (none : Option Jvm.ClassFile.FieldType) :: BW) rmX3_settle (va_Pc [.ref (ad k0)] (fun U => kC D cy U ∧ va_P D vwCl (wC cy ad I L A B) U.heap)) (qCv D cy ad Ad (fun u => post u.2.2.1 ∧ I = u.1 ∧ L = u.2.1 ∧ B = u.2.2.2)) 0 0 Ad := by
  refine startCv (by decide) (Nat.le_of_ble_eq_true rfl) (lv := [(0, .ref (ad k0))]) rfl (fun p e s m args below meth c Q ls hx hb hml hT hown hK hret hl hP hS => ?_)
  unfold wX3_settle at h
  refine lv_iconst (v := 1) hx hb dX3_settle_0 (by decide) ?_
  refine lv_istore_n (lv' := [(1, .int 1), (0, .ref (ad k0))]) hx hb dX3_settle_1 rfl hl (by decide) rfl (fun ls hl => ?_)
  obtain ⟨F, n, h, hF, hG⟩ := lfix_ex h
  have LP : ∀ (n : Nat) (v1 : Int32) (A_1 : Nat → Nat → Int32) (ls : Array Slot) (H : Heap) (locs : List Loc), F n (v1, A_1) → lv_has ls 2 [(1, .int v1), (0, .ref (ad k0))] → va_P D vwCl (wC cy ad I L A_1 B) H → va_S Ad s.heap H locs → W p l e rmX3_settle s m args below meth c H locs 0 0 Q (F0 m 2 ls []) := by
    intro n
    induction n with
    | zero => intro v1 A_1 ls H locs h _ _ _; exact absurd h (hF _)
    | succ n ih =>
      intro v1 A_1 ls H locs h hl hP hS
      replace h := hG _ _ h
      try dsimp only at h
      refine lv_iload_n hx hb dX3_settle_2 rfl (lv_at hl 0 rfl) ?_
      refine lv_aload_n hx hb dX3_settle_3 rfl (lv_at hl 1 rfl) ?_
      refine va_get (T := TX3) hx hb hT inlX3 hown hK.1 hP k0 (he_X3 (by omega)) rfl 2 (by decide) (hT _ mw_1_78) (fun _ h9 => h9) rfl dX3_settle_4 ?_
      refine lv_icmp_ge (tgt := 21) hx hb dX3_settle_7 (by decide) (fun hc => ?_) (fun hc => ?_)
      · rw [if_pos hc] at h
        exact hret (I, L, A_1, B) dX3_settle_21 ⟨h, rfl, rfl, rfl⟩ hP hS
      · rw [if_neg hc] at h
        refine lv_aload_n hx hb dX3_settle_10 rfl (lv_at hl 1 rfl) ?_
        refine lv_iload_n hx hb dX3_settle_11 rfl (lv_at hl 0 rfl) ?_
        refine callCv (k := k0) (As := [.int v1]) (rest := []) (n := 1) (c_X3_rise hAd I L A_1 B k0 v1 (by omega) _ h) hx hb hT hown hK hP hS mw_2_162 wd_X3_rise (by decide +kernel) ⟨rfl, rfl⟩ (by decide) rfl rfl (he_X3 (by omega)) rfl hl.1 hml rfl (Nat.le_of_ble_eq_true rfl) dX3_settle_12 ⟨Nat.zero_le _, Nat.zero_le _⟩ (fun u H locs h hP hS => ?_)
        obtain ⟨Iu, Lu, A_2, Bu⟩ := u
        dsimp only at h hP
        obtain ⟨h, rfl, rfl, rfl⟩ := h
        try dsimp only at h
        obtain ⟨v1_1, ev1_1⟩ : ∃ z : Int32, z = v1 + 1 := ⟨_, rfl⟩
        replace h := h v1_1 ev1_1
        refine lv_iinc (v := v1_1) (lv' := [(1, .int v1_1), (0, .ref (ad k0))]) hx hb dX3_settle_15 hl (k := 0) rfl (by rw [ev1_1]; rfl) (by decide) rfl (fun ls hl => ?_)
        refine lv_goto (tgt := 2) hx hb dX3_settle_18 (by decide) ?_
        exact ih v1_1 A_2 _ _ _ h (lv_sub hl [0, 1] rfl) hP hS
  exact LP _ 1 A _ _ _ h (lv_sub hl [0, 1] rfl) hP hS
theorem dX3_isCertain_0 : decode cX3_isCertain 0 = .ok (.iload_n 1, 1) := by decide +kernel
theorem dX3_isCertain_1 : decode cX3_isCertain 1 = .ok (.iconst 1, 1) := by decide +kernel
theorem dX3_isCertain_2 : decode cX3_isCertain 2 = .ok (.if_icmp .lt 11, 3) := by decide +kernel
theorem dX3_isCertain_5 : decode cX3_isCertain 5 = .ok (.aload_n 0, 1) := by decide +kernel
theorem dX3_isCertain_6 : decode cX3_isCertain 6 = .ok (.getfield 18, 3) := by decide +kernel
theorem dX3_isCertain_9 : decode cX3_isCertain 9 = .ok (.iload_n 1, 1) := by decide +kernel
theorem dX3_isCertain_10 : decode cX3_isCertain 10 = .ok (.if_icmp .gt 5, 3) := by decide +kernel
theorem dX3_isCertain_13 : decode cX3_isCertain 13 = .ok (.iconst 1, 1) := by decide +kernel
theorem dX3_isCertain_14 : decode cX3_isCertain 14 = .ok (.ireturn, 1) := by decide +kernel
theorem dX3_isCertain_15 : decode cX3_isCertain 15 = .ok (.aload_n 0, 1) := by decide +kernel
theorem dX3_isCertain_16 : decode cX3_isCertain 16 = .ok (.getfield 9, 3) := by decide +kernel
theorem dX3_isCertain_19 : decode cX3_isCertain 19 = .ok (.iload_n 1, 1) := by decide +kernel
theorem dX3_isCertain_20 : decode cX3_isCertain 20 = .ok (.iconst 1, 1) := by decide +kernel
theorem dX3_isCertain_21 : decode cX3_isCertain 21 = .ok (.isub, 1) := by decide +kernel
theorem dX3_isCertain_22 : decode cX3_isCertain 22 = .ok (.iaload, 1) := by decide +kernel
theorem dX3_isCertain_23 : decode cX3_isCertain 23 = .ok (.istore_n 3, 1) := by decide +kernel
theorem dX3_isCertain_24 : decode cX3_isCertain 24 = .ok (.aload_n 0, 1) := by decide +kernel
theorem dX3_isCertain_25 : decode cX3_isCertain 25 = .ok (.getfield 9, 3) := by decide +kernel
theorem dX3_isCertain_28 : decode cX3_isCertain 28 = .ok (.iload_n 1, 1) := by decide +kernel
theorem dX3_isCertain_29 : decode cX3_isCertain 29 = .ok (.iaload, 1) := by decide +kernel
theorem dX3_isCertain_30 : decode cX3_isCertain 30 = .ok (.istore 4, 2) := by decide +kernel
theorem dX3_isCertain_32 : decode cX3_isCertain 32 = .ok (.aload_n 0, 1) := by decide +kernel
theorem dX3_isCertain_33 : decode cX3_isCertain 33 = .ok (.getfield 15, 3) := by decide +kernel
theorem dX3_isCertain_36 : decode cX3_isCertain 36 = .ok (.iload_n 3, 1) := by decide +kernel
theorem dX3_isCertain_37 : decode cX3_isCertain 37 = .ok (.iaload, 1) := by decide +kernel
theorem dX3_isCertain_38 : decode cX3_isCertain 38 = .ok (.aload_n 0, 1) := by decide +kernel
theorem dX3_isCertain_39 : decode cX3_isCertain 39 = .ok (.getfield 15, 3) := by decide +kernel
theorem dX3_isCertain_42 : decode cX3_isCertain 42 = .ok (.iload 4, 2) := by decide +kernel
theorem dX3_isCertain_44 : decode cX3_isCertain 44 = .ok (.iaload, 1) := by decide +kernel
theorem dX3_isCertain_45 : decode cX3_isCertain 45 = .ok (.isub, 1) := by decide +kernel
theorem dX3_isCertain_46 : decode cX3_isCertain 46 = .ok (.iload_n 2, 1) := by decide +kernel
theorem dX3_isCertain_47 : decode cX3_isCertain 47 = .ok (.isub, 1) := by decide +kernel
theorem dX3_isCertain_48 : decode cX3_isCertain 48 = .ok (.istore 5, 2) := by decide +kernel
theorem dX3_isCertain_50 : decode cX3_isCertain 50 = .ok (.iload 5, 2) := by decide +kernel
theorem dX3_isCertain_52 : decode cX3_isCertain 52 = .ok (.ifCond .gt 14, 3) := by decide +kernel
theorem dX3_isCertain_55 : decode cX3_isCertain 55 = .ok (.iload 5, 2) := by decide +kernel
theorem dX3_isCertain_57 : decode cX3_isCertain 57 = .ok (.ifCond .ne 13, 3) := by decide +kernel
theorem dX3_isCertain_60 : decode cX3_isCertain 60 = .ok (.iload_n 3, 1) := by decide +kernel
theorem dX3_isCertain_61 : decode cX3_isCertain 61 = .ok (.iload 4, 2) := by decide +kernel
theorem dX3_isCertain_63 : decode cX3_isCertain 63 = .ok (.if_icmp .ge 7, 3) := by decide +kernel
theorem dX3_isCertain_66 : decode cX3_isCertain 66 = .ok (.iconst 1, 1) := by decide +kernel
theorem dX3_isCertain_67 : decode cX3_isCertain 67 = .ok (.goto 4, 3) := by decide +kernel
theorem dX3_isCertain_70 : decode cX3_isCertain 70 = .ok (.iconst 0, 1) := by decide +kernel
theorem dX3_isCertain_71 : decode cX3_isCertain 71 = .ok (.ireturn, 1) := by decide +kernel
def wX3_isCertain (I : Nat → Int32) (L : Nat → Int64) (A : Nat → Nat → Int32) (B : Nat → Nat → Int64) (k0 : Nat) (x1 : Int32) (x2 : Int32) (post : Int32 → Prop) : Prop := if x1 < 1 then (post 1) else (if x1 < (I k0) then (vp_in (x1 - 1) 40 ∧ (∀ v3 : Int32, v3 = A (k0 + 34) (x1 - 1).toNatClampNeg → vp_in x1 40 ∧ (∀ v4 : Int32, v4 = A (k0 + 34) x1.toNatClampNeg → vp_in v3 40 ∧ (vp_in v4 40 ∧ (∀ v5 : Int32, v5 = ((A (k0 + 36) v3.toNatClampNeg) - (A (k0 + 36) v4.toNatClampNeg)) - x2 → if 0 < v5 then (post 1) else (if v5 = 0 then (if v4 ≤ v3 then (post 0) else (post 1)) else (post 0))))))) else (post 1))
abbrev rmX3_isCertain : Room := { frames := 0, cells := 0, slots := 0, locals := 0 }
theorem wd_X3_isCertain : Cond.instanceMethod yX3_isCertain ∈ BW ∧ Cond.selects yX3_isCertain.cls yX3_isCertain yX3_isCertain ∈ BW ∧ Cond.initialized yX3_isCertain.cls ∈ BW ∧ Cond.code yX3_isCertain cX3_isCertain 6 (some .boolean) ∈ BW := ⟨mw_3_178, mw_3_179, mw_1_4, mw_3_180⟩
set_option maxHeartbeats 4000000 in
set_option maxRecDepth 100000 in
theorem c_X3_isCertain {l : Launch} {D : va_G} {cy : Nat → ClassId} {ad : Nat → Nat} {Ad : Nat → Prop} (hAd : adok 103 Ad ad) (I : Nat → Int32) (L : Nat → Int64) (A : Nat → Nat → Int32) (B : Nat → Nat → Int64) (k0 : Nat) (x1 : Int32) (x2 : Int32) (hk0 : 7 ≤ k0 ∧ k0 < 9) (post : Int32 → Prop) (h : wX3_isCertain I L A B k0 x1 x2 post) : Met l yX3_isCertain (.code yX3_isCertain cX3_isCertain 6 (some .boolean) :: BW) rmX3_isCertain (va_Pc [.ref (ad k0), .int x1, .int x2] (fun U => kC D cy U ∧ va_P D vwCl (wC cy ad I L A B) U.heap)) (qCi D cy ad Ad (fun r u => post r  ∧ I = u.1 ∧ L = u.2.1 ∧ A = u.2.2.1 ∧ B = u.2.2.2)) 0 0 Ad := by
  refine startCz (by decide) (Nat.le_of_ble_eq_true rfl) (lv := [(0, .ref (ad k0)), (1, .int x1), (2, .int x2)]) rfl (fun p e s m args below meth c Q ls hx hb hml hT hown hK hret hl hP hS => ?_)
  unfold wX3_isCertain at h
  refine lv_iload_n hx hb dX3_isCertain_0 rfl (lv_at hl 1 rfl) ?_
  refine lv_iconst (v := 1) hx hb dX3_isCertain_1 (by decide) ?_
  refine lv_icmp_lt (tgt := 13) hx hb dX3_isCertain_2 (by decide) (fun hc => ?_) (fun hc => ?_)
  · rw [if_pos hc] at h
    refine lv_iconst (v := 1) hx hb dX3_isCertain_13 (by decide) ?_
    exact hret _ (I, L, A, B) zb_1 dX3_isCertain_14 ⟨h, rfl, rfl, rfl, rfl⟩ hP hS
  · rw [if_neg hc] at h
    refine lv_aload_n hx hb dX3_isCertain_5 rfl (lv_at hl 0 rfl) ?_
    refine va_get (T := TX3) hx hb hT inlX3 hown hK.1 hP k0 (he_X3 (by omega)) rfl 2 (by decide) (hT _ mw_1_78) (fun _ h9 => h9) rfl dX3_isCertain_6 ?_
    refine lv_iload_n hx hb dX3_isCertain_9 rfl (lv_at hl 1 rfl) ?_
    refine lv_icmp_gt (tgt := 15) hx hb dX3_isCertain_10 (by decide) (fun hc_1 => ?_) (fun hc_1 => ?_)
    · rw [if_pos hc_1] at h
      refine lv_aload_n hx hb dX3_isCertain_15 rfl (lv_at hl 0 rfl) ?_
      refine va_get (T := TX3) hx hb hT inlX3 hown hK.1 hP k0 (he_X3 (by omega)) rfl 0 (by decide) (hT _ mw_1_74) (fun _ h9 => h9) rfl dX3_isCertain_16 ?_
      refine lv_iload_n hx hb dX3_isCertain_19 rfl (lv_at hl 1 rfl) ?_
      refine lv_iconst (v := 1) hx hb dX3_isCertain_20 (by decide) ?_
      refine lv_isub hx hb dX3_isCertain_21 ?_
      obtain ⟨hi, h⟩ := h
      refine lC_I hx hb hK.1 hP (by omega) (eC_R40 (Or.inl (by omega))) hi dX3_isCertain_22 ?_
      refine lv_topi (fun v3 ev3 => ?_)
      replace h := h v3 ev3
      refine lv_istore_n (lv' := [(3, .int v3), (0, .ref (ad k0)), (1, .int x1), (2, .int x2)]) hx hb dX3_isCertain_23 rfl hl (by decide) rfl (fun ls hl => ?_)
      refine lv_aload_n hx hb dX3_isCertain_24 rfl (lv_at hl 1 rfl) ?_
      refine va_get (T := TX3) hx hb hT inlX3 hown hK.1 hP k0 (he_X3 (by omega)) rfl 0 (by decide) (hT _ mw_1_74) (fun _ h9 => h9) rfl dX3_isCertain_25 ?_
      refine lv_iload_n hx hb dX3_isCertain_28 rfl (lv_at hl 2 rfl) ?_
      obtain ⟨hi_1, h⟩ := h
      refine lC_I hx hb hK.1 hP (by omega) (eC_R40 (Or.inl (by omega))) hi_1 dX3_isCertain_29 ?_
      refine lv_topi (fun v4 ev4 => ?_)
      replace h := h v4 ev4
      refine lv_istore (lv' := [(4, .int v4), (3, .int v3), (0, .ref (ad k0)), (1, .int x1), (2, .int x2)]) hx hb dX3_isCertain_30 hl (by decide) rfl (fun ls hl => ?_)
      refine lv_aload_n hx hb dX3_isCertain_32 rfl (lv_at hl 2 rfl) ?_
      refine va_get (T := TX3) hx hb hT inlX3 hown hK.1 hP k0 (he_X3 (by omega)) rfl 1 (by decide) (hT _ mw_1_76) (fun _ h9 => h9) rfl dX3_isCertain_33 ?_
      refine lv_iload_n hx hb dX3_isCertain_36 rfl (lv_at hl 1 rfl) ?_
      obtain ⟨hi_2, h⟩ := h
      refine lC_I hx hb hK.1 hP (by omega) (eC_R40 (Or.inl (by omega))) hi_2 dX3_isCertain_37 ?_
      refine lv_aload_n hx hb dX3_isCertain_38 rfl (lv_at hl 2 rfl) ?_
      refine va_get (T := TX3) hx hb hT inlX3 hown hK.1 hP k0 (he_X3 (by omega)) rfl 1 (by decide) (hT _ mw_1_76) (fun _ h9 => h9) rfl dX3_isCertain_39 ?_
      refine lv_iload hx hb dX3_isCertain_42 (lv_at hl 0 rfl) ?_
      obtain ⟨hi_3, h⟩ := h
      refine lC_I hx hb hK.1 hP (by omega) (eC_R40 (Or.inl (by omega))) hi_3 dX3_isCertain_44 ?_
      refine lv_isub hx hb dX3_isCertain_45 ?_
      refine lv_iload_n hx hb dX3_isCertain_46 rfl (lv_at hl 4 rfl) ?_
      refine lv_isub hx hb dX3_isCertain_47 ?_
      refine lv_topi (fun v5 ev5 => ?_)
      replace h := h v5 ev5
      refine lv_istore (lv' := [(5, .int v5), (4, .int v4), (3, .int v3), (0, .ref (ad k0)), (1, .int x1), (2, .int x2)]) hx hb dX3_isCertain_48 hl (by decide) rfl (fun ls hl => ?_)
      refine lv_iload hx hb dX3_isCertain_50 (lv_at hl 0 rfl) ?_
      refine lv_if_gt (tgt := 66) hx hb dX3_isCertain_52 (by decide) (fun hc_2 => ?_) (fun hc_2 => ?_)
      · rw [if_pos hc_2] at h
        refine lv_iconst (v := 1) hx hb dX3_isCertain_66 (by decide) ?_
        refine lv_goto (tgt := 71) hx hb dX3_isCertain_67 (by decide) ?_
        exact hret _ (I, L, A, B) zb_1 dX3_isCertain_71 ⟨h, rfl, rfl, rfl, rfl⟩ hP hS
      · rw [if_neg hc_2] at h
        refine lv_iload hx hb dX3_isCertain_55 (lv_at hl 0 rfl) ?_
        refine lv_if_ne (tgt := 70) hx hb dX3_isCertain_57 (by decide) (fun hc_3 => ?_) (fun hc_3 => ?_)
        · rw [if_neg hc_3] at h
          refine lv_iconst (v := 0) hx hb dX3_isCertain_70 (by decide) ?_
          exact hret _ (I, L, A, B) zb_0 dX3_isCertain_71 ⟨h, rfl, rfl, rfl, rfl⟩ hP hS
        · rw [if_pos hc_3] at h
          refine lv_iload_n hx hb dX3_isCertain_60 rfl (lv_at hl 2 rfl) ?_
          refine lv_iload hx hb dX3_isCertain_61 (lv_at hl 1 rfl) ?_
          refine lv_icmp_ge (tgt := 70) hx hb dX3_isCertain_63 (by decide) (fun hc_4 => ?_) (fun hc_4 => ?_)
          · rw [if_pos hc_4] at h
            refine lv_iconst (v := 0) hx hb dX3_isCertain_70 (by decide) ?_
            exact hret _ (I, L, A, B) zb_0 dX3_isCertain_71 ⟨h, rfl, rfl, rfl, rfl⟩ hP hS
          · rw [if_neg hc_4] at h
            refine lv_iconst (v := 1) hx hb dX3_isCertain_66 (by decide) ?_
            refine lv_goto (tgt := 71) hx hb dX3_isCertain_67 (by decide) ?_
            exact hret _ (I, L, A, B) zb_1 dX3_isCertain_71 ⟨h, rfl, rfl, rfl, rfl⟩ hP hS
    · rw [if_neg hc_1] at h
      refine lv_iconst (v := 1) hx hb dX3_isCertain_13 (by decide) ?_
      exact hret _ (I, L, A, B) zb_1 dX3_isCertain_14 ⟨h, rfl, rfl, rfl, rfl⟩ hP hS
theorem dX4_clear_0 : decode cX4_clear 0 = .ok (.aload_n 0, 1) := by decide +kernel
theorem dX4_clear_1 : decode cX4_clear 1 = .ok (.iconst 0, 1) := by decide +kernel
theorem dX4_clear_2 : decode cX4_clear 2 = .ok (.putfield 13, 3) := by decide +kernel
theorem dX4_clear_5 : decode cX4_clear 5 = .ok (.return_, 1) := by decide +kernel
def wX4_clear (I : Nat → Int32) (L : Nat → Int64) (A : Nat → Nat → Int32) (B : Nat → Nat → Int64)  (post : (Nat → Int32) → Prop) : Prop := (∀ I_1, I_1 = va_up I 5 0 → post I_1)
abbrev rmX4_clear : Room := { frames := 0, cells := 0, slots := 0, locals := 0 }
theorem wd_X4_clear : Cond.instanceMethod yX4_clear ∈ BW ∧ Cond.selects yX4_clear.cls yX4_clear yX4_clear ∈ BW ∧ Cond.initialized yX4_clear.cls ∈ BW ∧ Cond.code yX4_clear cX4_clear 1 (none : Option Jvm.ClassFile.FieldType) ∈ BW := ⟨mw_3_128, mw_3_129, mw_1_9, mw_3_130⟩
set_option maxHeartbeats 4000000 in
set_option maxRecDepth 100000 in
theorem c_X4_clear {l : Launch} {D : va_G} {cy : Nat → ClassId} {ad : Nat → Nat} {Ad : Nat → Prop} (hAd : adok 103 Ad ad) (I : Nat → Int32) (L : Nat → Int64) (A : Nat → Nat → Int32) (B : Nat → Nat → Int64)   (post : (Nat → Int32) → Prop) (h : wX4_clear I L A B  post) : Met l yX4_clear (.code yX4_clear cX4_clear 1 (none : Option Jvm.ClassFile.FieldType) :: BW) rmX4_clear (va_Pc [.ref (ad 5)] (fun U => kC D cy U ∧ va_P D vwCl (wC cy ad I L A B) U.heap)) (qCv D cy ad Ad (fun u => post u.1 ∧ L = u.2.1 ∧ A = u.2.2.1 ∧ B = u.2.2.2)) 0 0 Ad := by
  refine startCv (by decide) (Nat.le_of_ble_eq_true rfl) (lv := [(0, .ref (ad 5))]) rfl (fun p e s m args below meth c Q ls hx hb hml hT hown hK hret hl hP hS => ?_)
  unfold wX4_clear at h
  refine lv_aload_n hx hb dX4_clear_0 rfl (lv_at hl 0 rfl) ?_
  refine lv_iconst (v := 0) hx hb dX4_clear_1 (by decide) ?_
  refine pC_X4_size hAd hx hb hT hown hK.1 hP hS (hT _ mw_1_214) dX4_clear_2 (fun H locs hP hS => ?_)
  obtain ⟨I_1, eI_1⟩ : ∃ z, z = va_up I 5 0 := ⟨_, rfl⟩
  rw [← eI_1] at hP
  replace h := h I_1 eI_1
  exact hret (I_1, L, A, B) dX4_clear_5 ⟨h, rfl, rfl, rfl⟩ hP hS
theorem dX4_put_0 : decode cX4_put 0 = .ok (.aload_n 0, 1) := by decide +kernel
theorem dX4_put_1 : decode cX4_put 1 = .ok (.getfield 13, 3) := by decide +kernel
theorem dX4_put_4 : decode cX4_put 4 = .ok (.aload_n 0, 1) := by decide +kernel
theorem dX4_put_5 : decode cX4_put 5 = .ok (.getfield 7, 3) := by decide +kernel
theorem dX4_put_8 : decode cX4_put 8 = .ok (.arraylength, 1) := by decide +kernel
theorem dX4_put_9 : decode cX4_put 9 = .ok (.if_icmp .lt 4, 3) := by decide +kernel
theorem dX4_put_12 : decode cX4_put 12 = .ok (.return_, 1) := by decide +kernel
theorem dX4_put_13 : decode cX4_put 13 = .ok (.aload_n 0, 1) := by decide +kernel
theorem dX4_put_14 : decode cX4_put 14 = .ok (.getfield 13, 3) := by decide +kernel
theorem dX4_put_17 : decode cX4_put 17 = .ok (.istore_n 2, 1) := by decide +kernel
theorem dX4_put_18 : decode cX4_put 18 = .ok (.iload_n 2, 1) := by decide +kernel
theorem dX4_put_19 : decode cX4_put 19 = .ok (.ifCond .le 35, 3) := by decide +kernel
theorem dX4_put_22 : decode cX4_put 22 = .ok (.aload_n 0, 1) := by decide +kernel
theorem dX4_put_23 : decode cX4_put 23 = .ok (.getfield 7, 3) := by decide +kernel
theorem dX4_put_26 : decode cX4_put 26 = .ok (.iload_n 2, 1) := by decide +kernel
theorem dX4_put_27 : decode cX4_put 27 = .ok (.iconst 1, 1) := by decide +kernel
theorem dX4_put_28 : decode cX4_put 28 = .ok (.isub, 1) := by decide +kernel
theorem dX4_put_29 : decode cX4_put 29 = .ok (.iaload, 1) := by decide +kernel
theorem dX4_put_30 : decode cX4_put 30 = .ok (.iload_n 1, 1) := by decide +kernel
theorem dX4_put_31 : decode cX4_put 31 = .ok (.if_icmp .le 23, 3) := by decide +kernel
theorem dX4_put_34 : decode cX4_put 34 = .ok (.aload_n 0, 1) := by decide +kernel
theorem dX4_put_35 : decode cX4_put 35 = .ok (.getfield 7, 3) := by decide +kernel
theorem dX4_put_38 : decode cX4_put 38 = .ok (.iload_n 2, 1) := by decide +kernel
theorem dX4_put_39 : decode cX4_put 39 = .ok (.aload_n 0, 1) := by decide +kernel
theorem dX4_put_40 : decode cX4_put 40 = .ok (.getfield 7, 3) := by decide +kernel
theorem dX4_put_43 : decode cX4_put 43 = .ok (.iload_n 2, 1) := by decide +kernel
theorem dX4_put_44 : decode cX4_put 44 = .ok (.iconst 1, 1) := by decide +kernel
theorem dX4_put_45 : decode cX4_put 45 = .ok (.isub, 1) := by decide +kernel
theorem dX4_put_46 : decode cX4_put 46 = .ok (.iaload, 1) := by decide +kernel
theorem dX4_put_47 : decode cX4_put 47 = .ok (.iastore, 1) := by decide +kernel
theorem dX4_put_48 : decode cX4_put 48 = .ok (.iinc 2 (-1), 3) := by decide +kernel
theorem dX4_put_51 : decode cX4_put 51 = .ok (.goto (-33), 3) := by decide +kernel
theorem dX4_put_54 : decode cX4_put 54 = .ok (.aload_n 0, 1) := by decide +kernel
theorem dX4_put_55 : decode cX4_put 55 = .ok (.getfield 7, 3) := by decide +kernel
theorem dX4_put_58 : decode cX4_put 58 = .ok (.iload_n 2, 1) := by decide +kernel
theorem dX4_put_59 : decode cX4_put 59 = .ok (.iload_n 1, 1) := by decide +kernel
theorem dX4_put_60 : decode cX4_put 60 = .ok (.iastore, 1) := by decide +kernel
theorem dX4_put_61 : decode cX4_put 61 = .ok (.aload_n 0, 1) := by decide +kernel
theorem dX4_put_62 : decode cX4_put 62 = .ok (.dup, 1) := by decide +kernel
theorem dX4_put_63 : decode cX4_put 63 = .ok (.getfield 13, 3) := by decide +kernel
theorem dX4_put_66 : decode cX4_put 66 = .ok (.iconst 1, 1) := by decide +kernel
theorem dX4_put_67 : decode cX4_put 67 = .ok (.iadd, 1) := by decide +kernel
theorem dX4_put_68 : decode cX4_put 68 = .ok (.putfield 13, 3) := by decide +kernel
theorem dX4_put_71 : decode cX4_put 71 = .ok (.return_, 1) := by decide +kernel
def wX4_put (I : Nat → Int32) (L : Nat → Int64) (A : Nat → Nat → Int32) (B : Nat → Nat → Int64) (x1 : Int32) (post : (Nat → Int32) → (Nat → Nat → Int32) → Prop) : Prop := if (I 5) < 40 then (∀ v2 : Int32, v2 = I 5 → ∃ n, lfix (fun (r : (Int32 × (Nat → Nat → Int32)) → Prop) (v2_1, A_1) => jn (fun (_ : Unit) => vp_in v2_1 40 ∧ (∀ A_2, A_2 = va_up A_1 49 (upd (A_1 49) v2_1.toNatClampNeg x1) → (∀ I_1, I_1 = va_up I 5 ((I 5) + 1) → post I_1 A_2))) (fun k => if v2_1 ≤ 0 then (k ()) else (vp_in (v2_1 - 1) 40 ∧ (if (A_1 49 (v2_1 - 1).toNatClampNeg) ≤ x1 then (k ()) else (vp_in (v2_1 - 1) 40 ∧ (vp_in v2_1 40 ∧ (∀ A_3, A_3 = va_up A_1 49 (upd (A_1 49) v2_1.toNatClampNeg (A_1 49 (v2_1 - 1).toNatClampNeg)) → ∀ v2_2 : Int32, v2_2 = v2_1 + (-1) → r (v2_2, A_3)))))))) n (v2, A)) else (post I A)
abbrev rmX4_put : Room := { frames := 0, cells := 0, slots := 0, locals := 0 }
theorem wd_X4_put : Cond.instanceMethod yX4_put ∈ BW ∧ Cond.selects yX4_put.cls yX4_put yX4_put ∈ BW ∧ Cond.initialized yX4_put.cls ∈ BW ∧ Cond.code yX4_put cX4_put 3 (none : Option Jvm.ClassFile.FieldType) ∈ BW := ⟨mw_3_132, mw_3_133, mw_1_9, mw_3_134⟩
set_option maxHeartbeats 4000000 in
set_option maxRecDepth 100000 in
theorem c_X4_put {l : Launch} {D : va_G} {cy : Nat → ClassId} {ad : Nat → Nat} {Ad : Nat → Prop} (hAd : adok 103 Ad ad) (I : Nat → Int32) (L : Nat → Int64) (A : Nat → Nat → Int32) (B : Nat → Nat → Int64) (x1 : Int32)  (post : (Nat → Int32) → (Nat → Nat → Int32) → Prop) (h : wX4_put I L A B x1 post) : Met l yX4_put (.code yX4_put cX4_put 3 (none : Option Jvm.ClassFile.FieldType) :: BW) rmX4_put (va_Pc [.ref (ad 5), .int x1] (fun U => kC D cy U ∧ va_P D vwCl (wC cy ad I L A B) U.heap)) (qCv D cy ad Ad (fun u => post u.1 u.2.2.1 ∧ L = u.2.1 ∧ B = u.2.2.2)) 0 0 Ad := by
  refine startCv (by decide) (Nat.le_of_ble_eq_true rfl) (lv := [(0, .ref (ad 5)), (1, .int x1)]) rfl (fun p e s m args below meth c Q ls hx hb hml hT hown hK hret hl hP hS => ?_)
  unfold wX4_put at h
  refine lv_aload_n hx hb dX4_put_0 rfl (lv_at hl 0 rfl) ?_
  refine va_get (T := TX4) hx hb hT inlX4 hown hK.1 hP 5 he_X4 rfl 1 (by decide) (hT _ mw_1_214) (fun _ h9 => h9) rfl dX4_put_1 ?_
  refine lv_aload_n hx hb dX4_put_4 rfl (lv_at hl 0 rfl) ?_
  refine va_get (T := TX4) hx hb hT inlX4 hown hK.1 hP 5 he_X4 rfl 0 (by decide) (hT _ mw_1_212) (fun _ h9 => h9) rfl dX4_put_5 ?_
  refine va_alen (v := 40) hx hb hK.1 hP 49 0 (by rw [wC_get (by decide)]; exact congrArg some (congrArg (Prod.mk _) rfl)) rfl rfl dX4_put_8 ?_
  refine lv_icmp_lt (tgt := 13) hx hb dX4_put_9 (by decide) (fun hc => ?_) (fun hc => ?_)
  · rw [if_pos hc] at h
    refine lv_aload_n hx hb dX4_put_13 rfl (lv_at hl 0 rfl) ?_
    refine va_get (T := TX4) hx hb hT inlX4 hown hK.1 hP 5 he_X4 rfl 1 (by decide) (hT _ mw_1_214) (fun _ h9 => h9) rfl dX4_put_14 ?_
    refine lv_topi (fun v2 ev2 => ?_)
    replace h := h v2 ev2
    refine lv_istore_n (lv' := [(2, .int v2), (0, .ref (ad 5)), (1, .int x1)]) hx hb dX4_put_17 rfl hl (by decide) rfl (fun ls hl => ?_)
    obtain ⟨F, n, h, hF, hG⟩ := lfix_ex h
    have LP : ∀ (n : Nat) (v2_1 : Int32) (A_1 : Nat → Nat → Int32) (ls : Array Slot) (H : Heap) (locs : List Loc), F n (v2_1, A_1) → lv_has ls 3 [(2, .int v2_1), (0, .ref (ad 5)), (1, .int x1)] → va_P D vwCl (wC cy ad I L A_1 B) H → va_S Ad s.heap H locs → W p l e rmX4_put s m args below meth c H locs 0 0 Q (F0 m 18 ls []) := by
      intro n
      induction n with
      | zero => intro v2_1 A_1 ls H locs h _ _ _; exact absurd h (hF _)
      | succ n ih =>
        intro v2_1 A_1 ls H locs h hl hP hS
        replace h := hG _ _ h
        try dsimp only at h
        refine lv_iload_n hx hb dX4_put_18 rfl (lv_at hl 0 rfl) ?_
        obtain ⟨k, hk, h⟩ := jn_ex h
        try dsimp only at h
        have J : k () → ∀ (ls : Array Slot) (H : Heap) (locs : List Loc), lv_has ls 3 [(2, .int v2_1), (0, .ref (ad 5)), (1, .int x1)] → va_P D vwCl (wC cy ad I L A_1 B) H → va_S Ad s.heap H locs → W p l e rmX4_put s m args below meth c H locs 0 0 Q (F0 m 54 ls []) := by
          intro  h ls H locs hl hP hS
          replace h := hk _ h
          try dsimp only at h
          refine lv_aload_n hx hb dX4_put_54 rfl (lv_at hl 1 rfl) ?_
          refine va_get (T := TX4) hx hb hT inlX4 hown hK.1 hP 5 he_X4 rfl 0 (by decide) (hT _ mw_1_212) (fun _ h9 => h9) rfl dX4_put_55 ?_
          refine lv_iload_n hx hb dX4_put_58 rfl (lv_at hl 0 rfl) ?_
          refine lv_iload_n hx hb dX4_put_59 rfl (lv_at hl 2 rfl) ?_
          obtain ⟨hi, h⟩ := h
          refine sC_I hAd hx hb hK.1 hP hS (by decide) (fun _ => rfl) hi dX4_put_60 (fun H locs hP hS => ?_)
          obtain ⟨A_2, eA_2⟩ : ∃ z, z = va_up A_1 49 (upd (A_1 49) v2_1.toNatClampNeg x1) := ⟨_, rfl⟩
          rw [← eA_2] at hP
          replace h := h A_2 eA_2
          refine lv_aload_n hx hb dX4_put_61 rfl (lv_at hl 1 rfl) ?_
          refine lv_dup hx hb dX4_put_62 rfl ?_
          refine va_get (T := TX4) hx hb hT inlX4 hown hK.1 hP 5 he_X4 rfl 1 (by decide) (hT _ mw_1_214) (fun _ h9 => h9) rfl dX4_put_63 ?_
          refine lv_iconst (v := 1) hx hb dX4_put_66 (by decide) ?_
          refine lv_iadd hx hb dX4_put_67 ?_
          refine pC_X4_size hAd hx hb hT hown hK.1 hP hS (hT _ mw_1_214) dX4_put_68 (fun H locs hP hS => ?_)
          obtain ⟨I_1, eI_1⟩ : ∃ z, z = va_up I 5 ((I 5) + 1) := ⟨_, rfl⟩
          rw [← eI_1] at hP
          replace h := h I_1 eI_1
          exact hret (I_1, L, A_2, B) dX4_put_71 ⟨h, rfl, rfl⟩ hP hS
        refine lv_if_le (tgt := 54) hx hb dX4_put_19 (by decide) (fun hc_1 => ?_) (fun hc_1 => ?_)
        · rw [if_pos hc_1] at h
          exact J  h _ _ _ (lv_sub hl [0, 1, 2] rfl) hP hS
        · rw [if_neg hc_1] at h
          refine lv_aload_n hx hb dX4_put_22 rfl (lv_at hl 1 rfl) ?_
          refine va_get (T := TX4) hx hb hT inlX4 hown hK.1 hP 5 he_X4 rfl 0 (by decide) (hT _ mw_1_212) (fun _ h9 => h9) rfl dX4_put_23 ?_
          refine lv_iload_n hx hb dX4_put_26 rfl (lv_at hl 0 rfl) ?_
          refine lv_iconst (v := 1) hx hb dX4_put_27 (by decide) ?_
          refine lv_isub hx hb dX4_put_28 ?_
          obtain ⟨hi_1, h⟩ := h
          refine lC_I hx hb hK.1 hP (by decide) rfl hi_1 dX4_put_29 ?_
          refine lv_iload_n hx hb dX4_put_30 rfl (lv_at hl 2 rfl) ?_
          refine lv_icmp_le (tgt := 54) hx hb dX4_put_31 (by decide) (fun hc_2 => ?_) (fun hc_2 => ?_)
          · rw [if_pos hc_2] at h
            exact J  h _ _ _ (lv_sub hl [0, 1, 2] rfl) hP hS
          · rw [if_neg hc_2] at h
            refine lv_aload_n hx hb dX4_put_34 rfl (lv_at hl 1 rfl) ?_
            refine va_get (T := TX4) hx hb hT inlX4 hown hK.1 hP 5 he_X4 rfl 0 (by decide) (hT _ mw_1_212) (fun _ h9 => h9) rfl dX4_put_35 ?_
            refine lv_iload_n hx hb dX4_put_38 rfl (lv_at hl 0 rfl) ?_
            refine lv_aload_n hx hb dX4_put_39 rfl (lv_at hl 1 rfl) ?_
            refine va_get (T := TX4) hx hb hT inlX4 hown hK.1 hP 5 he_X4 rfl 0 (by decide) (hT _ mw_1_212) (fun _ h9 => h9) rfl dX4_put_40 ?_
            refine lv_iload_n hx hb dX4_put_43 rfl (lv_at hl 0 rfl) ?_
            refine lv_iconst (v := 1) hx hb dX4_put_44 (by decide) ?_
            refine lv_isub hx hb dX4_put_45 ?_
            obtain ⟨hi_2, h⟩ := h
            refine lC_I hx hb hK.1 hP (by decide) rfl hi_2 dX4_put_46 ?_
            obtain ⟨hi_3, h⟩ := h
            refine sC_I hAd hx hb hK.1 hP hS (by decide) (fun _ => rfl) hi_3 dX4_put_47 (fun H locs hP hS => ?_)
            obtain ⟨A_3, eA_3⟩ : ∃ z, z = va_up A_1 49 (upd (A_1 49) v2_1.toNatClampNeg (A_1 49 (v2_1 - 1).toNatClampNeg)) := ⟨_, rfl⟩
            rw [← eA_3] at hP
            replace h := h A_3 eA_3
            obtain ⟨v2_2, ev2_2⟩ : ∃ z : Int32, z = v2_1 + (-1) := ⟨_, rfl⟩
            replace h := h v2_2 ev2_2
            refine lv_iinc (v := v2_2) (lv' := [(2, .int v2_2), (0, .ref (ad 5)), (1, .int x1)]) hx hb dX4_put_48 hl (k := 0) rfl (by rw [ev2_2]; rfl) (by decide) rfl (fun ls hl => ?_)
            refine lv_goto (tgt := 18) hx hb dX4_put_51 (by decide) ?_
            exact ih v2_2 A_3 _ _ _ h (lv_sub hl [0, 1, 2] rfl) hP hS
    exact LP _ v2 A _ _ _ h (lv_sub hl [0, 1, 2] rfl) hP hS
  · rw [if_neg hc] at h
    exact hret (I, L, A, B) dX4_put_12 ⟨h, rfl, rfl⟩ hP hS
theorem dX4_endOfBin_0 : decode cX4_endOfBin 0 = .ok (.iload_n 2, 1) := by decide +kernel
theorem dX4_endOfBin_1 : decode cX4_endOfBin 1 = .ok (.iconst 1, 1) := by decide +kernel
theorem dX4_endOfBin_2 : decode cX4_endOfBin 2 = .ok (.if_icmp .gt 8, 3) := by decide +kernel
theorem dX4_endOfBin_5 : decode cX4_endOfBin 5 = .ok (.aload_n 0, 1) := by decide +kernel
theorem dX4_endOfBin_6 : decode cX4_endOfBin 6 = .ok (.getfield 13, 3) := by decide +kernel
theorem dX4_endOfBin_9 : decode cX4_endOfBin 9 = .ok (.ireturn, 1) := by decide +kernel
theorem dX4_endOfBin_10 : decode cX4_endOfBin 10 = .ok (.aload_n 0, 1) := by decide +kernel
theorem dX4_endOfBin_11 : decode cX4_endOfBin 11 = .ok (.getfield 13, 3) := by decide +kernel
theorem dX4_endOfBin_14 : decode cX4_endOfBin 14 = .ok (.iload_n 1, 1) := by decide +kernel
theorem dX4_endOfBin_15 : decode cX4_endOfBin 15 = .ok (.isub, 1) := by decide +kernel
theorem dX4_endOfBin_16 : decode cX4_endOfBin 16 = .ok (.iload_n 2, 1) := by decide +kernel
theorem dX4_endOfBin_17 : decode cX4_endOfBin 17 = .ok (.iadd, 1) := by decide +kernel
theorem dX4_endOfBin_18 : decode cX4_endOfBin 18 = .ok (.iconst 1, 1) := by decide +kernel
theorem dX4_endOfBin_19 : decode cX4_endOfBin 19 = .ok (.isub, 1) := by decide +kernel
theorem dX4_endOfBin_20 : decode cX4_endOfBin 20 = .ok (.iload_n 2, 1) := by decide +kernel
theorem dX4_endOfBin_21 : decode cX4_endOfBin 21 = .ok (.idiv, 1) := by decide +kernel
theorem dX4_endOfBin_22 : decode cX4_endOfBin 22 = .ok (.istore_n 3, 1) := by decide +kernel
theorem dX4_endOfBin_23 : decode cX4_endOfBin 23 = .ok (.iload_n 1, 1) := by decide +kernel
theorem dX4_endOfBin_24 : decode cX4_endOfBin 24 = .ok (.iload_n 3, 1) := by decide +kernel
theorem dX4_endOfBin_25 : decode cX4_endOfBin 25 = .ok (.iadd, 1) := by decide +kernel
theorem dX4_endOfBin_26 : decode cX4_endOfBin 26 = .ok (.aload_n 0, 1) := by decide +kernel
theorem dX4_endOfBin_27 : decode cX4_endOfBin 27 = .ok (.getfield 13, 3) := by decide +kernel
theorem dX4_endOfBin_30 : decode cX4_endOfBin 30 = .ok (.invokestatic 21, 3) := by decide +kernel
theorem dX4_endOfBin_33 : decode cX4_endOfBin 33 = .ok (.istore 4, 2) := by decide +kernel
theorem dX4_endOfBin_35 : decode cX4_endOfBin 35 = .ok (.iload 4, 2) := by decide +kernel
theorem dX4_endOfBin_37 : decode cX4_endOfBin 37 = .ok (.ifCond .le 37, 3) := by decide +kernel
theorem dX4_endOfBin_40 : decode cX4_endOfBin 40 = .ok (.iload 4, 2) := by decide +kernel
theorem dX4_endOfBin_42 : decode cX4_endOfBin 42 = .ok (.aload_n 0, 1) := by decide +kernel
theorem dX4_endOfBin_43 : decode cX4_endOfBin 43 = .ok (.getfield 13, 3) := by decide +kernel
theorem dX4_endOfBin_46 : decode cX4_endOfBin 46 = .ok (.if_icmp .ge 28, 3) := by decide +kernel
theorem dX4_endOfBin_49 : decode cX4_endOfBin 49 = .ok (.aload_n 0, 1) := by decide +kernel
theorem dX4_endOfBin_50 : decode cX4_endOfBin 50 = .ok (.getfield 7, 3) := by decide +kernel
theorem dX4_endOfBin_53 : decode cX4_endOfBin 53 = .ok (.iload 4, 2) := by decide +kernel
theorem dX4_endOfBin_55 : decode cX4_endOfBin 55 = .ok (.iaload, 1) := by decide +kernel
theorem dX4_endOfBin_56 : decode cX4_endOfBin 56 = .ok (.aload_n 0, 1) := by decide +kernel
theorem dX4_endOfBin_57 : decode cX4_endOfBin 57 = .ok (.getfield 7, 3) := by decide +kernel
theorem dX4_endOfBin_60 : decode cX4_endOfBin 60 = .ok (.iload 4, 2) := by decide +kernel
theorem dX4_endOfBin_62 : decode cX4_endOfBin 62 = .ok (.iconst 1, 1) := by decide +kernel
theorem dX4_endOfBin_63 : decode cX4_endOfBin 63 = .ok (.isub, 1) := by decide +kernel
theorem dX4_endOfBin_64 : decode cX4_endOfBin 64 = .ok (.iaload, 1) := by decide +kernel
theorem dX4_endOfBin_65 : decode cX4_endOfBin 65 = .ok (.if_icmp .ne 9, 3) := by decide +kernel
theorem dX4_endOfBin_68 : decode cX4_endOfBin 68 = .ok (.iinc 4 1, 3) := by decide +kernel
theorem dX4_endOfBin_71 : decode cX4_endOfBin 71 = .ok (.goto (-36), 3) := by decide +kernel
theorem dX4_endOfBin_74 : decode cX4_endOfBin 74 = .ok (.iload 4, 2) := by decide +kernel
theorem dX4_endOfBin_76 : decode cX4_endOfBin 76 = .ok (.ireturn, 1) := by decide +kernel
def wX4_endOfBin (I : Nat → Int32) (L : Nat → Int64) (A : Nat → Nat → Int32) (B : Nat → Nat → Int64) (x1 : Int32) (x2 : Int32) (post : Int32 → Prop) : Prop := if 1 < x2 then (¬ (x2 : Int32) = 0 ∧ (∀ v3 : Int32, v3 = ((((I 5) - x1) + x2) - 1) / x2 → ∀ r30 : Int32, r30 = (if (I 5) < (x1 + v3) then (I 5) else (x1 + v3)) → ∃ n, lfix (fun (r : Int32 → Prop) v4 => if v4 ≤ 0 then (post v4) else (if (I 5) ≤ v4 then (post v4) else (vp_in v4 40 ∧ (vp_in (v4 - 1) 40 ∧ (if (A 49 v4.toNatClampNeg) = (A 49 (v4 - 1).toNatClampNeg) then (∀ v4_1 : Int32, v4_1 = v4 + 1 → r v4_1) else (post v4)))))) n r30)) else (post (I 5))
abbrev rmX4_endOfBin : Room := { frames := 1, cells := 0, slots := 0, locals := 21 }
theorem wd_X4_endOfBin : Cond.instanceMethod yX4_endOfBin ∈ BW ∧ Cond.selects yX4_endOfBin.cls yX4_endOfBin yX4_endOfBin ∈ BW ∧ Cond.initialized yX4_endOfBin.cls ∈ BW ∧ Cond.code yX4_endOfBin cX4_endOfBin 5 (some .int) ∈ BW := ⟨mw_3_140, mw_3_141, mw_1_9, mw_3_142⟩
set_option maxHeartbeats 4000000 in
set_option maxRecDepth 100000 in
theorem c_X4_endOfBin {l : Launch} {D : va_G} {cy : Nat → ClassId} {ad : Nat → Nat} {Ad : Nat → Prop} (hAd : adok 103 Ad ad) (I : Nat → Int32) (L : Nat → Int64) (A : Nat → Nat → Int32) (B : Nat → Nat → Int64) (x1 : Int32) (x2 : Int32)  (post : Int32 → Prop) (h : wX4_endOfBin I L A B x1 x2 post) : Met l yX4_endOfBin (.code yX4_endOfBin cX4_endOfBin 5 (some .int) :: BW) rmX4_endOfBin (va_Pc [.ref (ad 5), .int x1, .int x2] (fun U => kC D cy U ∧ va_P D vwCl (wC cy ad I L A B) U.heap)) (qCi D cy ad Ad (fun r u => post r  ∧ I = u.1 ∧ L = u.2.1 ∧ A = u.2.2.1 ∧ B = u.2.2.2)) 0 0 Ad := by
  refine startCi (by decide) (Nat.le_of_ble_eq_true rfl) (lv := [(0, .ref (ad 5)), (1, .int x1), (2, .int x2)]) rfl (fun p e s m args below meth c Q ls hx hb hml hT hown hK hret hl hP hS => ?_)
  unfold wX4_endOfBin at h
  refine lv_iload_n hx hb dX4_endOfBin_0 rfl (lv_at hl 2 rfl) ?_
  refine lv_iconst (v := 1) hx hb dX4_endOfBin_1 (by decide) ?_
  refine lv_icmp_gt (tgt := 10) hx hb dX4_endOfBin_2 (by decide) (fun hc => ?_) (fun hc => ?_)
  · rw [if_pos hc] at h
    refine lv_aload_n hx hb dX4_endOfBin_10 rfl (lv_at hl 0 rfl) ?_
    refine va_get (T := TX4) hx hb hT inlX4 hown hK.1 hP 5 he_X4 rfl 1 (by decide) (hT _ mw_1_214) (fun _ h9 => h9) rfl dX4_endOfBin_11 ?_
    refine lv_iload_n hx hb dX4_endOfBin_14 rfl (lv_at hl 1 rfl) ?_
    refine lv_isub hx hb dX4_endOfBin_15 ?_
    refine lv_iload_n hx hb dX4_endOfBin_16 rfl (lv_at hl 2 rfl) ?_
    refine lv_iadd hx hb dX4_endOfBin_17 ?_
    refine lv_iconst (v := 1) hx hb dX4_endOfBin_18 (by decide) ?_
    refine lv_isub hx hb dX4_endOfBin_19 ?_
    refine lv_iload_n hx hb dX4_endOfBin_20 rfl (lv_at hl 2 rfl) ?_
    obtain ⟨hn, h⟩ := h
    refine lv_idiv hx hb dX4_endOfBin_21 hn ?_
    refine lv_topi (fun v3 ev3 => ?_)
    replace h := h v3 ev3
    refine lv_istore_n (lv' := [(3, .int v3), (0, .ref (ad 5)), (1, .int x1), (2, .int x2)]) hx hb dX4_endOfBin_22 rfl hl (by decide) rfl (fun ls hl => ?_)
    refine lv_iload_n hx hb dX4_endOfBin_23 rfl (lv_at hl 2 rfl) ?_
    refine lv_iload_n hx hb dX4_endOfBin_24 rfl (lv_at hl 0 rfl) ?_
    refine lv_iadd hx hb dX4_endOfBin_25 ?_
    refine lv_aload_n hx hb dX4_endOfBin_26 rfl (lv_at hl 1 rfl) ?_
    refine va_get (T := TX4) hx hb hT inlX4 hown hK.1 hP 5 he_X4 rfl 1 (by decide) (hT _ mw_1_214) (fun _ h9 => h9) rfl dX4_endOfBin_27 ?_
    refine va_mmin hx hb (by rw [hml]; exact hl.1.symm) hown (hT _ mw_3_143) (hT _ mw_2_235) (hT _ mw_1_12) (hT _ mw_2_236) (Nat.le_of_ble_eq_true rfl) (Nat.le_of_ble_eq_true rfl) (Nat.zero_le _) (Nat.zero_le _) dX4_endOfBin_30 ?_
    refine lv_topi (fun r30 er30 => ?_)
    replace h := h r30 er30
    refine lv_istore (lv' := [(4, .int r30), (3, .int v3), (0, .ref (ad 5)), (1, .int x1), (2, .int x2)]) hx hb dX4_endOfBin_33 hl (by decide) rfl (fun ls hl => ?_)
    obtain ⟨F, n, h, hF, hG⟩ := lfix_ex h
    have LP : ∀ (n : Nat) (v4 : Int32) (ls : Array Slot) (H : Heap) (locs : List Loc), F n v4 → lv_has ls 5 [(4, .int v4), (0, .ref (ad 5))] → va_P D vwCl (wC cy ad I L A B) H → va_S Ad s.heap H locs → W p l e rmX4_endOfBin s m args below meth c H locs 0 0 Q (F0 m 35 ls []) := by
      intro n
      induction n with
      | zero => intro v4 ls H locs h _ _ _; exact absurd h (hF _)
      | succ n ih =>
        intro v4 ls H locs h hl hP hS
        replace h := hG _ _ h
        try dsimp only at h
        refine lv_iload hx hb dX4_endOfBin_35 (lv_at hl 0 rfl) ?_
        refine lv_if_le (tgt := 74) hx hb dX4_endOfBin_37 (by decide) (fun hc_1 => ?_) (fun hc_1 => ?_)
        · rw [if_pos hc_1] at h
          refine lv_iload hx hb dX4_endOfBin_74 (lv_at hl 0 rfl) ?_
          exact hret _ (I, L, A, B) dX4_endOfBin_76 ⟨h, rfl, rfl, rfl, rfl⟩ hP hS
        · rw [if_neg hc_1] at h
          refine lv_iload hx hb dX4_endOfBin_40 (lv_at hl 0 rfl) ?_
          refine lv_aload_n hx hb dX4_endOfBin_42 rfl (lv_at hl 1 rfl) ?_
          refine va_get (T := TX4) hx hb hT inlX4 hown hK.1 hP 5 he_X4 rfl 1 (by decide) (hT _ mw_1_214) (fun _ h9 => h9) rfl dX4_endOfBin_43 ?_
          refine lv_icmp_ge (tgt := 74) hx hb dX4_endOfBin_46 (by decide) (fun hc_2 => ?_) (fun hc_2 => ?_)
          · rw [if_pos hc_2] at h
            refine lv_iload hx hb dX4_endOfBin_74 (lv_at hl 0 rfl) ?_
            exact hret _ (I, L, A, B) dX4_endOfBin_76 ⟨h, rfl, rfl, rfl, rfl⟩ hP hS
          · rw [if_neg hc_2] at h
            refine lv_aload_n hx hb dX4_endOfBin_49 rfl (lv_at hl 1 rfl) ?_
            refine va_get (T := TX4) hx hb hT inlX4 hown hK.1 hP 5 he_X4 rfl 0 (by decide) (hT _ mw_1_212) (fun _ h9 => h9) rfl dX4_endOfBin_50 ?_
            refine lv_iload hx hb dX4_endOfBin_53 (lv_at hl 0 rfl) ?_
            obtain ⟨hi, h⟩ := h
            refine lC_I hx hb hK.1 hP (by decide) rfl hi dX4_endOfBin_55 ?_
            refine lv_aload_n hx hb dX4_endOfBin_56 rfl (lv_at hl 1 rfl) ?_
            refine va_get (T := TX4) hx hb hT inlX4 hown hK.1 hP 5 he_X4 rfl 0 (by decide) (hT _ mw_1_212) (fun _ h9 => h9) rfl dX4_endOfBin_57 ?_
            refine lv_iload hx hb dX4_endOfBin_60 (lv_at hl 0 rfl) ?_
            refine lv_iconst (v := 1) hx hb dX4_endOfBin_62 (by decide) ?_
            refine lv_isub hx hb dX4_endOfBin_63 ?_
            obtain ⟨hi_1, h⟩ := h
            refine lC_I hx hb hK.1 hP (by decide) rfl hi_1 dX4_endOfBin_64 ?_
            refine lv_icmp_ne (tgt := 74) hx hb dX4_endOfBin_65 (by decide) (fun hc_3 => ?_) (fun hc_3 => ?_)
            · rw [if_neg hc_3] at h
              refine lv_iload hx hb dX4_endOfBin_74 (lv_at hl 0 rfl) ?_
              exact hret _ (I, L, A, B) dX4_endOfBin_76 ⟨h, rfl, rfl, rfl, rfl⟩ hP hS
            · rw [if_pos hc_3] at h
              obtain ⟨v4_1, ev4_1⟩ : ∃ z : Int32, z = v4 + 1 := ⟨_, rfl⟩
              replace h := h v4_1 ev4_1
              refine lv_iinc (v := v4_1) (lv' := [(4, .int v4_1), (0, .ref (ad 5))]) hx hb dX4_endOfBin_68 hl (k := 0) rfl (by rw [ev4_1]; rfl) (by decide) rfl (fun ls hl => ?_)
              refine lv_goto (tgt := 35) hx hb dX4_endOfBin_71 (by decide) ?_
              exact ih v4_1 _ _ _ h (lv_sub hl [0, 1] rfl) hP hS
    exact LP _ r30 _ _ _ h (lv_sub hl [0, 2] rfl) hP hS
  · rw [if_neg hc] at h
    refine lv_aload_n hx hb dX4_endOfBin_5 rfl (lv_at hl 0 rfl) ?_
    refine va_get (T := TX4) hx hb hT inlX4 hown hK.1 hP 5 he_X4 rfl 1 (by decide) (hT _ mw_1_214) (fun _ h9 => h9) rfl dX4_endOfBin_6 ?_
    exact hret _ (I, L, A, B) dX4_endOfBin_9 ⟨h, rfl, rfl, rfl, rfl⟩ hP hS
theorem dX4_startOfBin_0 : decode cX4_startOfBin 0 = .ok (.iconst 0, 1) := by decide +kernel
theorem dX4_startOfBin_1 : decode cX4_startOfBin 1 = .ok (.istore_n 3, 1) := by decide +kernel
theorem dX4_startOfBin_2 : decode cX4_startOfBin 2 = .ok (.iconst 0, 1) := by decide +kernel
theorem dX4_startOfBin_3 : decode cX4_startOfBin 3 = .ok (.istore 4, 2) := by decide +kernel
theorem dX4_startOfBin_5 : decode cX4_startOfBin 5 = .ok (.iload 4, 2) := by decide +kernel
theorem dX4_startOfBin_7 : decode cX4_startOfBin 7 = .ok (.iload_n 1, 1) := by decide +kernel
theorem dX4_startOfBin_8 : decode cX4_startOfBin 8 = .ok (.if_icmp .ge 25, 3) := by decide +kernel
theorem dX4_startOfBin_11 : decode cX4_startOfBin 11 = .ok (.iload 4, 2) := by decide +kernel
theorem dX4_startOfBin_13 : decode cX4_startOfBin 13 = .ok (.iload_n 2, 1) := by decide +kernel
theorem dX4_startOfBin_14 : decode cX4_startOfBin 14 = .ok (.if_icmp .ge 19, 3) := by decide +kernel
theorem dX4_startOfBin_17 : decode cX4_startOfBin 17 = .ok (.aload_n 0, 1) := by decide +kernel
theorem dX4_startOfBin_18 : decode cX4_startOfBin 18 = .ok (.iload_n 3, 1) := by decide +kernel
theorem dX4_startOfBin_19 : decode cX4_startOfBin 19 = .ok (.iload_n 1, 1) := by decide +kernel
theorem dX4_startOfBin_20 : decode cX4_startOfBin 20 = .ok (.iload 4, 2) := by decide +kernel
theorem dX4_startOfBin_22 : decode cX4_startOfBin 22 = .ok (.isub, 1) := by decide +kernel
theorem dX4_startOfBin_23 : decode cX4_startOfBin 23 = .ok (.invokevirtual 17, 3) := by decide +kernel
theorem dX4_startOfBin_26 : decode cX4_startOfBin 26 = .ok (.istore_n 3, 1) := by decide +kernel
theorem dX4_startOfBin_27 : decode cX4_startOfBin 27 = .ok (.iinc 4 1, 3) := by decide +kernel
theorem dX4_startOfBin_30 : decode cX4_startOfBin 30 = .ok (.goto (-25), 3) := by decide +kernel
theorem dX4_startOfBin_33 : decode cX4_startOfBin 33 = .ok (.iload_n 3, 1) := by decide +kernel
theorem dX4_startOfBin_34 : decode cX4_startOfBin 34 = .ok (.ireturn, 1) := by decide +kernel
def wX4_startOfBin (I : Nat → Int32) (L : Nat → Int64) (A : Nat → Nat → Int32) (B : Nat → Nat → Int64) (x1 : Int32) (x2 : Int32) (post : Int32 → Prop) : Prop := ∃ n, lfix (fun (r : (Int32 × Int32) → Prop) (v4, v3) => if x1 ≤ v4 then (post v3) else (if x2 ≤ v4 then (post v3) else (wX4_endOfBin I L A B v3 (x1 - v4) (fun r23 => ∀ v4_1 : Int32, v4_1 = v4 + 1 → r (v4_1, r23))))) n (0, 0)
abbrev rmX4_startOfBin : Room := { frames := 2, cells := 0, slots := 0, locals := 45 }
theorem wd_X4_startOfBin : Cond.instanceMethod yX4_startOfBin ∈ BW ∧ Cond.selects yX4_startOfBin.cls yX4_startOfBin yX4_startOfBin ∈ BW ∧ Cond.initialized yX4_startOfBin.cls ∈ BW ∧ Cond.code yX4_startOfBin cX4_startOfBin 5 (some .int) ∈ BW := ⟨mw_4_118, mw_4_119, mw_1_9, mw_4_120⟩
set_option maxHeartbeats 4000000 in
set_option maxRecDepth 100000 in
theorem c_X4_startOfBin {l : Launch} {D : va_G} {cy : Nat → ClassId} {ad : Nat → Nat} {Ad : Nat → Prop} (hAd : adok 103 Ad ad) (I : Nat → Int32) (L : Nat → Int64) (A : Nat → Nat → Int32) (B : Nat → Nat → Int64) (x1 : Int32) (x2 : Int32)  (post : Int32 → Prop) (h : wX4_startOfBin I L A B x1 x2 post) : Met l yX4_startOfBin (.code yX4_startOfBin cX4_startOfBin 5 (some .int) :: BW) rmX4_startOfBin (va_Pc [.ref (ad 5), .int x1, .int x2] (fun U => kC D cy U ∧ va_P D vwCl (wC cy ad I L A B) U.heap)) (qCi D cy ad Ad (fun r u => post r  ∧ I = u.1 ∧ L = u.2.1 ∧ A = u.2.2.1 ∧ B = u.2.2.2)) 0 0 Ad := by
  refine startCi (by decide) (Nat.le_of_ble_eq_true rfl) (lv := [(0, .ref (ad 5)), (1, .int x1), (2, .int x2)]) rfl (fun p e s m args below meth c Q ls hx hb hml hT hown hK hret hl hP hS => ?_)
  unfold wX4_startOfBin at h
  refine lv_iconst (v := 0) hx hb dX4_startOfBin_0 (by decide) ?_
  refine lv_istore_n (lv' := [(3, .int 0), (0, .ref (ad 5)), (1, .int x1), (2, .int x2)]) hx hb dX4_startOfBin_1 rfl hl (by decide) rfl (fun ls hl => ?_)
  refine lv_iconst (v := 0) hx hb dX4_startOfBin_2 (by decide) ?_
  refine lv_istore (lv' := [(4, .int 0), (3, .int 0), (0, .ref (ad 5)), (1, .int x1), (2, .int x2)]) hx hb dX4_startOfBin_3 hl (by decide) rfl (fun ls hl => ?_)
  obtain ⟨F, n, h, hF, hG⟩ := lfix_ex h
  have LP : ∀ (n : Nat) (v4 : Int32) (v3 : Int32) (ls : Array Slot) (H : Heap) (locs : List Loc), F n (v4, v3) → lv_has ls 5 [(4, .int v4), (3, .int v3), (0, .ref (ad 5)), (1, .int x1), (2, .int x2)] → va_P D vwCl (wC cy ad I L A B) H → va_S Ad s.heap H locs → W p l e rmX4_startOfBin s m args below meth c H locs 0 0 Q (F0 m 5 ls []) := by
    intro n
    induction n with
    | zero => intro v4 v3 ls H locs h _ _ _; exact absurd h (hF _)
    | succ n ih =>
      intro v4 v3 ls H locs h hl hP hS
      replace h := hG _ _ h
      try dsimp only at h
      refine lv_iload hx hb dX4_startOfBin_5 (lv_at hl 0 rfl) ?_
      refine lv_iload_n hx hb dX4_startOfBin_7 rfl (lv_at hl 3 rfl) ?_
      refine lv_icmp_ge (tgt := 33) hx hb dX4_startOfBin_8 (by decide) (fun hc => ?_) (fun hc => ?_)
      · rw [if_pos hc] at h
        refine lv_iload_n hx hb dX4_startOfBin_33 rfl (lv_at hl 1 rfl) ?_
        exact hret _ (I, L, A, B) dX4_startOfBin_34 ⟨h, rfl, rfl, rfl, rfl⟩ hP hS
      · rw [if_neg hc] at h
        refine lv_iload hx hb dX4_startOfBin_11 (lv_at hl 0 rfl) ?_
        refine lv_iload_n hx hb dX4_startOfBin_13 rfl (lv_at hl 4 rfl) ?_
        refine lv_icmp_ge (tgt := 33) hx hb dX4_startOfBin_14 (by decide) (fun hc_1 => ?_) (fun hc_1 => ?_)
        · rw [if_pos hc_1] at h
          refine lv_iload_n hx hb dX4_startOfBin_33 rfl (lv_at hl 1 rfl) ?_
          exact hret _ (I, L, A, B) dX4_startOfBin_34 ⟨h, rfl, rfl, rfl, rfl⟩ hP hS
        · rw [if_neg hc_1] at h
          refine lv_aload_n hx hb dX4_startOfBin_17 rfl (lv_at hl 2 rfl) ?_
          refine lv_iload_n hx hb dX4_startOfBin_18 rfl (lv_at hl 1 rfl) ?_
          refine lv_iload_n hx hb dX4_startOfBin_19 rfl (lv_at hl 3 rfl) ?_
          refine lv_iload hx hb dX4_startOfBin_20 (lv_at hl 0 rfl) ?_
          refine lv_isub hx hb dX4_startOfBin_22 ?_
          refine callCi (k := 5) (As := [.int v3, .int (x1 - v4)]) (rest := []) (n := 2) (c_X4_endOfBin hAd I L A B v3 (x1 - v4) _ h) hx hb hT hown hK hP hS mw_3_139 wd_X4_endOfBin (by decide +kernel) ⟨rfl, rfl⟩ (by decide) rfl rfl he_X4 rfl hl.1 hml rfl (Nat.le_of_ble_eq_true rfl) dX4_startOfBin_23 ⟨Nat.zero_le _, Nat.zero_le _⟩ (fun r23 u H locs h hP hS => ?_)
          obtain ⟨Iu, Lu, Au, Bu⟩ := u
          dsimp only at h hP
          obtain ⟨h, rfl, rfl, rfl, rfl⟩ := h
          try dsimp only at h
          refine lv_istore_n (lv' := [(3, .int r23), (4, .int v4), (0, .ref (ad 5)), (1, .int x1), (2, .int x2)]) hx hb dX4_startOfBin_26 rfl hl (by decide) rfl (fun ls hl => ?_)
          obtain ⟨v4_1, ev4_1⟩ : ∃ z : Int32, z = v4 + 1 := ⟨_, rfl⟩
          replace h := h v4_1 ev4_1
          refine lv_iinc (v := v4_1) (lv' := [(4, .int v4_1), (3, .int r23), (0, .ref (ad 5)), (1, .int x1), (2, .int x2)]) hx hb dX4_startOfBin_27 hl (k := 1) rfl (by rw [ev4_1]; rfl) (by decide) rfl (fun ls hl => ?_)
          refine lv_goto (tgt := 5) hx hb dX4_startOfBin_30 (by decide) ?_
          exact ih v4_1 r23 _ _ _ h (lv_sub hl [0, 1, 2, 3, 4] rfl) hP hS
  exact LP _ 0 0 _ _ _ h (lv_sub hl [0, 1, 2, 3, 4] rfl) hP hS
theorem dX4_howManyBins_0 : decode cX4_howManyBins 0 = .ok (.iconst 0, 1) := by decide +kernel
theorem dX4_howManyBins_1 : decode cX4_howManyBins 1 = .ok (.istore_n 2, 1) := by decide +kernel
theorem dX4_howManyBins_2 : decode cX4_howManyBins 2 = .ok (.iconst 0, 1) := by decide +kernel
theorem dX4_howManyBins_3 : decode cX4_howManyBins 3 = .ok (.istore_n 3, 1) := by decide +kernel
theorem dX4_howManyBins_4 : decode cX4_howManyBins 4 = .ok (.iload_n 2, 1) := by decide +kernel
theorem dX4_howManyBins_5 : decode cX4_howManyBins 5 = .ok (.iload_n 1, 1) := by decide +kernel
theorem dX4_howManyBins_6 : decode cX4_howManyBins 6 = .ok (.if_icmp .ge 26, 3) := by decide +kernel
theorem dX4_howManyBins_9 : decode cX4_howManyBins 9 = .ok (.iload_n 3, 1) := by decide +kernel
theorem dX4_howManyBins_10 : decode cX4_howManyBins 10 = .ok (.aload_n 0, 1) := by decide +kernel
theorem dX4_howManyBins_11 : decode cX4_howManyBins 11 = .ok (.getfield 13, 3) := by decide +kernel
theorem dX4_howManyBins_14 : decode cX4_howManyBins 14 = .ok (.if_icmp .ge 18, 3) := by decide +kernel
theorem dX4_howManyBins_17 : decode cX4_howManyBins 17 = .ok (.aload_n 0, 1) := by decide +kernel
theorem dX4_howManyBins_18 : decode cX4_howManyBins 18 = .ok (.iload_n 3, 1) := by decide +kernel
theorem dX4_howManyBins_19 : decode cX4_howManyBins 19 = .ok (.iload_n 1, 1) := by decide +kernel
theorem dX4_howManyBins_20 : decode cX4_howManyBins 20 = .ok (.iload_n 2, 1) := by decide +kernel
theorem dX4_howManyBins_21 : decode cX4_howManyBins 21 = .ok (.isub, 1) := by decide +kernel
theorem dX4_howManyBins_22 : decode cX4_howManyBins 22 = .ok (.invokevirtual 17, 3) := by decide +kernel
theorem dX4_howManyBins_25 : decode cX4_howManyBins 25 = .ok (.istore_n 3, 1) := by decide +kernel
theorem dX4_howManyBins_26 : decode cX4_howManyBins 26 = .ok (.iinc 2 1, 3) := by decide +kernel
theorem dX4_howManyBins_29 : decode cX4_howManyBins 29 = .ok (.goto (-25), 3) := by decide +kernel
theorem dX4_howManyBins_32 : decode cX4_howManyBins 32 = .ok (.iload_n 2, 1) := by decide +kernel
theorem dX4_howManyBins_33 : decode cX4_howManyBins 33 = .ok (.ireturn, 1) := by decide +kernel
def wX4_howManyBins (I : Nat → Int32) (L : Nat → Int64) (A : Nat → Nat → Int32) (B : Nat → Nat → Int64) (x1 : Int32) (post : Int32 → Prop) : Prop := ∃ n, lfix (fun (r : (Int32 × Int32) → Prop) (v3, v2) => if x1 ≤ v2 then (post v2) else (if (I 5) ≤ v3 then (post v2) else (wX4_endOfBin I L A B v3 (x1 - v2) (fun r22 => ∀ v2_1 : Int32, v2_1 = v2 + 1 → r (r22, v2_1))))) n (0, 0)
abbrev rmX4_howManyBins : Room := { frames := 2, cells := 0, slots := 0, locals := 45 }
theorem wd_X4_howManyBins : Cond.instanceMethod yX4_howManyBins ∈ BW ∧ Cond.selects yX4_howManyBins.cls yX4_howManyBins yX4_howManyBins ∈ BW ∧ Cond.initialized yX4_howManyBins.cls ∈ BW ∧ Cond.code yX4_howManyBins cX4_howManyBins 4 (some .int) ∈ BW := ⟨mw_3_136, mw_3_137, mw_1_9, mw_3_138⟩
set_option maxHeartbeats 4000000 in
set_option maxRecDepth 100000 in
theorem c_X4_howManyBins {l : Launch} {D : va_G} {cy : Nat → ClassId} {ad : Nat → Nat} {Ad : Nat → Prop} (hAd : adok 103 Ad ad) (I : Nat → Int32) (L : Nat → Int64) (A : Nat → Nat → Int32) (B : Nat → Nat → Int64) (x1 : Int32)  (post : Int32 → Prop) (h : wX4_howManyBins I L A B x1 post) : Met l yX4_howManyBins (.code yX4_howManyBins cX4_howManyBins 4 (some .int) :: BW) rmX4_howManyBins (va_Pc [.ref (ad 5), .int x1] (fun U => kC D cy U ∧ va_P D vwCl (wC cy ad I L A B) U.heap)) (qCi D cy ad Ad (fun r u => post r  ∧ I = u.1 ∧ L = u.2.1 ∧ A = u.2.2.1 ∧ B = u.2.2.2)) 0 0 Ad := by
  refine startCi (by decide) (Nat.le_of_ble_eq_true rfl) (lv := [(0, .ref (ad 5)), (1, .int x1)]) rfl (fun p e s m args below meth c Q ls hx hb hml hT hown hK hret hl hP hS => ?_)
  unfold wX4_howManyBins at h
  refine lv_iconst (v := 0) hx hb dX4_howManyBins_0 (by decide) ?_
  refine lv_istore_n (lv' := [(2, .int 0), (0, .ref (ad 5)), (1, .int x1)]) hx hb dX4_howManyBins_1 rfl hl (by decide) rfl (fun ls hl => ?_)
  refine lv_iconst (v := 0) hx hb dX4_howManyBins_2 (by decide) ?_
  refine lv_istore_n (lv' := [(3, .int 0), (2, .int 0), (0, .ref (ad 5)), (1, .int x1)]) hx hb dX4_howManyBins_3 rfl hl (by decide) rfl (fun ls hl => ?_)
  obtain ⟨F, n, h, hF, hG⟩ := lfix_ex h
  have LP : ∀ (n : Nat) (v3 : Int32) (v2 : Int32) (ls : Array Slot) (H : Heap) (locs : List Loc), F n (v3, v2) → lv_has ls 4 [(3, .int v3), (2, .int v2), (0, .ref (ad 5)), (1, .int x1)] → va_P D vwCl (wC cy ad I L A B) H → va_S Ad s.heap H locs → W p l e rmX4_howManyBins s m args below meth c H locs 0 0 Q (F0 m 4 ls []) := by
    intro n
    induction n with
    | zero => intro v3 v2 ls H locs h _ _ _; exact absurd h (hF _)
    | succ n ih =>
      intro v3 v2 ls H locs h hl hP hS
      replace h := hG _ _ h
      try dsimp only at h
      refine lv_iload_n hx hb dX4_howManyBins_4 rfl (lv_at hl 1 rfl) ?_
      refine lv_iload_n hx hb dX4_howManyBins_5 rfl (lv_at hl 3 rfl) ?_
      refine lv_icmp_ge (tgt := 32) hx hb dX4_howManyBins_6 (by decide) (fun hc => ?_) (fun hc => ?_)
      · rw [if_pos hc] at h
        refine lv_iload_n hx hb dX4_howManyBins_32 rfl (lv_at hl 1 rfl) ?_
        exact hret _ (I, L, A, B) dX4_howManyBins_33 ⟨h, rfl, rfl, rfl, rfl⟩ hP hS
      · rw [if_neg hc] at h
        refine lv_iload_n hx hb dX4_howManyBins_9 rfl (lv_at hl 0 rfl) ?_
        refine lv_aload_n hx hb dX4_howManyBins_10 rfl (lv_at hl 2 rfl) ?_
        refine va_get (T := TX4) hx hb hT inlX4 hown hK.1 hP 5 he_X4 rfl 1 (by decide) (hT _ mw_1_214) (fun _ h9 => h9) rfl dX4_howManyBins_11 ?_
        refine lv_icmp_ge (tgt := 32) hx hb dX4_howManyBins_14 (by decide) (fun hc_1 => ?_) (fun hc_1 => ?_)
        · rw [if_pos hc_1] at h
          refine lv_iload_n hx hb dX4_howManyBins_32 rfl (lv_at hl 1 rfl) ?_
          exact hret _ (I, L, A, B) dX4_howManyBins_33 ⟨h, rfl, rfl, rfl, rfl⟩ hP hS
        · rw [if_neg hc_1] at h
          refine lv_aload_n hx hb dX4_howManyBins_17 rfl (lv_at hl 2 rfl) ?_
          refine lv_iload_n hx hb dX4_howManyBins_18 rfl (lv_at hl 0 rfl) ?_
          refine lv_iload_n hx hb dX4_howManyBins_19 rfl (lv_at hl 3 rfl) ?_
          refine lv_iload_n hx hb dX4_howManyBins_20 rfl (lv_at hl 1 rfl) ?_
          refine lv_isub hx hb dX4_howManyBins_21 ?_
          refine callCi (k := 5) (As := [.int v3, .int (x1 - v2)]) (rest := []) (n := 2) (c_X4_endOfBin hAd I L A B v3 (x1 - v2) _ h) hx hb hT hown hK hP hS mw_3_139 wd_X4_endOfBin (by decide +kernel) ⟨rfl, rfl⟩ (by decide) rfl rfl he_X4 rfl hl.1 hml rfl (Nat.le_of_ble_eq_true rfl) dX4_howManyBins_22 ⟨Nat.zero_le _, Nat.zero_le _⟩ (fun r22 u H locs h hP hS => ?_)
          obtain ⟨Iu, Lu, Au, Bu⟩ := u
          dsimp only at h hP
          obtain ⟨h, rfl, rfl, rfl, rfl⟩ := h
          try dsimp only at h
          refine lv_istore_n (lv' := [(3, .int r22), (2, .int v2), (0, .ref (ad 5)), (1, .int x1)]) hx hb dX4_howManyBins_25 rfl hl (by decide) rfl (fun ls hl => ?_)
          obtain ⟨v2_1, ev2_1⟩ : ∃ z : Int32, z = v2 + 1 := ⟨_, rfl⟩
          replace h := h v2_1 ev2_1
          refine lv_iinc (v := v2_1) (lv' := [(2, .int v2_1), (3, .int r22), (0, .ref (ad 5)), (1, .int x1)]) hx hb dX4_howManyBins_26 hl (k := 1) rfl (by rw [ev2_1]; rfl) (by decide) rfl (fun ls hl => ?_)
          refine lv_goto (tgt := 4) hx hb dX4_howManyBins_29 (by decide) ?_
          exact ih r22 v2_1 _ _ _ h (lv_sub hl [1, 0, 2, 3] rfl) hP hS
  exact LP _ 0 0 _ _ _ h (lv_sub hl [0, 1, 2, 3] rfl) hP hS
