theorem dX10_shown_0 : decode cX10_shown 0 = .ok (.aload_n 0, 1) := by decide +kernel
theorem dX10_shown_1 : decode cX10_shown 1 = .ok (.iconst 0, 1) := by decide +kernel
theorem dX10_shown_2 : decode cX10_shown 2 = .ok (.putfield 56, 3) := by decide +kernel
theorem dX10_shown_5 : decode cX10_shown 5 = .ok (.aload_n 0, 1) := by decide +kernel
theorem dX10_shown_6 : decode cX10_shown 6 = .ok (.iload_n 1, 1) := by decide +kernel
theorem dX10_shown_7 : decode cX10_shown 7 = .ok (.invokevirtual 77, 3) := by decide +kernel
theorem dX10_shown_10 : decode cX10_shown 10 = .ok (.ifCond .eq 11, 3) := by decide +kernel
theorem dX10_shown_13 : decode cX10_shown 13 = .ok (.aload_n 0, 1) := by decide +kernel
theorem dX10_shown_14 : decode cX10_shown 14 = .ok (.iload_n 1, 1) := by decide +kernel
theorem dX10_shown_15 : decode cX10_shown 15 = .ok (.invokevirtual 158, 3) := by decide +kernel
theorem dX10_shown_18 : decode cX10_shown 18 = .ok (.goto 4, 3) := by decide +kernel
theorem dX10_shown_21 : decode cX10_shown 21 = .ok (.iconst (-1), 1) := by decide +kernel
theorem dX10_shown_22 : decode cX10_shown 22 = .ok (.ireturn, 1) := by decide +kernel
def wX10_shown (I : Nat → Int32) (A : Nat → Nat → Int32) (x1 : Int32) (post : Int32 → (Nat → Int32) → Prop) : Prop := (∀ I_1, I_1 = va_up I 0 0 → wX10_isCategory I_1 A x1 (fun r7 => if r7 = 0 then (post (-1) I_1) else (wX10_shownOf I_1 A x1 (fun r15 => post r15 I_1))))
abbrev rmX10_shown : Room := { frames := 5, cells := 0, slots := 0, locals := 125 }
theorem wd_X10_shown : Cond.instanceMethod yX10_shown ∈ BW ∧ Cond.selects yX10_shown.cls yX10_shown yX10_shown ∈ BW ∧ Cond.initialized yX10_shown.cls ∈ BW ∧ Cond.code yX10_shown cX10_shown 2 (some .int) ∈ BW := ⟨mw_5_145, mw_5_146, mw_1_11, mw_5_147⟩
set_option maxHeartbeats 4000000 in
set_option maxRecDepth 100000 in
theorem c_X10_shown {l : Launch} {D : va_G} {cy : Nat → ClassId} {ad : Nat → Nat} {Ad : Nat → Prop} (hAd : adok 16 Ad ad) (I : Nat → Int32) (A : Nat → Nat → Int32) (x1 : Int32)  (post : Int32 → (Nat → Int32) → Prop) (h : wX10_shown I A x1 post) : Met l yX10_shown (.code yX10_shown cX10_shown 2 (some .int) :: BW) rmX10_shown (va_Pc [.ref (ad 0), .int x1] (fun U => kC D cy U ∧ va_P D vwCl (wM cy ad I A) U.heap)) (qMi D cy ad Ad (fun r u => post r u.1 ∧ A = u.2)) 0 0 Ad := by
  refine startMi (by decide) (Nat.le_of_ble_eq_true rfl) (lv := [(0, .ref (ad 0)), (1, .int x1)]) rfl (fun p e s m args below meth c Q ls hx hb hml hT hown hK hret hl hP hS => ?_)
  unfold wX10_shown at h
  refine lv_aload_n hx hb dX10_shown_0 rfl (lv_at hl 0 rfl) ?_
  refine lv_iconst (v := 0) hx hb dX10_shown_1 (by decide) ?_
  refine pM_X10_thrown hAd hx hb hT hown hK.1 hP hS (hT _ mw_4_137) dX10_shown_2 (fun H locs hP hS => ?_)
  obtain ⟨I_1, eI_1⟩ : ∃ z, z = va_up I 0 0 := ⟨_, rfl⟩
  rw [← eI_1] at hP
  replace h := h I_1 eI_1
  refine lv_aload_n hx hb dX10_shown_5 rfl (lv_at hl 0 rfl) ?_
  refine lv_iload_n hx hb dX10_shown_6 rfl (lv_at hl 1 rfl) ?_
  refine callMi (k := 0) (As := [.int x1]) (rest := []) (n := 1) (c_X10_isCategory hAd I_1 A x1 _ h) hx hb hT hown hK hP hS mw_4_232 wd_X10_isCategory (by decide +kernel) ⟨rfl, rfl⟩ (by decide) rfl rfl he_X10 rfl hl.1 hml rfl (Nat.le_of_ble_eq_true rfl) dX10_shown_7 ⟨Nat.zero_le _, Nat.zero_le _⟩ (fun r7 u H locs h hP hS => ?_)
  obtain ⟨Iu, Au⟩ := u
  dsimp only at h hP
  obtain ⟨h, rfl, rfl⟩ := h
  try dsimp only at h
  refine lv_if_eq (tgt := 21) hx hb dX10_shown_10 (by decide) (fun hc => ?_) (fun hc => ?_)
  · rw [if_pos hc] at h
    refine lv_iconst (v := (-1)) hx hb dX10_shown_21 (by decide) ?_
    exact hret _ (I_1, A) dX10_shown_22 ⟨h, rfl⟩ hP hS
  · rw [if_neg hc] at h
    refine lv_aload_n hx hb dX10_shown_13 rfl (lv_at hl 0 rfl) ?_
    refine lv_iload_n hx hb dX10_shown_14 rfl (lv_at hl 1 rfl) ?_
    refine callMi (k := 0) (As := [.int x1]) (rest := []) (n := 1) (c_X10_shownOf hAd I_1 A x1 _ h) hx hb hT hown hK hP hS mw_5_148 wd_X10_shownOf (by decide +kernel) ⟨rfl, rfl⟩ (by decide) rfl rfl he_X10 rfl hl.1 hml rfl (Nat.le_of_ble_eq_true rfl) dX10_shown_15 ⟨Nat.zero_le _, Nat.zero_le _⟩ (fun r15 u H locs h hP hS => ?_)
    obtain ⟨Iu_1, Au_1⟩ := u
    dsimp only at h hP
    obtain ⟨h, rfl, rfl⟩ := h
    try dsimp only at h
    refine lv_goto (tgt := 22) hx hb dX10_shown_18 (by decide) ?_
    exact hret _ (I_1, A) dX10_shown_22 ⟨h, rfl⟩ hP hS
theorem dX10_shownMissing_0 : decode cX10_shownMissing 0 = .ok (.aload_n 0, 1) := by decide +kernel
theorem dX10_shownMissing_1 : decode cX10_shownMissing 1 = .ok (.iconst 0, 1) := by decide +kernel
theorem dX10_shownMissing_2 : decode cX10_shownMissing 2 = .ok (.putfield 56, 3) := by decide +kernel
theorem dX10_shownMissing_5 : decode cX10_shownMissing 5 = .ok (.aload_n 0, 1) := by decide +kernel
theorem dX10_shownMissing_6 : decode cX10_shownMissing 6 = .ok (.iload_n 1, 1) := by decide +kernel
theorem dX10_shownMissing_7 : decode cX10_shownMissing 7 = .ok (.invokevirtual 63, 3) := by decide +kernel
theorem dX10_shownMissing_10 : decode cX10_shownMissing 10 = .ok (.ifCond .ne 5, 3) := by decide +kernel
theorem dX10_shownMissing_13 : decode cX10_shownMissing 13 = .ok (.iconst (-1), 1) := by decide +kernel
theorem dX10_shownMissing_14 : decode cX10_shownMissing 14 = .ok (.ireturn, 1) := by decide +kernel
theorem dX10_shownMissing_15 : decode cX10_shownMissing 15 = .ok (.iconst 0, 1) := by decide +kernel
theorem dX10_shownMissing_16 : decode cX10_shownMissing 16 = .ok (.istore_n 2, 1) := by decide +kernel
theorem dX10_shownMissing_17 : decode cX10_shownMissing 17 = .ok (.iconst 0, 1) := by decide +kernel
theorem dX10_shownMissing_18 : decode cX10_shownMissing 18 = .ok (.istore_n 3, 1) := by decide +kernel
theorem dX10_shownMissing_19 : decode cX10_shownMissing 19 = .ok (.iload_n 3, 1) := by decide +kernel
theorem dX10_shownMissing_20 : decode cX10_shownMissing 20 = .ok (.aload_n 0, 1) := by decide +kernel
theorem dX10_shownMissing_21 : decode cX10_shownMissing 21 = .ok (.getfield 70, 3) := by decide +kernel
theorem dX10_shownMissing_24 : decode cX10_shownMissing 24 = .ok (.if_icmp .ge 40, 3) := by decide +kernel
theorem dX10_shownMissing_27 : decode cX10_shownMissing 27 = .ok (.iload_n 2, 1) := by decide +kernel
theorem dX10_shownMissing_28 : decode cX10_shownMissing 28 = .ok (.aload_n 0, 1) := by decide +kernel
theorem dX10_shownMissing_29 : decode cX10_shownMissing 29 = .ok (.iconst 0, 1) := by decide +kernel
theorem dX10_shownMissing_30 : decode cX10_shownMissing 30 = .ok (.iload_n 3, 1) := by decide +kernel
theorem dX10_shownMissing_31 : decode cX10_shownMissing 31 = .ok (.aload_n 0, 1) := by decide +kernel
theorem dX10_shownMissing_32 : decode cX10_shownMissing 32 = .ok (.iload_n 1, 1) := by decide +kernel
theorem dX10_shownMissing_33 : decode cX10_shownMissing 33 = .ok (.invokevirtual 152, 3) := by decide +kernel
theorem dX10_shownMissing_36 : decode cX10_shownMissing 36 = .ok (.invokevirtual 134, 3) := by decide +kernel
theorem dX10_shownMissing_39 : decode cX10_shownMissing 39 = .ok (.ifCond .eq 16, 3) := by decide +kernel
theorem dX10_shownMissing_42 : decode cX10_shownMissing 42 = .ok (.aload_n 0, 1) := by decide +kernel
theorem dX10_shownMissing_43 : decode cX10_shownMissing 43 = .ok (.iload_n 3, 1) := by decide +kernel
theorem dX10_shownMissing_44 : decode cX10_shownMissing 44 = .ok (.iload_n 1, 1) := by decide +kernel
theorem dX10_shownMissing_45 : decode cX10_shownMissing 45 = .ok (.invokevirtual 125, 3) := by decide +kernel
theorem dX10_shownMissing_48 : decode cX10_shownMissing 48 = .ok (.ifCond .eq 7, 3) := by decide +kernel
theorem dX10_shownMissing_51 : decode cX10_shownMissing 51 = .ok (.iconst 1, 1) := by decide +kernel
theorem dX10_shownMissing_52 : decode cX10_shownMissing 52 = .ok (.goto 4, 3) := by decide +kernel
theorem dX10_shownMissing_55 : decode cX10_shownMissing 55 = .ok (.iconst 0, 1) := by decide +kernel
theorem dX10_shownMissing_56 : decode cX10_shownMissing 56 = .ok (.iadd, 1) := by decide +kernel
theorem dX10_shownMissing_57 : decode cX10_shownMissing 57 = .ok (.istore_n 2, 1) := by decide +kernel
theorem dX10_shownMissing_58 : decode cX10_shownMissing 58 = .ok (.iinc 3 1, 3) := by decide +kernel
theorem dX10_shownMissing_61 : decode cX10_shownMissing 61 = .ok (.goto (-42), 3) := by decide +kernel
theorem dX10_shownMissing_64 : decode cX10_shownMissing 64 = .ok (.iload_n 2, 1) := by decide +kernel
theorem dX10_shownMissing_65 : decode cX10_shownMissing 65 = .ok (.ireturn, 1) := by decide +kernel
def wX10_shownMissing (I : Nat → Int32) (A : Nat → Nat → Int32) (x1 : Int32) (post : Int32 → (Nat → Int32) → Prop) : Prop := (∀ I_1, I_1 = va_up I 0 0 → wX10_isAxis I_1 A x1 (fun r7 => if r7 = 0 then (post (-1) I_1) else (∃ n, lfix (fun (r : (Int32 × Int32) → Prop) (v3, v2) => if (I_1 3) ≤ v3 then (post v2 I_1) else (wX10_lifted I_1 A x1 (fun r33 => wX10_isNear I_1 A 0 v3 r33 (fun r36 => jn (fun (t : Int32) => ∀ v2_1 : Int32, v2_1 = v2 + t → ∀ v3_1 : Int32, v3_1 = v3 + 1 → r (v3_1, v2_1)) (fun k => jn (fun (_ : Unit) => k 0) (fun k_1 => if r36 = 0 then (k_1 ()) else (wX10_isMissing I_1 A v3 x1 (fun r45 => if r45 = 0 then (k_1 ()) else (k 1))))))))) n (0, 0))))
abbrev rmX10_shownMissing : Room := { frames := 3, cells := 0, slots := 0, locals := 80 }
theorem wd_X10_shownMissing : Cond.instanceMethod yX10_shownMissing ∈ BW ∧ Cond.selects yX10_shownMissing.cls yX10_shownMissing yX10_shownMissing ∈ BW ∧ Cond.initialized yX10_shownMissing.cls ∈ BW ∧ Cond.code yX10_shownMissing cX10_shownMissing 4 (some .int) ∈ BW := ⟨mw_5_161, mw_5_162, mw_1_11, mw_5_163⟩
set_option maxHeartbeats 4000000 in
set_option maxRecDepth 100000 in
theorem c_X10_shownMissing {l : Launch} {D : va_G} {cy : Nat → ClassId} {ad : Nat → Nat} {Ad : Nat → Prop} (hAd : adok 16 Ad ad) (I : Nat → Int32) (A : Nat → Nat → Int32) (x1 : Int32)  (post : Int32 → (Nat → Int32) → Prop) (h : wX10_shownMissing I A x1 post) : Met l yX10_shownMissing (.code yX10_shownMissing cX10_shownMissing 4 (some .int) :: BW) rmX10_shownMissing (va_Pc [.ref (ad 0), .int x1] (fun U => kC D cy U ∧ va_P D vwCl (wM cy ad I A) U.heap)) (qMi D cy ad Ad (fun r u => post r u.1 ∧ A = u.2)) 0 0 Ad := by
  refine startMi (by decide) (Nat.le_of_ble_eq_true rfl) (lv := [(0, .ref (ad 0)), (1, .int x1)]) rfl (fun p e s m args below meth c Q ls hx hb hml hT hown hK hret hl hP hS => ?_)
  unfold wX10_shownMissing at h
  refine lv_aload_n hx hb dX10_shownMissing_0 rfl (lv_at hl 0 rfl) ?_
  refine lv_iconst (v := 0) hx hb dX10_shownMissing_1 (by decide) ?_
  refine pM_X10_thrown hAd hx hb hT hown hK.1 hP hS (hT _ mw_4_137) dX10_shownMissing_2 (fun H locs hP hS => ?_)
  obtain ⟨I_1, eI_1⟩ : ∃ z, z = va_up I 0 0 := ⟨_, rfl⟩
  rw [← eI_1] at hP
  replace h := h I_1 eI_1
  refine lv_aload_n hx hb dX10_shownMissing_5 rfl (lv_at hl 0 rfl) ?_
  refine lv_iload_n hx hb dX10_shownMissing_6 rfl (lv_at hl 1 rfl) ?_
  refine callMi (k := 0) (As := [.int x1]) (rest := []) (n := 1) (c_X10_isAxis hAd I_1 A x1 _ h) hx hb hT hown hK hP hS mw_4_224 wd_X10_isAxis (by decide +kernel) ⟨rfl, rfl⟩ (by decide) rfl rfl he_X10 rfl hl.1 hml rfl (Nat.le_of_ble_eq_true rfl) dX10_shownMissing_7 ⟨Nat.zero_le _, Nat.zero_le _⟩ (fun r7 u H locs h hP hS => ?_)
  obtain ⟨Iu, Au⟩ := u
  dsimp only at h hP
  obtain ⟨h, rfl, rfl⟩ := h
  try dsimp only at h
  refine lv_if_ne (tgt := 15) hx hb dX10_shownMissing_10 (by decide) (fun hc => ?_) (fun hc => ?_)
  · rw [if_neg hc] at h
    refine lv_iconst (v := 0) hx hb dX10_shownMissing_15 (by decide) ?_
    refine lv_istore_n (lv' := [(2, .int 0), (0, .ref (ad 0)), (1, .int x1)]) hx hb dX10_shownMissing_16 rfl hl (by decide) rfl (fun ls hl => ?_)
    refine lv_iconst (v := 0) hx hb dX10_shownMissing_17 (by decide) ?_
    refine lv_istore_n (lv' := [(3, .int 0), (2, .int 0), (0, .ref (ad 0)), (1, .int x1)]) hx hb dX10_shownMissing_18 rfl hl (by decide) rfl (fun ls hl => ?_)
    obtain ⟨F, n, h, hF, hG⟩ := lfix_ex h
    have LP : ∀ (n : Nat) (v3 : Int32) (v2 : Int32) (ls : Array Slot) (H : Heap) (locs : List Loc), F n (v3, v2) → lv_has ls 4 [(3, .int v3), (2, .int v2), (0, .ref (ad 0)), (1, .int x1)] → va_P D vwCl (wM cy ad I_1 A) H → va_S Ad s.heap H locs → W p l e rmX10_shownMissing s m args below meth c H locs 0 0 Q (F0 m 19 ls []) := by
      intro n
      induction n with
      | zero => intro v3 v2 ls H locs h _ _ _; exact absurd h (hF _)
      | succ n ih =>
        intro v3 v2 ls H locs h hl hP hS
        replace h := hG _ _ h
        try dsimp only at h
        refine lv_iload_n hx hb dX10_shownMissing_19 rfl (lv_at hl 0 rfl) ?_
        refine lv_aload_n hx hb dX10_shownMissing_20 rfl (lv_at hl 2 rfl) ?_
        refine va_get (T := TX10) hx hb hT inlX10 hown hK.1 hP 0 he_X10 rfl 3 (by decide) (hT _ mw_4_140) (fun _ h9 => h9) rfl dX10_shownMissing_21 ?_
        refine lv_icmp_ge (tgt := 64) hx hb dX10_shownMissing_24 (by decide) (fun hc_1 => ?_) (fun hc_1 => ?_)
        · rw [if_pos hc_1] at h
          refine lv_iload_n hx hb dX10_shownMissing_64 rfl (lv_at hl 1 rfl) ?_
          exact hret _ (I_1, A) dX10_shownMissing_65 ⟨h, rfl⟩ hP hS
        · rw [if_neg hc_1] at h
          refine lv_iload_n hx hb dX10_shownMissing_27 rfl (lv_at hl 1 rfl) ?_
          refine lv_aload_n hx hb dX10_shownMissing_28 rfl (lv_at hl 2 rfl) ?_
          refine lv_iconst (v := 0) hx hb dX10_shownMissing_29 (by decide) ?_
          refine lv_iload_n hx hb dX10_shownMissing_30 rfl (lv_at hl 0 rfl) ?_
          refine lv_aload_n hx hb dX10_shownMissing_31 rfl (lv_at hl 2 rfl) ?_
          refine lv_iload_n hx hb dX10_shownMissing_32 rfl (lv_at hl 3 rfl) ?_
          refine callMi (k := 0) (As := [.int x1]) (rest := [.int v3, .int 0, .ref (ad 0), .int v2]) (n := 1) (c_X10_lifted hAd I_1 A x1 _ h) hx hb hT hown hK hP hS mw_5_156 wd_X10_lifted (by decide +kernel) ⟨rfl, rfl⟩ (by decide) rfl rfl he_X10 rfl hl.1 hml rfl (Nat.le_of_ble_eq_true rfl) dX10_shownMissing_33 ⟨Nat.zero_le _, Nat.zero_le _⟩ (fun r33 u H locs h hP hS => ?_)
          obtain ⟨Iu_1, Au_1⟩ := u
          dsimp only at h hP
          obtain ⟨h, rfl, rfl⟩ := h
          try dsimp only at h
          refine callMi (k := 0) (As := [.int 0, .int v3, .int r33]) (rest := [.int v2]) (n := 3) (c_X10_isNear hAd I_1 A 0 v3 r33 _ h) hx hb hT hown hK hP hS mw_5_92 wd_X10_isNear (by decide +kernel) ⟨rfl, rfl⟩ (by decide) rfl rfl he_X10 rfl hl.1 hml rfl (Nat.le_of_ble_eq_true rfl) dX10_shownMissing_36 ⟨Nat.zero_le _, Nat.zero_le _⟩ (fun r36 u H locs h hP hS => ?_)
          obtain ⟨Iu_2, Au_2⟩ := u
          dsimp only at h hP
          obtain ⟨h, rfl, rfl⟩ := h
          try dsimp only at h
          obtain ⟨k, hk, h⟩ := jn_ex h
          try dsimp only at h
          have J : ∀ (t : Int32), k t → ∀ (ls : Array Slot) (H : Heap) (locs : List Loc), lv_has ls 4 [(3, .int v3), (0, .ref (ad 0)), (1, .int x1)] → va_P D vwCl (wM cy ad I_1 A) H → va_S Ad s.heap H locs → W p l e rmX10_shownMissing s m args below meth c H locs 0 0 Q (F0 m 56 ls [.int t, .int v2]) := by
            intro t h ls H locs hl hP hS
            replace h := hk _ h
            try dsimp only at h
            refine lv_iadd hx hb dX10_shownMissing_56 ?_
            refine lv_topi (fun v2_1 ev2_1 => ?_)
            replace h := h v2_1 ev2_1
            refine lv_istore_n (lv' := [(2, .int v2_1), (3, .int v3), (0, .ref (ad 0)), (1, .int x1)]) hx hb dX10_shownMissing_57 rfl hl (by decide) rfl (fun ls hl => ?_)
            obtain ⟨v3_1, ev3_1⟩ : ∃ z : Int32, z = v3 + 1 := ⟨_, rfl⟩
            replace h := h v3_1 ev3_1
            refine lv_iinc (v := v3_1) (lv' := [(3, .int v3_1), (2, .int v2_1), (0, .ref (ad 0)), (1, .int x1)]) hx hb dX10_shownMissing_58 hl (k := 1) rfl (by rw [ev3_1]; rfl) (by decide) rfl (fun ls hl => ?_)
            refine lv_goto (tgt := 19) hx hb dX10_shownMissing_61 (by decide) ?_
            exact ih v3_1 v2_1 _ _ _ h (lv_sub hl [0, 1, 2, 3] rfl) hP hS
          obtain ⟨k_1, hk_1, h⟩ := jn_ex h
          try dsimp only at h
          have J_1 : k_1 () → ∀ (ls : Array Slot) (H : Heap) (locs : List Loc), lv_has ls 4 [(3, .int v3), (0, .ref (ad 0)), (1, .int x1)] → va_P D vwCl (wM cy ad I_1 A) H → va_S Ad s.heap H locs → W p l e rmX10_shownMissing s m args below meth c H locs 0 0 Q (F0 m 55 ls [.int v2]) := by
            intro  h ls H locs hl hP hS
            replace h := hk_1 _ h
            try dsimp only at h
            refine lv_iconst (v := 0) hx hb dX10_shownMissing_55 (by decide) ?_
            exact J 0 h _ _ _ (lv_sub hl [0, 1, 2] rfl) hP hS
          refine lv_if_eq (tgt := 55) hx hb dX10_shownMissing_39 (by decide) (fun hc_2 => ?_) (fun hc_2 => ?_)
          · rw [if_pos hc_2] at h
            exact J_1  h _ _ _ (lv_sub hl [0, 2, 3] rfl) hP hS
          · rw [if_neg hc_2] at h
            refine lv_aload_n hx hb dX10_shownMissing_42 rfl (lv_at hl 2 rfl) ?_
            refine lv_iload_n hx hb dX10_shownMissing_43 rfl (lv_at hl 0 rfl) ?_
            refine lv_iload_n hx hb dX10_shownMissing_44 rfl (lv_at hl 3 rfl) ?_
            refine callMi (k := 0) (As := [.int v3, .int x1]) (rest := [.int v2]) (n := 2) (c_X10_isMissing hAd I_1 A v3 x1 _ h) hx hb hT hown hK hP hS mw_5_104 wd_X10_isMissing (by decide +kernel) ⟨rfl, rfl⟩ (by decide) rfl rfl he_X10 rfl hl.1 hml rfl (Nat.le_of_ble_eq_true rfl) dX10_shownMissing_45 ⟨Nat.zero_le _, Nat.zero_le _⟩ (fun r45 u H locs h hP hS => ?_)
            obtain ⟨Iu_3, Au_3⟩ := u
            dsimp only at h hP
            obtain ⟨h, rfl, rfl⟩ := h
            try dsimp only at h
            refine lv_if_eq (tgt := 55) hx hb dX10_shownMissing_48 (by decide) (fun hc_3 => ?_) (fun hc_3 => ?_)
            · rw [if_pos hc_3] at h
              exact J_1  h _ _ _ (lv_sub hl [0, 2, 3] rfl) hP hS
            · rw [if_neg hc_3] at h
              refine lv_iconst (v := 1) hx hb dX10_shownMissing_51 (by decide) ?_
              refine lv_goto (tgt := 56) hx hb dX10_shownMissing_52 (by decide) ?_
              exact J 1 h _ _ _ (lv_sub hl [0, 2, 3] rfl) hP hS
    exact LP _ 0 0 _ _ _ h (lv_sub hl [0, 1, 2, 3] rfl) hP hS
  · rw [if_pos hc] at h
    refine lv_iconst (v := (-1)) hx hb dX10_shownMissing_13 (by decide) ?_
    exact hret _ (I_1, A) dX10_shownMissing_14 ⟨h, rfl⟩ hP hS
theorem dX10_click_0 : decode cX10_click 0 = .ok (.aload_n 0, 1) := by decide +kernel
theorem dX10_click_1 : decode cX10_click 1 = .ok (.iconst 0, 1) := by decide +kernel
theorem dX10_click_2 : decode cX10_click 2 = .ok (.putfield 56, 3) := by decide +kernel
theorem dX10_click_5 : decode cX10_click 5 = .ok (.aload_n 0, 1) := by decide +kernel
theorem dX10_click_6 : decode cX10_click 6 = .ok (.iload_n 1, 1) := by decide +kernel
theorem dX10_click_7 : decode cX10_click 7 = .ok (.invokevirtual 77, 3) := by decide +kernel
theorem dX10_click_10 : decode cX10_click 10 = .ok (.ifCond .eq 12, 3) := by decide +kernel
theorem dX10_click_13 : decode cX10_click 13 = .ok (.iload_n 2, 1) := by decide +kernel
theorem dX10_click_14 : decode cX10_click 14 = .ok (.iconst 0, 1) := by decide +kernel
theorem dX10_click_15 : decode cX10_click 15 = .ok (.iconst 2, 1) := by decide +kernel
theorem dX10_click_16 : decode cX10_click 16 = .ok (.invokestatic 73, 3) := by decide +kernel
theorem dX10_click_19 : decode cX10_click 19 = .ok (.ifCond .ne 5, 3) := by decide +kernel
theorem dX10_click_22 : decode cX10_click 22 = .ok (.iconst (-1), 1) := by decide +kernel
theorem dX10_click_23 : decode cX10_click 23 = .ok (.ireturn, 1) := by decide +kernel
theorem dX10_click_24 : decode cX10_click 24 = .ok (.aload_n 0, 1) := by decide +kernel
theorem dX10_click_25 : decode cX10_click 25 = .ok (.iconst 0, 1) := by decide +kernel
theorem dX10_click_26 : decode cX10_click 26 = .ok (.sipush 1360, 3) := by decide +kernel
theorem dX10_click_29 : decode cX10_click 29 = .ok (.invokevirtual 109, 3) := by decide +kernel
theorem dX10_click_32 : decode cX10_click 32 = .ok (.iload_n 2, 1) := by decide +kernel
theorem dX10_click_33 : decode cX10_click 33 = .ok (.ifCond .ne 30, 3) := by decide +kernel
theorem dX10_click_36 : decode cX10_click 36 = .ok (.aload_n 0, 1) := by decide +kernel
theorem dX10_click_37 : decode cX10_click 37 = .ok (.getfield 7, 3) := by decide +kernel
theorem dX10_click_40 : decode cX10_click 40 = .ok (.aload_n 0, 1) := by decide +kernel
theorem dX10_click_41 : decode cX10_click 41 = .ok (.getfield 13, 3) := by decide +kernel
theorem dX10_click_44 : decode cX10_click 44 = .ok (.iload_n 1, 1) := by decide +kernel
theorem dX10_click_45 : decode cX10_click 45 = .ok (.iaload, 1) := by decide +kernel
theorem dX10_click_46 : decode cX10_click 46 = .ok (.iaload, 1) := by decide +kernel
theorem dX10_click_47 : decode cX10_click 47 = .ok (.ifCond .ne 16, 3) := by decide +kernel
theorem dX10_click_50 : decode cX10_click 50 = .ok (.aload_n 0, 1) := by decide +kernel
theorem dX10_click_51 : decode cX10_click 51 = .ok (.sipush 1360, 3) := by decide +kernel
theorem dX10_click_54 : decode cX10_click 54 = .ok (.aload_n 0, 1) := by decide +kernel
theorem dX10_click_55 : decode cX10_click 55 = .ok (.getfield 13, 3) := by decide +kernel
theorem dX10_click_58 : decode cX10_click 58 = .ok (.iload_n 1, 1) := by decide +kernel
theorem dX10_click_59 : decode cX10_click 59 = .ok (.iaload, 1) := by decide +kernel
theorem dX10_click_60 : decode cX10_click 60 = .ok (.invokevirtual 119, 3) := by decide +kernel
theorem dX10_click_63 : decode cX10_click 63 = .ok (.aload_n 0, 1) := by decide +kernel
theorem dX10_click_64 : decode cX10_click 64 = .ok (.getfield 35, 3) := by decide +kernel
theorem dX10_click_67 : decode cX10_click 67 = .ok (.sipush 1360, 3) := by decide +kernel
theorem dX10_click_70 : decode cX10_click 70 = .ok (.iload_n 1, 1) := by decide +kernel
theorem dX10_click_71 : decode cX10_click 71 = .ok (.iadd, 1) := by decide +kernel
theorem dX10_click_72 : decode cX10_click 72 = .ok (.iload_n 2, 1) := by decide +kernel
theorem dX10_click_73 : decode cX10_click 73 = .ok (.iconst 2, 1) := by decide +kernel
theorem dX10_click_74 : decode cX10_click 74 = .ok (.if_icmp .ne 7, 3) := by decide +kernel
theorem dX10_click_77 : decode cX10_click 77 = .ok (.iconst 0, 1) := by decide +kernel
theorem dX10_click_78 : decode cX10_click 78 = .ok (.goto 4, 3) := by decide +kernel
theorem dX10_click_81 : decode cX10_click 81 = .ok (.iconst 1, 1) := by decide +kernel
theorem dX10_click_82 : decode cX10_click 82 = .ok (.iastore, 1) := by decide +kernel
theorem dX10_click_83 : decode cX10_click 83 = .ok (.aload_n 0, 1) := by decide +kernel
theorem dX10_click_84 : decode cX10_click 84 = .ok (.sipush 1360, 3) := by decide +kernel
theorem dX10_click_87 : decode cX10_click 87 = .ok (.invokevirtual 161, 3) := by decide +kernel
theorem dX10_click_90 : decode cX10_click 90 = .ok (.ireturn, 1) := by decide +kernel
def wX10_click (I : Nat → Int32) (A : Nat → Nat → Int32) (x1 : Int32) (x2 : Int32) (post : Int32 → (Nat → Int32) → (Nat → Nat → Int32) → Prop) : Prop := (∀ I_1, I_1 = va_up I 0 0 → wX10_isCategory I_1 A x1 (fun r7 => if r7 = 0 then (post (-1) I_1 A) else (wX10_within x2 0 2 (fun r16 => if r16 = 0 then (post (-1) I_1 A) else (wX10_copies I_1 A 0 1360 (fun A_1 => jn (fun (A_2 : (Nat → Nat → Int32)) => jn (fun (t : Int32) => vp_in (1360 + x1) 1440 ∧ (∀ A_3, A_3 = va_up A_2 9 (upd (A_2 9) (1360 + x1).toNatClampNeg t) → wX10_hitsBy I_1 A_3 1360 (fun r87 => post r87 I_1 A_3))) (fun k_1 => if x2 = 2 then (k_1 0) else (k_1 1))) (fun k => if x2 = 0 then (vp_in x1 40 ∧ (vp_in (A_1 2 x1.toNatClampNeg) 5 ∧ (if (A_1 1 (A_1 2 x1.toNatClampNeg).toNatClampNeg) = 0 then (vp_in x1 40 ∧ (wX10_opens I_1 A_1 1360 (A_1 2 x1.toNatClampNeg) (fun A_4 => k A_4))) else (k A_1)))) else (k A_1))))))))
abbrev rmX10_click : Room := { frames := 4, cells := 0, slots := 0, locals := 103 }
theorem wd_X10_click : Cond.instanceMethod yX10_click ∈ BW ∧ Cond.selects yX10_click.cls yX10_click yX10_click ∈ BW ∧ Cond.initialized yX10_click.cls ∈ BW ∧ Cond.code yX10_click cX10_click 3 (some .int) ∈ BW := ⟨mw_5_165, mw_5_166, mw_1_11, mw_5_167⟩
set_option maxHeartbeats 4000000 in
set_option maxRecDepth 100000 in
theorem c_X10_click {l : Launch} {D : va_G} {cy : Nat → ClassId} {ad : Nat → Nat} {Ad : Nat → Prop} (hAd : adok 16 Ad ad) (I : Nat → Int32) (A : Nat → Nat → Int32) (x1 : Int32) (x2 : Int32)  (post : Int32 → (Nat → Int32) → (Nat → Nat → Int32) → Prop) (h : wX10_click I A x1 x2 post) : Met l yX10_click (.code yX10_click cX10_click 3 (some .int) :: BW) rmX10_click (va_Pc [.ref (ad 0), .int x1, .int x2] (fun U => kC D cy U ∧ va_P D vwCl (wM cy ad I A) U.heap)) (qMi D cy ad Ad (fun r u => post r u.1 u.2)) 0 0 Ad := by
  refine startMi (by decide) (Nat.le_of_ble_eq_true rfl) (lv := [(0, .ref (ad 0)), (1, .int x1), (2, .int x2)]) rfl (fun p e s m args below meth c Q ls hx hb hml hT hown hK hret hl hP hS => ?_)
  unfold wX10_click at h
  refine lv_aload_n hx hb dX10_click_0 rfl (lv_at hl 0 rfl) ?_
  refine lv_iconst (v := 0) hx hb dX10_click_1 (by decide) ?_
  refine pM_X10_thrown hAd hx hb hT hown hK.1 hP hS (hT _ mw_4_137) dX10_click_2 (fun H locs hP hS => ?_)
  obtain ⟨I_1, eI_1⟩ : ∃ z, z = va_up I 0 0 := ⟨_, rfl⟩
  rw [← eI_1] at hP
  replace h := h I_1 eI_1
  refine lv_aload_n hx hb dX10_click_5 rfl (lv_at hl 0 rfl) ?_
  refine lv_iload_n hx hb dX10_click_6 rfl (lv_at hl 1 rfl) ?_
  refine callMi (k := 0) (As := [.int x1]) (rest := []) (n := 1) (c_X10_isCategory hAd I_1 A x1 _ h) hx hb hT hown hK hP hS mw_4_232 wd_X10_isCategory (by decide +kernel) ⟨rfl, rfl⟩ (by decide) rfl rfl he_X10 rfl hl.1 hml rfl (Nat.le_of_ble_eq_true rfl) dX10_click_7 ⟨Nat.zero_le _, Nat.zero_le _⟩ (fun r7 u H locs h hP hS => ?_)
  obtain ⟨Iu, Au⟩ := u
  dsimp only at h hP
  obtain ⟨h, rfl, rfl⟩ := h
  try dsimp only at h
  refine lv_if_eq (tgt := 22) hx hb dX10_click_10 (by decide) (fun hc => ?_) (fun hc => ?_)
  · rw [if_pos hc] at h
    refine lv_iconst (v := (-1)) hx hb dX10_click_22 (by decide) ?_
    exact hret _ (I_1, A) dX10_click_23 h hP hS
  · rw [if_neg hc] at h
    refine lv_iload_n hx hb dX10_click_13 rfl (lv_at hl 2 rfl) ?_
    refine lv_iconst (v := 0) hx hb dX10_click_14 (by decide) ?_
    refine lv_iconst (v := 2) hx hb dX10_click_15 (by decide) ?_
    refine callSMi (As := [.int x2, .int 0, .int 2]) (rest := []) (n := 3) (c_X10_within x2 0 2 _ h) hx hb hT hown hP hS mw_4_213 wd_X10_within (by decide +kernel) ⟨rfl, rfl⟩ (by decide) rfl hl.1 hml rfl (Nat.le_of_ble_eq_true rfl) dX10_click_16 ⟨Nat.zero_le _, Nat.zero_le _⟩ (fun r16 H locs h hP hS => ?_)
    try dsimp only at h
    refine lv_if_ne (tgt := 24) hx hb dX10_click_19 (by decide) (fun hc_1 => ?_) (fun hc_1 => ?_)
    · rw [if_neg hc_1] at h
      refine lv_aload_n hx hb dX10_click_24 rfl (lv_at hl 0 rfl) ?_
      refine lv_iconst (v := 0) hx hb dX10_click_25 (by decide) ?_
      refine lv_sipush (v := 1360) hx hb dX10_click_26 (by decide) ?_
      refine callMv (k := 0) (As := [.int 0, .int 1360]) (rest := []) (n := 2) (c_X10_copies hAd I_1 A 0 1360 _ h) hx hb hT hown hK hP hS mw_5_52 wd_X10_copies (by decide +kernel) ⟨rfl, rfl⟩ (by decide) rfl rfl he_X10 rfl hl.1 hml rfl (Nat.le_of_ble_eq_true rfl) dX10_click_29 ⟨Nat.zero_le _, Nat.zero_le _⟩ (fun u H locs h hP hS => ?_)
      obtain ⟨Iu_1, A_1⟩ := u
      dsimp only at h hP
      obtain ⟨h, rfl⟩ := h
      try dsimp only at h
      refine lv_iload_n hx hb dX10_click_32 rfl (lv_at hl 2 rfl) ?_
      obtain ⟨k, hk, h⟩ := jn_ex h
      try dsimp only at h
      have J : ∀ (A_2 : Nat → Nat → Int32), k A_2 → ∀ (ls : Array Slot) (H : Heap) (locs : List Loc), lv_has ls 3 [(0, .ref (ad 0)), (1, .int x1), (2, .int x2)] → va_P D vwCl (wM cy ad I_1 A_2) H → va_S Ad s.heap H locs → W p l e rmX10_click s m args below meth c H locs 0 0 Q (F0 m 63 ls []) := by
        intro A_2 h ls H locs hl hP hS
        replace h := hk _ h
        try dsimp only at h
        refine lv_aload_n hx hb dX10_click_63 rfl (lv_at hl 0 rfl) ?_
        refine va_get (T := TX10) hx hb hT inlX10 hown hK.1 hP 0 he_X10 rfl 12 (by decide) (hT _ mw_4_149) (fun _ h9 => h9) rfl dX10_click_64 ?_
        refine lv_sipush (v := 1360) hx hb dX10_click_67 (by decide) ?_
        refine lv_iload_n hx hb dX10_click_70 rfl (lv_at hl 1 rfl) ?_
        refine lv_iadd hx hb dX10_click_71 ?_
        refine lv_iload_n hx hb dX10_click_72 rfl (lv_at hl 2 rfl) ?_
        refine lv_iconst (v := 2) hx hb dX10_click_73 (by decide) ?_
        obtain ⟨k_1, hk_1, h⟩ := jn_ex h
        try dsimp only at h
        have J_1 : ∀ (t : Int32), k_1 t → ∀ (ls : Array Slot) (H : Heap) (locs : List Loc), lv_has ls 3 [(0, .ref (ad 0))] → va_P D vwCl (wM cy ad I_1 A_2) H → va_S Ad s.heap H locs → W p l e rmX10_click s m args below meth c H locs 0 0 Q (F0 m 82 ls [.int t, .int (1360 + x1), .ref (ad 9)]) := by
          intro t h ls H locs hl hP hS
          replace h := hk_1 _ h
          try dsimp only at h
          obtain ⟨hi, h⟩ := h
          refine sM_I hAd hx hb hK.1 hP hS (by decide) (fun _ => rfl) hi dX10_click_82 (fun H locs hP hS => ?_)
          obtain ⟨A_3, eA_3⟩ : ∃ z, z = va_up A_2 9 (upd (A_2 9) (1360 + x1).toNatClampNeg t) := ⟨_, rfl⟩
          rw [← eA_3] at hP
          replace h := h A_3 eA_3
          refine lv_aload_n hx hb dX10_click_83 rfl (lv_at hl 0 rfl) ?_
          refine lv_sipush (v := 1360) hx hb dX10_click_84 (by decide) ?_
          refine callMi (k := 0) (As := [.int 1360]) (rest := []) (n := 1) (c_X10_hitsBy hAd I_1 A_3 1360 _ h) hx hb hT hown hK hP hS mw_5_168 wd_X10_hitsBy (by decide +kernel) ⟨rfl, rfl⟩ (by decide) rfl rfl he_X10 rfl hl.1 hml rfl (Nat.le_of_ble_eq_true rfl) dX10_click_87 ⟨Nat.zero_le _, Nat.zero_le _⟩ (fun r87 u H locs h hP hS => ?_)
          obtain ⟨Iu_2, Au_1⟩ := u
          dsimp only at h hP
          obtain ⟨h, rfl, rfl⟩ := h
          try dsimp only at h
          exact hret _ (I_1, A_3) dX10_click_90 h hP hS
        refine lv_icmp_ne (tgt := 81) hx hb dX10_click_74 (by decide) (fun hc_2 => ?_) (fun hc_2 => ?_)
        · rw [if_neg hc_2] at h
          refine lv_iconst (v := 1) hx hb dX10_click_81 (by decide) ?_
          exact J_1 1 h _ _ _ (lv_sub hl [0] rfl) hP hS
        · rw [if_pos hc_2] at h
          refine lv_iconst (v := 0) hx hb dX10_click_77 (by decide) ?_
          refine lv_goto (tgt := 82) hx hb dX10_click_78 (by decide) ?_
          exact J_1 0 h _ _ _ (lv_sub hl [0] rfl) hP hS
      refine lv_if_ne (tgt := 63) hx hb dX10_click_33 (by decide) (fun hc_3 => ?_) (fun hc_3 => ?_)
      · rw [if_neg hc_3] at h
        exact J A_1 h _ _ _ (lv_sub hl [0, 1, 2] rfl) hP hS
      · rw [if_pos hc_3] at h
        refine lv_aload_n hx hb dX10_click_36 rfl (lv_at hl 0 rfl) ?_
        refine va_get (T := TX10) hx hb hT inlX10 hown hK.1 hP 0 he_X10 rfl 4 (by decide) (hT _ mw_4_141) (fun _ h9 => h9) rfl dX10_click_37 ?_
        refine lv_aload_n hx hb dX10_click_40 rfl (lv_at hl 0 rfl) ?_
        refine va_get (T := TX10) hx hb hT inlX10 hown hK.1 hP 0 he_X10 rfl 5 (by decide) (hT _ mw_4_142) (fun _ h9 => h9) rfl dX10_click_41 ?_
        refine lv_iload_n hx hb dX10_click_44 rfl (lv_at hl 1 rfl) ?_
        obtain ⟨hi_1, h⟩ := h
        refine lM_I hx hb hK.1 hP (by decide) rfl hi_1 dX10_click_45 ?_
        obtain ⟨hi_2, h⟩ := h
        refine lM_I hx hb hK.1 hP (by decide) rfl hi_2 dX10_click_46 ?_
        refine lv_if_ne (tgt := 63) hx hb dX10_click_47 (by decide) (fun hc_4 => ?_) (fun hc_4 => ?_)
        · rw [if_neg hc_4] at h
          exact J A_1 h _ _ _ (lv_sub hl [0, 1, 2] rfl) hP hS
        · rw [if_pos hc_4] at h
          refine lv_aload_n hx hb dX10_click_50 rfl (lv_at hl 0 rfl) ?_
          refine lv_sipush (v := 1360) hx hb dX10_click_51 (by decide) ?_
          refine lv_aload_n hx hb dX10_click_54 rfl (lv_at hl 0 rfl) ?_
          refine va_get (T := TX10) hx hb hT inlX10 hown hK.1 hP 0 he_X10 rfl 5 (by decide) (hT _ mw_4_142) (fun _ h9 => h9) rfl dX10_click_55 ?_
          refine lv_iload_n hx hb dX10_click_58 rfl (lv_at hl 1 rfl) ?_
          obtain ⟨hi_3, h⟩ := h
          refine lM_I hx hb hK.1 hP (by decide) rfl hi_3 dX10_click_59 ?_
          refine callMv (k := 0) (As := [.int 1360, .int (A_1 2 x1.toNatClampNeg)]) (rest := []) (n := 2) (c_X10_opens hAd I_1 A_1 1360 (A_1 2 x1.toNatClampNeg) _ h) hx hb hT hown hK hP hS mw_5_76 wd_X10_opens (by decide +kernel) ⟨rfl, rfl⟩ (by decide) rfl rfl he_X10 rfl hl.1 hml rfl (Nat.le_of_ble_eq_true rfl) dX10_click_60 ⟨Nat.zero_le _, Nat.zero_le _⟩ (fun u H locs h hP hS => ?_)
          obtain ⟨Iu_3, A_4⟩ := u
          dsimp only at h hP
          obtain ⟨h, rfl⟩ := h
          try dsimp only at h
          exact J A_4 h _ _ _ (lv_sub hl [0, 1, 2] rfl) hP hS
    · rw [if_pos hc_1] at h
      refine lv_iconst (v := (-1)) hx hb dX10_click_22 (by decide) ?_
      exact hret _ (I_1, A) dX10_click_23 h hP hS
theorem dX10_lift_0 : decode cX10_lift 0 = .ok (.aload_n 0, 1) := by decide +kernel
theorem dX10_lift_1 : decode cX10_lift 1 = .ok (.iconst 0, 1) := by decide +kernel
theorem dX10_lift_2 : decode cX10_lift 2 = .ok (.putfield 56, 3) := by decide +kernel
theorem dX10_lift_5 : decode cX10_lift 5 = .ok (.aload_n 0, 1) := by decide +kernel
theorem dX10_lift_6 : decode cX10_lift 6 = .ok (.iload_n 1, 1) := by decide +kernel
theorem dX10_lift_7 : decode cX10_lift 7 = .ok (.invokevirtual 63, 3) := by decide +kernel
theorem dX10_lift_10 : decode cX10_lift 10 = .ok (.ifCond .eq 11, 3) := by decide +kernel
theorem dX10_lift_13 : decode cX10_lift 13 = .ok (.aload_n 0, 1) := by decide +kernel
theorem dX10_lift_14 : decode cX10_lift 14 = .ok (.iload_n 2, 1) := by decide +kernel
theorem dX10_lift_15 : decode cX10_lift 15 = .ok (.invokevirtual 63, 3) := by decide +kernel
theorem dX10_lift_18 : decode cX10_lift 18 = .ok (.ifCond .ne 5, 3) := by decide +kernel
theorem dX10_lift_21 : decode cX10_lift 21 = .ok (.iconst (-1), 1) := by decide +kernel
theorem dX10_lift_22 : decode cX10_lift 22 = .ok (.ireturn, 1) := by decide +kernel
theorem dX10_lift_23 : decode cX10_lift 23 = .ok (.aload_n 0, 1) := by decide +kernel
theorem dX10_lift_24 : decode cX10_lift 24 = .ok (.iconst 0, 1) := by decide +kernel
theorem dX10_lift_25 : decode cX10_lift 25 = .ok (.sipush 1360, 3) := by decide +kernel
theorem dX10_lift_28 : decode cX10_lift 28 = .ok (.invokevirtual 109, 3) := by decide +kernel
theorem dX10_lift_31 : decode cX10_lift 31 = .ok (.aload_n 0, 1) := by decide +kernel
theorem dX10_lift_32 : decode cX10_lift 32 = .ok (.sipush 1360, 3) := by decide +kernel
theorem dX10_lift_35 : decode cX10_lift 35 = .ok (.iload_n 1, 1) := by decide +kernel
theorem dX10_lift_36 : decode cX10_lift 36 = .ok (.invokevirtual 119, 3) := by decide +kernel
theorem dX10_lift_39 : decode cX10_lift 39 = .ok (.aload_n 0, 1) := by decide +kernel
theorem dX10_lift_40 : decode cX10_lift 40 = .ok (.sipush 1360, 3) := by decide +kernel
theorem dX10_lift_43 : decode cX10_lift 43 = .ok (.iload_n 2, 1) := by decide +kernel
theorem dX10_lift_44 : decode cX10_lift 44 = .ok (.invokevirtual 119, 3) := by decide +kernel
theorem dX10_lift_47 : decode cX10_lift 47 = .ok (.aload_n 0, 1) := by decide +kernel
theorem dX10_lift_48 : decode cX10_lift 48 = .ok (.sipush 1360, 3) := by decide +kernel
theorem dX10_lift_51 : decode cX10_lift 51 = .ok (.invokevirtual 161, 3) := by decide +kernel
theorem dX10_lift_54 : decode cX10_lift 54 = .ok (.ireturn, 1) := by decide +kernel
def wX10_lift (I : Nat → Int32) (A : Nat → Nat → Int32) (x1 : Int32) (x2 : Int32) (post : Int32 → (Nat → Int32) → (Nat → Nat → Int32) → Prop) : Prop := (∀ I_1, I_1 = va_up I 0 0 → wX10_isAxis I_1 A x1 (fun r7 => if r7 = 0 then (post (-1) I_1 A) else (wX10_isAxis I_1 A x2 (fun r15 => if r15 = 0 then (post (-1) I_1 A) else (wX10_copies I_1 A 0 1360 (fun A_1 => wX10_opens I_1 A_1 1360 x1 (fun A_2 => wX10_opens I_1 A_2 1360 x2 (fun A_3 => wX10_hitsBy I_1 A_3 1360 (fun r51 => post r51 I_1 A_3)))))))))
abbrev rmX10_lift : Room := { frames := 4, cells := 0, slots := 0, locals := 103 }
theorem wd_X10_lift : Cond.instanceMethod yX10_lift ∈ BW ∧ Cond.selects yX10_lift.cls yX10_lift yX10_lift ∈ BW ∧ Cond.initialized yX10_lift.cls ∈ BW ∧ Cond.code yX10_lift cX10_lift 3 (some .int) ∈ BW := ⟨mw_5_173, mw_5_174, mw_1_11, mw_5_175⟩
set_option maxHeartbeats 4000000 in
set_option maxRecDepth 100000 in
theorem c_X10_lift {l : Launch} {D : va_G} {cy : Nat → ClassId} {ad : Nat → Nat} {Ad : Nat → Prop} (hAd : adok 16 Ad ad) (I : Nat → Int32) (A : Nat → Nat → Int32) (x1 : Int32) (x2 : Int32)  (post : Int32 → (Nat → Int32) → (Nat → Nat → Int32) → Prop) (h : wX10_lift I A x1 x2 post) : Met l yX10_lift (.code yX10_lift cX10_lift 3 (some .int) :: BW) rmX10_lift (va_Pc [.ref (ad 0), .int x1, .int x2] (fun U => kC D cy U ∧ va_P D vwCl (wM cy ad I A) U.heap)) (qMi D cy ad Ad (fun r u => post r u.1 u.2)) 0 0 Ad := by
  refine startMi (by decide) (Nat.le_of_ble_eq_true rfl) (lv := [(0, .ref (ad 0)), (1, .int x1), (2, .int x2)]) rfl (fun p e s m args below meth c Q ls hx hb hml hT hown hK hret hl hP hS => ?_)
  unfold wX10_lift at h
  refine lv_aload_n hx hb dX10_lift_0 rfl (lv_at hl 0 rfl) ?_
  refine lv_iconst (v := 0) hx hb dX10_lift_1 (by decide) ?_
  refine pM_X10_thrown hAd hx hb hT hown hK.1 hP hS (hT _ mw_4_137) dX10_lift_2 (fun H locs hP hS => ?_)
  obtain ⟨I_1, eI_1⟩ : ∃ z, z = va_up I 0 0 := ⟨_, rfl⟩
  rw [← eI_1] at hP
  replace h := h I_1 eI_1
  refine lv_aload_n hx hb dX10_lift_5 rfl (lv_at hl 0 rfl) ?_
  refine lv_iload_n hx hb dX10_lift_6 rfl (lv_at hl 1 rfl) ?_
  refine callMi (k := 0) (As := [.int x1]) (rest := []) (n := 1) (c_X10_isAxis hAd I_1 A x1 _ h) hx hb hT hown hK hP hS mw_4_224 wd_X10_isAxis (by decide +kernel) ⟨rfl, rfl⟩ (by decide) rfl rfl he_X10 rfl hl.1 hml rfl (Nat.le_of_ble_eq_true rfl) dX10_lift_7 ⟨Nat.zero_le _, Nat.zero_le _⟩ (fun r7 u H locs h hP hS => ?_)
  obtain ⟨Iu, Au⟩ := u
  dsimp only at h hP
  obtain ⟨h, rfl, rfl⟩ := h
  try dsimp only at h
  refine lv_if_eq (tgt := 21) hx hb dX10_lift_10 (by decide) (fun hc => ?_) (fun hc => ?_)
  · rw [if_pos hc] at h
    refine lv_iconst (v := (-1)) hx hb dX10_lift_21 (by decide) ?_
    exact hret _ (I_1, A) dX10_lift_22 h hP hS
  · rw [if_neg hc] at h
    refine lv_aload_n hx hb dX10_lift_13 rfl (lv_at hl 0 rfl) ?_
    refine lv_iload_n hx hb dX10_lift_14 rfl (lv_at hl 2 rfl) ?_
    refine callMi (k := 0) (As := [.int x2]) (rest := []) (n := 1) (c_X10_isAxis hAd I_1 A x2 _ h) hx hb hT hown hK hP hS mw_4_224 wd_X10_isAxis (by decide +kernel) ⟨rfl, rfl⟩ (by decide) rfl rfl he_X10 rfl hl.1 hml rfl (Nat.le_of_ble_eq_true rfl) dX10_lift_15 ⟨Nat.zero_le _, Nat.zero_le _⟩ (fun r15 u H locs h hP hS => ?_)
    obtain ⟨Iu_1, Au_1⟩ := u
    dsimp only at h hP
    obtain ⟨h, rfl, rfl⟩ := h
    try dsimp only at h
    refine lv_if_ne (tgt := 23) hx hb dX10_lift_18 (by decide) (fun hc_1 => ?_) (fun hc_1 => ?_)
    · rw [if_neg hc_1] at h
      refine lv_aload_n hx hb dX10_lift_23 rfl (lv_at hl 0 rfl) ?_
      refine lv_iconst (v := 0) hx hb dX10_lift_24 (by decide) ?_
      refine lv_sipush (v := 1360) hx hb dX10_lift_25 (by decide) ?_
      refine callMv (k := 0) (As := [.int 0, .int 1360]) (rest := []) (n := 2) (c_X10_copies hAd I_1 A 0 1360 _ h) hx hb hT hown hK hP hS mw_5_52 wd_X10_copies (by decide +kernel) ⟨rfl, rfl⟩ (by decide) rfl rfl he_X10 rfl hl.1 hml rfl (Nat.le_of_ble_eq_true rfl) dX10_lift_28 ⟨Nat.zero_le _, Nat.zero_le _⟩ (fun u H locs h hP hS => ?_)
      obtain ⟨Iu_2, A_1⟩ := u
      dsimp only at h hP
      obtain ⟨h, rfl⟩ := h
      try dsimp only at h
      refine lv_aload_n hx hb dX10_lift_31 rfl (lv_at hl 0 rfl) ?_
      refine lv_sipush (v := 1360) hx hb dX10_lift_32 (by decide) ?_
      refine lv_iload_n hx hb dX10_lift_35 rfl (lv_at hl 1 rfl) ?_
      refine callMv (k := 0) (As := [.int 1360, .int x1]) (rest := []) (n := 2) (c_X10_opens hAd I_1 A_1 1360 x1 _ h) hx hb hT hown hK hP hS mw_5_76 wd_X10_opens (by decide +kernel) ⟨rfl, rfl⟩ (by decide) rfl rfl he_X10 rfl hl.1 hml rfl (Nat.le_of_ble_eq_true rfl) dX10_lift_36 ⟨Nat.zero_le _, Nat.zero_le _⟩ (fun u H locs h hP hS => ?_)
      obtain ⟨Iu_3, A_2⟩ := u
      dsimp only at h hP
      obtain ⟨h, rfl⟩ := h
      try dsimp only at h
      refine lv_aload_n hx hb dX10_lift_39 rfl (lv_at hl 0 rfl) ?_
      refine lv_sipush (v := 1360) hx hb dX10_lift_40 (by decide) ?_
      refine lv_iload_n hx hb dX10_lift_43 rfl (lv_at hl 2 rfl) ?_
      refine callMv (k := 0) (As := [.int 1360, .int x2]) (rest := []) (n := 2) (c_X10_opens hAd I_1 A_2 1360 x2 _ h) hx hb hT hown hK hP hS mw_5_76 wd_X10_opens (by decide +kernel) ⟨rfl, rfl⟩ (by decide) rfl rfl he_X10 rfl hl.1 hml rfl (Nat.le_of_ble_eq_true rfl) dX10_lift_44 ⟨Nat.zero_le _, Nat.zero_le _⟩ (fun u H locs h hP hS => ?_)
      obtain ⟨Iu_4, A_3⟩ := u
      dsimp only at h hP
      obtain ⟨h, rfl⟩ := h
      try dsimp only at h
      refine lv_aload_n hx hb dX10_lift_47 rfl (lv_at hl 0 rfl) ?_
      refine lv_sipush (v := 1360) hx hb dX10_lift_48 (by decide) ?_
      refine callMi (k := 0) (As := [.int 1360]) (rest := []) (n := 1) (c_X10_hitsBy hAd I_1 A_3 1360 _ h) hx hb hT hown hK hP hS mw_5_168 wd_X10_hitsBy (by decide +kernel) ⟨rfl, rfl⟩ (by decide) rfl rfl he_X10 rfl hl.1 hml rfl (Nat.le_of_ble_eq_true rfl) dX10_lift_51 ⟨Nat.zero_le _, Nat.zero_le _⟩ (fun r51 u H locs h hP hS => ?_)
      obtain ⟨Iu_5, Au_2⟩ := u
      dsimp only at h hP
      obtain ⟨h, rfl, rfl⟩ := h
      try dsimp only at h
      exact hret _ (I_1, A_3) dX10_lift_54 h hP hS
    · rw [if_pos hc_1] at h
      refine lv_iconst (v := (-1)) hx hb dX10_lift_21 (by decide) ?_
      exact hret _ (I_1, A) dX10_lift_22 h hP hS
theorem dX10_ownOf_0 : decode cX10_ownOf 0 = .ok (.iconst 0, 1) := by decide +kernel
theorem dX10_ownOf_1 : decode cX10_ownOf 1 = .ok (.istore_n 2, 1) := by decide +kernel
theorem dX10_ownOf_2 : decode cX10_ownOf 2 = .ok (.iconst 0, 1) := by decide +kernel
theorem dX10_ownOf_3 : decode cX10_ownOf 3 = .ok (.istore_n 3, 1) := by decide +kernel
theorem dX10_ownOf_4 : decode cX10_ownOf 4 = .ok (.iload_n 3, 1) := by decide +kernel
theorem dX10_ownOf_5 : decode cX10_ownOf 5 = .ok (.aload_n 0, 1) := by decide +kernel
theorem dX10_ownOf_6 : decode cX10_ownOf 6 = .ok (.getfield 70, 3) := by decide +kernel
theorem dX10_ownOf_9 : decode cX10_ownOf 9 = .ok (.if_icmp .ge 40, 3) := by decide +kernel
theorem dX10_ownOf_12 : decode cX10_ownOf 12 = .ok (.iload_n 2, 1) := by decide +kernel
theorem dX10_ownOf_13 : decode cX10_ownOf 13 = .ok (.aload_n 0, 1) := by decide +kernel
theorem dX10_ownOf_14 : decode cX10_ownOf 14 = .ok (.iload_n 3, 1) := by decide +kernel
theorem dX10_ownOf_15 : decode cX10_ownOf 15 = .ok (.iload_n 1, 1) := by decide +kernel
theorem dX10_ownOf_16 : decode cX10_ownOf 16 = .ok (.invokevirtual 155, 3) := by decide +kernel
theorem dX10_ownOf_19 : decode cX10_ownOf 19 = .ok (.ifCond .eq 21, 3) := by decide +kernel
theorem dX10_ownOf_22 : decode cX10_ownOf 22 = .ok (.aload_n 0, 1) := by decide +kernel
theorem dX10_ownOf_23 : decode cX10_ownOf 23 = .ok (.getfield 26, 3) := by decide +kernel
theorem dX10_ownOf_26 : decode cX10_ownOf 26 = .ok (.bipush 40, 2) := by decide +kernel
theorem dX10_ownOf_28 : decode cX10_ownOf 28 = .ok (.iload_n 3, 1) := by decide +kernel
theorem dX10_ownOf_29 : decode cX10_ownOf 29 = .ok (.imul, 1) := by decide +kernel
theorem dX10_ownOf_30 : decode cX10_ownOf 30 = .ok (.iload_n 1, 1) := by decide +kernel
theorem dX10_ownOf_31 : decode cX10_ownOf 31 = .ok (.iadd, 1) := by decide +kernel
theorem dX10_ownOf_32 : decode cX10_ownOf 32 = .ok (.baload, 1) := by decide +kernel
theorem dX10_ownOf_33 : decode cX10_ownOf 33 = .ok (.ifCond .eq 7, 3) := by decide +kernel
theorem dX10_ownOf_36 : decode cX10_ownOf 36 = .ok (.iconst 1, 1) := by decide +kernel
theorem dX10_ownOf_37 : decode cX10_ownOf 37 = .ok (.goto 4, 3) := by decide +kernel
theorem dX10_ownOf_40 : decode cX10_ownOf 40 = .ok (.iconst 0, 1) := by decide +kernel
theorem dX10_ownOf_41 : decode cX10_ownOf 41 = .ok (.iadd, 1) := by decide +kernel
theorem dX10_ownOf_42 : decode cX10_ownOf 42 = .ok (.istore_n 2, 1) := by decide +kernel
theorem dX10_ownOf_43 : decode cX10_ownOf 43 = .ok (.iinc 3 1, 3) := by decide +kernel
theorem dX10_ownOf_46 : decode cX10_ownOf 46 = .ok (.goto (-42), 3) := by decide +kernel
theorem dX10_ownOf_49 : decode cX10_ownOf 49 = .ok (.iload_n 2, 1) := by decide +kernel
theorem dX10_ownOf_50 : decode cX10_ownOf 50 = .ok (.ireturn, 1) := by decide +kernel
def wX10_ownOf (I : Nat → Int32) (A : Nat → Nat → Int32) (x1 : Int32) (post : Int32 → Prop) : Prop := ∃ n, lfix (fun (r : (Int32 × Int32) → Prop) (v3, v2) => if (I 3) ≤ v3 then (post v2) else (wX10_counts I A v3 x1 (fun r16 => jn (fun (t : Int32) => ∀ v2_1 : Int32, v2_1 = v2 + t → ∀ v3_1 : Int32, v3_1 = v3 + 1 → r (v3_1, v2_1)) (fun k => jn (fun (_ : Unit) => k 0) (fun k_1 => if r16 = 0 then (k_1 ()) else (vp_in ((40 * v3) + x1) 1600 ∧ (if (A 6 ((40 * v3) + x1).toNatClampNeg) = 0 then (k_1 ()) else (k 1)))))))) n (0, 0)
abbrev rmX10_ownOf : Room := { frames := 4, cells := 0, slots := 0, locals := 102 }
theorem wd_X10_ownOf : Cond.instanceMethod yX10_ownOf ∈ BW ∧ Cond.selects yX10_ownOf.cls yX10_ownOf yX10_ownOf ∈ BW ∧ Cond.initialized yX10_ownOf.cls ∈ BW ∧ Cond.code yX10_ownOf cX10_ownOf 4 (some .int) ∈ BW := ⟨mw_5_182, mp_45, mw_1_11, mw_5_183⟩
set_option maxHeartbeats 4000000 in
set_option maxRecDepth 100000 in
theorem c_X10_ownOf {l : Launch} {D : va_G} {cy : Nat → ClassId} {ad : Nat → Nat} {Ad : Nat → Prop} (hAd : adok 16 Ad ad) (I : Nat → Int32) (A : Nat → Nat → Int32) (x1 : Int32)  (post : Int32 → Prop) (h : wX10_ownOf I A x1 post) : Met l yX10_ownOf (.code yX10_ownOf cX10_ownOf 4 (some .int) :: BW) rmX10_ownOf (va_Pc [.ref (ad 0), .int x1] (fun U => kC D cy U ∧ va_P D vwCl (wM cy ad I A) U.heap)) (qMi D cy ad Ad (fun r u => post r  ∧ I = u.1 ∧ A = u.2)) 0 0 Ad := by
  refine startMi (by decide) (Nat.le_of_ble_eq_true rfl) (lv := [(0, .ref (ad 0)), (1, .int x1)]) rfl (fun p e s m args below meth c Q ls hx hb hml hT hown hK hret hl hP hS => ?_)
  unfold wX10_ownOf at h
  refine lv_iconst (v := 0) hx hb dX10_ownOf_0 (by decide) ?_
  refine lv_istore_n (lv' := [(2, .int 0), (0, .ref (ad 0)), (1, .int x1)]) hx hb dX10_ownOf_1 rfl hl (by decide) rfl (fun ls hl => ?_)
  refine lv_iconst (v := 0) hx hb dX10_ownOf_2 (by decide) ?_
  refine lv_istore_n (lv' := [(3, .int 0), (2, .int 0), (0, .ref (ad 0)), (1, .int x1)]) hx hb dX10_ownOf_3 rfl hl (by decide) rfl (fun ls hl => ?_)
  obtain ⟨F, n, h, hF, hG⟩ := lfix_ex h
  have LP : ∀ (n : Nat) (v3 : Int32) (v2 : Int32) (ls : Array Slot) (H : Heap) (locs : List Loc), F n (v3, v2) → lv_has ls 4 [(3, .int v3), (2, .int v2), (0, .ref (ad 0)), (1, .int x1)] → va_P D vwCl (wM cy ad I A) H → va_S Ad s.heap H locs → W p l e rmX10_ownOf s m args below meth c H locs 0 0 Q (F0 m 4 ls []) := by
    intro n
    induction n with
    | zero => intro v3 v2 ls H locs h _ _ _; exact absurd h (hF _)
    | succ n ih =>
      intro v3 v2 ls H locs h hl hP hS
      replace h := hG _ _ h
      try dsimp only at h
      refine lv_iload_n hx hb dX10_ownOf_4 rfl (lv_at hl 0 rfl) ?_
      refine lv_aload_n hx hb dX10_ownOf_5 rfl (lv_at hl 2 rfl) ?_
      refine va_get (T := TX10) hx hb hT inlX10 hown hK.1 hP 0 he_X10 rfl 3 (by decide) (hT _ mw_4_140) (fun _ h9 => h9) rfl dX10_ownOf_6 ?_
      refine lv_icmp_ge (tgt := 49) hx hb dX10_ownOf_9 (by decide) (fun hc => ?_) (fun hc => ?_)
      · rw [if_pos hc] at h
        refine lv_iload_n hx hb dX10_ownOf_49 rfl (lv_at hl 1 rfl) ?_
        exact hret _ (I, A) dX10_ownOf_50 ⟨h, rfl, rfl⟩ hP hS
      · rw [if_neg hc] at h
        refine lv_iload_n hx hb dX10_ownOf_12 rfl (lv_at hl 1 rfl) ?_
        refine lv_aload_n hx hb dX10_ownOf_13 rfl (lv_at hl 2 rfl) ?_
        refine lv_iload_n hx hb dX10_ownOf_14 rfl (lv_at hl 0 rfl) ?_
        refine lv_iload_n hx hb dX10_ownOf_15 rfl (lv_at hl 3 rfl) ?_
        refine callMi (k := 0) (As := [.int v3, .int x1]) (rest := [.int v2]) (n := 2) (c_X10_counts hAd I A v3 x1 _ h) hx hb hT hown hK hP hS mw_5_152 wd_X10_counts (by decide +kernel) ⟨rfl, rfl⟩ (by decide) rfl rfl he_X10 rfl hl.1 hml rfl (Nat.le_of_ble_eq_true rfl) dX10_ownOf_16 ⟨Nat.zero_le _, Nat.zero_le _⟩ (fun r16 u H locs h hP hS => ?_)
        obtain ⟨Iu, Au⟩ := u
        dsimp only at h hP
        obtain ⟨h, rfl, rfl⟩ := h
        try dsimp only at h
        obtain ⟨k, hk, h⟩ := jn_ex h
        try dsimp only at h
        have J : ∀ (t : Int32), k t → ∀ (ls : Array Slot) (H : Heap) (locs : List Loc), lv_has ls 4 [(3, .int v3), (0, .ref (ad 0)), (1, .int x1)] → va_P D vwCl (wM cy ad I A) H → va_S Ad s.heap H locs → W p l e rmX10_ownOf s m args below meth c H locs 0 0 Q (F0 m 41 ls [.int t, .int v2]) := by
          intro t h ls H locs hl hP hS
          replace h := hk _ h
          try dsimp only at h
          refine lv_iadd hx hb dX10_ownOf_41 ?_
          refine lv_topi (fun v2_1 ev2_1 => ?_)
          replace h := h v2_1 ev2_1
          refine lv_istore_n (lv' := [(2, .int v2_1), (3, .int v3), (0, .ref (ad 0)), (1, .int x1)]) hx hb dX10_ownOf_42 rfl hl (by decide) rfl (fun ls hl => ?_)
          obtain ⟨v3_1, ev3_1⟩ : ∃ z : Int32, z = v3 + 1 := ⟨_, rfl⟩
          replace h := h v3_1 ev3_1
          refine lv_iinc (v := v3_1) (lv' := [(3, .int v3_1), (2, .int v2_1), (0, .ref (ad 0)), (1, .int x1)]) hx hb dX10_ownOf_43 hl (k := 1) rfl (by rw [ev3_1]; rfl) (by decide) rfl (fun ls hl => ?_)
          refine lv_goto (tgt := 4) hx hb dX10_ownOf_46 (by decide) ?_
          exact ih v3_1 v2_1 _ _ _ h (lv_sub hl [0, 1, 2, 3] rfl) hP hS
        obtain ⟨k_1, hk_1, h⟩ := jn_ex h
        try dsimp only at h
        have J_1 : k_1 () → ∀ (ls : Array Slot) (H : Heap) (locs : List Loc), lv_has ls 4 [(3, .int v3), (0, .ref (ad 0)), (1, .int x1)] → va_P D vwCl (wM cy ad I A) H → va_S Ad s.heap H locs → W p l e rmX10_ownOf s m args below meth c H locs 0 0 Q (F0 m 40 ls [.int v2]) := by
          intro  h ls H locs hl hP hS
          replace h := hk_1 _ h
          try dsimp only at h
          refine lv_iconst (v := 0) hx hb dX10_ownOf_40 (by decide) ?_
          exact J 0 h _ _ _ (lv_sub hl [0, 1, 2] rfl) hP hS
        refine lv_if_eq (tgt := 40) hx hb dX10_ownOf_19 (by decide) (fun hc_1 => ?_) (fun hc_1 => ?_)
        · rw [if_pos hc_1] at h
          exact J_1  h _ _ _ (lv_sub hl [0, 2, 3] rfl) hP hS
        · rw [if_neg hc_1] at h
          refine lv_aload_n hx hb dX10_ownOf_22 rfl (lv_at hl 2 rfl) ?_
          refine va_get (T := TX10) hx hb hT inlX10 hown hK.1 hP 0 he_X10 rfl 9 (by decide) (hT _ mw_4_146) (fun _ h9 => h9) rfl dX10_ownOf_23 ?_
          refine lv_bipush (v := 40) hx hb dX10_ownOf_26 (by decide) ?_
          refine lv_iload_n hx hb dX10_ownOf_28 rfl (lv_at hl 0 rfl) ?_
          refine lv_imul hx hb dX10_ownOf_29 ?_
          refine lv_iload_n hx hb dX10_ownOf_30 rfl (lv_at hl 3 rfl) ?_
          refine lv_iadd hx hb dX10_ownOf_31 ?_
          obtain ⟨hi, h⟩ := h
          refine lM_Z hx hb hK.1 hP (by decide) rfl hi dX10_ownOf_32 ?_
          refine lv_if_eq (tgt := 40) hx hb dX10_ownOf_33 (by decide) (fun hc_2 => ?_) (fun hc_2 => ?_)
          · rw [if_pos hc_2] at h
            exact J_1  h _ _ _ (lv_sub hl [0, 2, 3] rfl) hP hS
          · rw [if_neg hc_2] at h
            refine lv_iconst (v := 1) hx hb dX10_ownOf_36 (by decide) ?_
            refine lv_goto (tgt := 41) hx hb dX10_ownOf_37 (by decide) ?_
            exact J 1 h _ _ _ (lv_sub hl [0, 2, 3] rfl) hP hS
  exact LP _ 0 0 _ _ _ h (lv_sub hl [0, 1, 2, 3] rfl) hP hS
theorem dX10_sums_0 : decode cX10_sums 0 = .ok (.aload_n 0, 1) := by decide +kernel
theorem dX10_sums_1 : decode cX10_sums 1 = .ok (.iconst 0, 1) := by decide +kernel
theorem dX10_sums_2 : decode cX10_sums 2 = .ok (.putfield 56, 3) := by decide +kernel
theorem dX10_sums_5 : decode cX10_sums 5 = .ok (.aload_n 0, 1) := by decide +kernel
theorem dX10_sums_6 : decode cX10_sums 6 = .ok (.iload_n 1, 1) := by decide +kernel
theorem dX10_sums_7 : decode cX10_sums 7 = .ok (.invokevirtual 77, 3) := by decide +kernel
theorem dX10_sums_10 : decode cX10_sums 10 = .ok (.ifCond .eq 12, 3) := by decide +kernel
theorem dX10_sums_13 : decode cX10_sums 13 = .ok (.iload_n 2, 1) := by decide +kernel
theorem dX10_sums_14 : decode cX10_sums 14 = .ok (.iconst 0, 1) := by decide +kernel
theorem dX10_sums_15 : decode cX10_sums 15 = .ok (.iconst 1, 1) := by decide +kernel
theorem dX10_sums_16 : decode cX10_sums 16 = .ok (.invokestatic 73, 3) := by decide +kernel
theorem dX10_sums_19 : decode cX10_sums 19 = .ok (.ifCond .ne 5, 3) := by decide +kernel
theorem dX10_sums_22 : decode cX10_sums 22 = .ok (.iconst (-1), 1) := by decide +kernel
theorem dX10_sums_23 : decode cX10_sums 23 = .ok (.ireturn, 1) := by decide +kernel
theorem dX10_sums_24 : decode cX10_sums 24 = .ok (.aload_n 0, 1) := by decide +kernel
theorem dX10_sums_25 : decode cX10_sums 25 = .ok (.iload_n 1, 1) := by decide +kernel
theorem dX10_sums_26 : decode cX10_sums 26 = .ok (.invokevirtual 164, 3) := by decide +kernel
theorem dX10_sums_29 : decode cX10_sums 29 = .ok (.istore_n 3, 1) := by decide +kernel
theorem dX10_sums_30 : decode cX10_sums 30 = .ok (.iconst 0, 1) := by decide +kernel
theorem dX10_sums_31 : decode cX10_sums 31 = .ok (.istore 4, 2) := by decide +kernel
theorem dX10_sums_33 : decode cX10_sums 33 = .ok (.iload 4, 2) := by decide +kernel
theorem dX10_sums_35 : decode cX10_sums 35 = .ok (.aload_n 0, 1) := by decide +kernel
theorem dX10_sums_36 : decode cX10_sums 36 = .ok (.getfield 67, 3) := by decide +kernel
theorem dX10_sums_39 : decode cX10_sums 39 = .ok (.if_icmp .ge 38, 3) := by decide +kernel
theorem dX10_sums_42 : decode cX10_sums 42 = .ok (.iload_n 2, 1) := by decide +kernel
theorem dX10_sums_43 : decode cX10_sums 43 = .ok (.iconst 1, 1) := by decide +kernel
theorem dX10_sums_44 : decode cX10_sums 44 = .ok (.if_icmp .ne 33, 3) := by decide +kernel
theorem dX10_sums_47 : decode cX10_sums 47 = .ok (.iload_n 3, 1) := by decide +kernel
theorem dX10_sums_48 : decode cX10_sums 48 = .ok (.aload_n 0, 1) := by decide +kernel
theorem dX10_sums_49 : decode cX10_sums 49 = .ok (.getfield 16, 3) := by decide +kernel
theorem dX10_sums_52 : decode cX10_sums 52 = .ok (.iload 4, 2) := by decide +kernel
theorem dX10_sums_54 : decode cX10_sums 54 = .ok (.iaload, 1) := by decide +kernel
theorem dX10_sums_55 : decode cX10_sums 55 = .ok (.iload_n 1, 1) := by decide +kernel
theorem dX10_sums_56 : decode cX10_sums 56 = .ok (.if_icmp .ne 12, 3) := by decide +kernel
theorem dX10_sums_59 : decode cX10_sums 59 = .ok (.aload_n 0, 1) := by decide +kernel
theorem dX10_sums_60 : decode cX10_sums 60 = .ok (.iload 4, 2) := by decide +kernel
theorem dX10_sums_62 : decode cX10_sums 62 = .ok (.invokevirtual 158, 3) := by decide +kernel
theorem dX10_sums_65 : decode cX10_sums 65 = .ok (.goto 4, 3) := by decide +kernel
theorem dX10_sums_68 : decode cX10_sums 68 = .ok (.iconst 0, 1) := by decide +kernel
theorem dX10_sums_69 : decode cX10_sums 69 = .ok (.iadd, 1) := by decide +kernel
theorem dX10_sums_70 : decode cX10_sums 70 = .ok (.istore_n 3, 1) := by decide +kernel
theorem dX10_sums_71 : decode cX10_sums 71 = .ok (.iinc 4 1, 3) := by decide +kernel
theorem dX10_sums_74 : decode cX10_sums 74 = .ok (.goto (-41), 3) := by decide +kernel
theorem dX10_sums_77 : decode cX10_sums 77 = .ok (.iload_n 2, 1) := by decide +kernel
theorem dX10_sums_78 : decode cX10_sums 78 = .ok (.ifCond .ne 7, 3) := by decide +kernel
theorem dX10_sums_81 : decode cX10_sums 81 = .ok (.iload_n 3, 1) := by decide +kernel
theorem dX10_sums_82 : decode cX10_sums 82 = .ok (.goto 10, 3) := by decide +kernel
theorem dX10_sums_85 : decode cX10_sums 85 = .ok (.iload_n 3, 1) := by decide +kernel
theorem dX10_sums_86 : decode cX10_sums 86 = .ok (.aload_n 0, 1) := by decide +kernel
theorem dX10_sums_87 : decode cX10_sums 87 = .ok (.iload_n 1, 1) := by decide +kernel
theorem dX10_sums_88 : decode cX10_sums 88 = .ok (.invokevirtual 158, 3) := by decide +kernel
theorem dX10_sums_91 : decode cX10_sums 91 = .ok (.isub, 1) := by decide +kernel
theorem dX10_sums_92 : decode cX10_sums 92 = .ok (.ireturn, 1) := by decide +kernel
def wX10_sums (I : Nat → Int32) (A : Nat → Nat → Int32) (x1 : Int32) (x2 : Int32) (post : Int32 → (Nat → Int32) → Prop) : Prop := (∀ I_1, I_1 = va_up I 0 0 → wX10_isCategory I_1 A x1 (fun r7 => if r7 = 0 then (post (-1) I_1) else (wX10_within x2 0 1 (fun r16 => if r16 = 0 then (post (-1) I_1) else (wX10_ownOf I_1 A x1 (fun r26 => ∃ n, lfix (fun (r : (Int32 × Int32) → Prop) (v4, v3) => jn (fun (_ : Unit) => if x2 = 0 then (post v3 I_1) else (wX10_shownOf I_1 A x1 (fun r88 => post (v3 - r88) I_1))) (fun k => if (I_1 2) ≤ v4 then (k ()) else (if x2 = 1 then (vp_in v4 40 ∧ (jn (fun (t : Int32) => ∀ v3_1 : Int32, v3_1 = v3 + t → ∀ v4_1 : Int32, v4_1 = v4 + 1 → r (v4_1, v3_1)) (fun k_1 => if (A 3 v4.toNatClampNeg) = x1 then (wX10_shownOf I_1 A v4 (fun r62 => k_1 r62)) else (k_1 0)))) else (k ())))) n (0, r26)))))))
abbrev rmX10_sums : Room := { frames := 5, cells := 0, slots := 0, locals := 125 }
theorem wd_X10_sums : Cond.instanceMethod yX10_sums ∈ BW ∧ Cond.selects yX10_sums.cls yX10_sums yX10_sums ∈ BW ∧ Cond.initialized yX10_sums.cls ∈ BW ∧ Cond.code yX10_sums cX10_sums 5 (some .int) ∈ BW := ⟨mw_5_177, mw_5_178, mw_1_11, mw_5_179⟩
set_option maxHeartbeats 4000000 in
set_option maxRecDepth 100000 in
theorem c_X10_sums {l : Launch} {D : va_G} {cy : Nat → ClassId} {ad : Nat → Nat} {Ad : Nat → Prop} (hAd : adok 16 Ad ad) (I : Nat → Int32) (A : Nat → Nat → Int32) (x1 : Int32) (x2 : Int32)  (post : Int32 → (Nat → Int32) → Prop) (h : wX10_sums I A x1 x2 post) : Met l yX10_sums (.code yX10_sums cX10_sums 5 (some .int) :: BW) rmX10_sums (va_Pc [.ref (ad 0), .int x1, .int x2] (fun U => kC D cy U ∧ va_P D vwCl (wM cy ad I A) U.heap)) (qMi D cy ad Ad (fun r u => post r u.1 ∧ A = u.2)) 0 0 Ad := by
  refine startMi (by decide) (Nat.le_of_ble_eq_true rfl) (lv := [(0, .ref (ad 0)), (1, .int x1), (2, .int x2)]) rfl (fun p e s m args below meth c Q ls hx hb hml hT hown hK hret hl hP hS => ?_)
  unfold wX10_sums at h
  refine lv_aload_n hx hb dX10_sums_0 rfl (lv_at hl 0 rfl) ?_
  refine lv_iconst (v := 0) hx hb dX10_sums_1 (by decide) ?_
  refine pM_X10_thrown hAd hx hb hT hown hK.1 hP hS (hT _ mw_4_137) dX10_sums_2 (fun H locs hP hS => ?_)
  obtain ⟨I_1, eI_1⟩ : ∃ z, z = va_up I 0 0 := ⟨_, rfl⟩
  rw [← eI_1] at hP
  replace h := h I_1 eI_1
  refine lv_aload_n hx hb dX10_sums_5 rfl (lv_at hl 0 rfl) ?_
  refine lv_iload_n hx hb dX10_sums_6 rfl (lv_at hl 1 rfl) ?_
  refine callMi (k := 0) (As := [.int x1]) (rest := []) (n := 1) (c_X10_isCategory hAd I_1 A x1 _ h) hx hb hT hown hK hP hS mw_4_232 wd_X10_isCategory (by decide +kernel) ⟨rfl, rfl⟩ (by decide) rfl rfl he_X10 rfl hl.1 hml rfl (Nat.le_of_ble_eq_true rfl) dX10_sums_7 ⟨Nat.zero_le _, Nat.zero_le _⟩ (fun r7 u H locs h hP hS => ?_)
  obtain ⟨Iu, Au⟩ := u
  dsimp only at h hP
  obtain ⟨h, rfl, rfl⟩ := h
  try dsimp only at h
  refine lv_if_eq (tgt := 22) hx hb dX10_sums_10 (by decide) (fun hc => ?_) (fun hc => ?_)
  · rw [if_pos hc] at h
    refine lv_iconst (v := (-1)) hx hb dX10_sums_22 (by decide) ?_
    exact hret _ (I_1, A) dX10_sums_23 ⟨h, rfl⟩ hP hS
  · rw [if_neg hc] at h
    refine lv_iload_n hx hb dX10_sums_13 rfl (lv_at hl 2 rfl) ?_
    refine lv_iconst (v := 0) hx hb dX10_sums_14 (by decide) ?_
    refine lv_iconst (v := 1) hx hb dX10_sums_15 (by decide) ?_
    refine callSMi (As := [.int x2, .int 0, .int 1]) (rest := []) (n := 3) (c_X10_within x2 0 1 _ h) hx hb hT hown hP hS mw_4_213 wd_X10_within (by decide +kernel) ⟨rfl, rfl⟩ (by decide) rfl hl.1 hml rfl (Nat.le_of_ble_eq_true rfl) dX10_sums_16 ⟨Nat.zero_le _, Nat.zero_le _⟩ (fun r16 H locs h hP hS => ?_)
    try dsimp only at h
    refine lv_if_ne (tgt := 24) hx hb dX10_sums_19 (by decide) (fun hc_1 => ?_) (fun hc_1 => ?_)
    · rw [if_neg hc_1] at h
      refine lv_aload_n hx hb dX10_sums_24 rfl (lv_at hl 0 rfl) ?_
      refine lv_iload_n hx hb dX10_sums_25 rfl (lv_at hl 1 rfl) ?_
      refine callMi (k := 0) (As := [.int x1]) (rest := []) (n := 1) (c_X10_ownOf hAd I_1 A x1 _ h) hx hb hT hown hK hP hS mw_5_180 wd_X10_ownOf (by decide +kernel) ⟨rfl, rfl⟩ (by decide) rfl rfl he_X10 rfl hl.1 hml rfl (Nat.le_of_ble_eq_true rfl) dX10_sums_26 ⟨Nat.zero_le _, Nat.zero_le _⟩ (fun r26 u H locs h hP hS => ?_)
      obtain ⟨Iu_1, Au_1⟩ := u
      dsimp only at h hP
      obtain ⟨h, rfl, rfl⟩ := h
      try dsimp only at h
      refine lv_istore_n (lv' := [(3, .int r26), (0, .ref (ad 0)), (1, .int x1), (2, .int x2)]) hx hb dX10_sums_29 rfl hl (by decide) rfl (fun ls hl => ?_)
      refine lv_iconst (v := 0) hx hb dX10_sums_30 (by decide) ?_
      refine lv_istore (lv' := [(4, .int 0), (3, .int r26), (0, .ref (ad 0)), (1, .int x1), (2, .int x2)]) hx hb dX10_sums_31 hl (by decide) rfl (fun ls hl => ?_)
      obtain ⟨F, n, h, hF, hG⟩ := lfix_ex h
      have LP : ∀ (n : Nat) (v4 : Int32) (v3 : Int32) (ls : Array Slot) (H : Heap) (locs : List Loc), F n (v4, v3) → lv_has ls 5 [(4, .int v4), (3, .int v3), (0, .ref (ad 0)), (1, .int x1), (2, .int x2)] → va_P D vwCl (wM cy ad I_1 A) H → va_S Ad s.heap H locs → W p l e rmX10_sums s m args below meth c H locs 0 0 Q (F0 m 33 ls []) := by
        intro n
        induction n with
        | zero => intro v4 v3 ls H locs h _ _ _; exact absurd h (hF _)
        | succ n ih =>
          intro v4 v3 ls H locs h hl hP hS
          replace h := hG _ _ h
          try dsimp only at h
          refine lv_iload hx hb dX10_sums_33 (lv_at hl 0 rfl) ?_
          refine lv_aload_n hx hb dX10_sums_35 rfl (lv_at hl 2 rfl) ?_
          refine va_get (T := TX10) hx hb hT inlX10 hown hK.1 hP 0 he_X10 rfl 2 (by decide) (hT _ mw_4_139) (fun _ h9 => h9) rfl dX10_sums_36 ?_
          obtain ⟨k, hk, h⟩ := jn_ex h
          try dsimp only at h
          have J : k () → ∀ (ls : Array Slot) (H : Heap) (locs : List Loc), lv_has ls 5 [(3, .int v3), (0, .ref (ad 0)), (1, .int x1), (2, .int x2)] → va_P D vwCl (wM cy ad I_1 A) H → va_S Ad s.heap H locs → W p l e rmX10_sums s m args below meth c H locs 0 0 Q (F0 m 77 ls []) := by
            intro  h ls H locs hl hP hS
            replace h := hk _ h
            try dsimp only at h
            refine lv_iload_n hx hb dX10_sums_77 rfl (lv_at hl 3 rfl) ?_
            refine lv_if_ne (tgt := 85) hx hb dX10_sums_78 (by decide) (fun hc_2 => ?_) (fun hc_2 => ?_)
            · rw [if_neg hc_2] at h
              refine lv_iload_n hx hb dX10_sums_85 rfl (lv_at hl 0 rfl) ?_
              refine lv_aload_n hx hb dX10_sums_86 rfl (lv_at hl 1 rfl) ?_
              refine lv_iload_n hx hb dX10_sums_87 rfl (lv_at hl 2 rfl) ?_
              refine callMi (k := 0) (As := [.int x1]) (rest := [.int v3]) (n := 1) (c_X10_shownOf hAd I_1 A x1 _ h) hx hb hT hown hK hP hS mw_5_148 wd_X10_shownOf (by decide +kernel) ⟨rfl, rfl⟩ (by decide) rfl rfl he_X10 rfl hl.1 hml rfl (Nat.le_of_ble_eq_true rfl) dX10_sums_88 ⟨Nat.zero_le _, Nat.zero_le _⟩ (fun r88 u H locs h hP hS => ?_)
              obtain ⟨Iu_2, Au_2⟩ := u
              dsimp only at h hP
              obtain ⟨h, rfl, rfl⟩ := h
              try dsimp only at h
              refine lv_isub hx hb dX10_sums_91 ?_
              exact hret _ (I_1, A) dX10_sums_92 ⟨h, rfl⟩ hP hS
            · rw [if_pos hc_2] at h
              refine lv_iload_n hx hb dX10_sums_81 rfl (lv_at hl 0 rfl) ?_
              refine lv_goto (tgt := 92) hx hb dX10_sums_82 (by decide) ?_
              exact hret _ (I_1, A) dX10_sums_92 ⟨h, rfl⟩ hP hS
          refine lv_icmp_ge (tgt := 77) hx hb dX10_sums_39 (by decide) (fun hc_3 => ?_) (fun hc_3 => ?_)
          · rw [if_pos hc_3] at h
            exact J  h _ _ _ (lv_sub hl [1, 2, 3, 4] rfl) hP hS
          · rw [if_neg hc_3] at h
            refine lv_iload_n hx hb dX10_sums_42 rfl (lv_at hl 4 rfl) ?_
            refine lv_iconst (v := 1) hx hb dX10_sums_43 (by decide) ?_
            refine lv_icmp_ne (tgt := 77) hx hb dX10_sums_44 (by decide) (fun hc_4 => ?_) (fun hc_4 => ?_)
            · rw [if_neg hc_4] at h
              exact J  h _ _ _ (lv_sub hl [1, 2, 3, 4] rfl) hP hS
            · rw [if_pos hc_4] at h
              refine lv_iload_n hx hb dX10_sums_47 rfl (lv_at hl 1 rfl) ?_
              refine lv_aload_n hx hb dX10_sums_48 rfl (lv_at hl 2 rfl) ?_
              refine va_get (T := TX10) hx hb hT inlX10 hown hK.1 hP 0 he_X10 rfl 6 (by decide) (hT _ mw_4_143) (fun _ h9 => h9) rfl dX10_sums_49 ?_
              refine lv_iload hx hb dX10_sums_52 (lv_at hl 0 rfl) ?_
              obtain ⟨hi, h⟩ := h
              refine lM_I hx hb hK.1 hP (by decide) rfl hi dX10_sums_54 ?_
              refine lv_iload_n hx hb dX10_sums_55 rfl (lv_at hl 3 rfl) ?_
              obtain ⟨k_1, hk_1, h⟩ := jn_ex h
              try dsimp only at h
              have J_1 : ∀ (t : Int32), k_1 t → ∀ (ls : Array Slot) (H : Heap) (locs : List Loc), lv_has ls 5 [(4, .int v4), (0, .ref (ad 0)), (1, .int x1), (2, .int x2)] → va_P D vwCl (wM cy ad I_1 A) H → va_S Ad s.heap H locs → W p l e rmX10_sums s m args below meth c H locs 0 0 Q (F0 m 69 ls [.int t, .int v3]) := by
                intro t h ls H locs hl hP hS
                replace h := hk_1 _ h
                try dsimp only at h
                refine lv_iadd hx hb dX10_sums_69 ?_
                refine lv_topi (fun v3_1 ev3_1 => ?_)
                replace h := h v3_1 ev3_1
                refine lv_istore_n (lv' := [(3, .int v3_1), (4, .int v4), (0, .ref (ad 0)), (1, .int x1), (2, .int x2)]) hx hb dX10_sums_70 rfl hl (by decide) rfl (fun ls hl => ?_)
                obtain ⟨v4_1, ev4_1⟩ : ∃ z : Int32, z = v4 + 1 := ⟨_, rfl⟩
                replace h := h v4_1 ev4_1
                refine lv_iinc (v := v4_1) (lv' := [(4, .int v4_1), (3, .int v3_1), (0, .ref (ad 0)), (1, .int x1), (2, .int x2)]) hx hb dX10_sums_71 hl (k := 1) rfl (by rw [ev4_1]; rfl) (by decide) rfl (fun ls hl => ?_)
                refine lv_goto (tgt := 33) hx hb dX10_sums_74 (by decide) ?_
                exact ih v4_1 v3_1 _ _ _ h (lv_sub hl [0, 1, 2, 3, 4] rfl) hP hS
              refine lv_icmp_ne (tgt := 68) hx hb dX10_sums_56 (by decide) (fun hc_5 => ?_) (fun hc_5 => ?_)
              · rw [if_neg hc_5] at h
                refine lv_iconst (v := 0) hx hb dX10_sums_68 (by decide) ?_
                exact J_1 0 h _ _ _ (lv_sub hl [0, 2, 3, 4] rfl) hP hS
              · rw [if_pos hc_5] at h
                refine lv_aload_n hx hb dX10_sums_59 rfl (lv_at hl 2 rfl) ?_
                refine lv_iload hx hb dX10_sums_60 (lv_at hl 0 rfl) ?_
                refine callMi (k := 0) (As := [.int v4]) (rest := [.int v3]) (n := 1) (c_X10_shownOf hAd I_1 A v4 _ h) hx hb hT hown hK hP hS mw_5_148 wd_X10_shownOf (by decide +kernel) ⟨rfl, rfl⟩ (by decide) rfl rfl he_X10 rfl hl.1 hml rfl (Nat.le_of_ble_eq_true rfl) dX10_sums_62 ⟨Nat.zero_le _, Nat.zero_le _⟩ (fun r62 u H locs h hP hS => ?_)
                obtain ⟨Iu_3, Au_3⟩ := u
                dsimp only at h hP
                obtain ⟨h, rfl, rfl⟩ := h
                try dsimp only at h
                refine lv_goto (tgt := 69) hx hb dX10_sums_65 (by decide) ?_
                exact J_1 r62 h _ _ _ (lv_sub hl [0, 2, 3, 4] rfl) hP hS
      exact LP _ 0 r26 _ _ _ h (lv_sub hl [0, 1, 2, 3, 4] rfl) hP hS
    · rw [if_pos hc_1] at h
      refine lv_iconst (v := (-1)) hx hb dX10_sums_22 (by decide) ?_
      exact hret _ (I_1, A) dX10_sums_23 ⟨h, rfl⟩ hP hS
theorem dX10_isLeaf_0 : decode cX10_isLeaf 0 = .ok (.iconst 1, 1) := by decide +kernel
theorem dX10_isLeaf_1 : decode cX10_isLeaf 1 = .ok (.istore_n 2, 1) := by decide +kernel
theorem dX10_isLeaf_2 : decode cX10_isLeaf 2 = .ok (.iconst 0, 1) := by decide +kernel
theorem dX10_isLeaf_3 : decode cX10_isLeaf 3 = .ok (.istore_n 3, 1) := by decide +kernel
theorem dX10_isLeaf_4 : decode cX10_isLeaf 4 = .ok (.iload_n 3, 1) := by decide +kernel
theorem dX10_isLeaf_5 : decode cX10_isLeaf 5 = .ok (.aload_n 0, 1) := by decide +kernel
theorem dX10_isLeaf_6 : decode cX10_isLeaf 6 = .ok (.getfield 67, 3) := by decide +kernel
theorem dX10_isLeaf_9 : decode cX10_isLeaf 9 = .ok (.if_icmp .ge 29, 3) := by decide +kernel
theorem dX10_isLeaf_12 : decode cX10_isLeaf 12 = .ok (.iload_n 2, 1) := by decide +kernel
theorem dX10_isLeaf_13 : decode cX10_isLeaf 13 = .ok (.ifCond .eq 17, 3) := by decide +kernel
theorem dX10_isLeaf_16 : decode cX10_isLeaf 16 = .ok (.aload_n 0, 1) := by decide +kernel
theorem dX10_isLeaf_17 : decode cX10_isLeaf 17 = .ok (.getfield 16, 3) := by decide +kernel
theorem dX10_isLeaf_20 : decode cX10_isLeaf 20 = .ok (.iload_n 3, 1) := by decide +kernel
theorem dX10_isLeaf_21 : decode cX10_isLeaf 21 = .ok (.iaload, 1) := by decide +kernel
theorem dX10_isLeaf_22 : decode cX10_isLeaf 22 = .ok (.iload_n 1, 1) := by decide +kernel
theorem dX10_isLeaf_23 : decode cX10_isLeaf 23 = .ok (.if_icmp .eq 7, 3) := by decide +kernel
theorem dX10_isLeaf_26 : decode cX10_isLeaf 26 = .ok (.iconst 1, 1) := by decide +kernel
theorem dX10_isLeaf_27 : decode cX10_isLeaf 27 = .ok (.goto 4, 3) := by decide +kernel
theorem dX10_isLeaf_30 : decode cX10_isLeaf 30 = .ok (.iconst 0, 1) := by decide +kernel
theorem dX10_isLeaf_31 : decode cX10_isLeaf 31 = .ok (.istore_n 2, 1) := by decide +kernel
theorem dX10_isLeaf_32 : decode cX10_isLeaf 32 = .ok (.iinc 3 1, 3) := by decide +kernel
theorem dX10_isLeaf_35 : decode cX10_isLeaf 35 = .ok (.goto (-31), 3) := by decide +kernel
theorem dX10_isLeaf_38 : decode cX10_isLeaf 38 = .ok (.iload_n 2, 1) := by decide +kernel
theorem dX10_isLeaf_39 : decode cX10_isLeaf 39 = .ok (.ireturn, 1) := by decide +kernel
def wX10_isLeaf (I : Nat → Int32) (A : Nat → Nat → Int32) (x1 : Int32) (post : Int32 → Prop) : Prop := ∃ n, lfix (fun (r : (Int32 × Int32) → Prop) (v3, v2) => if (I 2) ≤ v3 then (zb v2 ∧ post v2) else (jn (fun (t : Int32) => ∀ v3_1 : Int32, v3_1 = v3 + 1 → r (v3_1, t)) (fun k => jn (fun (_ : Unit) => k 0) (fun k_1 => if v2 = 0 then (k_1 ()) else (vp_in v3 40 ∧ (if (A 3 v3.toNatClampNeg) = x1 then (k_1 ()) else (k 1))))))) n (0, 1)
abbrev rmX10_isLeaf : Room := { frames := 0, cells := 0, slots := 0, locals := 0 }
theorem wd_X10_isLeaf : Cond.instanceMethod yX10_isLeaf ∈ BW ∧ Cond.selects yX10_isLeaf.cls yX10_isLeaf yX10_isLeaf ∈ BW ∧ Cond.initialized yX10_isLeaf.cls ∈ BW ∧ Cond.code yX10_isLeaf cX10_isLeaf 4 (some .boolean) ∈ BW := ⟨mw_5_190, mp_46, mw_1_11, mw_5_191⟩
set_option maxHeartbeats 4000000 in
set_option maxRecDepth 100000 in
theorem c_X10_isLeaf {l : Launch} {D : va_G} {cy : Nat → ClassId} {ad : Nat → Nat} {Ad : Nat → Prop} (hAd : adok 16 Ad ad) (I : Nat → Int32) (A : Nat → Nat → Int32) (x1 : Int32)  (post : Int32 → Prop) (h : wX10_isLeaf I A x1 post) : Met l yX10_isLeaf (.code yX10_isLeaf cX10_isLeaf 4 (some .boolean) :: BW) rmX10_isLeaf (va_Pc [.ref (ad 0), .int x1] (fun U => kC D cy U ∧ va_P D vwCl (wM cy ad I A) U.heap)) (qMi D cy ad Ad (fun r u => post r  ∧ I = u.1 ∧ A = u.2)) 0 0 Ad := by
  refine startMz (by decide) (Nat.le_of_ble_eq_true rfl) (lv := [(0, .ref (ad 0)), (1, .int x1)]) rfl (fun p e s m args below meth c Q ls hx hb hml hT hown hK hret hl hP hS => ?_)
  unfold wX10_isLeaf at h
  refine lv_iconst (v := 1) hx hb dX10_isLeaf_0 (by decide) ?_
  refine lv_istore_n (lv' := [(2, .int 1), (0, .ref (ad 0)), (1, .int x1)]) hx hb dX10_isLeaf_1 rfl hl (by decide) rfl (fun ls hl => ?_)
  refine lv_iconst (v := 0) hx hb dX10_isLeaf_2 (by decide) ?_
  refine lv_istore_n (lv' := [(3, .int 0), (2, .int 1), (0, .ref (ad 0)), (1, .int x1)]) hx hb dX10_isLeaf_3 rfl hl (by decide) rfl (fun ls hl => ?_)
  obtain ⟨F, n, h, hF, hG⟩ := lfix_ex h
  have LP : ∀ (n : Nat) (v3 : Int32) (v2 : Int32) (ls : Array Slot) (H : Heap) (locs : List Loc), F n (v3, v2) → lv_has ls 4 [(3, .int v3), (2, .int v2), (0, .ref (ad 0)), (1, .int x1)] → va_P D vwCl (wM cy ad I A) H → va_S Ad s.heap H locs → W p l e rmX10_isLeaf s m args below meth c H locs 0 0 Q (F0 m 4 ls []) := by
    intro n
    induction n with
    | zero => intro v3 v2 ls H locs h _ _ _; exact absurd h (hF _)
    | succ n ih =>
      intro v3 v2 ls H locs h hl hP hS
      replace h := hG _ _ h
      try dsimp only at h
      refine lv_iload_n hx hb dX10_isLeaf_4 rfl (lv_at hl 0 rfl) ?_
      refine lv_aload_n hx hb dX10_isLeaf_5 rfl (lv_at hl 2 rfl) ?_
      refine va_get (T := TX10) hx hb hT inlX10 hown hK.1 hP 0 he_X10 rfl 2 (by decide) (hT _ mw_4_139) (fun _ h9 => h9) rfl dX10_isLeaf_6 ?_
      refine lv_icmp_ge (tgt := 38) hx hb dX10_isLeaf_9 (by decide) (fun hc => ?_) (fun hc => ?_)
      · rw [if_pos hc] at h
        refine lv_iload_n hx hb dX10_isLeaf_38 rfl (lv_at hl 1 rfl) ?_
        obtain ⟨hz, h⟩ := h
        exact hret _ (I, A) hz dX10_isLeaf_39 ⟨h, rfl, rfl⟩ hP hS
      · rw [if_neg hc] at h
        refine lv_iload_n hx hb dX10_isLeaf_12 rfl (lv_at hl 1 rfl) ?_
        obtain ⟨k, hk, h⟩ := jn_ex h
        try dsimp only at h
        have J : ∀ (t : Int32), k t → ∀ (ls : Array Slot) (H : Heap) (locs : List Loc), lv_has ls 4 [(3, .int v3), (0, .ref (ad 0)), (1, .int x1)] → va_P D vwCl (wM cy ad I A) H → va_S Ad s.heap H locs → W p l e rmX10_isLeaf s m args below meth c H locs 0 0 Q (F0 m 31 ls [.int t]) := by
          intro t h ls H locs hl hP hS
          replace h := hk _ h
          try dsimp only at h
          refine lv_istore_n (lv' := [(2, .int t), (3, .int v3), (0, .ref (ad 0)), (1, .int x1)]) hx hb dX10_isLeaf_31 rfl hl (by decide) rfl (fun ls hl => ?_)
          obtain ⟨v3_1, ev3_1⟩ : ∃ z : Int32, z = v3 + 1 := ⟨_, rfl⟩
          replace h := h v3_1 ev3_1
          refine lv_iinc (v := v3_1) (lv' := [(3, .int v3_1), (2, .int t), (0, .ref (ad 0)), (1, .int x1)]) hx hb dX10_isLeaf_32 hl (k := 1) rfl (by rw [ev3_1]; rfl) (by decide) rfl (fun ls hl => ?_)
          refine lv_goto (tgt := 4) hx hb dX10_isLeaf_35 (by decide) ?_
          exact ih v3_1 t _ _ _ h (lv_sub hl [0, 1, 2, 3] rfl) hP hS
        obtain ⟨k_1, hk_1, h⟩ := jn_ex h
        try dsimp only at h
        have J_1 : k_1 () → ∀ (ls : Array Slot) (H : Heap) (locs : List Loc), lv_has ls 4 [(3, .int v3), (0, .ref (ad 0)), (1, .int x1)] → va_P D vwCl (wM cy ad I A) H → va_S Ad s.heap H locs → W p l e rmX10_isLeaf s m args below meth c H locs 0 0 Q (F0 m 30 ls []) := by
          intro  h ls H locs hl hP hS
          replace h := hk_1 _ h
          try dsimp only at h
          refine lv_iconst (v := 0) hx hb dX10_isLeaf_30 (by decide) ?_
          exact J 0 h _ _ _ (lv_sub hl [0, 1, 2] rfl) hP hS
        refine lv_if_eq (tgt := 30) hx hb dX10_isLeaf_13 (by decide) (fun hc_1 => ?_) (fun hc_1 => ?_)
        · rw [if_pos hc_1] at h
          exact J_1  h _ _ _ (lv_sub hl [0, 2, 3] rfl) hP hS
        · rw [if_neg hc_1] at h
          refine lv_aload_n hx hb dX10_isLeaf_16 rfl (lv_at hl 2 rfl) ?_
          refine va_get (T := TX10) hx hb hT inlX10 hown hK.1 hP 0 he_X10 rfl 6 (by decide) (hT _ mw_4_143) (fun _ h9 => h9) rfl dX10_isLeaf_17 ?_
          refine lv_iload_n hx hb dX10_isLeaf_20 rfl (lv_at hl 0 rfl) ?_
          obtain ⟨hi, h⟩ := h
          refine lM_I hx hb hK.1 hP (by decide) rfl hi dX10_isLeaf_21 ?_
          refine lv_iload_n hx hb dX10_isLeaf_22 rfl (lv_at hl 3 rfl) ?_
          refine lv_icmp_eq (tgt := 30) hx hb dX10_isLeaf_23 (by decide) (fun hc_2 => ?_) (fun hc_2 => ?_)
          · rw [if_pos hc_2] at h
            exact J_1  h _ _ _ (lv_sub hl [0, 2, 3] rfl) hP hS
          · rw [if_neg hc_2] at h
            refine lv_iconst (v := 1) hx hb dX10_isLeaf_26 (by decide) ?_
            refine lv_goto (tgt := 31) hx hb dX10_isLeaf_27 (by decide) ?_
            exact J 1 h _ _ _ (lv_sub hl [0, 2, 3] rfl) hP hS
  exact LP _ 0 1 _ _ _ h (lv_sub hl [0, 1, 2, 3] rfl) hP hS
theorem dX10_sets_0 : decode cX10_sets 0 = .ok (.aload_n 0, 1) := by decide +kernel
theorem dX10_sets_1 : decode cX10_sets 1 = .ok (.iconst 0, 1) := by decide +kernel
theorem dX10_sets_2 : decode cX10_sets 2 = .ok (.putfield 56, 3) := by decide +kernel
theorem dX10_sets_5 : decode cX10_sets 5 = .ok (.lconst 0, 1) := by decide +kernel
theorem dX10_sets_6 : decode cX10_sets 6 = .ok (.lstore_n 3, 1) := by decide +kernel
theorem dX10_sets_7 : decode cX10_sets 7 = .ok (.iconst 0, 1) := by decide +kernel
theorem dX10_sets_8 : decode cX10_sets 8 = .ok (.istore 5, 2) := by decide +kernel
theorem dX10_sets_10 : decode cX10_sets 10 = .ok (.iload 5, 2) := by decide +kernel
theorem dX10_sets_12 : decode cX10_sets 12 = .ok (.aload_n 0, 1) := by decide +kernel
theorem dX10_sets_13 : decode cX10_sets 13 = .ok (.getfield 67, 3) := by decide +kernel
theorem dX10_sets_16 : decode cX10_sets 16 = .ok (.if_icmp .ge 81, 3) := by decide +kernel
theorem dX10_sets_19 : decode cX10_sets 19 = .ok (.aload_n 0, 1) := by decide +kernel
theorem dX10_sets_20 : decode cX10_sets 20 = .ok (.iload_n 1, 1) := by decide +kernel
theorem dX10_sets_21 : decode cX10_sets 21 = .ok (.invokevirtual 80, 3) := by decide +kernel
theorem dX10_sets_24 : decode cX10_sets 24 = .ok (.ifCond .eq 73, 3) := by decide +kernel
theorem dX10_sets_27 : decode cX10_sets 27 = .ok (.aload_n 0, 1) := by decide +kernel
theorem dX10_sets_28 : decode cX10_sets 28 = .ok (.getfield 13, 3) := by decide +kernel
theorem dX10_sets_31 : decode cX10_sets 31 = .ok (.iload 5, 2) := by decide +kernel
theorem dX10_sets_33 : decode cX10_sets 33 = .ok (.iaload, 1) := by decide +kernel
theorem dX10_sets_34 : decode cX10_sets 34 = .ok (.iload_n 1, 1) := by decide +kernel
theorem dX10_sets_35 : decode cX10_sets 35 = .ok (.if_icmp .ne 37, 3) := by decide +kernel
theorem dX10_sets_38 : decode cX10_sets 38 = .ok (.iload_n 2, 1) := by decide +kernel
theorem dX10_sets_39 : decode cX10_sets 39 = .ok (.ifCond .ne 15, 3) := by decide +kernel
theorem dX10_sets_42 : decode cX10_sets 42 = .ok (.aload_n 0, 1) := by decide +kernel
theorem dX10_sets_43 : decode cX10_sets 43 = .ok (.iload 5, 2) := by decide +kernel
theorem dX10_sets_45 : decode cX10_sets 45 = .ok (.invokevirtual 158, 3) := by decide +kernel
theorem dX10_sets_48 : decode cX10_sets 48 = .ok (.ifCond .ne 24, 3) := by decide +kernel
theorem dX10_sets_51 : decode cX10_sets 51 = .ok (.goto 17, 3) := by decide +kernel
theorem dX10_sets_54 : decode cX10_sets 54 = .ok (.iload_n 2, 1) := by decide +kernel
theorem dX10_sets_55 : decode cX10_sets 55 = .ok (.iconst 1, 1) := by decide +kernel
theorem dX10_sets_56 : decode cX10_sets 56 = .ok (.if_icmp .ne 16, 3) := by decide +kernel
theorem dX10_sets_59 : decode cX10_sets 59 = .ok (.aload_n 0, 1) := by decide +kernel
theorem dX10_sets_60 : decode cX10_sets 60 = .ok (.iload 5, 2) := by decide +kernel
theorem dX10_sets_62 : decode cX10_sets 62 = .ok (.invokevirtual 167, 3) := by decide +kernel
theorem dX10_sets_65 : decode cX10_sets 65 = .ok (.ifCond .eq 7, 3) := by decide +kernel
theorem dX10_sets_68 : decode cX10_sets 68 = .ok (.iconst 1, 1) := by decide +kernel
theorem dX10_sets_69 : decode cX10_sets 69 = .ok (.goto 4, 3) := by decide +kernel
theorem dX10_sets_72 : decode cX10_sets 72 = .ok (.iconst 0, 1) := by decide +kernel
theorem dX10_sets_73 : decode cX10_sets 73 = .ok (.istore 6, 2) := by decide +kernel
theorem dX10_sets_75 : decode cX10_sets 75 = .ok (.lload_n 3, 1) := by decide +kernel
theorem dX10_sets_76 : decode cX10_sets 76 = .ok (.iload 6, 2) := by decide +kernel
theorem dX10_sets_78 : decode cX10_sets 78 = .ok (.ifCond .eq 10, 3) := by decide +kernel
theorem dX10_sets_81 : decode cX10_sets 81 = .ok (.lconst 1, 1) := by decide +kernel
theorem dX10_sets_82 : decode cX10_sets 82 = .ok (.iload 5, 2) := by decide +kernel
theorem dX10_sets_84 : decode cX10_sets 84 = .ok (.lshl, 1) := by decide +kernel
theorem dX10_sets_85 : decode cX10_sets 85 = .ok (.goto 4, 3) := by decide +kernel
theorem dX10_sets_88 : decode cX10_sets 88 = .ok (.lconst 0, 1) := by decide +kernel
theorem dX10_sets_89 : decode cX10_sets 89 = .ok (.lor, 1) := by decide +kernel
theorem dX10_sets_90 : decode cX10_sets 90 = .ok (.lstore_n 3, 1) := by decide +kernel
theorem dX10_sets_91 : decode cX10_sets 91 = .ok (.iinc 5 1, 3) := by decide +kernel
theorem dX10_sets_94 : decode cX10_sets 94 = .ok (.goto (-84), 3) := by decide +kernel
theorem dX10_sets_97 : decode cX10_sets 97 = .ok (.lload_n 3, 1) := by decide +kernel
theorem dX10_sets_98 : decode cX10_sets 98 = .ok (.lreturn, 1) := by decide +kernel
def wX10_sets (I : Nat → Int32) (A : Nat → Nat → Int32) (x1 : Int32) (x2 : Int32) (post : Int64 → (Nat → Int32) → Prop) : Prop := (∀ I_1, I_1 = va_up I 0 0 → ∃ n, lfix (fun (r : (Int32 × Int64) → Prop) (v5, v3) => if (I_1 2) ≤ v5 then (post v3 I_1) else (wX10_isTree I_1 A x1 (fun r21 => if r21 = 0 then (post v3 I_1) else (vp_in v5 40 ∧ (jn (fun (t : Int32) => jn (fun (t_1 : Int64) => ∀ v3_1 : Int64, v3_1 = v3 ||| t_1 → ∀ v5_1 : Int32, v5_1 = v5 + 1 → r (v5_1, v3_1)) (fun k_1 => if t = 0 then (k_1 0) else (k_1 (1 <<< (v5.toInt64 &&& 63))))) (fun k => jn (fun (_ : Unit) => k 0) (fun k_2 => if (A 2 v5.toNatClampNeg) = x1 then (jn (fun (_ : Unit) => k 1) (fun k_3 => if x2 = 0 then (wX10_shownOf I_1 A v5 (fun r45 => if r45 = 0 then (k_3 ()) else (k_2 ()))) else (if x2 = 1 then (wX10_isLeaf I_1 A v5 (fun r62 => if r62 = 0 then (k_2 ()) else (k_3 ()))) else (k_2 ())))) else (k_2 ())))))))) n (0, 0))
abbrev rmX10_sets : Room := { frames := 5, cells := 0, slots := 0, locals := 125 }
theorem wd_X10_sets : Cond.instanceMethod yX10_sets ∈ BW ∧ Cond.selects yX10_sets.cls yX10_sets yX10_sets ∈ BW ∧ Cond.initialized yX10_sets.cls ∈ BW ∧ Cond.code yX10_sets cX10_sets 7 (some .long) ∈ BW := ⟨mw_5_185, mw_5_186, mw_1_11, mw_5_187⟩
set_option maxHeartbeats 4000000 in
set_option maxRecDepth 100000 in
theorem c_X10_sets {l : Launch} {D : va_G} {cy : Nat → ClassId} {ad : Nat → Nat} {Ad : Nat → Prop} (hAd : adok 16 Ad ad) (I : Nat → Int32) (A : Nat → Nat → Int32) (x1 : Int32) (x2 : Int32)  (post : Int64 → (Nat → Int32) → Prop) (h : wX10_sets I A x1 x2 post) : Met l yX10_sets (.code yX10_sets cX10_sets 7 (some .long) :: BW) rmX10_sets (va_Pc [.ref (ad 0), .int x1, .int x2] (fun U => kC D cy U ∧ va_P D vwCl (wM cy ad I A) U.heap)) (qMl D cy ad Ad (fun r u => post r u.1 ∧ A = u.2)) 0 0 Ad := by
  refine startMl (by decide) (Nat.le_of_ble_eq_true rfl) (lv := [(0, .ref (ad 0)), (1, .int x1), (2, .int x2)]) rfl (fun p e s m args below meth c Q ls hx hb hml hT hown hK hret hl hP hS => ?_)
  unfold wX10_sets at h
  refine lv_aload_n hx hb dX10_sets_0 rfl (lv_at hl 0 rfl) ?_
  refine lv_iconst (v := 0) hx hb dX10_sets_1 (by decide) ?_
  refine pM_X10_thrown hAd hx hb hT hown hK.1 hP hS (hT _ mw_4_137) dX10_sets_2 (fun H locs hP hS => ?_)
  obtain ⟨I_1, eI_1⟩ : ∃ z, z = va_up I 0 0 := ⟨_, rfl⟩
  rw [← eI_1] at hP
  replace h := h I_1 eI_1
  refine lv_lconst (v := 0) hx hb dX10_sets_5 (by decide) ?_
  refine lv_lstore_n (lv' := [(3, .long 0), (0, .ref (ad 0)), (1, .int x1), (2, .int x2)]) hx hb dX10_sets_6 rfl hl (by decide) rfl (fun ls hl => ?_)
  refine lv_iconst (v := 0) hx hb dX10_sets_7 (by decide) ?_
  refine lv_istore (lv' := [(5, .int 0), (3, .long 0), (0, .ref (ad 0)), (1, .int x1), (2, .int x2)]) hx hb dX10_sets_8 hl (by decide) rfl (fun ls hl => ?_)
  obtain ⟨F, n, h, hF, hG⟩ := lfix_ex h
  have LP : ∀ (n : Nat) (v5 : Int32) (v3 : Int64) (ls : Array Slot) (H : Heap) (locs : List Loc), F n (v5, v3) → lv_has ls 7 [(5, .int v5), (3, .long v3), (0, .ref (ad 0)), (1, .int x1), (2, .int x2)] → va_P D vwCl (wM cy ad I_1 A) H → va_S Ad s.heap H locs → W p l e rmX10_sets s m args below meth c H locs 0 0 Q (F0 m 10 ls []) := by
    intro n
    induction n with
    | zero => intro v5 v3 ls H locs h _ _ _; exact absurd h (hF _)
    | succ n ih =>
      intro v5 v3 ls H locs h hl hP hS
      replace h := hG _ _ h
      try dsimp only at h
      refine lv_iload hx hb dX10_sets_10 (lv_at hl 0 rfl) ?_
      refine lv_aload_n hx hb dX10_sets_12 rfl (lv_at hl 2 rfl) ?_
      refine va_get (T := TX10) hx hb hT inlX10 hown hK.1 hP 0 he_X10 rfl 2 (by decide) (hT _ mw_4_139) (fun _ h9 => h9) rfl dX10_sets_13 ?_
      refine lv_icmp_ge (tgt := 97) hx hb dX10_sets_16 (by decide) (fun hc => ?_) (fun hc => ?_)
      · rw [if_pos hc] at h
        refine lv_lload_n hx hb dX10_sets_97 rfl (lv_at hl 1 rfl) ?_
        exact hret _ (I_1, A) dX10_sets_98 ⟨h, rfl⟩ hP hS
      · rw [if_neg hc] at h
        refine lv_aload_n hx hb dX10_sets_19 rfl (lv_at hl 2 rfl) ?_
        refine lv_iload_n hx hb dX10_sets_20 rfl (lv_at hl 3 rfl) ?_
        refine callMi (k := 0) (As := [.int x1]) (rest := []) (n := 1) (c_X10_isTree hAd I_1 A x1 _ h) hx hb hT hown hK hP hS mw_4_220 wd_X10_isTree (by decide +kernel) ⟨rfl, rfl⟩ (by decide) rfl rfl he_X10 rfl hl.1 hml rfl (Nat.le_of_ble_eq_true rfl) dX10_sets_21 ⟨Nat.zero_le _, Nat.zero_le _⟩ (fun r21 u H locs h hP hS => ?_)
        obtain ⟨Iu, Au⟩ := u
        dsimp only at h hP
        obtain ⟨h, rfl, rfl⟩ := h
        try dsimp only at h
        refine lv_if_eq (tgt := 97) hx hb dX10_sets_24 (by decide) (fun hc_1 => ?_) (fun hc_1 => ?_)
        · rw [if_pos hc_1] at h
          refine lv_lload_n hx hb dX10_sets_97 rfl (lv_at hl 1 rfl) ?_
          exact hret _ (I_1, A) dX10_sets_98 ⟨h, rfl⟩ hP hS
        · rw [if_neg hc_1] at h
          refine lv_aload_n hx hb dX10_sets_27 rfl (lv_at hl 2 rfl) ?_
          refine va_get (T := TX10) hx hb hT inlX10 hown hK.1 hP 0 he_X10 rfl 5 (by decide) (hT _ mw_4_142) (fun _ h9 => h9) rfl dX10_sets_28 ?_
          refine lv_iload hx hb dX10_sets_31 (lv_at hl 0 rfl) ?_
          obtain ⟨hi, h⟩ := h
          refine lM_I hx hb hK.1 hP (by decide) rfl hi dX10_sets_33 ?_
          refine lv_iload_n hx hb dX10_sets_34 rfl (lv_at hl 3 rfl) ?_
          obtain ⟨k, hk, h⟩ := jn_ex h
          try dsimp only at h
          have J : ∀ (t : Int32), k t → ∀ (ls : Array Slot) (H : Heap) (locs : List Loc), lv_has ls 7 [(5, .int v5), (3, .long v3), (0, .ref (ad 0)), (1, .int x1), (2, .int x2)] → va_P D vwCl (wM cy ad I_1 A) H → va_S Ad s.heap H locs → W p l e rmX10_sets s m args below meth c H locs 0 0 Q (F0 m 73 ls [.int t]) := by
            intro t h ls H locs hl hP hS
            replace h := hk _ h
            try dsimp only at h
            refine lv_istore (lv' := [(6, .int t), (5, .int v5), (3, .long v3), (0, .ref (ad 0)), (1, .int x1), (2, .int x2)]) hx hb dX10_sets_73 hl (by decide) rfl (fun ls hl => ?_)
            refine lv_lload_n hx hb dX10_sets_75 rfl (lv_at hl 2 rfl) ?_
            refine lv_iload hx hb dX10_sets_76 (lv_at hl 0 rfl) ?_
            obtain ⟨k_1, hk_1, h⟩ := jn_ex h
            try dsimp only at h
            have J_1 : ∀ (t_1 : Int64), k_1 t_1 → ∀ (ls : Array Slot) (H : Heap) (locs : List Loc), lv_has ls 7 [(5, .int v5), (0, .ref (ad 0)), (1, .int x1), (2, .int x2)] → va_P D vwCl (wM cy ad I_1 A) H → va_S Ad s.heap H locs → W p l e rmX10_sets s m args below meth c H locs 0 0 Q (F0 m 89 ls [.long t_1, .long v3]) := by
              intro t_1 h ls H locs hl hP hS
              replace h := hk_1 _ h
              try dsimp only at h
              refine lv_lor hx hb dX10_sets_89 ?_
              refine lv_topl (fun v3_1 ev3_1 => ?_)
              replace h := h v3_1 ev3_1
              refine lv_lstore_n (lv' := [(3, .long v3_1), (5, .int v5), (0, .ref (ad 0)), (1, .int x1), (2, .int x2)]) hx hb dX10_sets_90 rfl hl (by decide) rfl (fun ls hl => ?_)
              obtain ⟨v5_1, ev5_1⟩ : ∃ z : Int32, z = v5 + 1 := ⟨_, rfl⟩
              replace h := h v5_1 ev5_1
              refine lv_iinc (v := v5_1) (lv' := [(5, .int v5_1), (3, .long v3_1), (0, .ref (ad 0)), (1, .int x1), (2, .int x2)]) hx hb dX10_sets_91 hl (k := 1) rfl (by rw [ev5_1]; rfl) (by decide) rfl (fun ls hl => ?_)
              refine lv_goto (tgt := 10) hx hb dX10_sets_94 (by decide) ?_
              exact ih v5_1 v3_1 _ _ _ h (lv_sub hl [0, 1, 2, 3, 4] rfl) hP hS
            refine lv_if_eq (tgt := 88) hx hb dX10_sets_78 (by decide) (fun hc_2 => ?_) (fun hc_2 => ?_)
            · rw [if_pos hc_2] at h
              refine lv_lconst (v := 0) hx hb dX10_sets_88 (by decide) ?_
              exact J_1 0 h _ _ _ (lv_sub hl [1, 3, 4, 5] rfl) hP hS
            · rw [if_neg hc_2] at h
              refine lv_lconst (v := 1) hx hb dX10_sets_81 (by decide) ?_
              refine lv_iload hx hb dX10_sets_82 (lv_at hl 1 rfl) ?_
              refine lv_lshl hx hb dX10_sets_84 rfl ?_
              refine lv_goto (tgt := 89) hx hb dX10_sets_85 (by decide) ?_
              exact J_1 (1 <<< (v5.toInt64 &&& 63)) h _ _ _ (lv_sub hl [1, 3, 4, 5] rfl) hP hS
          obtain ⟨k_2, hk_2, h⟩ := jn_ex h
          try dsimp only at h
          have J_2 : k_2 () → ∀ (ls : Array Slot) (H : Heap) (locs : List Loc), lv_has ls 7 [(5, .int v5), (3, .long v3), (0, .ref (ad 0)), (1, .int x1), (2, .int x2)] → va_P D vwCl (wM cy ad I_1 A) H → va_S Ad s.heap H locs → W p l e rmX10_sets s m args below meth c H locs 0 0 Q (F0 m 72 ls []) := by
            intro  h ls H locs hl hP hS
            replace h := hk_2 _ h
            try dsimp only at h
            refine lv_iconst (v := 0) hx hb dX10_sets_72 (by decide) ?_
            exact J 0 h _ _ _ (lv_sub hl [0, 1, 2, 3, 4] rfl) hP hS
          refine lv_icmp_ne (tgt := 72) hx hb dX10_sets_35 (by decide) (fun hc_3 => ?_) (fun hc_3 => ?_)
          · rw [if_neg hc_3] at h
            exact J_2  h _ _ _ (lv_sub hl [0, 1, 2, 3, 4] rfl) hP hS
          · rw [if_pos hc_3] at h
            refine lv_iload_n hx hb dX10_sets_38 rfl (lv_at hl 4 rfl) ?_
            obtain ⟨k_3, hk_3, h⟩ := jn_ex h
            try dsimp only at h
            have J_3 : k_3 () → ∀ (ls : Array Slot) (H : Heap) (locs : List Loc), lv_has ls 7 [(5, .int v5), (3, .long v3), (0, .ref (ad 0)), (1, .int x1), (2, .int x2)] → va_P D vwCl (wM cy ad I_1 A) H → va_S Ad s.heap H locs → W p l e rmX10_sets s m args below meth c H locs 0 0 Q (F0 m 68 ls []) := by
              intro  h ls H locs hl hP hS
              replace h := hk_3 _ h
              try dsimp only at h
              refine lv_iconst (v := 1) hx hb dX10_sets_68 (by decide) ?_
              refine lv_goto (tgt := 73) hx hb dX10_sets_69 (by decide) ?_
              exact J 1 h _ _ _ (lv_sub hl [0, 1, 2, 3, 4] rfl) hP hS
            refine lv_if_ne (tgt := 54) hx hb dX10_sets_39 (by decide) (fun hc_4 => ?_) (fun hc_4 => ?_)
            · rw [if_neg hc_4] at h
              refine lv_iload_n hx hb dX10_sets_54 rfl (lv_at hl 4 rfl) ?_
              refine lv_iconst (v := 1) hx hb dX10_sets_55 (by decide) ?_
              refine lv_icmp_ne (tgt := 72) hx hb dX10_sets_56 (by decide) (fun hc_5 => ?_) (fun hc_5 => ?_)
              · rw [if_neg hc_5] at h
                exact J_2  h _ _ _ (lv_sub hl [0, 1, 2, 3, 4] rfl) hP hS
              · rw [if_pos hc_5] at h
                refine lv_aload_n hx hb dX10_sets_59 rfl (lv_at hl 2 rfl) ?_
                refine lv_iload hx hb dX10_sets_60 (lv_at hl 0 rfl) ?_
                refine callMi (k := 0) (As := [.int v5]) (rest := []) (n := 1) (c_X10_isLeaf hAd I_1 A v5 _ h) hx hb hT hown hK hP hS mw_5_188 wd_X10_isLeaf (by decide +kernel) ⟨rfl, rfl⟩ (by decide) rfl rfl he_X10 rfl hl.1 hml rfl (Nat.le_of_ble_eq_true rfl) dX10_sets_62 ⟨Nat.zero_le _, Nat.zero_le _⟩ (fun r62 u H locs h hP hS => ?_)
                obtain ⟨Iu_1, Au_1⟩ := u
                dsimp only at h hP
                obtain ⟨h, rfl, rfl⟩ := h
                try dsimp only at h
                refine lv_if_eq (tgt := 72) hx hb dX10_sets_65 (by decide) (fun hc_6 => ?_) (fun hc_6 => ?_)
                · rw [if_pos hc_6] at h
                  exact J_2  h _ _ _ (lv_sub hl [0, 1, 2, 3, 4] rfl) hP hS
                · rw [if_neg hc_6] at h
                  exact J_3  h _ _ _ (lv_sub hl [0, 1, 2, 3, 4] rfl) hP hS
            · rw [if_pos hc_4] at h
              refine lv_aload_n hx hb dX10_sets_42 rfl (lv_at hl 2 rfl) ?_
              refine lv_iload hx hb dX10_sets_43 (lv_at hl 0 rfl) ?_
              refine callMi (k := 0) (As := [.int v5]) (rest := []) (n := 1) (c_X10_shownOf hAd I_1 A v5 _ h) hx hb hT hown hK hP hS mw_5_148 wd_X10_shownOf (by decide +kernel) ⟨rfl, rfl⟩ (by decide) rfl rfl he_X10 rfl hl.1 hml rfl (Nat.le_of_ble_eq_true rfl) dX10_sets_45 ⟨Nat.zero_le _, Nat.zero_le _⟩ (fun r45 u H locs h hP hS => ?_)
              obtain ⟨Iu_2, Au_2⟩ := u
              dsimp only at h hP
              obtain ⟨h, rfl, rfl⟩ := h
              try dsimp only at h
              refine lv_if_ne (tgt := 72) hx hb dX10_sets_48 (by decide) (fun hc_7 => ?_) (fun hc_7 => ?_)
              · rw [if_neg hc_7] at h
                exact J_2  h _ _ _ (lv_sub hl [0, 1, 2, 3, 4] rfl) hP hS
              · rw [if_pos hc_7] at h
                refine lv_goto (tgt := 68) hx hb dX10_sets_51 (by decide) ?_
                exact J_3  h _ _ _ (lv_sub hl [0, 1, 2, 3, 4] rfl) hP hS
  exact LP _ 0 0 _ _ _ h (lv_sub hl [0, 1, 2, 3, 4] rfl) hP hS
theorem dX10_numbersOf_0 : decode cX10_numbersOf 0 = .ok (.aload_n 0, 1) := by decide +kernel
theorem dX10_numbersOf_1 : decode cX10_numbersOf 1 = .ok (.iconst 0, 1) := by decide +kernel
theorem dX10_numbersOf_2 : decode cX10_numbersOf 2 = .ok (.putfield 170, 3) := by decide +kernel
theorem dX10_numbersOf_5 : decode cX10_numbersOf 5 = .ok (.iconst 0, 1) := by decide +kernel
theorem dX10_numbersOf_6 : decode cX10_numbersOf 6 = .ok (.istore_n 3, 1) := by decide +kernel
theorem dX10_numbersOf_7 : decode cX10_numbersOf 7 = .ok (.iload_n 3, 1) := by decide +kernel
theorem dX10_numbersOf_8 : decode cX10_numbersOf 8 = .ok (.sipush 1999, 3) := by decide +kernel
theorem dX10_numbersOf_11 : decode cX10_numbersOf 11 = .ok (.if_icmp .ge 16, 3) := by decide +kernel
theorem dX10_numbersOf_14 : decode cX10_numbersOf 14 = .ok (.aload_n 0, 1) := by decide +kernel
theorem dX10_numbersOf_15 : decode cX10_numbersOf 15 = .ok (.getfield 44, 3) := by decide +kernel
theorem dX10_numbersOf_18 : decode cX10_numbersOf 18 = .ok (.iload_n 3, 1) := by decide +kernel
theorem dX10_numbersOf_19 : decode cX10_numbersOf 19 = .ok (.iconst 0, 1) := by decide +kernel
theorem dX10_numbersOf_20 : decode cX10_numbersOf 20 = .ok (.iastore, 1) := by decide +kernel
theorem dX10_numbersOf_21 : decode cX10_numbersOf 21 = .ok (.iinc 3 1, 3) := by decide +kernel
theorem dX10_numbersOf_24 : decode cX10_numbersOf 24 = .ok (.goto (-17), 3) := by decide +kernel
theorem dX10_numbersOf_27 : decode cX10_numbersOf 27 = .ok (.iconst 0, 1) := by decide +kernel
theorem dX10_numbersOf_28 : decode cX10_numbersOf 28 = .ok (.istore_n 3, 1) := by decide +kernel
theorem dX10_numbersOf_29 : decode cX10_numbersOf 29 = .ok (.iload_n 3, 1) := by decide +kernel
theorem dX10_numbersOf_30 : decode cX10_numbersOf 30 = .ok (.aload_n 0, 1) := by decide +kernel
theorem dX10_numbersOf_31 : decode cX10_numbersOf 31 = .ok (.getfield 70, 3) := by decide +kernel
theorem dX10_numbersOf_34 : decode cX10_numbersOf 34 = .ok (.if_icmp .ge 61, 3) := by decide +kernel
theorem dX10_numbersOf_37 : decode cX10_numbersOf 37 = .ok (.aload_n 0, 1) := by decide +kernel
theorem dX10_numbersOf_38 : decode cX10_numbersOf 38 = .ok (.iload_n 3, 1) := by decide +kernel
theorem dX10_numbersOf_39 : decode cX10_numbersOf 39 = .ok (.iload_n 1, 1) := by decide +kernel
theorem dX10_numbersOf_40 : decode cX10_numbersOf 40 = .ok (.invokevirtual 103, 3) := by decide +kernel
theorem dX10_numbersOf_43 : decode cX10_numbersOf 43 = .ok (.ifCond .eq 46, 3) := by decide +kernel
theorem dX10_numbersOf_46 : decode cX10_numbersOf 46 = .ok (.aload_n 0, 1) := by decide +kernel
theorem dX10_numbersOf_47 : decode cX10_numbersOf 47 = .ok (.iconst 0, 1) := by decide +kernel
theorem dX10_numbersOf_48 : decode cX10_numbersOf 48 = .ok (.iload_n 3, 1) := by decide +kernel
theorem dX10_numbersOf_49 : decode cX10_numbersOf 49 = .ok (.iload_n 2, 1) := by decide +kernel
theorem dX10_numbersOf_50 : decode cX10_numbersOf 50 = .ok (.invokevirtual 134, 3) := by decide +kernel
theorem dX10_numbersOf_53 : decode cX10_numbersOf 53 = .ok (.ifCond .eq 36, 3) := by decide +kernel
theorem dX10_numbersOf_56 : decode cX10_numbersOf 56 = .ok (.aload_n 0, 1) := by decide +kernel
theorem dX10_numbersOf_57 : decode cX10_numbersOf 57 = .ok (.getfield 44, 3) := by decide +kernel
theorem dX10_numbersOf_60 : decode cX10_numbersOf 60 = .ok (.aload_n 0, 1) := by decide +kernel
theorem dX10_numbersOf_61 : decode cX10_numbersOf 61 = .ok (.getfield 29, 3) := by decide +kernel
theorem dX10_numbersOf_64 : decode cX10_numbersOf 64 = .ok (.iconst 5, 1) := by decide +kernel
theorem dX10_numbersOf_65 : decode cX10_numbersOf 65 = .ok (.iload_n 3, 1) := by decide +kernel
theorem dX10_numbersOf_66 : decode cX10_numbersOf 66 = .ok (.imul, 1) := by decide +kernel
theorem dX10_numbersOf_67 : decode cX10_numbersOf 67 = .ok (.iload_n 1, 1) := by decide +kernel
theorem dX10_numbersOf_68 : decode cX10_numbersOf 68 = .ok (.iadd, 1) := by decide +kernel
theorem dX10_numbersOf_69 : decode cX10_numbersOf 69 = .ok (.iaload, 1) := by decide +kernel
theorem dX10_numbersOf_70 : decode cX10_numbersOf 70 = .ok (.sipush (-999), 3) := by decide +kernel
theorem dX10_numbersOf_73 : decode cX10_numbersOf 73 = .ok (.isub, 1) := by decide +kernel
theorem dX10_numbersOf_74 : decode cX10_numbersOf 74 = .ok (.dup2, 1) := by decide +kernel
theorem dX10_numbersOf_75 : decode cX10_numbersOf 75 = .ok (.iaload, 1) := by decide +kernel
theorem dX10_numbersOf_76 : decode cX10_numbersOf 76 = .ok (.iconst 1, 1) := by decide +kernel
theorem dX10_numbersOf_77 : decode cX10_numbersOf 77 = .ok (.iadd, 1) := by decide +kernel
theorem dX10_numbersOf_78 : decode cX10_numbersOf 78 = .ok (.iastore, 1) := by decide +kernel
theorem dX10_numbersOf_79 : decode cX10_numbersOf 79 = .ok (.aload_n 0, 1) := by decide +kernel
theorem dX10_numbersOf_80 : decode cX10_numbersOf 80 = .ok (.dup, 1) := by decide +kernel
theorem dX10_numbersOf_81 : decode cX10_numbersOf 81 = .ok (.getfield 170, 3) := by decide +kernel
theorem dX10_numbersOf_84 : decode cX10_numbersOf 84 = .ok (.iconst 1, 1) := by decide +kernel
theorem dX10_numbersOf_85 : decode cX10_numbersOf 85 = .ok (.iadd, 1) := by decide +kernel
theorem dX10_numbersOf_86 : decode cX10_numbersOf 86 = .ok (.putfield 170, 3) := by decide +kernel
theorem dX10_numbersOf_89 : decode cX10_numbersOf 89 = .ok (.iinc 3 1, 3) := by decide +kernel
theorem dX10_numbersOf_92 : decode cX10_numbersOf 92 = .ok (.goto (-63), 3) := by decide +kernel
theorem dX10_numbersOf_95 : decode cX10_numbersOf 95 = .ok (.return_, 1) := by decide +kernel
def wX10_numbersOf (I : Nat → Int32) (A : Nat → Nat → Int32) (x1 : Int32) (x2 : Int32) (post : (Nat → Int32) → (Nat → Nat → Int32) → Prop) : Prop := (∀ I_1, I_1 = va_up I 6 0 → ∃ n, lfix (fun (r : (Int32 × (Nat → Nat → Int32)) → Prop) (v3, A_1) => if 1999 ≤ v3 then (∃ n_1, lfix (fun (r_1 : (Int32 × (Nat → Int32) × (Nat → Nat → Int32)) → Prop) (v3_1, I_2, A_2) => if (I_2 3) ≤ v3_1 then (post I_2 A_2) else (wX10_isNumbered I_2 A_2 v3_1 x1 (fun r40 => if r40 = 0 then (∀ v3_2 : Int32, v3_2 = v3_1 + 1 → r_1 (v3_2, I_2, A_2)) else (wX10_isNear I_2 A_2 0 v3_1 x2 (fun r50 => if r50 = 0 then (∀ v3_3 : Int32, v3_3 = v3_1 + 1 → r_1 (v3_3, I_2, A_2)) else (vp_in ((5 * v3_1) + x1) 200 ∧ (vp_in ((A_2 7 ((5 * v3_1) + x1).toNatClampNeg) - (-999)) 1999 ∧ (vp_in ((A_2 7 ((5 * v3_1) + x1).toNatClampNeg) - (-999)) 1999 ∧ (∀ A_3, A_3 = va_up A_2 12 (upd (A_2 12) ((A_2 7 ((5 * v3_1) + x1).toNatClampNeg) - (-999)).toNatClampNeg ((A_2 12 ((A_2 7 ((5 * v3_1) + x1).toNatClampNeg) - (-999)).toNatClampNeg) + 1)) → (∀ I_3, I_3 = va_up I_2 6 ((I_2 6) + 1) → ∀ v3_4 : Int32, v3_4 = v3_1 + 1 → r_1 (v3_4, I_3, A_3))))))))))) n_1 (0, I_1, A_1)) else (vp_in v3 1999 ∧ (∀ A_4, A_4 = va_up A_1 12 (upd (A_1 12) v3.toNatClampNeg 0) → ∀ v3_5 : Int32, v3_5 = v3 + 1 → r (v3_5, A_4)))) n (0, A))
abbrev rmX10_numbersOf : Room := { frames := 3, cells := 0, slots := 0, locals := 80 }
theorem wd_X10_numbersOf : Cond.instanceMethod yX10_numbersOf ∈ BW ∧ Cond.selects yX10_numbersOf.cls yX10_numbersOf yX10_numbersOf ∈ BW ∧ Cond.initialized yX10_numbersOf.cls ∈ BW ∧ Cond.code yX10_numbersOf cX10_numbersOf 4 (none : Option Jvm.ClassFile.FieldType) ∈ BW := ⟨mw_5_206, mp_49, mw_1_11, mw_5_207⟩
set_option maxHeartbeats 4000000 in
set_option maxRecDepth 100000 in
theorem c_X10_numbersOf {l : Launch} {D : va_G} {cy : Nat → ClassId} {ad : Nat → Nat} {Ad : Nat → Prop} (hAd : adok 16 Ad ad) (I : Nat → Int32) (A : Nat → Nat → Int32) (x1 : Int32) (x2 : Int32)  (post : (Nat → Int32) → (Nat → Nat → Int32) → Prop) (h : wX10_numbersOf I A x1 x2 post) : Met l yX10_numbersOf (.code yX10_numbersOf cX10_numbersOf 4 (none : Option Jvm.ClassFile.FieldType) :: BW) rmX10_numbersOf (va_Pc [.ref (ad 0), .int x1, .int x2] (fun U => kC D cy U ∧ va_P D vwCl (wM cy ad I A) U.heap)) (qMv D cy ad Ad (fun u => post u.1 u.2)) 0 0 Ad := by
  refine startMv (by decide) (Nat.le_of_ble_eq_true rfl) (lv := [(0, .ref (ad 0)), (1, .int x1), (2, .int x2)]) rfl (fun p e s m args below meth c Q ls hx hb hml hT hown hK hret hl hP hS => ?_)
  unfold wX10_numbersOf at h
  refine lv_aload_n hx hb dX10_numbersOf_0 rfl (lv_at hl 0 rfl) ?_
  refine lv_iconst (v := 0) hx hb dX10_numbersOf_1 (by decide) ?_
  refine pM_X10_numbered hAd hx hb hT hown hK.1 hP hS (hT _ mw_4_155) dX10_numbersOf_2 (fun H locs hP hS => ?_)
  obtain ⟨I_1, eI_1⟩ : ∃ z, z = va_up I 6 0 := ⟨_, rfl⟩
  rw [← eI_1] at hP
  replace h := h I_1 eI_1
  refine lv_iconst (v := 0) hx hb dX10_numbersOf_5 (by decide) ?_
  refine lv_istore_n (lv' := [(3, .int 0), (0, .ref (ad 0)), (1, .int x1), (2, .int x2)]) hx hb dX10_numbersOf_6 rfl hl (by decide) rfl (fun ls hl => ?_)
  obtain ⟨F, n, h, hF, hG⟩ := lfix_ex h
  have LP : ∀ (n : Nat) (v3 : Int32) (A_1 : Nat → Nat → Int32) (ls : Array Slot) (H : Heap) (locs : List Loc), F n (v3, A_1) → lv_has ls 4 [(3, .int v3), (0, .ref (ad 0)), (1, .int x1), (2, .int x2)] → va_P D vwCl (wM cy ad I_1 A_1) H → va_S Ad s.heap H locs → W p l e rmX10_numbersOf s m args below meth c H locs 0 0 Q (F0 m 7 ls []) := by
    intro n
    induction n with
    | zero => intro v3 A_1 ls H locs h _ _ _; exact absurd h (hF _)
    | succ n ih =>
      intro v3 A_1 ls H locs h hl hP hS
      replace h := hG _ _ h
      try dsimp only at h
      refine lv_iload_n hx hb dX10_numbersOf_7 rfl (lv_at hl 0 rfl) ?_
      refine lv_sipush (v := 1999) hx hb dX10_numbersOf_8 (by decide) ?_
      refine lv_icmp_ge (tgt := 27) hx hb dX10_numbersOf_11 (by decide) (fun hc => ?_) (fun hc => ?_)
      · rw [if_pos hc] at h
        refine lv_iconst (v := 0) hx hb dX10_numbersOf_27 (by decide) ?_
        refine lv_istore_n (lv' := [(3, .int 0), (0, .ref (ad 0)), (1, .int x1), (2, .int x2)]) hx hb dX10_numbersOf_28 rfl hl (by decide) rfl (fun ls hl => ?_)
        obtain ⟨F_1, n_1, h, hF_1, hG_1⟩ := lfix_ex h
        have LP_1 : ∀ (n_1 : Nat) (v3_1 : Int32) (I_2 : Nat → Int32) (A_2 : Nat → Nat → Int32) (ls : Array Slot) (H : Heap) (locs : List Loc), F_1 n_1 (v3_1, I_2, A_2) → lv_has ls 4 [(3, .int v3_1), (0, .ref (ad 0)), (1, .int x1), (2, .int x2)] → va_P D vwCl (wM cy ad I_2 A_2) H → va_S Ad s.heap H locs → W p l e rmX10_numbersOf s m args below meth c H locs 0 0 Q (F0 m 29 ls []) := by
          intro n_1
          induction n_1 with
          | zero => intro v3_1 I_2 A_2 ls H locs h _ _ _; exact absurd h (hF_1 _)
          | succ n_1 ih_1 =>
            intro v3_1 I_2 A_2 ls H locs h hl hP hS
            replace h := hG_1 _ _ h
            try dsimp only at h
            refine lv_iload_n hx hb dX10_numbersOf_29 rfl (lv_at hl 0 rfl) ?_
            refine lv_aload_n hx hb dX10_numbersOf_30 rfl (lv_at hl 1 rfl) ?_
            refine va_get (T := TX10) hx hb hT inlX10 hown hK.1 hP 0 he_X10 rfl 3 (by decide) (hT _ mw_4_140) (fun _ h9 => h9) rfl dX10_numbersOf_31 ?_
            refine lv_icmp_ge (tgt := 95) hx hb dX10_numbersOf_34 (by decide) (fun hc_1 => ?_) (fun hc_1 => ?_)
            · rw [if_pos hc_1] at h
              exact hret (I_2, A_2) dX10_numbersOf_95 h hP hS
            · rw [if_neg hc_1] at h
              refine lv_aload_n hx hb dX10_numbersOf_37 rfl (lv_at hl 1 rfl) ?_
              refine lv_iload_n hx hb dX10_numbersOf_38 rfl (lv_at hl 0 rfl) ?_
              refine lv_iload_n hx hb dX10_numbersOf_39 rfl (lv_at hl 2 rfl) ?_
              refine callMi (k := 0) (As := [.int v3_1, .int x1]) (rest := []) (n := 2) (c_X10_isNumbered hAd I_2 A_2 v3_1 x1 _ h) hx hb hT hown hK hP hS mw_5_36 wd_X10_isNumbered (by decide +kernel) ⟨rfl, rfl⟩ (by decide) rfl rfl he_X10 rfl hl.1 hml rfl (Nat.le_of_ble_eq_true rfl) dX10_numbersOf_40 ⟨Nat.zero_le _, Nat.zero_le _⟩ (fun r40 u H locs h hP hS => ?_)
              obtain ⟨Iu, Au⟩ := u
              dsimp only at h hP
              obtain ⟨h, rfl, rfl⟩ := h
              try dsimp only at h
              refine lv_if_eq (tgt := 89) hx hb dX10_numbersOf_43 (by decide) (fun hc_2 => ?_) (fun hc_2 => ?_)
              · rw [if_pos hc_2] at h
                obtain ⟨v3_2, ev3_2⟩ : ∃ z : Int32, z = v3_1 + 1 := ⟨_, rfl⟩
                replace h := h v3_2 ev3_2
                refine lv_iinc (v := v3_2) (lv' := [(3, .int v3_2), (0, .ref (ad 0)), (1, .int x1), (2, .int x2)]) hx hb dX10_numbersOf_89 hl (k := 0) rfl (by rw [ev3_2]; rfl) (by decide) rfl (fun ls hl => ?_)
                refine lv_goto (tgt := 29) hx hb dX10_numbersOf_92 (by decide) ?_
                exact ih_1 v3_2 I_2 A_2 _ _ _ h (lv_sub hl [0, 1, 2, 3] rfl) hP hS
              · rw [if_neg hc_2] at h
                refine lv_aload_n hx hb dX10_numbersOf_46 rfl (lv_at hl 1 rfl) ?_
                refine lv_iconst (v := 0) hx hb dX10_numbersOf_47 (by decide) ?_
                refine lv_iload_n hx hb dX10_numbersOf_48 rfl (lv_at hl 0 rfl) ?_
                refine lv_iload_n hx hb dX10_numbersOf_49 rfl (lv_at hl 3 rfl) ?_
                refine callMi (k := 0) (As := [.int 0, .int v3_1, .int x2]) (rest := []) (n := 3) (c_X10_isNear hAd I_2 A_2 0 v3_1 x2 _ h) hx hb hT hown hK hP hS mw_5_92 wd_X10_isNear (by decide +kernel) ⟨rfl, rfl⟩ (by decide) rfl rfl he_X10 rfl hl.1 hml rfl (Nat.le_of_ble_eq_true rfl) dX10_numbersOf_50 ⟨Nat.zero_le _, Nat.zero_le _⟩ (fun r50 u H locs h hP hS => ?_)
                obtain ⟨Iu_1, Au_1⟩ := u
                dsimp only at h hP
                obtain ⟨h, rfl, rfl⟩ := h
                try dsimp only at h
                refine lv_if_eq (tgt := 89) hx hb dX10_numbersOf_53 (by decide) (fun hc_3 => ?_) (fun hc_3 => ?_)
                · rw [if_pos hc_3] at h
                  obtain ⟨v3_3, ev3_3⟩ : ∃ z : Int32, z = v3_1 + 1 := ⟨_, rfl⟩
                  replace h := h v3_3 ev3_3
                  refine lv_iinc (v := v3_3) (lv' := [(3, .int v3_3), (0, .ref (ad 0)), (1, .int x1), (2, .int x2)]) hx hb dX10_numbersOf_89 hl (k := 0) rfl (by rw [ev3_3]; rfl) (by decide) rfl (fun ls hl => ?_)
                  refine lv_goto (tgt := 29) hx hb dX10_numbersOf_92 (by decide) ?_
                  exact ih_1 v3_3 I_2 A_2 _ _ _ h (lv_sub hl [0, 1, 2, 3] rfl) hP hS
                · rw [if_neg hc_3] at h
                  refine lv_aload_n hx hb dX10_numbersOf_56 rfl (lv_at hl 1 rfl) ?_
                  refine va_get (T := TX10) hx hb hT inlX10 hown hK.1 hP 0 he_X10 rfl 17 (by decide) (hT _ mw_4_154) (fun _ h9 => h9) rfl dX10_numbersOf_57 ?_
                  refine lv_aload_n hx hb dX10_numbersOf_60 rfl (lv_at hl 1 rfl) ?_
                  refine va_get (T := TX10) hx hb hT inlX10 hown hK.1 hP 0 he_X10 rfl 10 (by decide) (hT _ mw_4_147) (fun _ h9 => h9) rfl dX10_numbersOf_61 ?_
                  refine lv_iconst (v := 5) hx hb dX10_numbersOf_64 (by decide) ?_
                  refine lv_iload_n hx hb dX10_numbersOf_65 rfl (lv_at hl 0 rfl) ?_
                  refine lv_imul hx hb dX10_numbersOf_66 ?_
                  refine lv_iload_n hx hb dX10_numbersOf_67 rfl (lv_at hl 2 rfl) ?_
                  refine lv_iadd hx hb dX10_numbersOf_68 ?_
                  obtain ⟨hi, h⟩ := h
                  refine lM_I hx hb hK.1 hP (by decide) rfl hi dX10_numbersOf_69 ?_
                  refine lv_sipush (v := (-999)) hx hb dX10_numbersOf_70 (by decide) ?_
                  refine lv_isub hx hb dX10_numbersOf_73 ?_
                  refine lv_dup2_11 hx hb dX10_numbersOf_74 rfl rfl ?_
                  obtain ⟨hi_1, h⟩ := h
                  refine lM_I hx hb hK.1 hP (by decide) rfl hi_1 dX10_numbersOf_75 ?_
                  refine lv_iconst (v := 1) hx hb dX10_numbersOf_76 (by decide) ?_
                  refine lv_iadd hx hb dX10_numbersOf_77 ?_
                  obtain ⟨hi_2, h⟩ := h
                  refine sM_I hAd hx hb hK.1 hP hS (by decide) (fun _ => rfl) hi_2 dX10_numbersOf_78 (fun H locs hP hS => ?_)
                  obtain ⟨A_3, eA_3⟩ : ∃ z, z = va_up A_2 12 (upd (A_2 12) ((A_2 7 ((5 * v3_1) + x1).toNatClampNeg) - (-999)).toNatClampNeg ((A_2 12 ((A_2 7 ((5 * v3_1) + x1).toNatClampNeg) - (-999)).toNatClampNeg) + 1)) := ⟨_, rfl⟩
                  rw [← eA_3] at hP
                  replace h := h A_3 eA_3
                  refine lv_aload_n hx hb dX10_numbersOf_79 rfl (lv_at hl 1 rfl) ?_
                  refine lv_dup hx hb dX10_numbersOf_80 rfl ?_
                  refine va_get (T := TX10) hx hb hT inlX10 hown hK.1 hP 0 he_X10 rfl 18 (by decide) (hT _ mw_4_155) (fun _ h9 => h9) rfl dX10_numbersOf_81 ?_
                  refine lv_iconst (v := 1) hx hb dX10_numbersOf_84 (by decide) ?_
                  refine lv_iadd hx hb dX10_numbersOf_85 ?_
                  refine pM_X10_numbered hAd hx hb hT hown hK.1 hP hS (hT _ mw_4_155) dX10_numbersOf_86 (fun H locs hP hS => ?_)
                  obtain ⟨I_3, eI_3⟩ : ∃ z, z = va_up I_2 6 ((I_2 6) + 1) := ⟨_, rfl⟩
                  rw [← eI_3] at hP
                  replace h := h I_3 eI_3
                  obtain ⟨v3_4, ev3_4⟩ : ∃ z : Int32, z = v3_1 + 1 := ⟨_, rfl⟩
                  replace h := h v3_4 ev3_4
                  refine lv_iinc (v := v3_4) (lv' := [(3, .int v3_4), (0, .ref (ad 0)), (1, .int x1), (2, .int x2)]) hx hb dX10_numbersOf_89 hl (k := 0) rfl (by rw [ev3_4]; rfl) (by decide) rfl (fun ls hl => ?_)
                  refine lv_goto (tgt := 29) hx hb dX10_numbersOf_92 (by decide) ?_
                  exact ih_1 v3_4 I_3 A_3 _ _ _ h (lv_sub hl [0, 1, 2, 3] rfl) hP hS
        exact LP_1 _ 0 I_1 A_1 _ _ _ h (lv_sub hl [0, 1, 2, 3] rfl) hP hS
      · rw [if_neg hc] at h
        refine lv_aload_n hx hb dX10_numbersOf_14 rfl (lv_at hl 1 rfl) ?_
        refine va_get (T := TX10) hx hb hT inlX10 hown hK.1 hP 0 he_X10 rfl 17 (by decide) (hT _ mw_4_154) (fun _ h9 => h9) rfl dX10_numbersOf_15 ?_
        refine lv_iload_n hx hb dX10_numbersOf_18 rfl (lv_at hl 0 rfl) ?_
        refine lv_iconst (v := 0) hx hb dX10_numbersOf_19 (by decide) ?_
        obtain ⟨hi_3, h⟩ := h
        refine sM_I hAd hx hb hK.1 hP hS (by decide) (fun _ => rfl) hi_3 dX10_numbersOf_20 (fun H locs hP hS => ?_)
        obtain ⟨A_4, eA_4⟩ : ∃ z, z = va_up A_1 12 (upd (A_1 12) v3.toNatClampNeg 0) := ⟨_, rfl⟩
        rw [← eA_4] at hP
        replace h := h A_4 eA_4
        obtain ⟨v3_5, ev3_5⟩ : ∃ z : Int32, z = v3 + 1 := ⟨_, rfl⟩
        replace h := h v3_5 ev3_5
        refine lv_iinc (v := v3_5) (lv' := [(3, .int v3_5), (0, .ref (ad 0)), (1, .int x1), (2, .int x2)]) hx hb dX10_numbersOf_21 hl (k := 0) rfl (by rw [ev3_5]; rfl) (by decide) rfl (fun ls hl => ?_)
        refine lv_goto (tgt := 7) hx hb dX10_numbersOf_24 (by decide) ?_
        exact ih v3_5 A_4 _ _ _ h (lv_sub hl [0, 1, 2, 3] rfl) hP hS
  exact LP _ 0 A _ _ _ h (lv_sub hl [0, 1, 2, 3] rfl) hP hS
theorem dX10_binsOf_0 : decode cX10_binsOf 0 = .ok (.aload_n 0, 1) := by decide +kernel
theorem dX10_binsOf_1 : decode cX10_binsOf 1 = .ok (.iload_n 1, 1) := by decide +kernel
theorem dX10_binsOf_2 : decode cX10_binsOf 2 = .ok (.iload_n 1, 1) := by decide +kernel
theorem dX10_binsOf_3 : decode cX10_binsOf 3 = .ok (.invokevirtual 173, 3) := by decide +kernel
theorem dX10_binsOf_6 : decode cX10_binsOf 6 = .ok (.aload_n 0, 1) := by decide +kernel
theorem dX10_binsOf_7 : decode cX10_binsOf 7 = .ok (.getfield 170, 3) := by decide +kernel
theorem dX10_binsOf_10 : decode cX10_binsOf 10 = .ok (.istore_n 3, 1) := by decide +kernel
theorem dX10_binsOf_11 : decode cX10_binsOf 11 = .ok (.iconst 0, 1) := by decide +kernel
theorem dX10_binsOf_12 : decode cX10_binsOf 12 = .ok (.istore 4, 2) := by decide +kernel
theorem dX10_binsOf_14 : decode cX10_binsOf 14 = .ok (.iconst 0, 1) := by decide +kernel
theorem dX10_binsOf_15 : decode cX10_binsOf 15 = .ok (.istore 5, 2) := by decide +kernel
theorem dX10_binsOf_17 : decode cX10_binsOf 17 = .ok (.iload_n 3, 1) := by decide +kernel
theorem dX10_binsOf_18 : decode cX10_binsOf 18 = .ok (.ifCond .le 157, 3) := by decide +kernel
theorem dX10_binsOf_21 : decode cX10_binsOf 21 = .ok (.iload 4, 2) := by decide +kernel
theorem dX10_binsOf_23 : decode cX10_binsOf 23 = .ok (.iload_n 2, 1) := by decide +kernel
theorem dX10_binsOf_24 : decode cX10_binsOf 24 = .ok (.iconst 1, 1) := by decide +kernel
theorem dX10_binsOf_25 : decode cX10_binsOf 25 = .ok (.isub, 1) := by decide +kernel
theorem dX10_binsOf_26 : decode cX10_binsOf 26 = .ok (.if_icmp .ne 7, 3) := by decide +kernel
theorem dX10_binsOf_29 : decode cX10_binsOf 29 = .ok (.iload_n 3, 1) := by decide +kernel
theorem dX10_binsOf_30 : decode cX10_binsOf 30 = .ok (.goto 16, 3) := by decide +kernel
theorem dX10_binsOf_33 : decode cX10_binsOf 33 = .ok (.iload_n 3, 1) := by decide +kernel
theorem dX10_binsOf_34 : decode cX10_binsOf 34 = .ok (.iload_n 2, 1) := by decide +kernel
theorem dX10_binsOf_35 : decode cX10_binsOf 35 = .ok (.iadd, 1) := by decide +kernel
theorem dX10_binsOf_36 : decode cX10_binsOf 36 = .ok (.iload 4, 2) := by decide +kernel
theorem dX10_binsOf_38 : decode cX10_binsOf 38 = .ok (.isub, 1) := by decide +kernel
theorem dX10_binsOf_39 : decode cX10_binsOf 39 = .ok (.iconst 1, 1) := by decide +kernel
theorem dX10_binsOf_40 : decode cX10_binsOf 40 = .ok (.isub, 1) := by decide +kernel
theorem dX10_binsOf_41 : decode cX10_binsOf 41 = .ok (.iload_n 2, 1) := by decide +kernel
theorem dX10_binsOf_42 : decode cX10_binsOf 42 = .ok (.iload 4, 2) := by decide +kernel
theorem dX10_binsOf_44 : decode cX10_binsOf 44 = .ok (.isub, 1) := by decide +kernel
theorem dX10_binsOf_45 : decode cX10_binsOf 45 = .ok (.idiv, 1) := by decide +kernel
theorem dX10_binsOf_46 : decode cX10_binsOf 46 = .ok (.istore 6, 2) := by decide +kernel
theorem dX10_binsOf_48 : decode cX10_binsOf 48 = .ok (.iconst 0, 1) := by decide +kernel
theorem dX10_binsOf_49 : decode cX10_binsOf 49 = .ok (.istore 7, 2) := by decide +kernel
theorem dX10_binsOf_51 : decode cX10_binsOf 51 = .ok (.aload_n 0, 1) := by decide +kernel
theorem dX10_binsOf_52 : decode cX10_binsOf 52 = .ok (.getfield 47, 3) := by decide +kernel
theorem dX10_binsOf_55 : decode cX10_binsOf 55 = .ok (.iconst 3, 1) := by decide +kernel
theorem dX10_binsOf_56 : decode cX10_binsOf 56 = .ok (.iload 4, 2) := by decide +kernel
theorem dX10_binsOf_58 : decode cX10_binsOf 58 = .ok (.imul, 1) := by decide +kernel
theorem dX10_binsOf_59 : decode cX10_binsOf 59 = .ok (.iconst (-1), 1) := by decide +kernel
theorem dX10_binsOf_60 : decode cX10_binsOf 60 = .ok (.iastore, 1) := by decide +kernel
theorem dX10_binsOf_61 : decode cX10_binsOf 61 = .ok (.iconst 1, 1) := by decide +kernel
theorem dX10_binsOf_62 : decode cX10_binsOf 62 = .ok (.istore 8, 2) := by decide +kernel
theorem dX10_binsOf_64 : decode cX10_binsOf 64 = .ok (.iload 7, 2) := by decide +kernel
theorem dX10_binsOf_66 : decode cX10_binsOf 66 = .ok (.iload 6, 2) := by decide +kernel
theorem dX10_binsOf_68 : decode cX10_binsOf 68 = .ok (.if_icmp .ge 83, 3) := by decide +kernel
theorem dX10_binsOf_71 : decode cX10_binsOf 71 = .ok (.aload_n 0, 1) := by decide +kernel
theorem dX10_binsOf_72 : decode cX10_binsOf 72 = .ok (.getfield 44, 3) := by decide +kernel
theorem dX10_binsOf_75 : decode cX10_binsOf 75 = .ok (.iload 5, 2) := by decide +kernel
theorem dX10_binsOf_77 : decode cX10_binsOf 77 = .ok (.iaload, 1) := by decide +kernel
theorem dX10_binsOf_78 : decode cX10_binsOf 78 = .ok (.ifCond .le 67, 3) := by decide +kernel
theorem dX10_binsOf_81 : decode cX10_binsOf 81 = .ok (.aload_n 0, 1) := by decide +kernel
theorem dX10_binsOf_82 : decode cX10_binsOf 82 = .ok (.getfield 47, 3) := by decide +kernel
theorem dX10_binsOf_85 : decode cX10_binsOf 85 = .ok (.iconst 3, 1) := by decide +kernel
theorem dX10_binsOf_86 : decode cX10_binsOf 86 = .ok (.iload 4, 2) := by decide +kernel
theorem dX10_binsOf_88 : decode cX10_binsOf 88 = .ok (.imul, 1) := by decide +kernel
theorem dX10_binsOf_89 : decode cX10_binsOf 89 = .ok (.iload 8, 2) := by decide +kernel
theorem dX10_binsOf_91 : decode cX10_binsOf 91 = .ok (.ifCond .eq 12, 3) := by decide +kernel
theorem dX10_binsOf_94 : decode cX10_binsOf 94 = .ok (.iload 5, 2) := by decide +kernel
theorem dX10_binsOf_96 : decode cX10_binsOf 96 = .ok (.sipush (-999), 3) := by decide +kernel
theorem dX10_binsOf_99 : decode cX10_binsOf 99 = .ok (.iadd, 1) := by decide +kernel
theorem dX10_binsOf_100 : decode cX10_binsOf 100 = .ok (.goto 12, 3) := by decide +kernel
theorem dX10_binsOf_103 : decode cX10_binsOf 103 = .ok (.aload_n 0, 1) := by decide +kernel
theorem dX10_binsOf_104 : decode cX10_binsOf 104 = .ok (.getfield 47, 3) := by decide +kernel
theorem dX10_binsOf_107 : decode cX10_binsOf 107 = .ok (.iconst 3, 1) := by decide +kernel
theorem dX10_binsOf_108 : decode cX10_binsOf 108 = .ok (.iload 4, 2) := by decide +kernel
theorem dX10_binsOf_110 : decode cX10_binsOf 110 = .ok (.imul, 1) := by decide +kernel
theorem dX10_binsOf_111 : decode cX10_binsOf 111 = .ok (.iaload, 1) := by decide +kernel
theorem dX10_binsOf_112 : decode cX10_binsOf 112 = .ok (.iastore, 1) := by decide +kernel
theorem dX10_binsOf_113 : decode cX10_binsOf 113 = .ok (.aload_n 0, 1) := by decide +kernel
theorem dX10_binsOf_114 : decode cX10_binsOf 114 = .ok (.getfield 47, 3) := by decide +kernel
theorem dX10_binsOf_117 : decode cX10_binsOf 117 = .ok (.iconst 3, 1) := by decide +kernel
theorem dX10_binsOf_118 : decode cX10_binsOf 118 = .ok (.iload 4, 2) := by decide +kernel
theorem dX10_binsOf_120 : decode cX10_binsOf 120 = .ok (.imul, 1) := by decide +kernel
theorem dX10_binsOf_121 : decode cX10_binsOf 121 = .ok (.iconst 1, 1) := by decide +kernel
theorem dX10_binsOf_122 : decode cX10_binsOf 122 = .ok (.iadd, 1) := by decide +kernel
theorem dX10_binsOf_123 : decode cX10_binsOf 123 = .ok (.iload 5, 2) := by decide +kernel
theorem dX10_binsOf_125 : decode cX10_binsOf 125 = .ok (.sipush (-999), 3) := by decide +kernel
theorem dX10_binsOf_128 : decode cX10_binsOf 128 = .ok (.iadd, 1) := by decide +kernel
theorem dX10_binsOf_129 : decode cX10_binsOf 129 = .ok (.iastore, 1) := by decide +kernel
theorem dX10_binsOf_130 : decode cX10_binsOf 130 = .ok (.iconst 0, 1) := by decide +kernel
theorem dX10_binsOf_131 : decode cX10_binsOf 131 = .ok (.istore 8, 2) := by decide +kernel
theorem dX10_binsOf_133 : decode cX10_binsOf 133 = .ok (.iload 7, 2) := by decide +kernel
theorem dX10_binsOf_135 : decode cX10_binsOf 135 = .ok (.aload_n 0, 1) := by decide +kernel
theorem dX10_binsOf_136 : decode cX10_binsOf 136 = .ok (.getfield 44, 3) := by decide +kernel
theorem dX10_binsOf_139 : decode cX10_binsOf 139 = .ok (.iload 5, 2) := by decide +kernel
theorem dX10_binsOf_141 : decode cX10_binsOf 141 = .ok (.iaload, 1) := by decide +kernel
theorem dX10_binsOf_142 : decode cX10_binsOf 142 = .ok (.iadd, 1) := by decide +kernel
theorem dX10_binsOf_143 : decode cX10_binsOf 143 = .ok (.istore 7, 2) := by decide +kernel
theorem dX10_binsOf_145 : decode cX10_binsOf 145 = .ok (.iinc 5 1, 3) := by decide +kernel
theorem dX10_binsOf_148 : decode cX10_binsOf 148 = .ok (.goto (-84), 3) := by decide +kernel
theorem dX10_binsOf_151 : decode cX10_binsOf 151 = .ok (.aload_n 0, 1) := by decide +kernel
theorem dX10_binsOf_152 : decode cX10_binsOf 152 = .ok (.getfield 47, 3) := by decide +kernel
theorem dX10_binsOf_155 : decode cX10_binsOf 155 = .ok (.iconst 3, 1) := by decide +kernel
theorem dX10_binsOf_156 : decode cX10_binsOf 156 = .ok (.iload 4, 2) := by decide +kernel
theorem dX10_binsOf_158 : decode cX10_binsOf 158 = .ok (.imul, 1) := by decide +kernel
theorem dX10_binsOf_159 : decode cX10_binsOf 159 = .ok (.iconst 2, 1) := by decide +kernel
theorem dX10_binsOf_160 : decode cX10_binsOf 160 = .ok (.iadd, 1) := by decide +kernel
theorem dX10_binsOf_161 : decode cX10_binsOf 161 = .ok (.iload 7, 2) := by decide +kernel
theorem dX10_binsOf_163 : decode cX10_binsOf 163 = .ok (.iastore, 1) := by decide +kernel
theorem dX10_binsOf_164 : decode cX10_binsOf 164 = .ok (.iload_n 3, 1) := by decide +kernel
theorem dX10_binsOf_165 : decode cX10_binsOf 165 = .ok (.iload 7, 2) := by decide +kernel
theorem dX10_binsOf_167 : decode cX10_binsOf 167 = .ok (.isub, 1) := by decide +kernel
theorem dX10_binsOf_168 : decode cX10_binsOf 168 = .ok (.istore_n 3, 1) := by decide +kernel
theorem dX10_binsOf_169 : decode cX10_binsOf 169 = .ok (.iinc 4 1, 3) := by decide +kernel
theorem dX10_binsOf_172 : decode cX10_binsOf 172 = .ok (.goto (-155), 3) := by decide +kernel
theorem dX10_binsOf_175 : decode cX10_binsOf 175 = .ok (.iload 4, 2) := by decide +kernel
theorem dX10_binsOf_177 : decode cX10_binsOf 177 = .ok (.ireturn, 1) := by decide +kernel
def wX10_binsOf (I : Nat → Int32) (A : Nat → Nat → Int32) (x1 : Int32) (x2 : Int32) (post : Int32 → (Nat → Int32) → (Nat → Nat → Int32) → Prop) : Prop := wX10_numbersOf I A x1 x1 (fun I_1 A_1 => ∀ v3 : Int32, v3 = I_1 6 → ∃ n, lfix (fun (r : (Int32 × Int32 × Int32 × (Nat → Nat → Int32)) → Prop) (v5, v4, v3_1, A_2) => if v3_1 ≤ 0 then (post v4 I_1 A_2) else (jn (fun (t : Int32) => vp_in (3 * v4) 24 ∧ (∀ A_3, A_3 = va_up A_2 13 (upd (A_2 13) (3 * v4).toNatClampNeg (-1)) → ∃ n_1, lfix (fun (r_1 : (Int32 × Int32 × Int32 × (Nat → Nat → Int32)) → Prop) (v8, v7, v5_1, A_4) => if t ≤ v7 then (vp_in ((3 * v4) + 2) 24 ∧ (∀ A_5, A_5 = va_up A_4 13 (upd (A_4 13) ((3 * v4) + 2).toNatClampNeg v7) → ∀ v3_2 : Int32, v3_2 = v3_1 - v7 → ∀ v4_1 : Int32, v4_1 = v4 + 1 → r (v5_1, v4_1, v3_2, A_5))) else (vp_in v5_1 1999 ∧ (if (A_4 12 v5_1.toNatClampNeg) ≤ 0 then (∀ v5_2 : Int32, v5_2 = v5_1 + 1 → r_1 (v8, v7, v5_2, A_4)) else (jn (fun (t_1 : Int32) => vp_in (3 * v4) 24 ∧ (∀ A_6, A_6 = va_up A_4 13 (upd (A_4 13) (3 * v4).toNatClampNeg t_1) → vp_in ((3 * v4) + 1) 24 ∧ (∀ A_7, A_7 = va_up A_6 13 (upd (A_6 13) ((3 * v4) + 1).toNatClampNeg (v5_1 + (-999))) → vp_in v5_1 1999 ∧ (∀ v7_1 : Int32, v7_1 = v7 + (A_7 12 v5_1.toNatClampNeg) → ∀ v5_3 : Int32, v5_3 = v5_1 + 1 → r_1 (0, v7_1, v5_3, A_7))))) (fun k_1 => if v8 = 0 then (vp_in (3 * v4) 24 ∧ (k_1 (A_4 13 (3 * v4).toNatClampNeg))) else (k_1 (v5_1 + (-999)))))))) n_1 (1, 0, v5, A_3))) (fun k => if v4 = (x2 - 1) then (k v3_1) else (¬ (x2 - v4 : Int32) = 0 ∧ (k ((((v3_1 + x2) - v4) - 1) / (x2 - v4))))))) n (0, 0, v3, A_1))
abbrev rmX10_binsOf : Room := { frames := 4, cells := 0, slots := 0, locals := 103 }
theorem wd_X10_binsOf : Cond.instanceMethod yX10_binsOf ∈ BW ∧ Cond.selects yX10_binsOf.cls yX10_binsOf yX10_binsOf ∈ BW ∧ Cond.initialized yX10_binsOf.cls ∈ BW ∧ Cond.code yX10_binsOf cX10_binsOf 9 (some .int) ∈ BW := ⟨mw_5_202, mp_48, mw_1_11, mw_5_203⟩
set_option maxHeartbeats 4000000 in
set_option maxRecDepth 100000 in
theorem c_X10_binsOf {l : Launch} {D : va_G} {cy : Nat → ClassId} {ad : Nat → Nat} {Ad : Nat → Prop} (hAd : adok 16 Ad ad) (I : Nat → Int32) (A : Nat → Nat → Int32) (x1 : Int32) (x2 : Int32)  (post : Int32 → (Nat → Int32) → (Nat → Nat → Int32) → Prop) (h : wX10_binsOf I A x1 x2 post) : Met l yX10_binsOf (.code yX10_binsOf cX10_binsOf 9 (some .int) :: BW) rmX10_binsOf (va_Pc [.ref (ad 0), .int x1, .int x2] (fun U => kC D cy U ∧ va_P D vwCl (wM cy ad I A) U.heap)) (qMi D cy ad Ad (fun r u => post r u.1 u.2)) 0 0 Ad := by
  refine startMi (by decide) (Nat.le_of_ble_eq_true rfl) (lv := [(0, .ref (ad 0)), (1, .int x1), (2, .int x2)]) rfl (fun p e s m args below meth c Q ls hx hb hml hT hown hK hret hl hP hS => ?_)
  unfold wX10_binsOf at h
  refine lv_aload_n hx hb dX10_binsOf_0 rfl (lv_at hl 0 rfl) ?_
  refine lv_iload_n hx hb dX10_binsOf_1 rfl (lv_at hl 1 rfl) ?_
  refine lv_iload_n hx hb dX10_binsOf_2 rfl (lv_at hl 1 rfl) ?_
  refine callMv (k := 0) (As := [.int x1, .int x1]) (rest := []) (n := 2) (c_X10_numbersOf hAd I A x1 x1 _ h) hx hb hT hown hK hP hS mw_5_204 wd_X10_numbersOf (by decide +kernel) ⟨rfl, rfl⟩ (by decide) rfl rfl he_X10 rfl hl.1 hml rfl (Nat.le_of_ble_eq_true rfl) dX10_binsOf_3 ⟨Nat.zero_le _, Nat.zero_le _⟩ (fun u H locs h hP hS => ?_)
  obtain ⟨I_1, A_1⟩ := u
  dsimp only at h hP
  refine lv_aload_n hx hb dX10_binsOf_6 rfl (lv_at hl 0 rfl) ?_
  refine va_get (T := TX10) hx hb hT inlX10 hown hK.1 hP 0 he_X10 rfl 18 (by decide) (hT _ mw_4_155) (fun _ h9 => h9) rfl dX10_binsOf_7 ?_
  refine lv_topi (fun v3 ev3 => ?_)
  replace h := h v3 ev3
  refine lv_istore_n (lv' := [(3, .int v3), (0, .ref (ad 0)), (1, .int x1), (2, .int x2)]) hx hb dX10_binsOf_10 rfl hl (by decide) rfl (fun ls hl => ?_)
  refine lv_iconst (v := 0) hx hb dX10_binsOf_11 (by decide) ?_
  refine lv_istore (lv' := [(4, .int 0), (3, .int v3), (0, .ref (ad 0)), (1, .int x1), (2, .int x2)]) hx hb dX10_binsOf_12 hl (by decide) rfl (fun ls hl => ?_)
  refine lv_iconst (v := 0) hx hb dX10_binsOf_14 (by decide) ?_
  refine lv_istore (lv' := [(5, .int 0), (4, .int 0), (3, .int v3), (0, .ref (ad 0)), (1, .int x1), (2, .int x2)]) hx hb dX10_binsOf_15 hl (by decide) rfl (fun ls hl => ?_)
  obtain ⟨F, n, h, hF, hG⟩ := lfix_ex h
  have LP : ∀ (n : Nat) (v5 : Int32) (v4 : Int32) (v3_1 : Int32) (A_2 : Nat → Nat → Int32) (ls : Array Slot) (H : Heap) (locs : List Loc), F n (v5, v4, v3_1, A_2) → lv_has ls 9 [(5, .int v5), (4, .int v4), (3, .int v3_1), (0, .ref (ad 0)), (2, .int x2)] → va_P D vwCl (wM cy ad I_1 A_2) H → va_S Ad s.heap H locs → W p l e rmX10_binsOf s m args below meth c H locs 0 0 Q (F0 m 17 ls []) := by
    intro n
    induction n with
    | zero => intro v5 v4 v3_1 A_2 ls H locs h _ _ _; exact absurd h (hF _)
    | succ n ih =>
      intro v5 v4 v3_1 A_2 ls H locs h hl hP hS
      replace h := hG _ _ h
      try dsimp only at h
      refine lv_iload_n hx hb dX10_binsOf_17 rfl (lv_at hl 2 rfl) ?_
      refine lv_if_le (tgt := 175) hx hb dX10_binsOf_18 (by decide) (fun hc => ?_) (fun hc => ?_)
      · rw [if_pos hc] at h
        refine lv_iload hx hb dX10_binsOf_175 (lv_at hl 1 rfl) ?_
        exact hret _ (I_1, A_2) dX10_binsOf_177 h hP hS
      · rw [if_neg hc] at h
        refine lv_iload hx hb dX10_binsOf_21 (lv_at hl 1 rfl) ?_
        refine lv_iload_n hx hb dX10_binsOf_23 rfl (lv_at hl 4 rfl) ?_
        refine lv_iconst (v := 1) hx hb dX10_binsOf_24 (by decide) ?_
        refine lv_isub hx hb dX10_binsOf_25 ?_
        obtain ⟨k, hk, h⟩ := jn_ex h
        try dsimp only at h
        have J : ∀ (t : Int32), k t → ∀ (ls : Array Slot) (H : Heap) (locs : List Loc), lv_has ls 9 [(5, .int v5), (4, .int v4), (3, .int v3_1), (0, .ref (ad 0)), (2, .int x2)] → va_P D vwCl (wM cy ad I_1 A_2) H → va_S Ad s.heap H locs → W p l e rmX10_binsOf s m args below meth c H locs 0 0 Q (F0 m 46 ls [.int t]) := by
          intro t h ls H locs hl hP hS
          replace h := hk _ h
          try dsimp only at h
          refine lv_istore (lv' := [(6, .int t), (5, .int v5), (4, .int v4), (3, .int v3_1), (0, .ref (ad 0)), (2, .int x2)]) hx hb dX10_binsOf_46 hl (by decide) rfl (fun ls hl => ?_)
          refine lv_iconst (v := 0) hx hb dX10_binsOf_48 (by decide) ?_
          refine lv_istore (lv' := [(7, .int 0), (6, .int t), (5, .int v5), (4, .int v4), (3, .int v3_1), (0, .ref (ad 0)), (2, .int x2)]) hx hb dX10_binsOf_49 hl (by decide) rfl (fun ls hl => ?_)
          refine lv_aload_n hx hb dX10_binsOf_51 rfl (lv_at hl 5 rfl) ?_
          refine va_get (T := TX10) hx hb hT inlX10 hown hK.1 hP 0 he_X10 rfl 19 (by decide) (hT _ mw_4_156) (fun _ h9 => h9) rfl dX10_binsOf_52 ?_
          refine lv_iconst (v := 3) hx hb dX10_binsOf_55 (by decide) ?_
          refine lv_iload hx hb dX10_binsOf_56 (lv_at hl 3 rfl) ?_
          refine lv_imul hx hb dX10_binsOf_58 ?_
          refine lv_iconst (v := (-1)) hx hb dX10_binsOf_59 (by decide) ?_
          obtain ⟨hi, h⟩ := h
          refine sM_I hAd hx hb hK.1 hP hS (by decide) (fun _ => rfl) hi dX10_binsOf_60 (fun H locs hP hS => ?_)
          obtain ⟨A_3, eA_3⟩ : ∃ z, z = va_up A_2 13 (upd (A_2 13) (3 * v4).toNatClampNeg (-1)) := ⟨_, rfl⟩
          rw [← eA_3] at hP
          replace h := h A_3 eA_3
          refine lv_iconst (v := 1) hx hb dX10_binsOf_61 (by decide) ?_
          refine lv_istore (lv' := [(8, .int 1), (7, .int 0), (6, .int t), (5, .int v5), (4, .int v4), (3, .int v3_1), (0, .ref (ad 0)), (2, .int x2)]) hx hb dX10_binsOf_62 hl (by decide) rfl (fun ls hl => ?_)
          obtain ⟨F_1, n_1, h, hF_1, hG_1⟩ := lfix_ex h
          have LP_1 : ∀ (n_1 : Nat) (v8 : Int32) (v7 : Int32) (v5_1 : Int32) (A_4 : Nat → Nat → Int32) (ls : Array Slot) (H : Heap) (locs : List Loc), F_1 n_1 (v8, v7, v5_1, A_4) → lv_has ls 9 [(8, .int v8), (7, .int v7), (6, .int t), (5, .int v5_1), (4, .int v4), (3, .int v3_1), (0, .ref (ad 0)), (2, .int x2)] → va_P D vwCl (wM cy ad I_1 A_4) H → va_S Ad s.heap H locs → W p l e rmX10_binsOf s m args below meth c H locs 0 0 Q (F0 m 64 ls []) := by
            intro n_1
            induction n_1 with
            | zero => intro v8 v7 v5_1 A_4 ls H locs h _ _ _; exact absurd h (hF_1 _)
            | succ n_1 ih_1 =>
              intro v8 v7 v5_1 A_4 ls H locs h hl hP hS
              replace h := hG_1 _ _ h
              try dsimp only at h
              refine lv_iload hx hb dX10_binsOf_64 (lv_at hl 1 rfl) ?_
              refine lv_iload hx hb dX10_binsOf_66 (lv_at hl 2 rfl) ?_
              refine lv_icmp_ge (tgt := 151) hx hb dX10_binsOf_68 (by decide) (fun hc_1 => ?_) (fun hc_1 => ?_)
              · rw [if_pos hc_1] at h
                refine lv_aload_n hx hb dX10_binsOf_151 rfl (lv_at hl 6 rfl) ?_
                refine va_get (T := TX10) hx hb hT inlX10 hown hK.1 hP 0 he_X10 rfl 19 (by decide) (hT _ mw_4_156) (fun _ h9 => h9) rfl dX10_binsOf_152 ?_
                refine lv_iconst (v := 3) hx hb dX10_binsOf_155 (by decide) ?_
                refine lv_iload hx hb dX10_binsOf_156 (lv_at hl 4 rfl) ?_
                refine lv_imul hx hb dX10_binsOf_158 ?_
                refine lv_iconst (v := 2) hx hb dX10_binsOf_159 (by decide) ?_
                refine lv_iadd hx hb dX10_binsOf_160 ?_
                refine lv_iload hx hb dX10_binsOf_161 (lv_at hl 1 rfl) ?_
                obtain ⟨hi_1, h⟩ := h
                refine sM_I hAd hx hb hK.1 hP hS (by decide) (fun _ => rfl) hi_1 dX10_binsOf_163 (fun H locs hP hS => ?_)
                obtain ⟨A_5, eA_5⟩ : ∃ z, z = va_up A_4 13 (upd (A_4 13) ((3 * v4) + 2).toNatClampNeg v7) := ⟨_, rfl⟩
                rw [← eA_5] at hP
                replace h := h A_5 eA_5
                refine lv_iload_n hx hb dX10_binsOf_164 rfl (lv_at hl 5 rfl) ?_
                refine lv_iload hx hb dX10_binsOf_165 (lv_at hl 1 rfl) ?_
                refine lv_isub hx hb dX10_binsOf_167 ?_
                refine lv_topi (fun v3_2 ev3_2 => ?_)
                replace h := h v3_2 ev3_2
                refine lv_istore_n (lv' := [(3, .int v3_2), (8, .int v8), (7, .int v7), (6, .int t), (5, .int v5_1), (4, .int v4), (0, .ref (ad 0)), (2, .int x2)]) hx hb dX10_binsOf_168 rfl hl (by decide) rfl (fun ls hl => ?_)
                obtain ⟨v4_1, ev4_1⟩ : ∃ z : Int32, z = v4 + 1 := ⟨_, rfl⟩
                replace h := h v4_1 ev4_1
                refine lv_iinc (v := v4_1) (lv' := [(4, .int v4_1), (3, .int v3_2), (8, .int v8), (7, .int v7), (6, .int t), (5, .int v5_1), (0, .ref (ad 0)), (2, .int x2)]) hx hb dX10_binsOf_169 hl (k := 5) rfl (by rw [ev4_1]; rfl) (by decide) rfl (fun ls hl => ?_)
                refine lv_goto (tgt := 17) hx hb dX10_binsOf_172 (by decide) ?_
                exact ih v5_1 v4_1 v3_2 A_5 _ _ _ h (lv_sub hl [5, 0, 1, 6, 7] rfl) hP hS
              · rw [if_neg hc_1] at h
                refine lv_aload_n hx hb dX10_binsOf_71 rfl (lv_at hl 6 rfl) ?_
                refine va_get (T := TX10) hx hb hT inlX10 hown hK.1 hP 0 he_X10 rfl 17 (by decide) (hT _ mw_4_154) (fun _ h9 => h9) rfl dX10_binsOf_72 ?_
                refine lv_iload hx hb dX10_binsOf_75 (lv_at hl 3 rfl) ?_
                obtain ⟨hi_2, h⟩ := h
                refine lM_I hx hb hK.1 hP (by decide) rfl hi_2 dX10_binsOf_77 ?_
                refine lv_if_le (tgt := 145) hx hb dX10_binsOf_78 (by decide) (fun hc_2 => ?_) (fun hc_2 => ?_)
                · rw [if_pos hc_2] at h
                  obtain ⟨v5_2, ev5_2⟩ : ∃ z : Int32, z = v5_1 + 1 := ⟨_, rfl⟩
                  replace h := h v5_2 ev5_2
                  refine lv_iinc (v := v5_2) (lv' := [(5, .int v5_2), (8, .int v8), (7, .int v7), (6, .int t), (4, .int v4), (3, .int v3_1), (0, .ref (ad 0)), (2, .int x2)]) hx hb dX10_binsOf_145 hl (k := 3) rfl (by rw [ev5_2]; rfl) (by decide) rfl (fun ls hl => ?_)
                  refine lv_goto (tgt := 64) hx hb dX10_binsOf_148 (by decide) ?_
                  exact ih_1 v8 v7 v5_2 A_4 _ _ _ h (lv_sub hl [1, 2, 3, 0, 4, 5, 6, 7] rfl) hP hS
                · rw [if_neg hc_2] at h
                  refine lv_aload_n hx hb dX10_binsOf_81 rfl (lv_at hl 6 rfl) ?_
                  refine va_get (T := TX10) hx hb hT inlX10 hown hK.1 hP 0 he_X10 rfl 19 (by decide) (hT _ mw_4_156) (fun _ h9 => h9) rfl dX10_binsOf_82 ?_
                  refine lv_iconst (v := 3) hx hb dX10_binsOf_85 (by decide) ?_
                  refine lv_iload hx hb dX10_binsOf_86 (lv_at hl 4 rfl) ?_
                  refine lv_imul hx hb dX10_binsOf_88 ?_
                  refine lv_iload hx hb dX10_binsOf_89 (lv_at hl 0 rfl) ?_
                  obtain ⟨k_1, hk_1, h⟩ := jn_ex h
                  try dsimp only at h
                  have J_1 : ∀ (t_1 : Int32), k_1 t_1 → ∀ (ls : Array Slot) (H : Heap) (locs : List Loc), lv_has ls 9 [(7, .int v7), (6, .int t), (5, .int v5_1), (4, .int v4), (3, .int v3_1), (0, .ref (ad 0)), (2, .int x2)] → va_P D vwCl (wM cy ad I_1 A_4) H → va_S Ad s.heap H locs → W p l e rmX10_binsOf s m args below meth c H locs 0 0 Q (F0 m 112 ls [.int t_1, .int (3 * v4), .ref (ad 13)]) := by
                    intro t_1 h ls H locs hl hP hS
                    replace h := hk_1 _ h
                    try dsimp only at h
                    obtain ⟨hi_3, h⟩ := h
                    refine sM_I hAd hx hb hK.1 hP hS (by decide) (fun _ => rfl) hi_3 dX10_binsOf_112 (fun H locs hP hS => ?_)
                    obtain ⟨A_6, eA_6⟩ : ∃ z, z = va_up A_4 13 (upd (A_4 13) (3 * v4).toNatClampNeg t_1) := ⟨_, rfl⟩
                    rw [← eA_6] at hP
                    replace h := h A_6 eA_6
                    refine lv_aload_n hx hb dX10_binsOf_113 rfl (lv_at hl 5 rfl) ?_
                    refine va_get (T := TX10) hx hb hT inlX10 hown hK.1 hP 0 he_X10 rfl 19 (by decide) (hT _ mw_4_156) (fun _ h9 => h9) rfl dX10_binsOf_114 ?_
                    refine lv_iconst (v := 3) hx hb dX10_binsOf_117 (by decide) ?_
                    refine lv_iload hx hb dX10_binsOf_118 (lv_at hl 3 rfl) ?_
                    refine lv_imul hx hb dX10_binsOf_120 ?_
                    refine lv_iconst (v := 1) hx hb dX10_binsOf_121 (by decide) ?_
                    refine lv_iadd hx hb dX10_binsOf_122 ?_
                    refine lv_iload hx hb dX10_binsOf_123 (lv_at hl 2 rfl) ?_
                    refine lv_sipush (v := (-999)) hx hb dX10_binsOf_125 (by decide) ?_
                    refine lv_iadd hx hb dX10_binsOf_128 ?_
                    obtain ⟨hi_4, h⟩ := h
                    refine sM_I hAd hx hb hK.1 hP hS (by decide) (fun _ => rfl) hi_4 dX10_binsOf_129 (fun H locs hP hS => ?_)
                    obtain ⟨A_7, eA_7⟩ : ∃ z, z = va_up A_6 13 (upd (A_6 13) ((3 * v4) + 1).toNatClampNeg (v5_1 + (-999))) := ⟨_, rfl⟩
                    rw [← eA_7] at hP
                    replace h := h A_7 eA_7
                    refine lv_iconst (v := 0) hx hb dX10_binsOf_130 (by decide) ?_
                    refine lv_istore (lv' := [(8, .int 0), (7, .int v7), (6, .int t), (5, .int v5_1), (4, .int v4), (3, .int v3_1), (0, .ref (ad 0)), (2, .int x2)]) hx hb dX10_binsOf_131 hl (by decide) rfl (fun ls hl => ?_)
                    refine lv_iload hx hb dX10_binsOf_133 (lv_at hl 1 rfl) ?_
                    refine lv_aload_n hx hb dX10_binsOf_135 rfl (lv_at hl 6 rfl) ?_
                    refine va_get (T := TX10) hx hb hT inlX10 hown hK.1 hP 0 he_X10 rfl 17 (by decide) (hT _ mw_4_154) (fun _ h9 => h9) rfl dX10_binsOf_136 ?_
                    refine lv_iload hx hb dX10_binsOf_139 (lv_at hl 3 rfl) ?_
                    obtain ⟨hi_5, h⟩ := h
                    refine lM_I hx hb hK.1 hP (by decide) rfl hi_5 dX10_binsOf_141 ?_
                    refine lv_iadd hx hb dX10_binsOf_142 ?_
                    refine lv_topi (fun v7_1 ev7_1 => ?_)
                    replace h := h v7_1 ev7_1
                    refine lv_istore (lv' := [(7, .int v7_1), (8, .int 0), (6, .int t), (5, .int v5_1), (4, .int v4), (3, .int v3_1), (0, .ref (ad 0)), (2, .int x2)]) hx hb dX10_binsOf_143 hl (by decide) rfl (fun ls hl => ?_)
                    obtain ⟨v5_3, ev5_3⟩ : ∃ z : Int32, z = v5_1 + 1 := ⟨_, rfl⟩
                    replace h := h v5_3 ev5_3
                    refine lv_iinc (v := v5_3) (lv' := [(5, .int v5_3), (7, .int v7_1), (8, .int 0), (6, .int t), (4, .int v4), (3, .int v3_1), (0, .ref (ad 0)), (2, .int x2)]) hx hb dX10_binsOf_145 hl (k := 3) rfl (by rw [ev5_3]; rfl) (by decide) rfl (fun ls hl => ?_)
                    refine lv_goto (tgt := 64) hx hb dX10_binsOf_148 (by decide) ?_
                    exact ih_1 0 v7_1 v5_3 A_7 _ _ _ h (lv_sub hl [2, 1, 3, 0, 4, 5, 6, 7] rfl) hP hS
                  refine lv_if_eq (tgt := 103) hx hb dX10_binsOf_91 (by decide) (fun hc_3 => ?_) (fun hc_3 => ?_)
                  · rw [if_pos hc_3] at h
                    refine lv_aload_n hx hb dX10_binsOf_103 rfl (lv_at hl 6 rfl) ?_
                    refine va_get (T := TX10) hx hb hT inlX10 hown hK.1 hP 0 he_X10 rfl 19 (by decide) (hT _ mw_4_156) (fun _ h9 => h9) rfl dX10_binsOf_104 ?_
                    refine lv_iconst (v := 3) hx hb dX10_binsOf_107 (by decide) ?_
                    refine lv_iload hx hb dX10_binsOf_108 (lv_at hl 4 rfl) ?_
                    refine lv_imul hx hb dX10_binsOf_110 ?_
                    obtain ⟨hi_6, h⟩ := h
                    refine lM_I hx hb hK.1 hP (by decide) rfl hi_6 dX10_binsOf_111 ?_
                    exact J_1 (A_4 13 (3 * v4).toNatClampNeg) h _ _ _ (lv_sub hl [1, 2, 3, 4, 5, 6, 7] rfl) hP hS
                  · rw [if_neg hc_3] at h
                    refine lv_iload hx hb dX10_binsOf_94 (lv_at hl 3 rfl) ?_
                    refine lv_sipush (v := (-999)) hx hb dX10_binsOf_96 (by decide) ?_
                    refine lv_iadd hx hb dX10_binsOf_99 ?_
                    refine lv_goto (tgt := 112) hx hb dX10_binsOf_100 (by decide) ?_
                    exact J_1 (v5_1 + (-999)) h _ _ _ (lv_sub hl [1, 2, 3, 4, 5, 6, 7] rfl) hP hS
          exact LP_1 _ 1 0 v5 A_3 _ _ _ h (lv_sub hl [0, 1, 2, 3, 4, 5, 6, 7] rfl) hP hS
        refine lv_icmp_ne (tgt := 33) hx hb dX10_binsOf_26 (by decide) (fun hc_4 => ?_) (fun hc_4 => ?_)
        · rw [if_neg hc_4] at h
          refine lv_iload_n hx hb dX10_binsOf_33 rfl (lv_at hl 2 rfl) ?_
          refine lv_iload_n hx hb dX10_binsOf_34 rfl (lv_at hl 4 rfl) ?_
          refine lv_iadd hx hb dX10_binsOf_35 ?_
          refine lv_iload hx hb dX10_binsOf_36 (lv_at hl 1 rfl) ?_
          refine lv_isub hx hb dX10_binsOf_38 ?_
          refine lv_iconst (v := 1) hx hb dX10_binsOf_39 (by decide) ?_
          refine lv_isub hx hb dX10_binsOf_40 ?_
          refine lv_iload_n hx hb dX10_binsOf_41 rfl (lv_at hl 4 rfl) ?_
          refine lv_iload hx hb dX10_binsOf_42 (lv_at hl 1 rfl) ?_
          refine lv_isub hx hb dX10_binsOf_44 ?_
          obtain ⟨hn, h⟩ := h
          refine lv_idiv hx hb dX10_binsOf_45 hn ?_
          exact J ((((v3_1 + x2) - v4) - 1) / (x2 - v4)) h _ _ _ (lv_sub hl [0, 1, 2, 3, 4] rfl) hP hS
        · rw [if_pos hc_4] at h
          refine lv_iload_n hx hb dX10_binsOf_29 rfl (lv_at hl 2 rfl) ?_
          refine lv_goto (tgt := 46) hx hb dX10_binsOf_30 (by decide) ?_
          exact J v3_1 h _ _ _ (lv_sub hl [0, 1, 2, 3, 4] rfl) hP hS
  exact LP _ 0 0 v3 A_1 _ _ _ h (lv_sub hl [0, 1, 2, 3, 5] rfl) hP hS
theorem dX10_isCut_0 : decode cX10_isCut 0 = .ok (.aload_n 0, 1) := by decide +kernel
theorem dX10_isCut_1 : decode cX10_isCut 1 = .ok (.iload_n 1, 1) := by decide +kernel
theorem dX10_isCut_2 : decode cX10_isCut 2 = .ok (.invokevirtual 100, 3) := by decide +kernel
theorem dX10_isCut_5 : decode cX10_isCut 5 = .ok (.ifCond .eq 17, 3) := by decide +kernel
theorem dX10_isCut_8 : decode cX10_isCut 8 = .ok (.iload_n 2, 1) := by decide +kernel
theorem dX10_isCut_9 : decode cX10_isCut 9 = .ok (.iconst 1, 1) := by decide +kernel
theorem dX10_isCut_10 : decode cX10_isCut 10 = .ok (.bipush 8, 2) := by decide +kernel
theorem dX10_isCut_12 : decode cX10_isCut 12 = .ok (.invokestatic 73, 3) := by decide +kernel
theorem dX10_isCut_15 : decode cX10_isCut 15 = .ok (.ifCond .eq 7, 3) := by decide +kernel
theorem dX10_isCut_18 : decode cX10_isCut 18 = .ok (.iconst 1, 1) := by decide +kernel
theorem dX10_isCut_19 : decode cX10_isCut 19 = .ok (.goto 4, 3) := by decide +kernel
theorem dX10_isCut_22 : decode cX10_isCut 22 = .ok (.iconst 0, 1) := by decide +kernel
theorem dX10_isCut_23 : decode cX10_isCut 23 = .ok (.ireturn, 1) := by decide +kernel
def wX10_isCut (I : Nat → Int32) (A : Nat → Nat → Int32) (x1 : Int32) (x2 : Int32) (post : Int32 → Prop) : Prop := wX10_isNumber I A x1 (fun r2 => if r2 = 0 then (post 0) else (wX10_within x2 1 8 (fun r12 => if r12 = 0 then (post 0) else (post 1))))
abbrev rmX10_isCut : Room := { frames := 2, cells := 0, slots := 0, locals := 42 }
theorem wd_X10_isCut : Cond.instanceMethod yX10_isCut ∈ BW ∧ Cond.selects yX10_isCut.cls yX10_isCut yX10_isCut ∈ BW ∧ Cond.initialized yX10_isCut.cls ∈ BW ∧ Cond.code yX10_isCut cX10_isCut 3 (some .boolean) ∈ BW := ⟨mw_5_198, mp_47, mw_1_11, mw_5_199⟩
set_option maxHeartbeats 4000000 in
set_option maxRecDepth 100000 in
theorem c_X10_isCut {l : Launch} {D : va_G} {cy : Nat → ClassId} {ad : Nat → Nat} {Ad : Nat → Prop} (hAd : adok 16 Ad ad) (I : Nat → Int32) (A : Nat → Nat → Int32) (x1 : Int32) (x2 : Int32)  (post : Int32 → Prop) (h : wX10_isCut I A x1 x2 post) : Met l yX10_isCut (.code yX10_isCut cX10_isCut 3 (some .boolean) :: BW) rmX10_isCut (va_Pc [.ref (ad 0), .int x1, .int x2] (fun U => kC D cy U ∧ va_P D vwCl (wM cy ad I A) U.heap)) (qMi D cy ad Ad (fun r u => post r  ∧ I = u.1 ∧ A = u.2)) 0 0 Ad := by
  refine startMz (by decide) (Nat.le_of_ble_eq_true rfl) (lv := [(0, .ref (ad 0)), (1, .int x1), (2, .int x2)]) rfl (fun p e s m args below meth c Q ls hx hb hml hT hown hK hret hl hP hS => ?_)
  unfold wX10_isCut at h
  refine lv_aload_n hx hb dX10_isCut_0 rfl (lv_at hl 0 rfl) ?_
  refine lv_iload_n hx hb dX10_isCut_1 rfl (lv_at hl 1 rfl) ?_
  refine callMi (k := 0) (As := [.int x1]) (rest := []) (n := 1) (c_X10_isNumber hAd I A x1 _ h) hx hb hT hown hK hP hS mw_5_28 wd_X10_isNumber (by decide +kernel) ⟨rfl, rfl⟩ (by decide) rfl rfl he_X10 rfl hl.1 hml rfl (Nat.le_of_ble_eq_true rfl) dX10_isCut_2 ⟨Nat.zero_le _, Nat.zero_le _⟩ (fun r2 u H locs h hP hS => ?_)
  obtain ⟨Iu, Au⟩ := u
  dsimp only at h hP
  obtain ⟨h, rfl, rfl⟩ := h
  try dsimp only at h
  refine lv_if_eq (tgt := 22) hx hb dX10_isCut_5 (by decide) (fun hc => ?_) (fun hc => ?_)
  · rw [if_pos hc] at h
    refine lv_iconst (v := 0) hx hb dX10_isCut_22 (by decide) ?_
    exact hret _ (I, A) zb_0 dX10_isCut_23 ⟨h, rfl, rfl⟩ hP hS
  · rw [if_neg hc] at h
    refine lv_iload_n hx hb dX10_isCut_8 rfl (lv_at hl 2 rfl) ?_
    refine lv_iconst (v := 1) hx hb dX10_isCut_9 (by decide) ?_
    refine lv_bipush (v := 8) hx hb dX10_isCut_10 (by decide) ?_
    refine callSMi (As := [.int x2, .int 1, .int 8]) (rest := []) (n := 3) (c_X10_within x2 1 8 _ h) hx hb hT hown hP hS mw_4_213 wd_X10_within (by decide +kernel) ⟨rfl, rfl⟩ (by decide) rfl hl.1 hml rfl (Nat.le_of_ble_eq_true rfl) dX10_isCut_12 ⟨Nat.zero_le _, Nat.zero_le _⟩ (fun r12 H locs h hP hS => ?_)
    try dsimp only at h
    refine lv_if_eq (tgt := 22) hx hb dX10_isCut_15 (by decide) (fun hc_1 => ?_) (fun hc_1 => ?_)
    · rw [if_pos hc_1] at h
      refine lv_iconst (v := 0) hx hb dX10_isCut_22 (by decide) ?_
      exact hret _ (I, A) zb_0 dX10_isCut_23 ⟨h, rfl, rfl⟩ hP hS
    · rw [if_neg hc_1] at h
      refine lv_iconst (v := 1) hx hb dX10_isCut_18 (by decide) ?_
      refine lv_goto (tgt := 23) hx hb dX10_isCut_19 (by decide) ?_
      exact hret _ (I, A) zb_1 dX10_isCut_23 ⟨h, rfl, rfl⟩ hP hS
theorem dX10_bin_0 : decode cX10_bin 0 = .ok (.aload_n 0, 1) := by decide +kernel
theorem dX10_bin_1 : decode cX10_bin 1 = .ok (.iconst 0, 1) := by decide +kernel
theorem dX10_bin_2 : decode cX10_bin 2 = .ok (.putfield 56, 3) := by decide +kernel
theorem dX10_bin_5 : decode cX10_bin 5 = .ok (.aload_n 0, 1) := by decide +kernel
theorem dX10_bin_6 : decode cX10_bin 6 = .ok (.iload_n 1, 1) := by decide +kernel
theorem dX10_bin_7 : decode cX10_bin 7 = .ok (.iload_n 2, 1) := by decide +kernel
theorem dX10_bin_8 : decode cX10_bin 8 = .ok (.invokevirtual 176, 3) := by decide +kernel
theorem dX10_bin_11 : decode cX10_bin 11 = .ok (.ifCond .eq 22, 3) := by decide +kernel
theorem dX10_bin_14 : decode cX10_bin 14 = .ok (.iload 4, 2) := by decide +kernel
theorem dX10_bin_16 : decode cX10_bin 16 = .ok (.iconst 0, 1) := by decide +kernel
theorem dX10_bin_17 : decode cX10_bin 17 = .ok (.iconst 2, 1) := by decide +kernel
theorem dX10_bin_18 : decode cX10_bin 18 = .ok (.invokestatic 73, 3) := by decide +kernel
theorem dX10_bin_21 : decode cX10_bin 21 = .ok (.ifCond .eq 12, 3) := by decide +kernel
theorem dX10_bin_24 : decode cX10_bin 24 = .ok (.aload_n 0, 1) := by decide +kernel
theorem dX10_bin_25 : decode cX10_bin 25 = .ok (.iload_n 1, 1) := by decide +kernel
theorem dX10_bin_26 : decode cX10_bin 26 = .ok (.iload_n 2, 1) := by decide +kernel
theorem dX10_bin_27 : decode cX10_bin 27 = .ok (.invokevirtual 179, 3) := by decide +kernel
theorem dX10_bin_30 : decode cX10_bin 30 = .ok (.goto 4, 3) := by decide +kernel
theorem dX10_bin_33 : decode cX10_bin 33 = .ok (.iconst 0, 1) := by decide +kernel
theorem dX10_bin_34 : decode cX10_bin 34 = .ok (.istore 5, 2) := by decide +kernel
theorem dX10_bin_36 : decode cX10_bin 36 = .ok (.aload_n 0, 1) := by decide +kernel
theorem dX10_bin_37 : decode cX10_bin 37 = .ok (.iload_n 3, 1) := by decide +kernel
theorem dX10_bin_38 : decode cX10_bin 38 = .ok (.ifCond .lt 9, 3) := by decide +kernel
theorem dX10_bin_41 : decode cX10_bin 41 = .ok (.iload_n 3, 1) := by decide +kernel
theorem dX10_bin_42 : decode cX10_bin 42 = .ok (.iload 5, 2) := by decide +kernel
theorem dX10_bin_44 : decode cX10_bin 44 = .ok (.if_icmp .lt 7, 3) := by decide +kernel
theorem dX10_bin_47 : decode cX10_bin 47 = .ok (.iconst 1, 1) := by decide +kernel
theorem dX10_bin_48 : decode cX10_bin 48 = .ok (.goto 4, 3) := by decide +kernel
theorem dX10_bin_51 : decode cX10_bin 51 = .ok (.iconst 0, 1) := by decide +kernel
theorem dX10_bin_52 : decode cX10_bin 52 = .ok (.putfield 56, 3) := by decide +kernel
theorem dX10_bin_55 : decode cX10_bin 55 = .ok (.aload_n 0, 1) := by decide +kernel
theorem dX10_bin_56 : decode cX10_bin 56 = .ok (.getfield 56, 3) := by decide +kernel
theorem dX10_bin_59 : decode cX10_bin 59 = .ok (.ifCond .le 7, 3) := by decide +kernel
theorem dX10_bin_62 : decode cX10_bin 62 = .ok (.iconst 0, 1) := by decide +kernel
theorem dX10_bin_63 : decode cX10_bin 63 = .ok (.goto 14, 3) := by decide +kernel
theorem dX10_bin_66 : decode cX10_bin 66 = .ok (.aload_n 0, 1) := by decide +kernel
theorem dX10_bin_67 : decode cX10_bin 67 = .ok (.getfield 47, 3) := by decide +kernel
theorem dX10_bin_70 : decode cX10_bin 70 = .ok (.iconst 3, 1) := by decide +kernel
theorem dX10_bin_71 : decode cX10_bin 71 = .ok (.iload_n 3, 1) := by decide +kernel
theorem dX10_bin_72 : decode cX10_bin 72 = .ok (.imul, 1) := by decide +kernel
theorem dX10_bin_73 : decode cX10_bin 73 = .ok (.iload 4, 2) := by decide +kernel
theorem dX10_bin_75 : decode cX10_bin 75 = .ok (.iadd, 1) := by decide +kernel
theorem dX10_bin_76 : decode cX10_bin 76 = .ok (.iaload, 1) := by decide +kernel
theorem dX10_bin_77 : decode cX10_bin 77 = .ok (.ireturn, 1) := by decide +kernel
def wX10_bin (I : Nat → Int32) (A : Nat → Nat → Int32) (x1 : Int32) (x2 : Int32) (x3 : Int32) (x4 : Int32) (post : Int32 → (Nat → Int32) → (Nat → Nat → Int32) → Prop) : Prop := (∀ I_1, I_1 = va_up I 0 0 → wX10_isCut I_1 A x1 x2 (fun r8 => jn (fun (z : Int32 × (Nat → Int32) × (Nat → Nat → Int32)) => match z with | (t, I_2, A_1) => jn (fun (t_1 : Int32) => (∀ I_3, I_3 = va_up I_2 0 t_1 → if (I_3 0) ≤ 0 then (vp_in ((3 * x3) + x4) 24 ∧ (post (A_1 13 ((3 * x3) + x4).toNatClampNeg) I_3 A_1)) else (post 0 I_3 A_1))) (fun k_1 => jn (fun (_ : Unit) => k_1 1) (fun k_2 => if x3 < 0 then (k_2 ()) else (if x3 < t then (k_1 0) else (k_2 ()))))) (fun k => jn (fun (_ : Unit) => k (0, I_1, A)) (fun k_3 => if r8 = 0 then (k_3 ()) else (wX10_within x4 0 2 (fun r18 => if r18 = 0 then (k_3 ()) else (wX10_binsOf I_1 A x1 x2 (fun r27 I_4 A_2 => k (r27, I_4, A_2)))))))))
abbrev rmX10_bin : Room := { frames := 5, cells := 0, slots := 0, locals := 131 }
theorem wd_X10_bin : Cond.instanceMethod yX10_bin ∈ BW ∧ Cond.selects yX10_bin.cls yX10_bin yX10_bin ∈ BW ∧ Cond.initialized yX10_bin.cls ∈ BW ∧ Cond.code yX10_bin cX10_bin 6 (some .int) ∈ BW := ⟨mw_5_193, mw_5_194, mw_1_11, mw_5_195⟩
set_option maxHeartbeats 4000000 in
set_option maxRecDepth 100000 in
theorem c_X10_bin {l : Launch} {D : va_G} {cy : Nat → ClassId} {ad : Nat → Nat} {Ad : Nat → Prop} (hAd : adok 16 Ad ad) (I : Nat → Int32) (A : Nat → Nat → Int32) (x1 : Int32) (x2 : Int32) (x3 : Int32) (x4 : Int32)  (post : Int32 → (Nat → Int32) → (Nat → Nat → Int32) → Prop) (h : wX10_bin I A x1 x2 x3 x4 post) : Met l yX10_bin (.code yX10_bin cX10_bin 6 (some .int) :: BW) rmX10_bin (va_Pc [.ref (ad 0), .int x1, .int x2, .int x3, .int x4] (fun U => kC D cy U ∧ va_P D vwCl (wM cy ad I A) U.heap)) (qMi D cy ad Ad (fun r u => post r u.1 u.2)) 0 0 Ad := by
  refine startMi (by decide) (Nat.le_of_ble_eq_true rfl) (lv := [(0, .ref (ad 0)), (1, .int x1), (2, .int x2), (3, .int x3), (4, .int x4)]) rfl (fun p e s m args below meth c Q ls hx hb hml hT hown hK hret hl hP hS => ?_)
  unfold wX10_bin at h
  refine lv_aload_n hx hb dX10_bin_0 rfl (lv_at hl 0 rfl) ?_
  refine lv_iconst (v := 0) hx hb dX10_bin_1 (by decide) ?_
  refine pM_X10_thrown hAd hx hb hT hown hK.1 hP hS (hT _ mw_4_137) dX10_bin_2 (fun H locs hP hS => ?_)
  obtain ⟨I_1, eI_1⟩ : ∃ z, z = va_up I 0 0 := ⟨_, rfl⟩
  rw [← eI_1] at hP
  replace h := h I_1 eI_1
  refine lv_aload_n hx hb dX10_bin_5 rfl (lv_at hl 0 rfl) ?_
  refine lv_iload_n hx hb dX10_bin_6 rfl (lv_at hl 1 rfl) ?_
  refine lv_iload_n hx hb dX10_bin_7 rfl (lv_at hl 2 rfl) ?_
  refine callMi (k := 0) (As := [.int x1, .int x2]) (rest := []) (n := 2) (c_X10_isCut hAd I_1 A x1 x2 _ h) hx hb hT hown hK hP hS mw_5_196 wd_X10_isCut (by decide +kernel) ⟨rfl, rfl⟩ (by decide) rfl rfl he_X10 rfl hl.1 hml rfl (Nat.le_of_ble_eq_true rfl) dX10_bin_8 ⟨Nat.zero_le _, Nat.zero_le _⟩ (fun r8 u H locs h hP hS => ?_)
  obtain ⟨Iu, Au⟩ := u
  dsimp only at h hP
  obtain ⟨h, rfl, rfl⟩ := h
  try dsimp only at h
  obtain ⟨k, hk, h⟩ := jn_ex h
  try dsimp only at h
  have J : ∀ (t : Int32) (I_2 : Nat → Int32) (A_1 : Nat → Nat → Int32), k (t, I_2, A_1) → ∀ (ls : Array Slot) (H : Heap) (locs : List Loc), lv_has ls 6 [(0, .ref (ad 0)), (3, .int x3), (4, .int x4)] → va_P D vwCl (wM cy ad I_2 A_1) H → va_S Ad s.heap H locs → W p l e rmX10_bin s m args below meth c H locs 0 0 Q (F0 m 34 ls [.int t]) := by
    intro t I_2 A_1 h ls H locs hl hP hS
    replace h := hk _ h
    try dsimp only at h
    refine lv_istore (lv' := [(5, .int t), (0, .ref (ad 0)), (3, .int x3), (4, .int x4)]) hx hb dX10_bin_34 hl (by decide) rfl (fun ls hl => ?_)
    refine lv_aload_n hx hb dX10_bin_36 rfl (lv_at hl 1 rfl) ?_
    refine lv_iload_n hx hb dX10_bin_37 rfl (lv_at hl 2 rfl) ?_
    obtain ⟨k_1, hk_1, h⟩ := jn_ex h
    try dsimp only at h
    have J_1 : ∀ (t_1 : Int32), k_1 t_1 → ∀ (ls : Array Slot) (H : Heap) (locs : List Loc), lv_has ls 6 [(0, .ref (ad 0)), (3, .int x3), (4, .int x4)] → va_P D vwCl (wM cy ad I_2 A_1) H → va_S Ad s.heap H locs → W p l e rmX10_bin s m args below meth c H locs 0 0 Q (F0 m 52 ls [.int t_1, .ref (ad 0)]) := by
      intro t_1 h ls H locs hl hP hS
      replace h := hk_1 _ h
      try dsimp only at h
      refine pM_X10_thrown hAd hx hb hT hown hK.1 hP hS (hT _ mw_4_137) dX10_bin_52 (fun H locs hP hS => ?_)
      obtain ⟨I_3, eI_3⟩ : ∃ z, z = va_up I_2 0 t_1 := ⟨_, rfl⟩
      rw [← eI_3] at hP
      replace h := h I_3 eI_3
      refine lv_aload_n hx hb dX10_bin_55 rfl (lv_at hl 0 rfl) ?_
      refine va_get (T := TX10) hx hb hT inlX10 hown hK.1 hP 0 he_X10 rfl 0 (by decide) (hT _ mw_4_137) (fun _ h9 => h9) rfl dX10_bin_56 ?_
      refine lv_if_le (tgt := 66) hx hb dX10_bin_59 (by decide) (fun hc => ?_) (fun hc => ?_)
      · rw [if_pos hc] at h
        refine lv_aload_n hx hb dX10_bin_66 rfl (lv_at hl 0 rfl) ?_
        refine va_get (T := TX10) hx hb hT inlX10 hown hK.1 hP 0 he_X10 rfl 19 (by decide) (hT _ mw_4_156) (fun _ h9 => h9) rfl dX10_bin_67 ?_
        refine lv_iconst (v := 3) hx hb dX10_bin_70 (by decide) ?_
        refine lv_iload_n hx hb dX10_bin_71 rfl (lv_at hl 1 rfl) ?_
        refine lv_imul hx hb dX10_bin_72 ?_
        refine lv_iload hx hb dX10_bin_73 (lv_at hl 2 rfl) ?_
        refine lv_iadd hx hb dX10_bin_75 ?_
        obtain ⟨hi, h⟩ := h
        refine lM_I hx hb hK.1 hP (by decide) rfl hi dX10_bin_76 ?_
        exact hret _ (I_3, A_1) dX10_bin_77 h hP hS
      · rw [if_neg hc] at h
        refine lv_iconst (v := 0) hx hb dX10_bin_62 (by decide) ?_
        refine lv_goto (tgt := 77) hx hb dX10_bin_63 (by decide) ?_
        exact hret _ (I_3, A_1) dX10_bin_77 h hP hS
    obtain ⟨k_2, hk_2, h⟩ := jn_ex h
    try dsimp only at h
    have J_2 : k_2 () → ∀ (ls : Array Slot) (H : Heap) (locs : List Loc), lv_has ls 6 [(0, .ref (ad 0)), (3, .int x3), (4, .int x4)] → va_P D vwCl (wM cy ad I_2 A_1) H → va_S Ad s.heap H locs → W p l e rmX10_bin s m args below meth c H locs 0 0 Q (F0 m 47 ls [.ref (ad 0)]) := by
      intro  h ls H locs hl hP hS
      replace h := hk_2 _ h
      try dsimp only at h
      refine lv_iconst (v := 1) hx hb dX10_bin_47 (by decide) ?_
      refine lv_goto (tgt := 52) hx hb dX10_bin_48 (by decide) ?_
      exact J_1 1 h _ _ _ (lv_sub hl [0, 1, 2] rfl) hP hS
    refine lv_if_lt (tgt := 47) hx hb dX10_bin_38 (by decide) (fun hc_1 => ?_) (fun hc_1 => ?_)
    · rw [if_pos hc_1] at h
      exact J_2  h _ _ _ (lv_sub hl [1, 2, 3] rfl) hP hS
    · rw [if_neg hc_1] at h
      refine lv_iload_n hx hb dX10_bin_41 rfl (lv_at hl 2 rfl) ?_
      refine lv_iload hx hb dX10_bin_42 (lv_at hl 0 rfl) ?_
      refine lv_icmp_lt (tgt := 51) hx hb dX10_bin_44 (by decide) (fun hc_2 => ?_) (fun hc_2 => ?_)
      · rw [if_pos hc_2] at h
        refine lv_iconst (v := 0) hx hb dX10_bin_51 (by decide) ?_
        exact J_1 0 h _ _ _ (lv_sub hl [1, 2, 3] rfl) hP hS
      · rw [if_neg hc_2] at h
        exact J_2  h _ _ _ (lv_sub hl [1, 2, 3] rfl) hP hS
  obtain ⟨k_3, hk_3, h⟩ := jn_ex h
  try dsimp only at h
  have J_3 : k_3 () → ∀ (ls : Array Slot) (H : Heap) (locs : List Loc), lv_has ls 6 [(0, .ref (ad 0)), (3, .int x3), (4, .int x4)] → va_P D vwCl (wM cy ad I_1 A) H → va_S Ad s.heap H locs → W p l e rmX10_bin s m args below meth c H locs 0 0 Q (F0 m 33 ls []) := by
    intro  h ls H locs hl hP hS
    replace h := hk_3 _ h
    try dsimp only at h
    refine lv_iconst (v := 0) hx hb dX10_bin_33 (by decide) ?_
    exact J 0 I_1 A h _ _ _ (lv_sub hl [0, 1, 2] rfl) hP hS
  refine lv_if_eq (tgt := 33) hx hb dX10_bin_11 (by decide) (fun hc_3 => ?_) (fun hc_3 => ?_)
  · rw [if_pos hc_3] at h
    exact J_3  h _ _ _ (lv_sub hl [0, 3, 4] rfl) hP hS
  · rw [if_neg hc_3] at h
    refine lv_iload hx hb dX10_bin_14 (lv_at hl 4 rfl) ?_
    refine lv_iconst (v := 0) hx hb dX10_bin_16 (by decide) ?_
    refine lv_iconst (v := 2) hx hb dX10_bin_17 (by decide) ?_
    refine callSMi (As := [.int x4, .int 0, .int 2]) (rest := []) (n := 3) (c_X10_within x4 0 2 _ h) hx hb hT hown hP hS mw_4_213 wd_X10_within (by decide +kernel) ⟨rfl, rfl⟩ (by decide) rfl hl.1 hml rfl (Nat.le_of_ble_eq_true rfl) dX10_bin_18 ⟨Nat.zero_le _, Nat.zero_le _⟩ (fun r18 H locs h hP hS => ?_)
    try dsimp only at h
    refine lv_if_eq (tgt := 33) hx hb dX10_bin_21 (by decide) (fun hc_4 => ?_) (fun hc_4 => ?_)
    · rw [if_pos hc_4] at h
      exact J_3  h _ _ _ (lv_sub hl [0, 3, 4] rfl) hP hS
    · rw [if_neg hc_4] at h
      refine lv_aload_n hx hb dX10_bin_24 rfl (lv_at hl 0 rfl) ?_
      refine lv_iload_n hx hb dX10_bin_25 rfl (lv_at hl 1 rfl) ?_
      refine lv_iload_n hx hb dX10_bin_26 rfl (lv_at hl 2 rfl) ?_
      refine callMi (k := 0) (As := [.int x1, .int x2]) (rest := []) (n := 2) (c_X10_binsOf hAd I_1 A x1 x2 _ h) hx hb hT hown hK hP hS mw_5_200 wd_X10_binsOf (by decide +kernel) ⟨rfl, rfl⟩ (by decide) rfl rfl he_X10 rfl hl.1 hml rfl (Nat.le_of_ble_eq_true rfl) dX10_bin_27 ⟨Nat.zero_le _, Nat.zero_le _⟩ (fun r27 u H locs h hP hS => ?_)
      obtain ⟨I_4, A_2⟩ := u
      dsimp only at h hP
      refine lv_goto (tgt := 34) hx hb dX10_bin_30 (by decide) ?_
      exact J r27 I_4 A_2 h _ _ _ (lv_sub hl [0, 3, 4] rfl) hP hS
theorem dX10_bins_0 : decode cX10_bins 0 = .ok (.aload_n 0, 1) := by decide +kernel
theorem dX10_bins_1 : decode cX10_bins 1 = .ok (.iconst 0, 1) := by decide +kernel
theorem dX10_bins_2 : decode cX10_bins 2 = .ok (.putfield 56, 3) := by decide +kernel
theorem dX10_bins_5 : decode cX10_bins 5 = .ok (.aload_n 0, 1) := by decide +kernel
theorem dX10_bins_6 : decode cX10_bins 6 = .ok (.iload_n 1, 1) := by decide +kernel
theorem dX10_bins_7 : decode cX10_bins 7 = .ok (.iload_n 2, 1) := by decide +kernel
theorem dX10_bins_8 : decode cX10_bins 8 = .ok (.invokevirtual 176, 3) := by decide +kernel
theorem dX10_bins_11 : decode cX10_bins 11 = .ok (.ifCond .eq 12, 3) := by decide +kernel
theorem dX10_bins_14 : decode cX10_bins 14 = .ok (.aload_n 0, 1) := by decide +kernel
theorem dX10_bins_15 : decode cX10_bins 15 = .ok (.iload_n 1, 1) := by decide +kernel
theorem dX10_bins_16 : decode cX10_bins 16 = .ok (.iload_n 2, 1) := by decide +kernel
theorem dX10_bins_17 : decode cX10_bins 17 = .ok (.invokevirtual 179, 3) := by decide +kernel
theorem dX10_bins_20 : decode cX10_bins 20 = .ok (.goto 4, 3) := by decide +kernel
theorem dX10_bins_23 : decode cX10_bins 23 = .ok (.iconst (-1), 1) := by decide +kernel
theorem dX10_bins_24 : decode cX10_bins 24 = .ok (.ireturn, 1) := by decide +kernel
def wX10_bins (I : Nat → Int32) (A : Nat → Nat → Int32) (x1 : Int32) (x2 : Int32) (post : Int32 → (Nat → Int32) → (Nat → Nat → Int32) → Prop) : Prop := (∀ I_1, I_1 = va_up I 0 0 → wX10_isCut I_1 A x1 x2 (fun r8 => if r8 = 0 then (post (-1) I_1 A) else (wX10_binsOf I_1 A x1 x2 (fun r17 I_2 A_1 => post r17 I_2 A_1))))
abbrev rmX10_bins : Room := { frames := 5, cells := 0, slots := 0, locals := 131 }
theorem wd_X10_bins : Cond.instanceMethod yX10_bins ∈ BW ∧ Cond.selects yX10_bins.cls yX10_bins yX10_bins ∈ BW ∧ Cond.initialized yX10_bins.cls ∈ BW ∧ Cond.code yX10_bins cX10_bins 3 (some .int) ∈ BW := ⟨mw_5_209, mw_5_210, mw_1_11, mw_5_211⟩
set_option maxHeartbeats 4000000 in
set_option maxRecDepth 100000 in
theorem c_X10_bins {l : Launch} {D : va_G} {cy : Nat → ClassId} {ad : Nat → Nat} {Ad : Nat → Prop} (hAd : adok 16 Ad ad) (I : Nat → Int32) (A : Nat → Nat → Int32) (x1 : Int32) (x2 : Int32)  (post : Int32 → (Nat → Int32) → (Nat → Nat → Int32) → Prop) (h : wX10_bins I A x1 x2 post) : Met l yX10_bins (.code yX10_bins cX10_bins 3 (some .int) :: BW) rmX10_bins (va_Pc [.ref (ad 0), .int x1, .int x2] (fun U => kC D cy U ∧ va_P D vwCl (wM cy ad I A) U.heap)) (qMi D cy ad Ad (fun r u => post r u.1 u.2)) 0 0 Ad := by
  refine startMi (by decide) (Nat.le_of_ble_eq_true rfl) (lv := [(0, .ref (ad 0)), (1, .int x1), (2, .int x2)]) rfl (fun p e s m args below meth c Q ls hx hb hml hT hown hK hret hl hP hS => ?_)
  unfold wX10_bins at h
  refine lv_aload_n hx hb dX10_bins_0 rfl (lv_at hl 0 rfl) ?_
  refine lv_iconst (v := 0) hx hb dX10_bins_1 (by decide) ?_
  refine pM_X10_thrown hAd hx hb hT hown hK.1 hP hS (hT _ mw_4_137) dX10_bins_2 (fun H locs hP hS => ?_)
  obtain ⟨I_1, eI_1⟩ : ∃ z, z = va_up I 0 0 := ⟨_, rfl⟩
  rw [← eI_1] at hP
  replace h := h I_1 eI_1
  refine lv_aload_n hx hb dX10_bins_5 rfl (lv_at hl 0 rfl) ?_
  refine lv_iload_n hx hb dX10_bins_6 rfl (lv_at hl 1 rfl) ?_
  refine lv_iload_n hx hb dX10_bins_7 rfl (lv_at hl 2 rfl) ?_
  refine callMi (k := 0) (As := [.int x1, .int x2]) (rest := []) (n := 2) (c_X10_isCut hAd I_1 A x1 x2 _ h) hx hb hT hown hK hP hS mw_5_196 wd_X10_isCut (by decide +kernel) ⟨rfl, rfl⟩ (by decide) rfl rfl he_X10 rfl hl.1 hml rfl (Nat.le_of_ble_eq_true rfl) dX10_bins_8 ⟨Nat.zero_le _, Nat.zero_le _⟩ (fun r8 u H locs h hP hS => ?_)
  obtain ⟨Iu, Au⟩ := u
  dsimp only at h hP
  obtain ⟨h, rfl, rfl⟩ := h
  try dsimp only at h
  refine lv_if_eq (tgt := 23) hx hb dX10_bins_11 (by decide) (fun hc => ?_) (fun hc => ?_)
  · rw [if_pos hc] at h
    refine lv_iconst (v := (-1)) hx hb dX10_bins_23 (by decide) ?_
    exact hret _ (I_1, A) dX10_bins_24 h hP hS
  · rw [if_neg hc] at h
    refine lv_aload_n hx hb dX10_bins_14 rfl (lv_at hl 0 rfl) ?_
    refine lv_iload_n hx hb dX10_bins_15 rfl (lv_at hl 1 rfl) ?_
    refine lv_iload_n hx hb dX10_bins_16 rfl (lv_at hl 2 rfl) ?_
    refine callMi (k := 0) (As := [.int x1, .int x2]) (rest := []) (n := 2) (c_X10_binsOf hAd I_1 A x1 x2 _ h) hx hb hT hown hK hP hS mw_5_200 wd_X10_binsOf (by decide +kernel) ⟨rfl, rfl⟩ (by decide) rfl rfl he_X10 rfl hl.1 hml rfl (Nat.le_of_ble_eq_true rfl) dX10_bins_17 ⟨Nat.zero_le _, Nat.zero_le _⟩ (fun r17 u H locs h hP hS => ?_)
    obtain ⟨I_2, A_1⟩ := u
    dsimp only at h hP
    refine lv_goto (tgt := 24) hx hb dX10_bins_20 (by decide) ?_
    exact hret _ (I_2, A_1) dX10_bins_24 h hP hS
theorem dX10_rowsBy_0 : decode cX10_rowsBy 0 = .ok (.iconst 0, 1) := by decide +kernel
theorem dX10_rowsBy_1 : decode cX10_rowsBy 1 = .ok (.istore_n 2, 1) := by decide +kernel
theorem dX10_rowsBy_2 : decode cX10_rowsBy 2 = .ok (.iload_n 1, 1) := by decide +kernel
theorem dX10_rowsBy_3 : decode cX10_rowsBy 3 = .ok (.istore_n 3, 1) := by decide +kernel
theorem dX10_rowsBy_4 : decode cX10_rowsBy 4 = .ok (.iconst 0, 1) := by decide +kernel
theorem dX10_rowsBy_5 : decode cX10_rowsBy 5 = .ok (.istore 4, 2) := by decide +kernel
theorem dX10_rowsBy_7 : decode cX10_rowsBy 7 = .ok (.iload 4, 2) := by decide +kernel
theorem dX10_rowsBy_9 : decode cX10_rowsBy 9 = .ok (.sipush 1999, 3) := by decide +kernel
theorem dX10_rowsBy_12 : decode cX10_rowsBy 12 = .ok (.if_icmp .ge 62, 3) := by decide +kernel
theorem dX10_rowsBy_15 : decode cX10_rowsBy 15 = .ok (.aload_n 0, 1) := by decide +kernel
theorem dX10_rowsBy_16 : decode cX10_rowsBy 16 = .ok (.getfield 44, 3) := by decide +kernel
theorem dX10_rowsBy_19 : decode cX10_rowsBy 19 = .ok (.iload 4, 2) := by decide +kernel
theorem dX10_rowsBy_21 : decode cX10_rowsBy 21 = .ok (.iaload, 1) := by decide +kernel
theorem dX10_rowsBy_22 : decode cX10_rowsBy 22 = .ok (.iload_n 1, 1) := by decide +kernel
theorem dX10_rowsBy_23 : decode cX10_rowsBy 23 = .ok (.if_icmp .le 7, 3) := by decide +kernel
theorem dX10_rowsBy_26 : decode cX10_rowsBy 26 = .ok (.sipush 1999, 3) := by decide +kernel
theorem dX10_rowsBy_29 : decode cX10_rowsBy 29 = .ok (.ireturn, 1) := by decide +kernel
theorem dX10_rowsBy_30 : decode cX10_rowsBy 30 = .ok (.aload_n 0, 1) := by decide +kernel
theorem dX10_rowsBy_31 : decode cX10_rowsBy 31 = .ok (.getfield 44, 3) := by decide +kernel
theorem dX10_rowsBy_34 : decode cX10_rowsBy 34 = .ok (.iload 4, 2) := by decide +kernel
theorem dX10_rowsBy_36 : decode cX10_rowsBy 36 = .ok (.iaload, 1) := by decide +kernel
theorem dX10_rowsBy_37 : decode cX10_rowsBy 37 = .ok (.ifCond .le 21, 3) := by decide +kernel
theorem dX10_rowsBy_40 : decode cX10_rowsBy 40 = .ok (.iload_n 3, 1) := by decide +kernel
theorem dX10_rowsBy_41 : decode cX10_rowsBy 41 = .ok (.aload_n 0, 1) := by decide +kernel
theorem dX10_rowsBy_42 : decode cX10_rowsBy 42 = .ok (.getfield 44, 3) := by decide +kernel
theorem dX10_rowsBy_45 : decode cX10_rowsBy 45 = .ok (.iload 4, 2) := by decide +kernel
theorem dX10_rowsBy_47 : decode cX10_rowsBy 47 = .ok (.iaload, 1) := by decide +kernel
theorem dX10_rowsBy_48 : decode cX10_rowsBy 48 = .ok (.iadd, 1) := by decide +kernel
theorem dX10_rowsBy_49 : decode cX10_rowsBy 49 = .ok (.iload_n 1, 1) := by decide +kernel
theorem dX10_rowsBy_50 : decode cX10_rowsBy 50 = .ok (.if_icmp .le 8, 3) := by decide +kernel
theorem dX10_rowsBy_53 : decode cX10_rowsBy 53 = .ok (.iinc 2 1, 3) := by decide +kernel
theorem dX10_rowsBy_56 : decode cX10_rowsBy 56 = .ok (.iconst 0, 1) := by decide +kernel
theorem dX10_rowsBy_57 : decode cX10_rowsBy 57 = .ok (.istore_n 3, 1) := by decide +kernel
theorem dX10_rowsBy_58 : decode cX10_rowsBy 58 = .ok (.iload_n 3, 1) := by decide +kernel
theorem dX10_rowsBy_59 : decode cX10_rowsBy 59 = .ok (.aload_n 0, 1) := by decide +kernel
theorem dX10_rowsBy_60 : decode cX10_rowsBy 60 = .ok (.getfield 44, 3) := by decide +kernel
theorem dX10_rowsBy_63 : decode cX10_rowsBy 63 = .ok (.iload 4, 2) := by decide +kernel
theorem dX10_rowsBy_65 : decode cX10_rowsBy 65 = .ok (.iaload, 1) := by decide +kernel
theorem dX10_rowsBy_66 : decode cX10_rowsBy 66 = .ok (.iadd, 1) := by decide +kernel
theorem dX10_rowsBy_67 : decode cX10_rowsBy 67 = .ok (.istore_n 3, 1) := by decide +kernel
theorem dX10_rowsBy_68 : decode cX10_rowsBy 68 = .ok (.iinc 4 1, 3) := by decide +kernel
theorem dX10_rowsBy_71 : decode cX10_rowsBy 71 = .ok (.goto (-64), 3) := by decide +kernel
theorem dX10_rowsBy_74 : decode cX10_rowsBy 74 = .ok (.iload_n 2, 1) := by decide +kernel
theorem dX10_rowsBy_75 : decode cX10_rowsBy 75 = .ok (.ireturn, 1) := by decide +kernel
def wX10_rowsBy (I : Nat → Int32) (A : Nat → Nat → Int32) (x1 : Int32) (post : Int32 → Prop) : Prop := ∃ n, lfix (fun (r : (Int32 × Int32 × Int32) → Prop) (v4, v3, v2) => if 1999 ≤ v4 then (post v2) else (vp_in v4 1999 ∧ (if (A 12 v4.toNatClampNeg) ≤ x1 then (vp_in v4 1999 ∧ (jn (fun (z : Int32 × Int32) => match z with | (v3_1, v2_1) => vp_in v4 1999 ∧ (∀ v3_2 : Int32, v3_2 = v3_1 + (A 12 v4.toNatClampNeg) → ∀ v4_1 : Int32, v4_1 = v4 + 1 → r (v4_1, v3_2, v2_1))) (fun k => if (A 12 v4.toNatClampNeg) ≤ 0 then (k (v3, v2)) else (vp_in v4 1999 ∧ (if (v3 + (A 12 v4.toNatClampNeg)) ≤ x1 then (k (v3, v2)) else (∀ v2_2 : Int32, v2_2 = v2 + 1 → k (0, v2_2))))))) else (post 1999)))) n (0, x1, 0)
abbrev rmX10_rowsBy : Room := { frames := 0, cells := 0, slots := 0, locals := 0 }
theorem wd_X10_rowsBy : Cond.instanceMethod yX10_rowsBy ∈ BW ∧ Cond.selects yX10_rowsBy.cls yX10_rowsBy yX10_rowsBy ∈ BW ∧ Cond.initialized yX10_rowsBy.cls ∈ BW ∧ Cond.code yX10_rowsBy cX10_rowsBy 5 (some .int) ∈ BW := ⟨mw_5_218, mp_50, mw_1_11, mw_5_219⟩
set_option maxHeartbeats 4000000 in
set_option maxRecDepth 100000 in
theorem c_X10_rowsBy {l : Launch} {D : va_G} {cy : Nat → ClassId} {ad : Nat → Nat} {Ad : Nat → Prop} (hAd : adok 16 Ad ad) (I : Nat → Int32) (A : Nat → Nat → Int32) (x1 : Int32)  (post : Int32 → Prop) (h : wX10_rowsBy I A x1 post) : Met l yX10_rowsBy (.code yX10_rowsBy cX10_rowsBy 5 (some .int) :: BW) rmX10_rowsBy (va_Pc [.ref (ad 0), .int x1] (fun U => kC D cy U ∧ va_P D vwCl (wM cy ad I A) U.heap)) (qMi D cy ad Ad (fun r u => post r  ∧ I = u.1 ∧ A = u.2)) 0 0 Ad := by
  refine startMi (by decide) (Nat.le_of_ble_eq_true rfl) (lv := [(0, .ref (ad 0)), (1, .int x1)]) rfl (fun p e s m args below meth c Q ls hx hb hml hT hown hK hret hl hP hS => ?_)
  unfold wX10_rowsBy at h
  refine lv_iconst (v := 0) hx hb dX10_rowsBy_0 (by decide) ?_
  refine lv_istore_n (lv' := [(2, .int 0), (0, .ref (ad 0)), (1, .int x1)]) hx hb dX10_rowsBy_1 rfl hl (by decide) rfl (fun ls hl => ?_)
  refine lv_iload_n hx hb dX10_rowsBy_2 rfl (lv_at hl 2 rfl) ?_
  refine lv_istore_n (lv' := [(3, .int x1), (2, .int 0), (0, .ref (ad 0)), (1, .int x1)]) hx hb dX10_rowsBy_3 rfl hl (by decide) rfl (fun ls hl => ?_)
  refine lv_iconst (v := 0) hx hb dX10_rowsBy_4 (by decide) ?_
  refine lv_istore (lv' := [(4, .int 0), (3, .int x1), (2, .int 0), (0, .ref (ad 0)), (1, .int x1)]) hx hb dX10_rowsBy_5 hl (by decide) rfl (fun ls hl => ?_)
  obtain ⟨F, n, h, hF, hG⟩ := lfix_ex h
  have LP : ∀ (n : Nat) (v4 : Int32) (v3 : Int32) (v2 : Int32) (ls : Array Slot) (H : Heap) (locs : List Loc), F n (v4, v3, v2) → lv_has ls 5 [(4, .int v4), (3, .int v3), (2, .int v2), (0, .ref (ad 0)), (1, .int x1)] → va_P D vwCl (wM cy ad I A) H → va_S Ad s.heap H locs → W p l e rmX10_rowsBy s m args below meth c H locs 0 0 Q (F0 m 7 ls []) := by
    intro n
    induction n with
    | zero => intro v4 v3 v2 ls H locs h _ _ _; exact absurd h (hF _)
    | succ n ih =>
      intro v4 v3 v2 ls H locs h hl hP hS
      replace h := hG _ _ h
      try dsimp only at h
      refine lv_iload hx hb dX10_rowsBy_7 (lv_at hl 0 rfl) ?_
      refine lv_sipush (v := 1999) hx hb dX10_rowsBy_9 (by decide) ?_
      refine lv_icmp_ge (tgt := 74) hx hb dX10_rowsBy_12 (by decide) (fun hc => ?_) (fun hc => ?_)
      · rw [if_pos hc] at h
        refine lv_iload_n hx hb dX10_rowsBy_74 rfl (lv_at hl 2 rfl) ?_
        exact hret _ (I, A) dX10_rowsBy_75 ⟨h, rfl, rfl⟩ hP hS
      · rw [if_neg hc] at h
        refine lv_aload_n hx hb dX10_rowsBy_15 rfl (lv_at hl 3 rfl) ?_
        refine va_get (T := TX10) hx hb hT inlX10 hown hK.1 hP 0 he_X10 rfl 17 (by decide) (hT _ mw_4_154) (fun _ h9 => h9) rfl dX10_rowsBy_16 ?_
        refine lv_iload hx hb dX10_rowsBy_19 (lv_at hl 0 rfl) ?_
        obtain ⟨hi, h⟩ := h
        refine lM_I hx hb hK.1 hP (by decide) rfl hi dX10_rowsBy_21 ?_
        refine lv_iload_n hx hb dX10_rowsBy_22 rfl (lv_at hl 4 rfl) ?_
        refine lv_icmp_le (tgt := 30) hx hb dX10_rowsBy_23 (by decide) (fun hc_1 => ?_) (fun hc_1 => ?_)
        · rw [if_pos hc_1] at h
          refine lv_aload_n hx hb dX10_rowsBy_30 rfl (lv_at hl 3 rfl) ?_
          refine va_get (T := TX10) hx hb hT inlX10 hown hK.1 hP 0 he_X10 rfl 17 (by decide) (hT _ mw_4_154) (fun _ h9 => h9) rfl dX10_rowsBy_31 ?_
          refine lv_iload hx hb dX10_rowsBy_34 (lv_at hl 0 rfl) ?_
          obtain ⟨hi_1, h⟩ := h
          refine lM_I hx hb hK.1 hP (by decide) rfl hi_1 dX10_rowsBy_36 ?_
          obtain ⟨k, hk, h⟩ := jn_ex h
          try dsimp only at h
          have J : ∀ (v3_1 : Int32) (v2_1 : Int32), k (v3_1, v2_1) → ∀ (ls : Array Slot) (H : Heap) (locs : List Loc), lv_has ls 5 [(4, .int v4), (3, .int v3_1), (2, .int v2_1), (0, .ref (ad 0)), (1, .int x1)] → va_P D vwCl (wM cy ad I A) H → va_S Ad s.heap H locs → W p l e rmX10_rowsBy s m args below meth c H locs 0 0 Q (F0 m 58 ls []) := by
            intro v3_1 v2_1 h ls H locs hl hP hS
            replace h := hk _ h
            try dsimp only at h
            refine lv_iload_n hx hb dX10_rowsBy_58 rfl (lv_at hl 1 rfl) ?_
            refine lv_aload_n hx hb dX10_rowsBy_59 rfl (lv_at hl 3 rfl) ?_
            refine va_get (T := TX10) hx hb hT inlX10 hown hK.1 hP 0 he_X10 rfl 17 (by decide) (hT _ mw_4_154) (fun _ h9 => h9) rfl dX10_rowsBy_60 ?_
            refine lv_iload hx hb dX10_rowsBy_63 (lv_at hl 0 rfl) ?_
            obtain ⟨hi_2, h⟩ := h
            refine lM_I hx hb hK.1 hP (by decide) rfl hi_2 dX10_rowsBy_65 ?_
            refine lv_iadd hx hb dX10_rowsBy_66 ?_
            refine lv_topi (fun v3_2 ev3_2 => ?_)
            replace h := h v3_2 ev3_2
            refine lv_istore_n (lv' := [(3, .int v3_2), (4, .int v4), (2, .int v2_1), (0, .ref (ad 0)), (1, .int x1)]) hx hb dX10_rowsBy_67 rfl hl (by decide) rfl (fun ls hl => ?_)
            obtain ⟨v4_1, ev4_1⟩ : ∃ z : Int32, z = v4 + 1 := ⟨_, rfl⟩
            replace h := h v4_1 ev4_1
            refine lv_iinc (v := v4_1) (lv' := [(4, .int v4_1), (3, .int v3_2), (2, .int v2_1), (0, .ref (ad 0)), (1, .int x1)]) hx hb dX10_rowsBy_68 hl (k := 1) rfl (by rw [ev4_1]; rfl) (by decide) rfl (fun ls hl => ?_)
            refine lv_goto (tgt := 7) hx hb dX10_rowsBy_71 (by decide) ?_
            exact ih v4_1 v3_2 v2_1 _ _ _ h (lv_sub hl [0, 1, 2, 3, 4] rfl) hP hS
          refine lv_if_le (tgt := 58) hx hb dX10_rowsBy_37 (by decide) (fun hc_2 => ?_) (fun hc_2 => ?_)
          · rw [if_pos hc_2] at h
            exact J v3 v2 h _ _ _ (lv_sub hl [0, 1, 2, 3, 4] rfl) hP hS
          · rw [if_neg hc_2] at h
            refine lv_iload_n hx hb dX10_rowsBy_40 rfl (lv_at hl 1 rfl) ?_
            refine lv_aload_n hx hb dX10_rowsBy_41 rfl (lv_at hl 3 rfl) ?_
            refine va_get (T := TX10) hx hb hT inlX10 hown hK.1 hP 0 he_X10 rfl 17 (by decide) (hT _ mw_4_154) (fun _ h9 => h9) rfl dX10_rowsBy_42 ?_
            refine lv_iload hx hb dX10_rowsBy_45 (lv_at hl 0 rfl) ?_
            obtain ⟨hi_3, h⟩ := h
            refine lM_I hx hb hK.1 hP (by decide) rfl hi_3 dX10_rowsBy_47 ?_
            refine lv_iadd hx hb dX10_rowsBy_48 ?_
            refine lv_iload_n hx hb dX10_rowsBy_49 rfl (lv_at hl 4 rfl) ?_
            refine lv_icmp_le (tgt := 58) hx hb dX10_rowsBy_50 (by decide) (fun hc_3 => ?_) (fun hc_3 => ?_)
            · rw [if_pos hc_3] at h
              exact J v3 v2 h _ _ _ (lv_sub hl [0, 1, 2, 3, 4] rfl) hP hS
            · rw [if_neg hc_3] at h
              obtain ⟨v2_2, ev2_2⟩ : ∃ z : Int32, z = v2 + 1 := ⟨_, rfl⟩
              replace h := h v2_2 ev2_2
              refine lv_iinc (v := v2_2) (lv' := [(2, .int v2_2), (4, .int v4), (3, .int v3), (0, .ref (ad 0)), (1, .int x1)]) hx hb dX10_rowsBy_53 hl (k := 2) rfl (by rw [ev2_2]; rfl) (by decide) rfl (fun ls hl => ?_)
              refine lv_iconst (v := 0) hx hb dX10_rowsBy_56 (by decide) ?_
              refine lv_istore_n (lv' := [(3, .int 0), (2, .int v2_2), (4, .int v4), (0, .ref (ad 0)), (1, .int x1)]) hx hb dX10_rowsBy_57 rfl hl (by decide) rfl (fun ls hl => ?_)
              exact J 0 v2_2 h _ _ _ (lv_sub hl [2, 0, 1, 3, 4] rfl) hP hS
        · rw [if_neg hc_1] at h
          refine lv_sipush (v := 1999) hx hb dX10_rowsBy_26 (by decide) ?_
          exact hret _ (I, A) dX10_rowsBy_29 ⟨h, rfl, rfl⟩ hP hS
  exact LP _ 0 x1 0 _ _ _ h (lv_sub hl [0, 1, 2, 3, 4] rfl) hP hS
theorem dX10_even_0 : decode cX10_even 0 = .ok (.aload_n 0, 1) := by decide +kernel
theorem dX10_even_1 : decode cX10_even 1 = .ok (.iconst 0, 1) := by decide +kernel
theorem dX10_even_2 : decode cX10_even 2 = .ok (.putfield 56, 3) := by decide +kernel
theorem dX10_even_5 : decode cX10_even 5 = .ok (.aload_n 0, 1) := by decide +kernel
theorem dX10_even_6 : decode cX10_even 6 = .ok (.iload_n 1, 1) := by decide +kernel
theorem dX10_even_7 : decode cX10_even 7 = .ok (.iload_n 2, 1) := by decide +kernel
theorem dX10_even_8 : decode cX10_even 8 = .ok (.invokevirtual 176, 3) := by decide +kernel
theorem dX10_even_11 : decode cX10_even 11 = .ok (.ifCond .ne 5, 3) := by decide +kernel
theorem dX10_even_14 : decode cX10_even 14 = .ok (.iconst (-1), 1) := by decide +kernel
theorem dX10_even_15 : decode cX10_even 15 = .ok (.ireturn, 1) := by decide +kernel
theorem dX10_even_16 : decode cX10_even 16 = .ok (.aload_n 0, 1) := by decide +kernel
theorem dX10_even_17 : decode cX10_even 17 = .ok (.iload_n 1, 1) := by decide +kernel
theorem dX10_even_18 : decode cX10_even 18 = .ok (.iload_n 1, 1) := by decide +kernel
theorem dX10_even_19 : decode cX10_even 19 = .ok (.invokevirtual 173, 3) := by decide +kernel
theorem dX10_even_22 : decode cX10_even 22 = .ok (.iconst 0, 1) := by decide +kernel
theorem dX10_even_23 : decode cX10_even 23 = .ok (.istore_n 3, 1) := by decide +kernel
theorem dX10_even_24 : decode cX10_even 24 = .ok (.aload_n 0, 1) := by decide +kernel
theorem dX10_even_25 : decode cX10_even 25 = .ok (.getfield 170, 3) := by decide +kernel
theorem dX10_even_28 : decode cX10_even 28 = .ok (.ifCond .le 22, 3) := by decide +kernel
theorem dX10_even_31 : decode cX10_even 31 = .ok (.iload_n 3, 1) := by decide +kernel
theorem dX10_even_32 : decode cX10_even 32 = .ok (.ifCond .eq 12, 3) := by decide +kernel
theorem dX10_even_35 : decode cX10_even 35 = .ok (.aload_n 0, 1) := by decide +kernel
theorem dX10_even_36 : decode cX10_even 36 = .ok (.iload_n 3, 1) := by decide +kernel
theorem dX10_even_37 : decode cX10_even 37 = .ok (.invokevirtual 183, 3) := by decide +kernel
theorem dX10_even_40 : decode cX10_even 40 = .ok (.iload_n 2, 1) := by decide +kernel
theorem dX10_even_41 : decode cX10_even 41 = .ok (.if_icmp .le 9, 3) := by decide +kernel
theorem dX10_even_44 : decode cX10_even 44 = .ok (.iinc 3 1, 3) := by decide +kernel
theorem dX10_even_47 : decode cX10_even 47 = .ok (.goto (-23), 3) := by decide +kernel
theorem dX10_even_50 : decode cX10_even 50 = .ok (.iload_n 3, 1) := by decide +kernel
theorem dX10_even_51 : decode cX10_even 51 = .ok (.ireturn, 1) := by decide +kernel
def wX10_even (I : Nat → Int32) (A : Nat → Nat → Int32) (x1 : Int32) (x2 : Int32) (post : Int32 → (Nat → Int32) → (Nat → Nat → Int32) → Prop) : Prop := (∀ I_1, I_1 = va_up I 0 0 → wX10_isCut I_1 A x1 x2 (fun r8 => if r8 = 0 then (post (-1) I_1 A) else (wX10_numbersOf I_1 A x1 x1 (fun I_2 A_1 => ∃ n, lfix (fun (r : Int32 → Prop) v3 => if (I_2 6) ≤ 0 then (post v3 I_2 A_1) else (if v3 = 0 then (∀ v3_1 : Int32, v3_1 = v3 + 1 → r v3_1) else (wX10_rowsBy I_2 A_1 v3 (fun r37 => if r37 ≤ x2 then (post v3 I_2 A_1) else (∀ v3_2 : Int32, v3_2 = v3 + 1 → r v3_2))))) n 0))))
abbrev rmX10_even : Room := { frames := 4, cells := 0, slots := 0, locals := 103 }
theorem wd_X10_even : Cond.instanceMethod yX10_even ∈ BW ∧ Cond.selects yX10_even.cls yX10_even yX10_even ∈ BW ∧ Cond.initialized yX10_even.cls ∈ BW ∧ Cond.code yX10_even cX10_even 4 (some .int) ∈ BW := ⟨mw_5_213, mw_5_214, mw_1_11, mw_5_215⟩
set_option maxHeartbeats 4000000 in
set_option maxRecDepth 100000 in
theorem c_X10_even {l : Launch} {D : va_G} {cy : Nat → ClassId} {ad : Nat → Nat} {Ad : Nat → Prop} (hAd : adok 16 Ad ad) (I : Nat → Int32) (A : Nat → Nat → Int32) (x1 : Int32) (x2 : Int32)  (post : Int32 → (Nat → Int32) → (Nat → Nat → Int32) → Prop) (h : wX10_even I A x1 x2 post) : Met l yX10_even (.code yX10_even cX10_even 4 (some .int) :: BW) rmX10_even (va_Pc [.ref (ad 0), .int x1, .int x2] (fun U => kC D cy U ∧ va_P D vwCl (wM cy ad I A) U.heap)) (qMi D cy ad Ad (fun r u => post r u.1 u.2)) 0 0 Ad := by
  refine startMi (by decide) (Nat.le_of_ble_eq_true rfl) (lv := [(0, .ref (ad 0)), (1, .int x1), (2, .int x2)]) rfl (fun p e s m args below meth c Q ls hx hb hml hT hown hK hret hl hP hS => ?_)
  unfold wX10_even at h
  refine lv_aload_n hx hb dX10_even_0 rfl (lv_at hl 0 rfl) ?_
  refine lv_iconst (v := 0) hx hb dX10_even_1 (by decide) ?_
  refine pM_X10_thrown hAd hx hb hT hown hK.1 hP hS (hT _ mw_4_137) dX10_even_2 (fun H locs hP hS => ?_)
  obtain ⟨I_1, eI_1⟩ : ∃ z, z = va_up I 0 0 := ⟨_, rfl⟩
  rw [← eI_1] at hP
  replace h := h I_1 eI_1
  refine lv_aload_n hx hb dX10_even_5 rfl (lv_at hl 0 rfl) ?_
  refine lv_iload_n hx hb dX10_even_6 rfl (lv_at hl 1 rfl) ?_
  refine lv_iload_n hx hb dX10_even_7 rfl (lv_at hl 2 rfl) ?_
  refine callMi (k := 0) (As := [.int x1, .int x2]) (rest := []) (n := 2) (c_X10_isCut hAd I_1 A x1 x2 _ h) hx hb hT hown hK hP hS mw_5_196 wd_X10_isCut (by decide +kernel) ⟨rfl, rfl⟩ (by decide) rfl rfl he_X10 rfl hl.1 hml rfl (Nat.le_of_ble_eq_true rfl) dX10_even_8 ⟨Nat.zero_le _, Nat.zero_le _⟩ (fun r8 u H locs h hP hS => ?_)
  obtain ⟨Iu, Au⟩ := u
  dsimp only at h hP
  obtain ⟨h, rfl, rfl⟩ := h
  try dsimp only at h
  refine lv_if_ne (tgt := 16) hx hb dX10_even_11 (by decide) (fun hc => ?_) (fun hc => ?_)
  · rw [if_neg hc] at h
    refine lv_aload_n hx hb dX10_even_16 rfl (lv_at hl 0 rfl) ?_
    refine lv_iload_n hx hb dX10_even_17 rfl (lv_at hl 1 rfl) ?_
    refine lv_iload_n hx hb dX10_even_18 rfl (lv_at hl 1 rfl) ?_
    refine callMv (k := 0) (As := [.int x1, .int x1]) (rest := []) (n := 2) (c_X10_numbersOf hAd I_1 A x1 x1 _ h) hx hb hT hown hK hP hS mw_5_204 wd_X10_numbersOf (by decide +kernel) ⟨rfl, rfl⟩ (by decide) rfl rfl he_X10 rfl hl.1 hml rfl (Nat.le_of_ble_eq_true rfl) dX10_even_19 ⟨Nat.zero_le _, Nat.zero_le _⟩ (fun u H locs h hP hS => ?_)
    obtain ⟨I_2, A_1⟩ := u
    dsimp only at h hP
    refine lv_iconst (v := 0) hx hb dX10_even_22 (by decide) ?_
    refine lv_istore_n (lv' := [(3, .int 0), (0, .ref (ad 0)), (1, .int x1), (2, .int x2)]) hx hb dX10_even_23 rfl hl (by decide) rfl (fun ls hl => ?_)
    obtain ⟨F, n, h, hF, hG⟩ := lfix_ex h
    have LP : ∀ (n : Nat) (v3 : Int32) (ls : Array Slot) (H : Heap) (locs : List Loc), F n v3 → lv_has ls 4 [(3, .int v3), (0, .ref (ad 0)), (2, .int x2)] → va_P D vwCl (wM cy ad I_2 A_1) H → va_S Ad s.heap H locs → W p l e rmX10_even s m args below meth c H locs 0 0 Q (F0 m 24 ls []) := by
      intro n
      induction n with
      | zero => intro v3 ls H locs h _ _ _; exact absurd h (hF _)
      | succ n ih =>
        intro v3 ls H locs h hl hP hS
        replace h := hG _ _ h
        try dsimp only at h
        refine lv_aload_n hx hb dX10_even_24 rfl (lv_at hl 1 rfl) ?_
        refine va_get (T := TX10) hx hb hT inlX10 hown hK.1 hP 0 he_X10 rfl 18 (by decide) (hT _ mw_4_155) (fun _ h9 => h9) rfl dX10_even_25 ?_
        refine lv_if_le (tgt := 50) hx hb dX10_even_28 (by decide) (fun hc_1 => ?_) (fun hc_1 => ?_)
        · rw [if_pos hc_1] at h
          refine lv_iload_n hx hb dX10_even_50 rfl (lv_at hl 0 rfl) ?_
          exact hret _ (I_2, A_1) dX10_even_51 h hP hS
        · rw [if_neg hc_1] at h
          refine lv_iload_n hx hb dX10_even_31 rfl (lv_at hl 0 rfl) ?_
          refine lv_if_eq (tgt := 44) hx hb dX10_even_32 (by decide) (fun hc_2 => ?_) (fun hc_2 => ?_)
          · rw [if_pos hc_2] at h
            obtain ⟨v3_1, ev3_1⟩ : ∃ z : Int32, z = v3 + 1 := ⟨_, rfl⟩
            replace h := h v3_1 ev3_1
            refine lv_iinc (v := v3_1) (lv' := [(3, .int v3_1), (0, .ref (ad 0)), (2, .int x2)]) hx hb dX10_even_44 hl (k := 0) rfl (by rw [ev3_1]; rfl) (by decide) rfl (fun ls hl => ?_)
            refine lv_goto (tgt := 24) hx hb dX10_even_47 (by decide) ?_
            exact ih v3_1 _ _ _ h (lv_sub hl [0, 1, 2] rfl) hP hS
          · rw [if_neg hc_2] at h
            refine lv_aload_n hx hb dX10_even_35 rfl (lv_at hl 1 rfl) ?_
            refine lv_iload_n hx hb dX10_even_36 rfl (lv_at hl 0 rfl) ?_
            refine callMi (k := 0) (As := [.int v3]) (rest := []) (n := 1) (c_X10_rowsBy hAd I_2 A_1 v3 _ h) hx hb hT hown hK hP hS mw_5_216 wd_X10_rowsBy (by decide +kernel) ⟨rfl, rfl⟩ (by decide) rfl rfl he_X10 rfl hl.1 hml rfl (Nat.le_of_ble_eq_true rfl) dX10_even_37 ⟨Nat.zero_le _, Nat.zero_le _⟩ (fun r37 u H locs h hP hS => ?_)
            obtain ⟨Iu_1, Au_1⟩ := u
            dsimp only at h hP
            obtain ⟨h, rfl, rfl⟩ := h
            try dsimp only at h
            refine lv_iload_n hx hb dX10_even_40 rfl (lv_at hl 2 rfl) ?_
            refine lv_icmp_le (tgt := 50) hx hb dX10_even_41 (by decide) (fun hc_3 => ?_) (fun hc_3 => ?_)
            · rw [if_pos hc_3] at h
              refine lv_iload_n hx hb dX10_even_50 rfl (lv_at hl 0 rfl) ?_
              exact hret _ (I_2, A_1) dX10_even_51 h hP hS
            · rw [if_neg hc_3] at h
              obtain ⟨v3_2, ev3_2⟩ : ∃ z : Int32, z = v3 + 1 := ⟨_, rfl⟩
              replace h := h v3_2 ev3_2
              refine lv_iinc (v := v3_2) (lv' := [(3, .int v3_2), (0, .ref (ad 0)), (2, .int x2)]) hx hb dX10_even_44 hl (k := 0) rfl (by rw [ev3_2]; rfl) (by decide) rfl (fun ls hl => ?_)
              refine lv_goto (tgt := 24) hx hb dX10_even_47 (by decide) ?_
              exact ih v3_2 _ _ _ h (lv_sub hl [0, 1, 2] rfl) hP hS
    exact LP _ 0 _ _ _ h (lv_sub hl [0, 1, 3] rfl) hP hS
  · rw [if_pos hc] at h
    refine lv_iconst (v := (-1)) hx hb dX10_even_14 (by decide) ?_
    exact hret _ (I_1, A) dX10_even_15 h hP hS
theorem dX10_tells_0 : decode cX10_tells 0 = .ok (.iconst 0, 1) := by decide +kernel
theorem dX10_tells_1 : decode cX10_tells 1 = .ok (.istore_n 2, 1) := by decide +kernel
theorem dX10_tells_2 : decode cX10_tells 2 = .ok (.iload_n 2, 1) := by decide +kernel
theorem dX10_tells_3 : decode cX10_tells 3 = .ok (.aload_n 0, 1) := by decide +kernel
theorem dX10_tells_4 : decode cX10_tells 4 = .ok (.getfield 67, 3) := by decide +kernel
theorem dX10_tells_7 : decode cX10_tells 7 = .ok (.if_icmp .ge 34, 3) := by decide +kernel
theorem dX10_tells_10 : decode cX10_tells 10 = .ok (.aload_n 0, 1) := by decide +kernel
theorem dX10_tells_11 : decode cX10_tells 11 = .ok (.getfield 50, 3) := by decide +kernel
theorem dX10_tells_14 : decode cX10_tells 14 = .ok (.iload_n 2, 1) := by decide +kernel
theorem dX10_tells_15 : decode cX10_tells 15 = .ok (.aload_n 0, 1) := by decide +kernel
theorem dX10_tells_16 : decode cX10_tells 16 = .ok (.getfield 13, 3) := by decide +kernel
theorem dX10_tells_19 : decode cX10_tells 19 = .ok (.iload_n 2, 1) := by decide +kernel
theorem dX10_tells_20 : decode cX10_tells 20 = .ok (.iaload, 1) := by decide +kernel
theorem dX10_tells_21 : decode cX10_tells 21 = .ok (.iload_n 1, 1) := by decide +kernel
theorem dX10_tells_22 : decode cX10_tells 22 = .ok (.if_icmp .ne 11, 3) := by decide +kernel
theorem dX10_tells_25 : decode cX10_tells 25 = .ok (.aload_n 0, 1) := by decide +kernel
theorem dX10_tells_26 : decode cX10_tells 26 = .ok (.iload_n 2, 1) := by decide +kernel
theorem dX10_tells_27 : decode cX10_tells 27 = .ok (.invokevirtual 158, 3) := by decide +kernel
theorem dX10_tells_30 : decode cX10_tells 30 = .ok (.goto 4, 3) := by decide +kernel
theorem dX10_tells_33 : decode cX10_tells 33 = .ok (.iconst (-1), 1) := by decide +kernel
theorem dX10_tells_34 : decode cX10_tells 34 = .ok (.iastore, 1) := by decide +kernel
theorem dX10_tells_35 : decode cX10_tells 35 = .ok (.iinc 2 1, 3) := by decide +kernel
theorem dX10_tells_38 : decode cX10_tells 38 = .ok (.goto (-36), 3) := by decide +kernel
theorem dX10_tells_41 : decode cX10_tells 41 = .ok (.return_, 1) := by decide +kernel
def wX10_tells (I : Nat → Int32) (A : Nat → Nat → Int32) (x1 : Int32) (post : (Nat → Nat → Int32) → Prop) : Prop := ∃ n, lfix (fun (r : (Int32 × (Nat → Nat → Int32)) → Prop) (v2, A_1) => if (I 2) ≤ v2 then (post A_1) else (vp_in v2 40 ∧ (jn (fun (t : Int32) => vp_in v2 40 ∧ (∀ A_2, A_2 = va_up A_1 14 (upd (A_1 14) v2.toNatClampNeg t) → ∀ v2_1 : Int32, v2_1 = v2 + 1 → r (v2_1, A_2))) (fun k => if (A_1 2 v2.toNatClampNeg) = x1 then (wX10_shownOf I A_1 v2 (fun r27 => k r27)) else (k (-1)))))) n (0, A)
abbrev rmX10_tells : Room := { frames := 5, cells := 0, slots := 0, locals := 125 }
theorem wd_X10_tells : Cond.instanceMethod yX10_tells ∈ BW ∧ Cond.selects yX10_tells.cls yX10_tells yX10_tells ∈ BW ∧ Cond.initialized yX10_tells.cls ∈ BW ∧ Cond.code yX10_tells cX10_tells 3 (none : Option Jvm.ClassFile.FieldType) ∈ BW := ⟨mw_5_226, mp_51, mw_1_11, mw_5_227⟩
set_option maxHeartbeats 4000000 in
set_option maxRecDepth 100000 in
theorem c_X10_tells {l : Launch} {D : va_G} {cy : Nat → ClassId} {ad : Nat → Nat} {Ad : Nat → Prop} (hAd : adok 16 Ad ad) (I : Nat → Int32) (A : Nat → Nat → Int32) (x1 : Int32)  (post : (Nat → Nat → Int32) → Prop) (h : wX10_tells I A x1 post) : Met l yX10_tells (.code yX10_tells cX10_tells 3 (none : Option Jvm.ClassFile.FieldType) :: BW) rmX10_tells (va_Pc [.ref (ad 0), .int x1] (fun U => kC D cy U ∧ va_P D vwCl (wM cy ad I A) U.heap)) (qMv D cy ad Ad (fun u => post u.2 ∧ I = u.1)) 0 0 Ad := by
  refine startMv (by decide) (Nat.le_of_ble_eq_true rfl) (lv := [(0, .ref (ad 0)), (1, .int x1)]) rfl (fun p e s m args below meth c Q ls hx hb hml hT hown hK hret hl hP hS => ?_)
  unfold wX10_tells at h
  refine lv_iconst (v := 0) hx hb dX10_tells_0 (by decide) ?_
  refine lv_istore_n (lv' := [(2, .int 0), (0, .ref (ad 0)), (1, .int x1)]) hx hb dX10_tells_1 rfl hl (by decide) rfl (fun ls hl => ?_)
  obtain ⟨F, n, h, hF, hG⟩ := lfix_ex h
  have LP : ∀ (n : Nat) (v2 : Int32) (A_1 : Nat → Nat → Int32) (ls : Array Slot) (H : Heap) (locs : List Loc), F n (v2, A_1) → lv_has ls 3 [(2, .int v2), (0, .ref (ad 0)), (1, .int x1)] → va_P D vwCl (wM cy ad I A_1) H → va_S Ad s.heap H locs → W p l e rmX10_tells s m args below meth c H locs 0 0 Q (F0 m 2 ls []) := by
    intro n
    induction n with
    | zero => intro v2 A_1 ls H locs h _ _ _; exact absurd h (hF _)
    | succ n ih =>
      intro v2 A_1 ls H locs h hl hP hS
      replace h := hG _ _ h
      try dsimp only at h
      refine lv_iload_n hx hb dX10_tells_2 rfl (lv_at hl 0 rfl) ?_
      refine lv_aload_n hx hb dX10_tells_3 rfl (lv_at hl 1 rfl) ?_
      refine va_get (T := TX10) hx hb hT inlX10 hown hK.1 hP 0 he_X10 rfl 2 (by decide) (hT _ mw_4_139) (fun _ h9 => h9) rfl dX10_tells_4 ?_
      refine lv_icmp_ge (tgt := 41) hx hb dX10_tells_7 (by decide) (fun hc => ?_) (fun hc => ?_)
      · rw [if_pos hc] at h
        exact hret (I, A_1) dX10_tells_41 ⟨h, rfl⟩ hP hS
      · rw [if_neg hc] at h
        refine lv_aload_n hx hb dX10_tells_10 rfl (lv_at hl 1 rfl) ?_
        refine va_get (T := TX10) hx hb hT inlX10 hown hK.1 hP 0 he_X10 rfl 20 (by decide) (hT _ mw_4_157) (fun _ h9 => h9) rfl dX10_tells_11 ?_
        refine lv_iload_n hx hb dX10_tells_14 rfl (lv_at hl 0 rfl) ?_
        refine lv_aload_n hx hb dX10_tells_15 rfl (lv_at hl 1 rfl) ?_
        refine va_get (T := TX10) hx hb hT inlX10 hown hK.1 hP 0 he_X10 rfl 5 (by decide) (hT _ mw_4_142) (fun _ h9 => h9) rfl dX10_tells_16 ?_
        refine lv_iload_n hx hb dX10_tells_19 rfl (lv_at hl 0 rfl) ?_
        obtain ⟨hi, h⟩ := h
        refine lM_I hx hb hK.1 hP (by decide) rfl hi dX10_tells_20 ?_
        refine lv_iload_n hx hb dX10_tells_21 rfl (lv_at hl 2 rfl) ?_
        obtain ⟨k, hk, h⟩ := jn_ex h
        try dsimp only at h
        have J : ∀ (t : Int32), k t → ∀ (ls : Array Slot) (H : Heap) (locs : List Loc), lv_has ls 3 [(2, .int v2), (0, .ref (ad 0)), (1, .int x1)] → va_P D vwCl (wM cy ad I A_1) H → va_S Ad s.heap H locs → W p l e rmX10_tells s m args below meth c H locs 0 0 Q (F0 m 34 ls [.int t, .int v2, .ref (ad 14)]) := by
          intro t h ls H locs hl hP hS
          replace h := hk _ h
          try dsimp only at h
          obtain ⟨hi_1, h⟩ := h
          refine sM_I hAd hx hb hK.1 hP hS (by decide) (fun _ => rfl) hi_1 dX10_tells_34 (fun H locs hP hS => ?_)
          obtain ⟨A_2, eA_2⟩ : ∃ z, z = va_up A_1 14 (upd (A_1 14) v2.toNatClampNeg t) := ⟨_, rfl⟩
          rw [← eA_2] at hP
          replace h := h A_2 eA_2
          obtain ⟨v2_1, ev2_1⟩ : ∃ z : Int32, z = v2 + 1 := ⟨_, rfl⟩
          replace h := h v2_1 ev2_1
          refine lv_iinc (v := v2_1) (lv' := [(2, .int v2_1), (0, .ref (ad 0)), (1, .int x1)]) hx hb dX10_tells_35 hl (k := 0) rfl (by rw [ev2_1]; rfl) (by decide) rfl (fun ls hl => ?_)
          refine lv_goto (tgt := 2) hx hb dX10_tells_38 (by decide) ?_
          exact ih v2_1 A_2 _ _ _ h (lv_sub hl [0, 1, 2] rfl) hP hS
        refine lv_icmp_ne (tgt := 33) hx hb dX10_tells_22 (by decide) (fun hc_1 => ?_) (fun hc_1 => ?_)
        · rw [if_neg hc_1] at h
          refine lv_iconst (v := (-1)) hx hb dX10_tells_33 (by decide) ?_
          exact J (-1) h _ _ _ (lv_sub hl [0, 1, 2] rfl) hP hS
        · rw [if_pos hc_1] at h
          refine lv_aload_n hx hb dX10_tells_25 rfl (lv_at hl 1 rfl) ?_
          refine lv_iload_n hx hb dX10_tells_26 rfl (lv_at hl 0 rfl) ?_
          refine callMi (k := 0) (As := [.int v2]) (rest := [.int v2, .ref (ad 14)]) (n := 1) (c_X10_shownOf hAd I A_1 v2 _ h) hx hb hT hown hK hP hS mw_5_148 wd_X10_shownOf (by decide +kernel) ⟨rfl, rfl⟩ (by decide) rfl rfl he_X10 rfl hl.1 hml rfl (Nat.le_of_ble_eq_true rfl) dX10_tells_27 ⟨Nat.zero_le _, Nat.zero_le _⟩ (fun r27 u H locs h hP hS => ?_)
          obtain ⟨Iu, Au⟩ := u
          dsimp only at h hP
          obtain ⟨h, rfl, rfl⟩ := h
          try dsimp only at h
          refine lv_goto (tgt := 34) hx hb dX10_tells_30 (by decide) ?_
          exact J r27 h _ _ _ (lv_sub hl [0, 1, 2] rfl) hP hS
  exact LP _ 0 A _ _ _ h (lv_sub hl [0, 1, 2] rfl) hP hS
theorem dX10_aheadOf_0 : decode cX10_aheadOf 0 = .ok (.iconst 0, 1) := by decide +kernel
theorem dX10_aheadOf_1 : decode cX10_aheadOf 1 = .ok (.istore_n 2, 1) := by decide +kernel
theorem dX10_aheadOf_2 : decode cX10_aheadOf 2 = .ok (.iconst 0, 1) := by decide +kernel
theorem dX10_aheadOf_3 : decode cX10_aheadOf 3 = .ok (.istore_n 3, 1) := by decide +kernel
theorem dX10_aheadOf_4 : decode cX10_aheadOf 4 = .ok (.iload_n 3, 1) := by decide +kernel
theorem dX10_aheadOf_5 : decode cX10_aheadOf 5 = .ok (.aload_n 0, 1) := by decide +kernel
theorem dX10_aheadOf_6 : decode cX10_aheadOf 6 = .ok (.getfield 67, 3) := by decide +kernel
theorem dX10_aheadOf_9 : decode cX10_aheadOf 9 = .ok (.if_icmp .ge 57, 3) := by decide +kernel
theorem dX10_aheadOf_12 : decode cX10_aheadOf 12 = .ok (.iload_n 2, 1) := by decide +kernel
theorem dX10_aheadOf_13 : decode cX10_aheadOf 13 = .ok (.aload_n 0, 1) := by decide +kernel
theorem dX10_aheadOf_14 : decode cX10_aheadOf 14 = .ok (.getfield 13, 3) := by decide +kernel
theorem dX10_aheadOf_17 : decode cX10_aheadOf 17 = .ok (.iload_n 3, 1) := by decide +kernel
theorem dX10_aheadOf_18 : decode cX10_aheadOf 18 = .ok (.iaload, 1) := by decide +kernel
theorem dX10_aheadOf_19 : decode cX10_aheadOf 19 = .ok (.aload_n 0, 1) := by decide +kernel
theorem dX10_aheadOf_20 : decode cX10_aheadOf 20 = .ok (.getfield 13, 3) := by decide +kernel
theorem dX10_aheadOf_23 : decode cX10_aheadOf 23 = .ok (.iload_n 1, 1) := by decide +kernel
theorem dX10_aheadOf_24 : decode cX10_aheadOf 24 = .ok (.iaload, 1) := by decide +kernel
theorem dX10_aheadOf_25 : decode cX10_aheadOf 25 = .ok (.if_icmp .ne 32, 3) := by decide +kernel
theorem dX10_aheadOf_28 : decode cX10_aheadOf 28 = .ok (.iload_n 3, 1) := by decide +kernel
theorem dX10_aheadOf_29 : decode cX10_aheadOf 29 = .ok (.iload_n 1, 1) := by decide +kernel
theorem dX10_aheadOf_30 : decode cX10_aheadOf 30 = .ok (.if_icmp .eq 27, 3) := by decide +kernel
theorem dX10_aheadOf_33 : decode cX10_aheadOf 33 = .ok (.aload_n 0, 1) := by decide +kernel
theorem dX10_aheadOf_34 : decode cX10_aheadOf 34 = .ok (.getfield 50, 3) := by decide +kernel
theorem dX10_aheadOf_37 : decode cX10_aheadOf 37 = .ok (.iload_n 3, 1) := by decide +kernel
theorem dX10_aheadOf_38 : decode cX10_aheadOf 38 = .ok (.iaload, 1) := by decide +kernel
theorem dX10_aheadOf_39 : decode cX10_aheadOf 39 = .ok (.iload_n 3, 1) := by decide +kernel
theorem dX10_aheadOf_40 : decode cX10_aheadOf 40 = .ok (.aload_n 0, 1) := by decide +kernel
theorem dX10_aheadOf_41 : decode cX10_aheadOf 41 = .ok (.getfield 50, 3) := by decide +kernel
theorem dX10_aheadOf_44 : decode cX10_aheadOf 44 = .ok (.iload_n 1, 1) := by decide +kernel
theorem dX10_aheadOf_45 : decode cX10_aheadOf 45 = .ok (.iaload, 1) := by decide +kernel
theorem dX10_aheadOf_46 : decode cX10_aheadOf 46 = .ok (.iload_n 1, 1) := by decide +kernel
theorem dX10_aheadOf_47 : decode cX10_aheadOf 47 = .ok (.invokestatic 186, 3) := by decide +kernel
theorem dX10_aheadOf_50 : decode cX10_aheadOf 50 = .ok (.ifCond .eq 7, 3) := by decide +kernel
theorem dX10_aheadOf_53 : decode cX10_aheadOf 53 = .ok (.iconst 1, 1) := by decide +kernel
theorem dX10_aheadOf_54 : decode cX10_aheadOf 54 = .ok (.goto 4, 3) := by decide +kernel
theorem dX10_aheadOf_57 : decode cX10_aheadOf 57 = .ok (.iconst 0, 1) := by decide +kernel
theorem dX10_aheadOf_58 : decode cX10_aheadOf 58 = .ok (.iadd, 1) := by decide +kernel
theorem dX10_aheadOf_59 : decode cX10_aheadOf 59 = .ok (.istore_n 2, 1) := by decide +kernel
theorem dX10_aheadOf_60 : decode cX10_aheadOf 60 = .ok (.iinc 3 1, 3) := by decide +kernel
theorem dX10_aheadOf_63 : decode cX10_aheadOf 63 = .ok (.goto (-59), 3) := by decide +kernel
theorem dX10_aheadOf_66 : decode cX10_aheadOf 66 = .ok (.iload_n 2, 1) := by decide +kernel
theorem dX10_aheadOf_67 : decode cX10_aheadOf 67 = .ok (.ireturn, 1) := by decide +kernel
def wX10_aheadOf (I : Nat → Int32) (A : Nat → Nat → Int32) (x1 : Int32) (post : Int32 → Prop) : Prop := ∃ n, lfix (fun (r : (Int32 × Int32) → Prop) (v3, v2) => if (I 2) ≤ v3 then (post v2) else (vp_in v3 40 ∧ (vp_in x1 40 ∧ (jn (fun (t : Int32) => ∀ v2_1 : Int32, v2_1 = v2 + t → ∀ v3_1 : Int32, v3_1 = v3 + 1 → r (v3_1, v2_1)) (fun k => jn (fun (_ : Unit) => k 0) (fun k_1 => if (A 2 v3.toNatClampNeg) = (A 2 x1.toNatClampNeg) then (if v3 = x1 then (k_1 ()) else (vp_in v3 40 ∧ (vp_in x1 40 ∧ (wX10_isBetter (A 14 v3.toNatClampNeg) v3 (A 14 x1.toNatClampNeg) x1 (fun r47 => if r47 = 0 then (k_1 ()) else (k 1)))))) else (k_1 ()))))))) n (0, 0)
abbrev rmX10_aheadOf : Room := { frames := 1, cells := 0, slots := 0, locals := 23 }
theorem wd_X10_aheadOf : Cond.instanceMethod yX10_aheadOf ∈ BW ∧ Cond.selects yX10_aheadOf.cls yX10_aheadOf yX10_aheadOf ∈ BW ∧ Cond.initialized yX10_aheadOf.cls ∈ BW ∧ Cond.code yX10_aheadOf cX10_aheadOf 4 (some .int) ∈ BW := ⟨mw_5_230, mp_52, mw_1_11, mw_5_231⟩
set_option maxHeartbeats 4000000 in
set_option maxRecDepth 100000 in
theorem c_X10_aheadOf {l : Launch} {D : va_G} {cy : Nat → ClassId} {ad : Nat → Nat} {Ad : Nat → Prop} (hAd : adok 16 Ad ad) (I : Nat → Int32) (A : Nat → Nat → Int32) (x1 : Int32)  (post : Int32 → Prop) (h : wX10_aheadOf I A x1 post) : Met l yX10_aheadOf (.code yX10_aheadOf cX10_aheadOf 4 (some .int) :: BW) rmX10_aheadOf (va_Pc [.ref (ad 0), .int x1] (fun U => kC D cy U ∧ va_P D vwCl (wM cy ad I A) U.heap)) (qMi D cy ad Ad (fun r u => post r  ∧ I = u.1 ∧ A = u.2)) 0 0 Ad := by
  refine startMi (by decide) (Nat.le_of_ble_eq_true rfl) (lv := [(0, .ref (ad 0)), (1, .int x1)]) rfl (fun p e s m args below meth c Q ls hx hb hml hT hown hK hret hl hP hS => ?_)
  unfold wX10_aheadOf at h
  refine lv_iconst (v := 0) hx hb dX10_aheadOf_0 (by decide) ?_
  refine lv_istore_n (lv' := [(2, .int 0), (0, .ref (ad 0)), (1, .int x1)]) hx hb dX10_aheadOf_1 rfl hl (by decide) rfl (fun ls hl => ?_)
  refine lv_iconst (v := 0) hx hb dX10_aheadOf_2 (by decide) ?_
  refine lv_istore_n (lv' := [(3, .int 0), (2, .int 0), (0, .ref (ad 0)), (1, .int x1)]) hx hb dX10_aheadOf_3 rfl hl (by decide) rfl (fun ls hl => ?_)
  obtain ⟨F, n, h, hF, hG⟩ := lfix_ex h
  have LP : ∀ (n : Nat) (v3 : Int32) (v2 : Int32) (ls : Array Slot) (H : Heap) (locs : List Loc), F n (v3, v2) → lv_has ls 4 [(3, .int v3), (2, .int v2), (0, .ref (ad 0)), (1, .int x1)] → va_P D vwCl (wM cy ad I A) H → va_S Ad s.heap H locs → W p l e rmX10_aheadOf s m args below meth c H locs 0 0 Q (F0 m 4 ls []) := by
    intro n
    induction n with
    | zero => intro v3 v2 ls H locs h _ _ _; exact absurd h (hF _)
    | succ n ih =>
      intro v3 v2 ls H locs h hl hP hS
      replace h := hG _ _ h
      try dsimp only at h
      refine lv_iload_n hx hb dX10_aheadOf_4 rfl (lv_at hl 0 rfl) ?_
      refine lv_aload_n hx hb dX10_aheadOf_5 rfl (lv_at hl 2 rfl) ?_
      refine va_get (T := TX10) hx hb hT inlX10 hown hK.1 hP 0 he_X10 rfl 2 (by decide) (hT _ mw_4_139) (fun _ h9 => h9) rfl dX10_aheadOf_6 ?_
      refine lv_icmp_ge (tgt := 66) hx hb dX10_aheadOf_9 (by decide) (fun hc => ?_) (fun hc => ?_)
      · rw [if_pos hc] at h
        refine lv_iload_n hx hb dX10_aheadOf_66 rfl (lv_at hl 1 rfl) ?_
        exact hret _ (I, A) dX10_aheadOf_67 ⟨h, rfl, rfl⟩ hP hS
      · rw [if_neg hc] at h
        refine lv_iload_n hx hb dX10_aheadOf_12 rfl (lv_at hl 1 rfl) ?_
        refine lv_aload_n hx hb dX10_aheadOf_13 rfl (lv_at hl 2 rfl) ?_
        refine va_get (T := TX10) hx hb hT inlX10 hown hK.1 hP 0 he_X10 rfl 5 (by decide) (hT _ mw_4_142) (fun _ h9 => h9) rfl dX10_aheadOf_14 ?_
        refine lv_iload_n hx hb dX10_aheadOf_17 rfl (lv_at hl 0 rfl) ?_
        obtain ⟨hi, h⟩ := h
        refine lM_I hx hb hK.1 hP (by decide) rfl hi dX10_aheadOf_18 ?_
        refine lv_aload_n hx hb dX10_aheadOf_19 rfl (lv_at hl 2 rfl) ?_
        refine va_get (T := TX10) hx hb hT inlX10 hown hK.1 hP 0 he_X10 rfl 5 (by decide) (hT _ mw_4_142) (fun _ h9 => h9) rfl dX10_aheadOf_20 ?_
        refine lv_iload_n hx hb dX10_aheadOf_23 rfl (lv_at hl 3 rfl) ?_
        obtain ⟨hi_1, h⟩ := h
        refine lM_I hx hb hK.1 hP (by decide) rfl hi_1 dX10_aheadOf_24 ?_
        obtain ⟨k, hk, h⟩ := jn_ex h
        try dsimp only at h
        have J : ∀ (t : Int32), k t → ∀ (ls : Array Slot) (H : Heap) (locs : List Loc), lv_has ls 4 [(3, .int v3), (0, .ref (ad 0)), (1, .int x1)] → va_P D vwCl (wM cy ad I A) H → va_S Ad s.heap H locs → W p l e rmX10_aheadOf s m args below meth c H locs 0 0 Q (F0 m 58 ls [.int t, .int v2]) := by
          intro t h ls H locs hl hP hS
          replace h := hk _ h
          try dsimp only at h
          refine lv_iadd hx hb dX10_aheadOf_58 ?_
          refine lv_topi (fun v2_1 ev2_1 => ?_)
          replace h := h v2_1 ev2_1
          refine lv_istore_n (lv' := [(2, .int v2_1), (3, .int v3), (0, .ref (ad 0)), (1, .int x1)]) hx hb dX10_aheadOf_59 rfl hl (by decide) rfl (fun ls hl => ?_)
          obtain ⟨v3_1, ev3_1⟩ : ∃ z : Int32, z = v3 + 1 := ⟨_, rfl⟩
          replace h := h v3_1 ev3_1
          refine lv_iinc (v := v3_1) (lv' := [(3, .int v3_1), (2, .int v2_1), (0, .ref (ad 0)), (1, .int x1)]) hx hb dX10_aheadOf_60 hl (k := 1) rfl (by rw [ev3_1]; rfl) (by decide) rfl (fun ls hl => ?_)
          refine lv_goto (tgt := 4) hx hb dX10_aheadOf_63 (by decide) ?_
          exact ih v3_1 v2_1 _ _ _ h (lv_sub hl [0, 1, 2, 3] rfl) hP hS
        obtain ⟨k_1, hk_1, h⟩ := jn_ex h
        try dsimp only at h
        have J_1 : k_1 () → ∀ (ls : Array Slot) (H : Heap) (locs : List Loc), lv_has ls 4 [(3, .int v3), (0, .ref (ad 0)), (1, .int x1)] → va_P D vwCl (wM cy ad I A) H → va_S Ad s.heap H locs → W p l e rmX10_aheadOf s m args below meth c H locs 0 0 Q (F0 m 57 ls [.int v2]) := by
          intro  h ls H locs hl hP hS
          replace h := hk_1 _ h
          try dsimp only at h
          refine lv_iconst (v := 0) hx hb dX10_aheadOf_57 (by decide) ?_
          exact J 0 h _ _ _ (lv_sub hl [0, 1, 2] rfl) hP hS
        refine lv_icmp_ne (tgt := 57) hx hb dX10_aheadOf_25 (by decide) (fun hc_1 => ?_) (fun hc_1 => ?_)
        · rw [if_neg hc_1] at h
          exact J_1  h _ _ _ (lv_sub hl [0, 2, 3] rfl) hP hS
        · rw [if_pos hc_1] at h
          refine lv_iload_n hx hb dX10_aheadOf_28 rfl (lv_at hl 0 rfl) ?_
          refine lv_iload_n hx hb dX10_aheadOf_29 rfl (lv_at hl 3 rfl) ?_
          refine lv_icmp_eq (tgt := 57) hx hb dX10_aheadOf_30 (by decide) (fun hc_2 => ?_) (fun hc_2 => ?_)
          · rw [if_pos hc_2] at h
            exact J_1  h _ _ _ (lv_sub hl [0, 2, 3] rfl) hP hS
          · rw [if_neg hc_2] at h
            refine lv_aload_n hx hb dX10_aheadOf_33 rfl (lv_at hl 2 rfl) ?_
            refine va_get (T := TX10) hx hb hT inlX10 hown hK.1 hP 0 he_X10 rfl 20 (by decide) (hT _ mw_4_157) (fun _ h9 => h9) rfl dX10_aheadOf_34 ?_
            refine lv_iload_n hx hb dX10_aheadOf_37 rfl (lv_at hl 0 rfl) ?_
            obtain ⟨hi_2, h⟩ := h
            refine lM_I hx hb hK.1 hP (by decide) rfl hi_2 dX10_aheadOf_38 ?_
            refine lv_iload_n hx hb dX10_aheadOf_39 rfl (lv_at hl 0 rfl) ?_
            refine lv_aload_n hx hb dX10_aheadOf_40 rfl (lv_at hl 2 rfl) ?_
            refine va_get (T := TX10) hx hb hT inlX10 hown hK.1 hP 0 he_X10 rfl 20 (by decide) (hT _ mw_4_157) (fun _ h9 => h9) rfl dX10_aheadOf_41 ?_
            refine lv_iload_n hx hb dX10_aheadOf_44 rfl (lv_at hl 3 rfl) ?_
            obtain ⟨hi_3, h⟩ := h
            refine lM_I hx hb hK.1 hP (by decide) rfl hi_3 dX10_aheadOf_45 ?_
            refine lv_iload_n hx hb dX10_aheadOf_46 rfl (lv_at hl 3 rfl) ?_
            refine callSMi (As := [.int (A 14 v3.toNatClampNeg), .int v3, .int (A 14 x1.toNatClampNeg), .int x1]) (rest := [.int v2]) (n := 4) (c_X10_isBetter (A 14 v3.toNatClampNeg) v3 (A 14 x1.toNatClampNeg) x1 _ h) hx hb hT hown hP hS mw_5_232 wd_X10_isBetter (by decide +kernel) ⟨rfl, rfl⟩ (by decide) rfl hl.1 hml rfl (Nat.le_of_ble_eq_true rfl) dX10_aheadOf_47 ⟨Nat.zero_le _, Nat.zero_le _⟩ (fun r47 H locs h hP hS => ?_)
            try dsimp only at h
            refine lv_if_eq (tgt := 57) hx hb dX10_aheadOf_50 (by decide) (fun hc_3 => ?_) (fun hc_3 => ?_)
            · rw [if_pos hc_3] at h
              exact J_1  h _ _ _ (lv_sub hl [0, 2, 3] rfl) hP hS
            · rw [if_neg hc_3] at h
              refine lv_iconst (v := 1) hx hb dX10_aheadOf_53 (by decide) ?_
              refine lv_goto (tgt := 58) hx hb dX10_aheadOf_54 (by decide) ?_
              exact J 1 h _ _ _ (lv_sub hl [0, 2, 3] rfl) hP hS
  exact LP _ 0 0 _ _ _ h (lv_sub hl [0, 1, 2, 3] rfl) hP hS
theorem dX10_top_0 : decode cX10_top 0 = .ok (.aload_n 0, 1) := by decide +kernel
theorem dX10_top_1 : decode cX10_top 1 = .ok (.iconst 0, 1) := by decide +kernel
theorem dX10_top_2 : decode cX10_top 2 = .ok (.putfield 56, 3) := by decide +kernel
theorem dX10_top_5 : decode cX10_top 5 = .ok (.aload_n 0, 1) := by decide +kernel
theorem dX10_top_6 : decode cX10_top 6 = .ok (.iload_n 1, 1) := by decide +kernel
theorem dX10_top_7 : decode cX10_top 7 = .ok (.invokevirtual 80, 3) := by decide +kernel
theorem dX10_top_10 : decode cX10_top 10 = .ok (.ifCond .eq 17, 3) := by decide +kernel
theorem dX10_top_13 : decode cX10_top 13 = .ok (.iload_n 2, 1) := by decide +kernel
theorem dX10_top_14 : decode cX10_top 14 = .ok (.iconst 0, 1) := by decide +kernel
theorem dX10_top_15 : decode cX10_top 15 = .ok (.bipush 40, 2) := by decide +kernel
theorem dX10_top_17 : decode cX10_top 17 = .ok (.invokestatic 73, 3) := by decide +kernel
theorem dX10_top_20 : decode cX10_top 20 = .ok (.ifCond .eq 7, 3) := by decide +kernel
theorem dX10_top_23 : decode cX10_top 23 = .ok (.iload_n 3, 1) := by decide +kernel
theorem dX10_top_24 : decode cX10_top 24 = .ok (.ifCond .ge 5, 3) := by decide +kernel
theorem dX10_top_27 : decode cX10_top 27 = .ok (.iconst (-1), 1) := by decide +kernel
theorem dX10_top_28 : decode cX10_top 28 = .ok (.ireturn, 1) := by decide +kernel
theorem dX10_top_29 : decode cX10_top 29 = .ok (.aload_n 0, 1) := by decide +kernel
theorem dX10_top_30 : decode cX10_top 30 = .ok (.iload_n 1, 1) := by decide +kernel
theorem dX10_top_31 : decode cX10_top 31 = .ok (.invokevirtual 190, 3) := by decide +kernel
theorem dX10_top_34 : decode cX10_top 34 = .ok (.iconst 0, 1) := by decide +kernel
theorem dX10_top_35 : decode cX10_top 35 = .ok (.istore 4, 2) := by decide +kernel
theorem dX10_top_37 : decode cX10_top 37 = .ok (.iload 4, 2) := by decide +kernel
theorem dX10_top_39 : decode cX10_top 39 = .ok (.aload_n 0, 1) := by decide +kernel
theorem dX10_top_40 : decode cX10_top 40 = .ok (.getfield 67, 3) := by decide +kernel
theorem dX10_top_43 : decode cX10_top 43 = .ok (.if_icmp .ge 44, 3) := by decide +kernel
theorem dX10_top_46 : decode cX10_top 46 = .ok (.aload_n 0, 1) := by decide +kernel
theorem dX10_top_47 : decode cX10_top 47 = .ok (.getfield 13, 3) := by decide +kernel
theorem dX10_top_50 : decode cX10_top 50 = .ok (.iload 4, 2) := by decide +kernel
theorem dX10_top_52 : decode cX10_top 52 = .ok (.iaload, 1) := by decide +kernel
theorem dX10_top_53 : decode cX10_top 53 = .ok (.iload_n 1, 1) := by decide +kernel
theorem dX10_top_54 : decode cX10_top 54 = .ok (.if_icmp .ne 27, 3) := by decide +kernel
theorem dX10_top_57 : decode cX10_top 57 = .ok (.aload_n 0, 1) := by decide +kernel
theorem dX10_top_58 : decode cX10_top 58 = .ok (.getfield 50, 3) := by decide +kernel
theorem dX10_top_61 : decode cX10_top 61 = .ok (.iload 4, 2) := by decide +kernel
theorem dX10_top_63 : decode cX10_top 63 = .ok (.iaload, 1) := by decide +kernel
theorem dX10_top_64 : decode cX10_top 64 = .ok (.iload_n 2, 1) := by decide +kernel
theorem dX10_top_65 : decode cX10_top 65 = .ok (.if_icmp .le 16, 3) := by decide +kernel
theorem dX10_top_68 : decode cX10_top 68 = .ok (.aload_n 0, 1) := by decide +kernel
theorem dX10_top_69 : decode cX10_top 69 = .ok (.iload 4, 2) := by decide +kernel
theorem dX10_top_71 : decode cX10_top 71 = .ok (.invokevirtual 194, 3) := by decide +kernel
theorem dX10_top_74 : decode cX10_top 74 = .ok (.iload_n 3, 1) := by decide +kernel
theorem dX10_top_75 : decode cX10_top 75 = .ok (.if_icmp .ne 6, 3) := by decide +kernel
theorem dX10_top_78 : decode cX10_top 78 = .ok (.iload 4, 2) := by decide +kernel
theorem dX10_top_80 : decode cX10_top 80 = .ok (.ireturn, 1) := by decide +kernel
theorem dX10_top_81 : decode cX10_top 81 = .ok (.iinc 4 1, 3) := by decide +kernel
theorem dX10_top_84 : decode cX10_top 84 = .ok (.goto (-47), 3) := by decide +kernel
theorem dX10_top_87 : decode cX10_top 87 = .ok (.iconst (-1), 1) := by decide +kernel
theorem dX10_top_88 : decode cX10_top 88 = .ok (.ireturn, 1) := by decide +kernel
def wX10_top (I : Nat → Int32) (A : Nat → Nat → Int32) (x1 : Int32) (x2 : Int32) (x3 : Int32) (post : Int32 → (Nat → Int32) → (Nat → Nat → Int32) → Prop) : Prop := (∀ I_1, I_1 = va_up I 0 0 → wX10_isTree I_1 A x1 (fun r7 => if r7 = 0 then (post (-1) I_1 A) else (wX10_within x2 0 40 (fun r17 => if r17 = 0 then (post (-1) I_1 A) else (if 0 ≤ x3 then (wX10_tells I_1 A x1 (fun A_1 => ∃ n, lfix (fun (r : Int32 → Prop) v4 => if (I_1 2) ≤ v4 then (post (-1) I_1 A_1) else (vp_in v4 40 ∧ (if (A_1 2 v4.toNatClampNeg) = x1 then (vp_in v4 40 ∧ (if (A_1 14 v4.toNatClampNeg) ≤ x2 then (∀ v4_2 : Int32, v4_2 = v4 + 1 → r v4_2) else (wX10_aheadOf I_1 A_1 v4 (fun r71 => if r71 = x3 then (post v4 I_1 A_1) else (∀ v4_3 : Int32, v4_3 = v4 + 1 → r v4_3))))) else (∀ v4_1 : Int32, v4_1 = v4 + 1 → r v4_1)))) n 0)) else (post (-1) I_1 A))))))
abbrev rmX10_top : Room := { frames := 6, cells := 0, slots := 0, locals := 147 }
theorem wd_X10_top : Cond.instanceMethod yX10_top ∈ BW ∧ Cond.selects yX10_top.cls yX10_top yX10_top ∈ BW ∧ Cond.initialized yX10_top.cls ∈ BW ∧ Cond.code yX10_top cX10_top 5 (some .int) ∈ BW := ⟨mw_5_221, mw_5_222, mw_1_11, mw_5_223⟩
set_option maxHeartbeats 4000000 in
set_option maxRecDepth 100000 in
theorem c_X10_top {l : Launch} {D : va_G} {cy : Nat → ClassId} {ad : Nat → Nat} {Ad : Nat → Prop} (hAd : adok 16 Ad ad) (I : Nat → Int32) (A : Nat → Nat → Int32) (x1 : Int32) (x2 : Int32) (x3 : Int32)  (post : Int32 → (Nat → Int32) → (Nat → Nat → Int32) → Prop) (h : wX10_top I A x1 x2 x3 post) : Met l yX10_top (.code yX10_top cX10_top 5 (some .int) :: BW) rmX10_top (va_Pc [.ref (ad 0), .int x1, .int x2, .int x3] (fun U => kC D cy U ∧ va_P D vwCl (wM cy ad I A) U.heap)) (qMi D cy ad Ad (fun r u => post r u.1 u.2)) 0 0 Ad := by
  refine startMi (by decide) (Nat.le_of_ble_eq_true rfl) (lv := [(0, .ref (ad 0)), (1, .int x1), (2, .int x2), (3, .int x3)]) rfl (fun p e s m args below meth c Q ls hx hb hml hT hown hK hret hl hP hS => ?_)
  unfold wX10_top at h
  refine lv_aload_n hx hb dX10_top_0 rfl (lv_at hl 0 rfl) ?_
  refine lv_iconst (v := 0) hx hb dX10_top_1 (by decide) ?_
  refine pM_X10_thrown hAd hx hb hT hown hK.1 hP hS (hT _ mw_4_137) dX10_top_2 (fun H locs hP hS => ?_)
  obtain ⟨I_1, eI_1⟩ : ∃ z, z = va_up I 0 0 := ⟨_, rfl⟩
  rw [← eI_1] at hP
  replace h := h I_1 eI_1
  refine lv_aload_n hx hb dX10_top_5 rfl (lv_at hl 0 rfl) ?_
  refine lv_iload_n hx hb dX10_top_6 rfl (lv_at hl 1 rfl) ?_
  refine callMi (k := 0) (As := [.int x1]) (rest := []) (n := 1) (c_X10_isTree hAd I_1 A x1 _ h) hx hb hT hown hK hP hS mw_4_220 wd_X10_isTree (by decide +kernel) ⟨rfl, rfl⟩ (by decide) rfl rfl he_X10 rfl hl.1 hml rfl (Nat.le_of_ble_eq_true rfl) dX10_top_7 ⟨Nat.zero_le _, Nat.zero_le _⟩ (fun r7 u H locs h hP hS => ?_)
  obtain ⟨Iu, Au⟩ := u
  dsimp only at h hP
  obtain ⟨h, rfl, rfl⟩ := h
  try dsimp only at h
  refine lv_if_eq (tgt := 27) hx hb dX10_top_10 (by decide) (fun hc => ?_) (fun hc => ?_)
  · rw [if_pos hc] at h
    refine lv_iconst (v := (-1)) hx hb dX10_top_27 (by decide) ?_
    exact hret _ (I_1, A) dX10_top_28 h hP hS
  · rw [if_neg hc] at h
    refine lv_iload_n hx hb dX10_top_13 rfl (lv_at hl 2 rfl) ?_
    refine lv_iconst (v := 0) hx hb dX10_top_14 (by decide) ?_
    refine lv_bipush (v := 40) hx hb dX10_top_15 (by decide) ?_
    refine callSMi (As := [.int x2, .int 0, .int 40]) (rest := []) (n := 3) (c_X10_within x2 0 40 _ h) hx hb hT hown hP hS mw_4_213 wd_X10_within (by decide +kernel) ⟨rfl, rfl⟩ (by decide) rfl hl.1 hml rfl (Nat.le_of_ble_eq_true rfl) dX10_top_17 ⟨Nat.zero_le _, Nat.zero_le _⟩ (fun r17 H locs h hP hS => ?_)
    try dsimp only at h
    refine lv_if_eq (tgt := 27) hx hb dX10_top_20 (by decide) (fun hc_1 => ?_) (fun hc_1 => ?_)
    · rw [if_pos hc_1] at h
      refine lv_iconst (v := (-1)) hx hb dX10_top_27 (by decide) ?_
      exact hret _ (I_1, A) dX10_top_28 h hP hS
    · rw [if_neg hc_1] at h
      refine lv_iload_n hx hb dX10_top_23 rfl (lv_at hl 3 rfl) ?_
      refine lv_if_ge (tgt := 29) hx hb dX10_top_24 (by decide) (fun hc_2 => ?_) (fun hc_2 => ?_)
      · rw [if_pos hc_2] at h
        refine lv_aload_n hx hb dX10_top_29 rfl (lv_at hl 0 rfl) ?_
        refine lv_iload_n hx hb dX10_top_30 rfl (lv_at hl 1 rfl) ?_
        refine callMv (k := 0) (As := [.int x1]) (rest := []) (n := 1) (c_X10_tells hAd I_1 A x1 _ h) hx hb hT hown hK hP hS mw_5_224 wd_X10_tells (by decide +kernel) ⟨rfl, rfl⟩ (by decide) rfl rfl he_X10 rfl hl.1 hml rfl (Nat.le_of_ble_eq_true rfl) dX10_top_31 ⟨Nat.zero_le _, Nat.zero_le _⟩ (fun u H locs h hP hS => ?_)
        obtain ⟨Iu_1, A_1⟩ := u
        dsimp only at h hP
        obtain ⟨h, rfl⟩ := h
        try dsimp only at h
        refine lv_iconst (v := 0) hx hb dX10_top_34 (by decide) ?_
        refine lv_istore (lv' := [(4, .int 0), (0, .ref (ad 0)), (1, .int x1), (2, .int x2), (3, .int x3)]) hx hb dX10_top_35 hl (by decide) rfl (fun ls hl => ?_)
        obtain ⟨F, n, h, hF, hG⟩ := lfix_ex h
        have LP : ∀ (n : Nat) (v4 : Int32) (ls : Array Slot) (H : Heap) (locs : List Loc), F n v4 → lv_has ls 5 [(4, .int v4), (0, .ref (ad 0)), (1, .int x1), (2, .int x2), (3, .int x3)] → va_P D vwCl (wM cy ad I_1 A_1) H → va_S Ad s.heap H locs → W p l e rmX10_top s m args below meth c H locs 0 0 Q (F0 m 37 ls []) := by
          intro n
          induction n with
          | zero => intro v4 ls H locs h _ _ _; exact absurd h (hF _)
          | succ n ih =>
            intro v4 ls H locs h hl hP hS
            replace h := hG _ _ h
            try dsimp only at h
            refine lv_iload hx hb dX10_top_37 (lv_at hl 0 rfl) ?_
            refine lv_aload_n hx hb dX10_top_39 rfl (lv_at hl 1 rfl) ?_
            refine va_get (T := TX10) hx hb hT inlX10 hown hK.1 hP 0 he_X10 rfl 2 (by decide) (hT _ mw_4_139) (fun _ h9 => h9) rfl dX10_top_40 ?_
            refine lv_icmp_ge (tgt := 87) hx hb dX10_top_43 (by decide) (fun hc_3 => ?_) (fun hc_3 => ?_)
            · rw [if_pos hc_3] at h
              refine lv_iconst (v := (-1)) hx hb dX10_top_87 (by decide) ?_
              exact hret _ (I_1, A_1) dX10_top_88 h hP hS
            · rw [if_neg hc_3] at h
              refine lv_aload_n hx hb dX10_top_46 rfl (lv_at hl 1 rfl) ?_
              refine va_get (T := TX10) hx hb hT inlX10 hown hK.1 hP 0 he_X10 rfl 5 (by decide) (hT _ mw_4_142) (fun _ h9 => h9) rfl dX10_top_47 ?_
              refine lv_iload hx hb dX10_top_50 (lv_at hl 0 rfl) ?_
              obtain ⟨hi, h⟩ := h
              refine lM_I hx hb hK.1 hP (by decide) rfl hi dX10_top_52 ?_
              refine lv_iload_n hx hb dX10_top_53 rfl (lv_at hl 2 rfl) ?_
              refine lv_icmp_ne (tgt := 81) hx hb dX10_top_54 (by decide) (fun hc_4 => ?_) (fun hc_4 => ?_)
              · rw [if_neg hc_4] at h
                obtain ⟨v4_1, ev4_1⟩ : ∃ z : Int32, z = v4 + 1 := ⟨_, rfl⟩
                replace h := h v4_1 ev4_1
                refine lv_iinc (v := v4_1) (lv' := [(4, .int v4_1), (0, .ref (ad 0)), (1, .int x1), (2, .int x2), (3, .int x3)]) hx hb dX10_top_81 hl (k := 0) rfl (by rw [ev4_1]; rfl) (by decide) rfl (fun ls hl => ?_)
                refine lv_goto (tgt := 37) hx hb dX10_top_84 (by decide) ?_
                exact ih v4_1 _ _ _ h (lv_sub hl [0, 1, 2, 3, 4] rfl) hP hS
              · rw [if_pos hc_4] at h
                refine lv_aload_n hx hb dX10_top_57 rfl (lv_at hl 1 rfl) ?_
                refine va_get (T := TX10) hx hb hT inlX10 hown hK.1 hP 0 he_X10 rfl 20 (by decide) (hT _ mw_4_157) (fun _ h9 => h9) rfl dX10_top_58 ?_
                refine lv_iload hx hb dX10_top_61 (lv_at hl 0 rfl) ?_
                obtain ⟨hi_1, h⟩ := h
                refine lM_I hx hb hK.1 hP (by decide) rfl hi_1 dX10_top_63 ?_
                refine lv_iload_n hx hb dX10_top_64 rfl (lv_at hl 3 rfl) ?_
                refine lv_icmp_le (tgt := 81) hx hb dX10_top_65 (by decide) (fun hc_5 => ?_) (fun hc_5 => ?_)
                · rw [if_pos hc_5] at h
                  obtain ⟨v4_2, ev4_2⟩ : ∃ z : Int32, z = v4 + 1 := ⟨_, rfl⟩
                  replace h := h v4_2 ev4_2
                  refine lv_iinc (v := v4_2) (lv' := [(4, .int v4_2), (0, .ref (ad 0)), (1, .int x1), (2, .int x2), (3, .int x3)]) hx hb dX10_top_81 hl (k := 0) rfl (by rw [ev4_2]; rfl) (by decide) rfl (fun ls hl => ?_)
                  refine lv_goto (tgt := 37) hx hb dX10_top_84 (by decide) ?_
                  exact ih v4_2 _ _ _ h (lv_sub hl [0, 1, 2, 3, 4] rfl) hP hS
                · rw [if_neg hc_5] at h
                  refine lv_aload_n hx hb dX10_top_68 rfl (lv_at hl 1 rfl) ?_
                  refine lv_iload hx hb dX10_top_69 (lv_at hl 0 rfl) ?_
                  refine callMi (k := 0) (As := [.int v4]) (rest := []) (n := 1) (c_X10_aheadOf hAd I_1 A_1 v4 _ h) hx hb hT hown hK hP hS mw_5_228 wd_X10_aheadOf (by decide +kernel) ⟨rfl, rfl⟩ (by decide) rfl rfl he_X10 rfl hl.1 hml rfl (Nat.le_of_ble_eq_true rfl) dX10_top_71 ⟨Nat.zero_le _, Nat.zero_le _⟩ (fun r71 u H locs h hP hS => ?_)
                  obtain ⟨Iu_2, Au_1⟩ := u
                  dsimp only at h hP
                  obtain ⟨h, rfl, rfl⟩ := h
                  try dsimp only at h
                  refine lv_iload_n hx hb dX10_top_74 rfl (lv_at hl 4 rfl) ?_
                  refine lv_icmp_ne (tgt := 81) hx hb dX10_top_75 (by decide) (fun hc_6 => ?_) (fun hc_6 => ?_)
                  · rw [if_neg hc_6] at h
                    obtain ⟨v4_3, ev4_3⟩ : ∃ z : Int32, z = v4 + 1 := ⟨_, rfl⟩
                    replace h := h v4_3 ev4_3
                    refine lv_iinc (v := v4_3) (lv' := [(4, .int v4_3), (0, .ref (ad 0)), (1, .int x1), (2, .int x2), (3, .int x3)]) hx hb dX10_top_81 hl (k := 0) rfl (by rw [ev4_3]; rfl) (by decide) rfl (fun ls hl => ?_)
                    refine lv_goto (tgt := 37) hx hb dX10_top_84 (by decide) ?_
                    exact ih v4_3 _ _ _ h (lv_sub hl [0, 1, 2, 3, 4] rfl) hP hS
                  · rw [if_pos hc_6] at h
                    refine lv_iload hx hb dX10_top_78 (lv_at hl 0 rfl) ?_
                    exact hret _ (I_1, A_1) dX10_top_80 h hP hS
        exact LP _ 0 _ _ _ h (lv_sub hl [0, 1, 2, 3, 4] rfl) hP hS
      · rw [if_neg hc_2] at h
        refine lv_iconst (v := (-1)) hx hb dX10_top_27 (by decide) ?_
        exact hret _ (I_1, A) dX10_top_28 h hP hS
theorem dX10_isCertain_0 : decode cX10_isCertain 0 = .ok (.iconst 1, 1) := by decide +kernel
theorem dX10_isCertain_1 : decode cX10_isCertain 1 = .ok (.istore 4, 2) := by decide +kernel
theorem dX10_isCertain_3 : decode cX10_isCertain 3 = .ok (.iconst 0, 1) := by decide +kernel
theorem dX10_isCertain_4 : decode cX10_isCertain 4 = .ok (.istore 5, 2) := by decide +kernel
theorem dX10_isCertain_6 : decode cX10_isCertain 6 = .ok (.iload 5, 2) := by decide +kernel
theorem dX10_isCertain_8 : decode cX10_isCertain 8 = .ok (.aload_n 0, 1) := by decide +kernel
theorem dX10_isCertain_9 : decode cX10_isCertain 9 = .ok (.getfield 67, 3) := by decide +kernel
theorem dX10_isCertain_12 : decode cX10_isCertain 12 = .ok (.if_icmp .ge 119, 3) := by decide +kernel
theorem dX10_isCertain_15 : decode cX10_isCertain 15 = .ok (.iconst 0, 1) := by decide +kernel
theorem dX10_isCertain_16 : decode cX10_isCertain 16 = .ok (.istore 6, 2) := by decide +kernel
theorem dX10_isCertain_18 : decode cX10_isCertain 18 = .ok (.iload 6, 2) := by decide +kernel
theorem dX10_isCertain_20 : decode cX10_isCertain 20 = .ok (.aload_n 0, 1) := by decide +kernel
theorem dX10_isCertain_21 : decode cX10_isCertain 21 = .ok (.getfield 67, 3) := by decide +kernel
theorem dX10_isCertain_24 : decode cX10_isCertain 24 = .ok (.if_icmp .ge 101, 3) := by decide +kernel
theorem dX10_isCertain_27 : decode cX10_isCertain 27 = .ok (.aload_n 0, 1) := by decide +kernel
theorem dX10_isCertain_28 : decode cX10_isCertain 28 = .ok (.getfield 13, 3) := by decide +kernel
theorem dX10_isCertain_31 : decode cX10_isCertain 31 = .ok (.iload 5, 2) := by decide +kernel
theorem dX10_isCertain_33 : decode cX10_isCertain 33 = .ok (.iaload, 1) := by decide +kernel
theorem dX10_isCertain_34 : decode cX10_isCertain 34 = .ok (.iload_n 1, 1) := by decide +kernel
theorem dX10_isCertain_35 : decode cX10_isCertain 35 = .ok (.if_icmp .ne 90, 3) := by decide +kernel
theorem dX10_isCertain_38 : decode cX10_isCertain 38 = .ok (.aload_n 0, 1) := by decide +kernel
theorem dX10_isCertain_39 : decode cX10_isCertain 39 = .ok (.iload 5, 2) := by decide +kernel
theorem dX10_isCertain_41 : decode cX10_isCertain 41 = .ok (.invokevirtual 194, 3) := by decide +kernel
theorem dX10_isCertain_44 : decode cX10_isCertain 44 = .ok (.iload_n 2, 1) := by decide +kernel
theorem dX10_isCertain_45 : decode cX10_isCertain 45 = .ok (.if_icmp .ge 80, 3) := by decide +kernel
theorem dX10_isCertain_48 : decode cX10_isCertain 48 = .ok (.aload_n 0, 1) := by decide +kernel
theorem dX10_isCertain_49 : decode cX10_isCertain 49 = .ok (.getfield 13, 3) := by decide +kernel
theorem dX10_isCertain_52 : decode cX10_isCertain 52 = .ok (.iload 6, 2) := by decide +kernel
theorem dX10_isCertain_54 : decode cX10_isCertain 54 = .ok (.iaload, 1) := by decide +kernel
theorem dX10_isCertain_55 : decode cX10_isCertain 55 = .ok (.iload_n 1, 1) := by decide +kernel
theorem dX10_isCertain_56 : decode cX10_isCertain 56 = .ok (.if_icmp .ne 17, 3) := by decide +kernel
theorem dX10_isCertain_59 : decode cX10_isCertain 59 = .ok (.aload_n 0, 1) := by decide +kernel
theorem dX10_isCertain_60 : decode cX10_isCertain 60 = .ok (.iload 6, 2) := by decide +kernel
theorem dX10_isCertain_62 : decode cX10_isCertain 62 = .ok (.invokevirtual 194, 3) := by decide +kernel
theorem dX10_isCertain_65 : decode cX10_isCertain 65 = .ok (.iload_n 2, 1) := by decide +kernel
theorem dX10_isCertain_66 : decode cX10_isCertain 66 = .ok (.if_icmp .lt 7, 3) := by decide +kernel
theorem dX10_isCertain_69 : decode cX10_isCertain 69 = .ok (.iconst 1, 1) := by decide +kernel
theorem dX10_isCertain_70 : decode cX10_isCertain 70 = .ok (.goto 4, 3) := by decide +kernel
theorem dX10_isCertain_73 : decode cX10_isCertain 73 = .ok (.iconst 0, 1) := by decide +kernel
theorem dX10_isCertain_74 : decode cX10_isCertain 74 = .ok (.istore 7, 2) := by decide +kernel
theorem dX10_isCertain_76 : decode cX10_isCertain 76 = .ok (.iload 4, 2) := by decide +kernel
theorem dX10_isCertain_78 : decode cX10_isCertain 78 = .ok (.ifCond .eq 38, 3) := by decide +kernel
theorem dX10_isCertain_81 : decode cX10_isCertain 81 = .ok (.iload 7, 2) := by decide +kernel
theorem dX10_isCertain_83 : decode cX10_isCertain 83 = .ok (.ifCond .eq 29, 3) := by decide +kernel
theorem dX10_isCertain_86 : decode cX10_isCertain 86 = .ok (.aload_n 0, 1) := by decide +kernel
theorem dX10_isCertain_87 : decode cX10_isCertain 87 = .ok (.getfield 50, 3) := by decide +kernel
theorem dX10_isCertain_90 : decode cX10_isCertain 90 = .ok (.iload 5, 2) := by decide +kernel
theorem dX10_isCertain_92 : decode cX10_isCertain 92 = .ok (.iaload, 1) := by decide +kernel
theorem dX10_isCertain_93 : decode cX10_isCertain 93 = .ok (.iload 5, 2) := by decide +kernel
theorem dX10_isCertain_95 : decode cX10_isCertain 95 = .ok (.aload_n 0, 1) := by decide +kernel
theorem dX10_isCertain_96 : decode cX10_isCertain 96 = .ok (.getfield 50, 3) := by decide +kernel
theorem dX10_isCertain_99 : decode cX10_isCertain 99 = .ok (.iload 6, 2) := by decide +kernel
theorem dX10_isCertain_101 : decode cX10_isCertain 101 = .ok (.iaload, 1) := by decide +kernel
theorem dX10_isCertain_102 : decode cX10_isCertain 102 = .ok (.iload_n 3, 1) := by decide +kernel
theorem dX10_isCertain_103 : decode cX10_isCertain 103 = .ok (.iadd, 1) := by decide +kernel
theorem dX10_isCertain_104 : decode cX10_isCertain 104 = .ok (.iload 6, 2) := by decide +kernel
theorem dX10_isCertain_106 : decode cX10_isCertain 106 = .ok (.invokestatic 186, 3) := by decide +kernel
theorem dX10_isCertain_109 : decode cX10_isCertain 109 = .ok (.ifCond .eq 7, 3) := by decide +kernel
theorem dX10_isCertain_112 : decode cX10_isCertain 112 = .ok (.iconst 1, 1) := by decide +kernel
theorem dX10_isCertain_113 : decode cX10_isCertain 113 = .ok (.goto 4, 3) := by decide +kernel
theorem dX10_isCertain_116 : decode cX10_isCertain 116 = .ok (.iconst 0, 1) := by decide +kernel
theorem dX10_isCertain_117 : decode cX10_isCertain 117 = .ok (.istore 4, 2) := by decide +kernel
theorem dX10_isCertain_119 : decode cX10_isCertain 119 = .ok (.iinc 6 1, 3) := by decide +kernel
theorem dX10_isCertain_122 : decode cX10_isCertain 122 = .ok (.goto (-104), 3) := by decide +kernel
theorem dX10_isCertain_125 : decode cX10_isCertain 125 = .ok (.iinc 5 1, 3) := by decide +kernel
theorem dX10_isCertain_128 : decode cX10_isCertain 128 = .ok (.goto (-122), 3) := by decide +kernel
theorem dX10_isCertain_131 : decode cX10_isCertain 131 = .ok (.iload 4, 2) := by decide +kernel
theorem dX10_isCertain_133 : decode cX10_isCertain 133 = .ok (.ireturn, 1) := by decide +kernel
def wX10_isCertain (I : Nat → Int32) (A : Nat → Nat → Int32) (x1 : Int32) (x2 : Int32) (x3 : Int32) (post : Int32 → Prop) : Prop := ∃ n, lfix (fun (r : (Int32 × Int32) → Prop) (v5, v4) => if (I 2) ≤ v5 then (zb v4 ∧ post v4) else (∃ n_1, lfix (fun (r_1 : (Int32 × Int32) → Prop) (v6, v4_1) => if (I 2) ≤ v6 then (∀ v5_1 : Int32, v5_1 = v5 + 1 → r (v5_1, v4_1)) else (vp_in v5 40 ∧ (if (A 2 v5.toNatClampNeg) = x1 then (wX10_aheadOf I A v5 (fun r41 => if x2 ≤ r41 then (∀ v5_3 : Int32, v5_3 = v5 + 1 → r (v5_3, v4_1)) else (vp_in v6 40 ∧ (jn (fun (t : Int32) => jn (fun (t_1 : Int32) => ∀ v6_1 : Int32, v6_1 = v6 + 1 → r_1 (v6_1, t_1)) (fun k_1 => jn (fun (_ : Unit) => k_1 0) (fun k_2 => if v4_1 = 0 then (k_2 ()) else (jn (fun (_ : Unit) => k_1 1) (fun k_3 => if t = 0 then (k_3 ()) else (vp_in v5 40 ∧ (vp_in v6 40 ∧ (wX10_isBetter (A 14 v5.toNatClampNeg) v5 ((A 14 v6.toNatClampNeg) + x3) v6 (fun r106 => if r106 = 0 then (k_2 ()) else (k_3 ())))))))))) (fun k => jn (fun (_ : Unit) => k 0) (fun k_4 => if (A 2 v6.toNatClampNeg) = x1 then (wX10_aheadOf I A v6 (fun r62 => if r62 < x2 then (k_4 ()) else (k 1))) else (k_4 ()))))))) else (∀ v5_2 : Int32, v5_2 = v5 + 1 → r (v5_2, v4_1))))) n_1 (0, v4))) n (0, 1)
abbrev rmX10_isCertain : Room := { frames := 2, cells := 0, slots := 0, locals := 46 }
theorem wd_X10_isCertain : Cond.instanceMethod yX10_isCertain ∈ BW ∧ Cond.selects yX10_isCertain.cls yX10_isCertain yX10_isCertain ∈ BW ∧ Cond.initialized yX10_isCertain.cls ∈ BW ∧ Cond.code yX10_isCertain cX10_isCertain 8 (some .boolean) ∈ BW := ⟨mw_6_1, mp_53, mw_1_11, mw_6_2⟩
set_option maxHeartbeats 4000000 in
set_option maxRecDepth 100000 in
theorem c_X10_isCertain {l : Launch} {D : va_G} {cy : Nat → ClassId} {ad : Nat → Nat} {Ad : Nat → Prop} (hAd : adok 16 Ad ad) (I : Nat → Int32) (A : Nat → Nat → Int32) (x1 : Int32) (x2 : Int32) (x3 : Int32)  (post : Int32 → Prop) (h : wX10_isCertain I A x1 x2 x3 post) : Met l yX10_isCertain (.code yX10_isCertain cX10_isCertain 8 (some .boolean) :: BW) rmX10_isCertain (va_Pc [.ref (ad 0), .int x1, .int x2, .int x3] (fun U => kC D cy U ∧ va_P D vwCl (wM cy ad I A) U.heap)) (qMi D cy ad Ad (fun r u => post r  ∧ I = u.1 ∧ A = u.2)) 0 0 Ad := by
  refine startMz (by decide) (Nat.le_of_ble_eq_true rfl) (lv := [(0, .ref (ad 0)), (1, .int x1), (2, .int x2), (3, .int x3)]) rfl (fun p e s m args below meth c Q ls hx hb hml hT hown hK hret hl hP hS => ?_)
  unfold wX10_isCertain at h
  refine lv_iconst (v := 1) hx hb dX10_isCertain_0 (by decide) ?_
  refine lv_istore (lv' := [(4, .int 1), (0, .ref (ad 0)), (1, .int x1), (2, .int x2), (3, .int x3)]) hx hb dX10_isCertain_1 hl (by decide) rfl (fun ls hl => ?_)
  refine lv_iconst (v := 0) hx hb dX10_isCertain_3 (by decide) ?_
  refine lv_istore (lv' := [(5, .int 0), (4, .int 1), (0, .ref (ad 0)), (1, .int x1), (2, .int x2), (3, .int x3)]) hx hb dX10_isCertain_4 hl (by decide) rfl (fun ls hl => ?_)
  obtain ⟨F, n, h, hF, hG⟩ := lfix_ex h
  have LP : ∀ (n : Nat) (v5 : Int32) (v4 : Int32) (ls : Array Slot) (H : Heap) (locs : List Loc), F n (v5, v4) → lv_has ls 8 [(5, .int v5), (4, .int v4), (0, .ref (ad 0)), (1, .int x1), (2, .int x2), (3, .int x3)] → va_P D vwCl (wM cy ad I A) H → va_S Ad s.heap H locs → W p l e rmX10_isCertain s m args below meth c H locs 0 0 Q (F0 m 6 ls []) := by
    intro n
    induction n with
    | zero => intro v5 v4 ls H locs h _ _ _; exact absurd h (hF _)
    | succ n ih =>
      intro v5 v4 ls H locs h hl hP hS
      replace h := hG _ _ h
      try dsimp only at h
      refine lv_iload hx hb dX10_isCertain_6 (lv_at hl 0 rfl) ?_
      refine lv_aload_n hx hb dX10_isCertain_8 rfl (lv_at hl 2 rfl) ?_
      refine va_get (T := TX10) hx hb hT inlX10 hown hK.1 hP 0 he_X10 rfl 2 (by decide) (hT _ mw_4_139) (fun _ h9 => h9) rfl dX10_isCertain_9 ?_
      refine lv_icmp_ge (tgt := 131) hx hb dX10_isCertain_12 (by decide) (fun hc => ?_) (fun hc => ?_)
      · rw [if_pos hc] at h
        refine lv_iload hx hb dX10_isCertain_131 (lv_at hl 1 rfl) ?_
        obtain ⟨hz, h⟩ := h
        exact hret _ (I, A) hz dX10_isCertain_133 ⟨h, rfl, rfl⟩ hP hS
      · rw [if_neg hc] at h
        refine lv_iconst (v := 0) hx hb dX10_isCertain_15 (by decide) ?_
        refine lv_istore (lv' := [(6, .int 0), (5, .int v5), (4, .int v4), (0, .ref (ad 0)), (1, .int x1), (2, .int x2), (3, .int x3)]) hx hb dX10_isCertain_16 hl (by decide) rfl (fun ls hl => ?_)
        obtain ⟨F_1, n_1, h, hF_1, hG_1⟩ := lfix_ex h
        have LP_1 : ∀ (n_1 : Nat) (v6 : Int32) (v4_1 : Int32) (ls : Array Slot) (H : Heap) (locs : List Loc), F_1 n_1 (v6, v4_1) → lv_has ls 8 [(6, .int v6), (5, .int v5), (4, .int v4_1), (0, .ref (ad 0)), (1, .int x1), (2, .int x2), (3, .int x3)] → va_P D vwCl (wM cy ad I A) H → va_S Ad s.heap H locs → W p l e rmX10_isCertain s m args below meth c H locs 0 0 Q (F0 m 18 ls []) := by
          intro n_1
          induction n_1 with
          | zero => intro v6 v4_1 ls H locs h _ _ _; exact absurd h (hF_1 _)
          | succ n_1 ih_1 =>
            intro v6 v4_1 ls H locs h hl hP hS
            replace h := hG_1 _ _ h
            try dsimp only at h
            refine lv_iload hx hb dX10_isCertain_18 (lv_at hl 0 rfl) ?_
            refine lv_aload_n hx hb dX10_isCertain_20 rfl (lv_at hl 3 rfl) ?_
            refine va_get (T := TX10) hx hb hT inlX10 hown hK.1 hP 0 he_X10 rfl 2 (by decide) (hT _ mw_4_139) (fun _ h9 => h9) rfl dX10_isCertain_21 ?_
            refine lv_icmp_ge (tgt := 125) hx hb dX10_isCertain_24 (by decide) (fun hc_1 => ?_) (fun hc_1 => ?_)
            · rw [if_pos hc_1] at h
              obtain ⟨v5_1, ev5_1⟩ : ∃ z : Int32, z = v5 + 1 := ⟨_, rfl⟩
              replace h := h v5_1 ev5_1
              refine lv_iinc (v := v5_1) (lv' := [(5, .int v5_1), (6, .int v6), (4, .int v4_1), (0, .ref (ad 0)), (1, .int x1), (2, .int x2), (3, .int x3)]) hx hb dX10_isCertain_125 hl (k := 1) rfl (by rw [ev5_1]; rfl) (by decide) rfl (fun ls hl => ?_)
              refine lv_goto (tgt := 6) hx hb dX10_isCertain_128 (by decide) ?_
              exact ih v5_1 v4_1 _ _ _ h (lv_sub hl [0, 2, 3, 4, 5, 6] rfl) hP hS
            · rw [if_neg hc_1] at h
              refine lv_aload_n hx hb dX10_isCertain_27 rfl (lv_at hl 3 rfl) ?_
              refine va_get (T := TX10) hx hb hT inlX10 hown hK.1 hP 0 he_X10 rfl 5 (by decide) (hT _ mw_4_142) (fun _ h9 => h9) rfl dX10_isCertain_28 ?_
              refine lv_iload hx hb dX10_isCertain_31 (lv_at hl 1 rfl) ?_
              obtain ⟨hi, h⟩ := h
              refine lM_I hx hb hK.1 hP (by decide) rfl hi dX10_isCertain_33 ?_
              refine lv_iload_n hx hb dX10_isCertain_34 rfl (lv_at hl 4 rfl) ?_
              refine lv_icmp_ne (tgt := 125) hx hb dX10_isCertain_35 (by decide) (fun hc_2 => ?_) (fun hc_2 => ?_)
              · rw [if_neg hc_2] at h
                obtain ⟨v5_2, ev5_2⟩ : ∃ z : Int32, z = v5 + 1 := ⟨_, rfl⟩
                replace h := h v5_2 ev5_2
                refine lv_iinc (v := v5_2) (lv' := [(5, .int v5_2), (6, .int v6), (4, .int v4_1), (0, .ref (ad 0)), (1, .int x1), (2, .int x2), (3, .int x3)]) hx hb dX10_isCertain_125 hl (k := 1) rfl (by rw [ev5_2]; rfl) (by decide) rfl (fun ls hl => ?_)
                refine lv_goto (tgt := 6) hx hb dX10_isCertain_128 (by decide) ?_
                exact ih v5_2 v4_1 _ _ _ h (lv_sub hl [0, 2, 3, 4, 5, 6] rfl) hP hS
              · rw [if_pos hc_2] at h
                refine lv_aload_n hx hb dX10_isCertain_38 rfl (lv_at hl 3 rfl) ?_
                refine lv_iload hx hb dX10_isCertain_39 (lv_at hl 1 rfl) ?_
                refine callMi (k := 0) (As := [.int v5]) (rest := []) (n := 1) (c_X10_aheadOf hAd I A v5 _ h) hx hb hT hown hK hP hS mw_5_228 wd_X10_aheadOf (by decide +kernel) ⟨rfl, rfl⟩ (by decide) rfl rfl he_X10 rfl hl.1 hml rfl (Nat.le_of_ble_eq_true rfl) dX10_isCertain_41 ⟨Nat.zero_le _, Nat.zero_le _⟩ (fun r41 u H locs h hP hS => ?_)
                obtain ⟨Iu, Au⟩ := u
                dsimp only at h hP
                obtain ⟨h, rfl, rfl⟩ := h
                try dsimp only at h
                refine lv_iload_n hx hb dX10_isCertain_44 rfl (lv_at hl 5 rfl) ?_
                refine lv_icmp_ge (tgt := 125) hx hb dX10_isCertain_45 (by decide) (fun hc_3 => ?_) (fun hc_3 => ?_)
                · rw [if_pos hc_3] at h
                  obtain ⟨v5_3, ev5_3⟩ : ∃ z : Int32, z = v5 + 1 := ⟨_, rfl⟩
                  replace h := h v5_3 ev5_3
                  refine lv_iinc (v := v5_3) (lv' := [(5, .int v5_3), (6, .int v6), (4, .int v4_1), (0, .ref (ad 0)), (1, .int x1), (2, .int x2), (3, .int x3)]) hx hb dX10_isCertain_125 hl (k := 1) rfl (by rw [ev5_3]; rfl) (by decide) rfl (fun ls hl => ?_)
                  refine lv_goto (tgt := 6) hx hb dX10_isCertain_128 (by decide) ?_
                  exact ih v5_3 v4_1 _ _ _ h (lv_sub hl [0, 2, 3, 4, 5, 6] rfl) hP hS
                · rw [if_neg hc_3] at h
                  refine lv_aload_n hx hb dX10_isCertain_48 rfl (lv_at hl 3 rfl) ?_
                  refine va_get (T := TX10) hx hb hT inlX10 hown hK.1 hP 0 he_X10 rfl 5 (by decide) (hT _ mw_4_142) (fun _ h9 => h9) rfl dX10_isCertain_49 ?_
                  refine lv_iload hx hb dX10_isCertain_52 (lv_at hl 0 rfl) ?_
                  obtain ⟨hi_1, h⟩ := h
                  refine lM_I hx hb hK.1 hP (by decide) rfl hi_1 dX10_isCertain_54 ?_
                  refine lv_iload_n hx hb dX10_isCertain_55 rfl (lv_at hl 4 rfl) ?_
                  obtain ⟨k, hk, h⟩ := jn_ex h
                  try dsimp only at h
                  have J : ∀ (t : Int32), k t → ∀ (ls : Array Slot) (H : Heap) (locs : List Loc), lv_has ls 8 [(6, .int v6), (5, .int v5), (4, .int v4_1), (0, .ref (ad 0)), (1, .int x1), (2, .int x2), (3, .int x3)] → va_P D vwCl (wM cy ad I A) H → va_S Ad s.heap H locs → W p l e rmX10_isCertain s m args below meth c H locs 0 0 Q (F0 m 74 ls [.int t]) := by
                    intro t h ls H locs hl hP hS
                    replace h := hk _ h
                    try dsimp only at h
                    refine lv_istore (lv' := [(7, .int t), (6, .int v6), (5, .int v5), (4, .int v4_1), (0, .ref (ad 0)), (1, .int x1), (2, .int x2), (3, .int x3)]) hx hb dX10_isCertain_74 hl (by decide) rfl (fun ls hl => ?_)
                    refine lv_iload hx hb dX10_isCertain_76 (lv_at hl 3 rfl) ?_
                    obtain ⟨k_1, hk_1, h⟩ := jn_ex h
                    try dsimp only at h
                    have J_1 : ∀ (t_1 : Int32), k_1 t_1 → ∀ (ls : Array Slot) (H : Heap) (locs : List Loc), lv_has ls 8 [(6, .int v6), (5, .int v5), (0, .ref (ad 0)), (1, .int x1), (2, .int x2), (3, .int x3)] → va_P D vwCl (wM cy ad I A) H → va_S Ad s.heap H locs → W p l e rmX10_isCertain s m args below meth c H locs 0 0 Q (F0 m 117 ls [.int t_1]) := by
                      intro t_1 h ls H locs hl hP hS
                      replace h := hk_1 _ h
                      try dsimp only at h
                      refine lv_istore (lv' := [(4, .int t_1), (6, .int v6), (5, .int v5), (0, .ref (ad 0)), (1, .int x1), (2, .int x2), (3, .int x3)]) hx hb dX10_isCertain_117 hl (by decide) rfl (fun ls hl => ?_)
                      obtain ⟨v6_1, ev6_1⟩ : ∃ z : Int32, z = v6 + 1 := ⟨_, rfl⟩
                      replace h := h v6_1 ev6_1
                      refine lv_iinc (v := v6_1) (lv' := [(6, .int v6_1), (4, .int t_1), (5, .int v5), (0, .ref (ad 0)), (1, .int x1), (2, .int x2), (3, .int x3)]) hx hb dX10_isCertain_119 hl (k := 1) rfl (by rw [ev6_1]; rfl) (by decide) rfl (fun ls hl => ?_)
                      refine lv_goto (tgt := 18) hx hb dX10_isCertain_122 (by decide) ?_
                      exact ih_1 v6_1 t_1 _ _ _ h (lv_sub hl [0, 2, 1, 3, 4, 5, 6] rfl) hP hS
                    obtain ⟨k_2, hk_2, h⟩ := jn_ex h
                    try dsimp only at h
                    have J_2 : k_2 () → ∀ (ls : Array Slot) (H : Heap) (locs : List Loc), lv_has ls 8 [(6, .int v6), (5, .int v5), (0, .ref (ad 0)), (1, .int x1), (2, .int x2), (3, .int x3)] → va_P D vwCl (wM cy ad I A) H → va_S Ad s.heap H locs → W p l e rmX10_isCertain s m args below meth c H locs 0 0 Q (F0 m 116 ls []) := by
                      intro  h ls H locs hl hP hS
                      replace h := hk_2 _ h
                      try dsimp only at h
                      refine lv_iconst (v := 0) hx hb dX10_isCertain_116 (by decide) ?_
                      exact J_1 0 h _ _ _ (lv_sub hl [0, 1, 2, 3, 4, 5] rfl) hP hS
                    refine lv_if_eq (tgt := 116) hx hb dX10_isCertain_78 (by decide) (fun hc_4 => ?_) (fun hc_4 => ?_)
                    · rw [if_pos hc_4] at h
                      exact J_2  h _ _ _ (lv_sub hl [1, 2, 4, 5, 6, 7] rfl) hP hS
                    · rw [if_neg hc_4] at h
                      refine lv_iload hx hb dX10_isCertain_81 (lv_at hl 0 rfl) ?_
                      obtain ⟨k_3, hk_3, h⟩ := jn_ex h
                      try dsimp only at h
                      have J_3 : k_3 () → ∀ (ls : Array Slot) (H : Heap) (locs : List Loc), lv_has ls 8 [(6, .int v6), (5, .int v5), (0, .ref (ad 0)), (1, .int x1), (2, .int x2), (3, .int x3)] → va_P D vwCl (wM cy ad I A) H → va_S Ad s.heap H locs → W p l e rmX10_isCertain s m args below meth c H locs 0 0 Q (F0 m 112 ls []) := by
                        intro  h ls H locs hl hP hS
                        replace h := hk_3 _ h
                        try dsimp only at h
                        refine lv_iconst (v := 1) hx hb dX10_isCertain_112 (by decide) ?_
                        refine lv_goto (tgt := 117) hx hb dX10_isCertain_113 (by decide) ?_
                        exact J_1 1 h _ _ _ (lv_sub hl [0, 1, 2, 3, 4, 5] rfl) hP hS
                      refine lv_if_eq (tgt := 112) hx hb dX10_isCertain_83 (by decide) (fun hc_5 => ?_) (fun hc_5 => ?_)
                      · rw [if_pos hc_5] at h
                        exact J_3  h _ _ _ (lv_sub hl [1, 2, 4, 5, 6, 7] rfl) hP hS
                      · rw [if_neg hc_5] at h
                        refine lv_aload_n hx hb dX10_isCertain_86 rfl (lv_at hl 4 rfl) ?_
                        refine va_get (T := TX10) hx hb hT inlX10 hown hK.1 hP 0 he_X10 rfl 20 (by decide) (hT _ mw_4_157) (fun _ h9 => h9) rfl dX10_isCertain_87 ?_
                        refine lv_iload hx hb dX10_isCertain_90 (lv_at hl 2 rfl) ?_
                        obtain ⟨hi_2, h⟩ := h
                        refine lM_I hx hb hK.1 hP (by decide) rfl hi_2 dX10_isCertain_92 ?_
                        refine lv_iload hx hb dX10_isCertain_93 (lv_at hl 2 rfl) ?_
                        refine lv_aload_n hx hb dX10_isCertain_95 rfl (lv_at hl 4 rfl) ?_
                        refine va_get (T := TX10) hx hb hT inlX10 hown hK.1 hP 0 he_X10 rfl 20 (by decide) (hT _ mw_4_157) (fun _ h9 => h9) rfl dX10_isCertain_96 ?_
                        refine lv_iload hx hb dX10_isCertain_99 (lv_at hl 1 rfl) ?_
                        obtain ⟨hi_3, h⟩ := h
                        refine lM_I hx hb hK.1 hP (by decide) rfl hi_3 dX10_isCertain_101 ?_
                        refine lv_iload_n hx hb dX10_isCertain_102 rfl (lv_at hl 7 rfl) ?_
                        refine lv_iadd hx hb dX10_isCertain_103 ?_
                        refine lv_iload hx hb dX10_isCertain_104 (lv_at hl 1 rfl) ?_
                        refine callSMi (As := [.int (A 14 v5.toNatClampNeg), .int v5, .int ((A 14 v6.toNatClampNeg) + x3), .int v6]) (rest := []) (n := 4) (c_X10_isBetter (A 14 v5.toNatClampNeg) v5 ((A 14 v6.toNatClampNeg) + x3) v6 _ h) hx hb hT hown hP hS mw_5_232 wd_X10_isBetter (by decide +kernel) ⟨rfl, rfl⟩ (by decide) rfl hl.1 hml rfl (Nat.le_of_ble_eq_true rfl) dX10_isCertain_106 ⟨Nat.zero_le _, Nat.zero_le _⟩ (fun r106 H locs h hP hS => ?_)
                        try dsimp only at h
                        refine lv_if_eq (tgt := 116) hx hb dX10_isCertain_109 (by decide) (fun hc_6 => ?_) (fun hc_6 => ?_)
                        · rw [if_pos hc_6] at h
                          exact J_2  h _ _ _ (lv_sub hl [1, 2, 4, 5, 6, 7] rfl) hP hS
                        · rw [if_neg hc_6] at h
                          exact J_3  h _ _ _ (lv_sub hl [1, 2, 4, 5, 6, 7] rfl) hP hS
                  obtain ⟨k_4, hk_4, h⟩ := jn_ex h
                  try dsimp only at h
                  have J_4 : k_4 () → ∀ (ls : Array Slot) (H : Heap) (locs : List Loc), lv_has ls 8 [(6, .int v6), (5, .int v5), (4, .int v4_1), (0, .ref (ad 0)), (1, .int x1), (2, .int x2), (3, .int x3)] → va_P D vwCl (wM cy ad I A) H → va_S Ad s.heap H locs → W p l e rmX10_isCertain s m args below meth c H locs 0 0 Q (F0 m 73 ls []) := by
                    intro  h ls H locs hl hP hS
                    replace h := hk_4 _ h
                    try dsimp only at h
                    refine lv_iconst (v := 0) hx hb dX10_isCertain_73 (by decide) ?_
                    exact J 0 h _ _ _ (lv_sub hl [0, 1, 2, 3, 4, 5, 6] rfl) hP hS
                  refine lv_icmp_ne (tgt := 73) hx hb dX10_isCertain_56 (by decide) (fun hc_7 => ?_) (fun hc_7 => ?_)
                  · rw [if_neg hc_7] at h
                    exact J_4  h _ _ _ (lv_sub hl [0, 1, 2, 3, 4, 5, 6] rfl) hP hS
                  · rw [if_pos hc_7] at h
                    refine lv_aload_n hx hb dX10_isCertain_59 rfl (lv_at hl 3 rfl) ?_
                    refine lv_iload hx hb dX10_isCertain_60 (lv_at hl 0 rfl) ?_
                    refine callMi (k := 0) (As := [.int v6]) (rest := []) (n := 1) (c_X10_aheadOf hAd I A v6 _ h) hx hb hT hown hK hP hS mw_5_228 wd_X10_aheadOf (by decide +kernel) ⟨rfl, rfl⟩ (by decide) rfl rfl he_X10 rfl hl.1 hml rfl (Nat.le_of_ble_eq_true rfl) dX10_isCertain_62 ⟨Nat.zero_le _, Nat.zero_le _⟩ (fun r62 u H locs h hP hS => ?_)
                    obtain ⟨Iu_1, Au_1⟩ := u
                    dsimp only at h hP
                    obtain ⟨h, rfl, rfl⟩ := h
                    try dsimp only at h
                    refine lv_iload_n hx hb dX10_isCertain_65 rfl (lv_at hl 5 rfl) ?_
                    refine lv_icmp_lt (tgt := 73) hx hb dX10_isCertain_66 (by decide) (fun hc_8 => ?_) (fun hc_8 => ?_)
                    · rw [if_pos hc_8] at h
                      exact J_4  h _ _ _ (lv_sub hl [0, 1, 2, 3, 4, 5, 6] rfl) hP hS
                    · rw [if_neg hc_8] at h
                      refine lv_iconst (v := 1) hx hb dX10_isCertain_69 (by decide) ?_
                      refine lv_goto (tgt := 74) hx hb dX10_isCertain_70 (by decide) ?_
                      exact J 1 h _ _ _ (lv_sub hl [0, 1, 2, 3, 4, 5, 6] rfl) hP hS
        exact LP_1 _ 0 v4 _ _ _ h (lv_sub hl [0, 1, 2, 3, 4, 5, 6] rfl) hP hS
  exact LP _ 0 1 _ _ _ h (lv_sub hl [0, 1, 2, 3, 4, 5] rfl) hP hS
