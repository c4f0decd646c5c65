theorem dX4_endOfRow_0 : decode cX4_endOfRow 0 = .ok (.iload_n 1, 1) := by decide +kernel
theorem dX4_endOfRow_1 : decode cX4_endOfRow 1 = .ok (.iload_n 2, 1) := by decide +kernel
theorem dX4_endOfRow_2 : decode cX4_endOfRow 2 = .ok (.iadd, 1) := by decide +kernel
theorem dX4_endOfRow_3 : decode cX4_endOfRow 3 = .ok (.aload_n 0, 1) := by decide +kernel
theorem dX4_endOfRow_4 : decode cX4_endOfRow 4 = .ok (.getfield 13, 3) := by decide +kernel
theorem dX4_endOfRow_7 : decode cX4_endOfRow 7 = .ok (.invokestatic 21, 3) := by decide +kernel
theorem dX4_endOfRow_10 : decode cX4_endOfRow 10 = .ok (.istore_n 3, 1) := by decide +kernel
theorem dX4_endOfRow_11 : decode cX4_endOfRow 11 = .ok (.iload_n 3, 1) := by decide +kernel
theorem dX4_endOfRow_12 : decode cX4_endOfRow 12 = .ok (.iload_n 1, 1) := by decide +kernel
theorem dX4_endOfRow_13 : decode cX4_endOfRow 13 = .ok (.if_icmp .le 34, 3) := by decide +kernel
theorem dX4_endOfRow_16 : decode cX4_endOfRow 16 = .ok (.iload_n 3, 1) := by decide +kernel
theorem dX4_endOfRow_17 : decode cX4_endOfRow 17 = .ok (.aload_n 0, 1) := by decide +kernel
theorem dX4_endOfRow_18 : decode cX4_endOfRow 18 = .ok (.getfield 13, 3) := by decide +kernel
theorem dX4_endOfRow_21 : decode cX4_endOfRow 21 = .ok (.if_icmp .ge 26, 3) := by decide +kernel
theorem dX4_endOfRow_24 : decode cX4_endOfRow 24 = .ok (.aload_n 0, 1) := by decide +kernel
theorem dX4_endOfRow_25 : decode cX4_endOfRow 25 = .ok (.getfield 7, 3) := by decide +kernel
theorem dX4_endOfRow_28 : decode cX4_endOfRow 28 = .ok (.iload_n 3, 1) := by decide +kernel
theorem dX4_endOfRow_29 : decode cX4_endOfRow 29 = .ok (.iaload, 1) := by decide +kernel
theorem dX4_endOfRow_30 : decode cX4_endOfRow 30 = .ok (.aload_n 0, 1) := by decide +kernel
theorem dX4_endOfRow_31 : decode cX4_endOfRow 31 = .ok (.getfield 7, 3) := by decide +kernel
theorem dX4_endOfRow_34 : decode cX4_endOfRow 34 = .ok (.iload_n 3, 1) := by decide +kernel
theorem dX4_endOfRow_35 : decode cX4_endOfRow 35 = .ok (.iconst 1, 1) := by decide +kernel
theorem dX4_endOfRow_36 : decode cX4_endOfRow 36 = .ok (.isub, 1) := by decide +kernel
theorem dX4_endOfRow_37 : decode cX4_endOfRow 37 = .ok (.iaload, 1) := by decide +kernel
theorem dX4_endOfRow_38 : decode cX4_endOfRow 38 = .ok (.if_icmp .ne 9, 3) := by decide +kernel
theorem dX4_endOfRow_41 : decode cX4_endOfRow 41 = .ok (.iinc 3 (-1), 3) := by decide +kernel
theorem dX4_endOfRow_44 : decode cX4_endOfRow 44 = .ok (.goto (-33), 3) := by decide +kernel
theorem dX4_endOfRow_47 : decode cX4_endOfRow 47 = .ok (.iload_n 3, 1) := by decide +kernel
theorem dX4_endOfRow_48 : decode cX4_endOfRow 48 = .ok (.ireturn, 1) := by decide +kernel
def wX4_endOfRow (I : Nat → Int32) (L : Nat → Int64) (A : Nat → Nat → Int32) (B : Nat → Nat → Int64) (x1 : Int32) (x2 : Int32) (post : Int32 → Prop) : Prop := ∀ r7 : Int32, r7 = (if (I 5) < (x1 + x2) then (I 5) else (x1 + x2)) → ∃ n, lfix (fun (r : Int32 → Prop) v3 => if v3 ≤ x1 then (post v3) else (if (I 5) ≤ v3 then (post v3) else (vp_in v3 40 ∧ (vp_in (v3 - 1) 40 ∧ (if (A 49 v3.toNatClampNeg) = (A 49 (v3 - 1).toNatClampNeg) then (∀ v3_1 : Int32, v3_1 = v3 + (-1) → r v3_1) else (post v3)))))) n r7
abbrev rmX4_endOfRow : Room := { frames := 1, cells := 0, slots := 0, locals := 21 }
theorem wd_X4_endOfRow : Cond.instanceMethod yX4_endOfRow ∈ BW ∧ Cond.selects yX4_endOfRow.cls yX4_endOfRow yX4_endOfRow ∈ BW ∧ Cond.initialized yX4_endOfRow.cls ∈ BW ∧ Cond.code yX4_endOfRow cX4_endOfRow 4 (some .int) ∈ BW := ⟨mw_3_158, mp_11, mw_1_9, mw_3_159⟩
set_option maxHeartbeats 4000000 in
set_option maxRecDepth 100000 in
theorem c_X4_endOfRow {l : Launch} {D : va_G} {cy : Nat → ClassId} {ad : Nat → Nat} {Ad : Nat → Prop} (hAd : adok 103 Ad ad) (I : Nat → Int32) (L : Nat → Int64) (A : Nat → Nat → Int32) (B : Nat → Nat → Int64) (x1 : Int32) (x2 : Int32)  (post : Int32 → Prop) (h : wX4_endOfRow I L A B x1 x2 post) : Met l yX4_endOfRow (.code yX4_endOfRow cX4_endOfRow 4 (some .int) :: BW) rmX4_endOfRow (va_Pc [.ref (ad 5), .int x1, .int x2] (fun U => kC D cy U ∧ va_P D vwCl (wC cy ad I L A B) U.heap)) (qCi D cy ad Ad (fun r u => post r  ∧ I = u.1 ∧ L = u.2.1 ∧ A = u.2.2.1 ∧ B = u.2.2.2)) 0 0 Ad := by
  refine startCi (by decide) (Nat.le_of_ble_eq_true rfl) (lv := [(0, .ref (ad 5)), (1, .int x1), (2, .int x2)]) rfl (fun p e s m args below meth c Q ls hx hb hml hT hown hK hret hl hP hS => ?_)
  unfold wX4_endOfRow at h
  refine lv_iload_n hx hb dX4_endOfRow_0 rfl (lv_at hl 1 rfl) ?_
  refine lv_iload_n hx hb dX4_endOfRow_1 rfl (lv_at hl 2 rfl) ?_
  refine lv_iadd hx hb dX4_endOfRow_2 ?_
  refine lv_aload_n hx hb dX4_endOfRow_3 rfl (lv_at hl 0 rfl) ?_
  refine va_get (T := TX4) hx hb hT inlX4 hown hK.1 hP 5 he_X4 rfl 1 (by decide) (hT _ mw_1_214) (fun _ h9 => h9) rfl dX4_endOfRow_4 ?_
  refine va_mmin hx hb (by rw [hml]; exact hl.1.symm) hown (hT _ mw_3_143) (hT _ mw_2_235) (hT _ mw_1_12) (hT _ mw_2_236) (Nat.le_of_ble_eq_true rfl) (Nat.le_of_ble_eq_true rfl) (Nat.zero_le _) (Nat.zero_le _) dX4_endOfRow_7 ?_
  refine lv_topi (fun r7 er7 => ?_)
  replace h := h r7 er7
  refine lv_istore_n (lv' := [(3, .int r7), (0, .ref (ad 5)), (1, .int x1), (2, .int x2)]) hx hb dX4_endOfRow_10 rfl hl (by decide) rfl (fun ls hl => ?_)
  obtain ⟨F, n, h, hF, hG⟩ := lfix_ex h
  have LP : ∀ (n : Nat) (v3 : Int32) (ls : Array Slot) (H : Heap) (locs : List Loc), F n v3 → lv_has ls 4 [(3, .int v3), (0, .ref (ad 5)), (1, .int x1)] → va_P D vwCl (wC cy ad I L A B) H → va_S Ad s.heap H locs → W p l e rmX4_endOfRow s m args below meth c H locs 0 0 Q (F0 m 11 ls []) := by
    intro n
    induction n with
    | zero => intro v3 ls H locs h _ _ _; exact absurd h (hF _)
    | succ n ih =>
      intro v3 ls H locs h hl hP hS
      replace h := hG _ _ h
      try dsimp only at h
      refine lv_iload_n hx hb dX4_endOfRow_11 rfl (lv_at hl 0 rfl) ?_
      refine lv_iload_n hx hb dX4_endOfRow_12 rfl (lv_at hl 2 rfl) ?_
      refine lv_icmp_le (tgt := 47) hx hb dX4_endOfRow_13 (by decide) (fun hc => ?_) (fun hc => ?_)
      · rw [if_pos hc] at h
        refine lv_iload_n hx hb dX4_endOfRow_47 rfl (lv_at hl 0 rfl) ?_
        exact hret _ (I, L, A, B) dX4_endOfRow_48 ⟨h, rfl, rfl, rfl, rfl⟩ hP hS
      · rw [if_neg hc] at h
        refine lv_iload_n hx hb dX4_endOfRow_16 rfl (lv_at hl 0 rfl) ?_
        refine lv_aload_n hx hb dX4_endOfRow_17 rfl (lv_at hl 1 rfl) ?_
        refine va_get (T := TX4) hx hb hT inlX4 hown hK.1 hP 5 he_X4 rfl 1 (by decide) (hT _ mw_1_214) (fun _ h9 => h9) rfl dX4_endOfRow_18 ?_
        refine lv_icmp_ge (tgt := 47) hx hb dX4_endOfRow_21 (by decide) (fun hc_1 => ?_) (fun hc_1 => ?_)
        · rw [if_pos hc_1] at h
          refine lv_iload_n hx hb dX4_endOfRow_47 rfl (lv_at hl 0 rfl) ?_
          exact hret _ (I, L, A, B) dX4_endOfRow_48 ⟨h, rfl, rfl, rfl, rfl⟩ hP hS
        · rw [if_neg hc_1] at h
          refine lv_aload_n hx hb dX4_endOfRow_24 rfl (lv_at hl 1 rfl) ?_
          refine va_get (T := TX4) hx hb hT inlX4 hown hK.1 hP 5 he_X4 rfl 0 (by decide) (hT _ mw_1_212) (fun _ h9 => h9) rfl dX4_endOfRow_25 ?_
          refine lv_iload_n hx hb dX4_endOfRow_28 rfl (lv_at hl 0 rfl) ?_
          obtain ⟨hi, h⟩ := h
          refine lC_I hx hb hK.1 hP (by decide) rfl hi dX4_endOfRow_29 ?_
          refine lv_aload_n hx hb dX4_endOfRow_30 rfl (lv_at hl 1 rfl) ?_
          refine va_get (T := TX4) hx hb hT inlX4 hown hK.1 hP 5 he_X4 rfl 0 (by decide) (hT _ mw_1_212) (fun _ h9 => h9) rfl dX4_endOfRow_31 ?_
          refine lv_iload_n hx hb dX4_endOfRow_34 rfl (lv_at hl 0 rfl) ?_
          refine lv_iconst (v := 1) hx hb dX4_endOfRow_35 (by decide) ?_
          refine lv_isub hx hb dX4_endOfRow_36 ?_
          obtain ⟨hi_1, h⟩ := h
          refine lC_I hx hb hK.1 hP (by decide) rfl hi_1 dX4_endOfRow_37 ?_
          refine lv_icmp_ne (tgt := 47) hx hb dX4_endOfRow_38 (by decide) (fun hc_2 => ?_) (fun hc_2 => ?_)
          · rw [if_neg hc_2] at h
            refine lv_iload_n hx hb dX4_endOfRow_47 rfl (lv_at hl 0 rfl) ?_
            exact hret _ (I, L, A, B) dX4_endOfRow_48 ⟨h, rfl, rfl, rfl, rfl⟩ hP hS
          · rw [if_pos hc_2] at h
            obtain ⟨v3_1, ev3_1⟩ : ∃ z : Int32, z = v3 + (-1) := ⟨_, rfl⟩
            replace h := h v3_1 ev3_1
            refine lv_iinc (v := v3_1) (lv' := [(3, .int v3_1), (0, .ref (ad 5)), (1, .int x1)]) hx hb dX4_endOfRow_41 hl (k := 0) rfl (by rw [ev3_1]; rfl) (by decide) rfl (fun ls hl => ?_)
            refine lv_goto (tgt := 11) hx hb dX4_endOfRow_44 (by decide) ?_
            exact ih v3_1 _ _ _ h (lv_sub hl [0, 1, 2] rfl) hP hS
  exact LP _ r7 _ _ _ h (lv_sub hl [0, 1, 2] rfl) hP hS
theorem dX4_fits_0 : decode cX4_fits 0 = .ok (.iconst 0, 1) := by decide +kernel
theorem dX4_fits_1 : decode cX4_fits 1 = .ok (.istore_n 3, 1) := by decide +kernel
theorem dX4_fits_2 : decode cX4_fits 2 = .ok (.iconst 0, 1) := by decide +kernel
theorem dX4_fits_3 : decode cX4_fits 3 = .ok (.istore 4, 2) := by decide +kernel
theorem dX4_fits_5 : decode cX4_fits 5 = .ok (.iload 4, 2) := by decide +kernel
theorem dX4_fits_7 : decode cX4_fits 7 = .ok (.iload_n 1, 1) := by decide +kernel
theorem dX4_fits_8 : decode cX4_fits 8 = .ok (.if_icmp .ge 16, 3) := by decide +kernel
theorem dX4_fits_11 : decode cX4_fits 11 = .ok (.aload_n 0, 1) := by decide +kernel
theorem dX4_fits_12 : decode cX4_fits 12 = .ok (.iload_n 3, 1) := by decide +kernel
theorem dX4_fits_13 : decode cX4_fits 13 = .ok (.iload_n 2, 1) := by decide +kernel
theorem dX4_fits_14 : decode cX4_fits 14 = .ok (.invokevirtual 30, 3) := by decide +kernel
theorem dX4_fits_17 : decode cX4_fits 17 = .ok (.istore_n 3, 1) := by decide +kernel
theorem dX4_fits_18 : decode cX4_fits 18 = .ok (.iinc 4 1, 3) := by decide +kernel
theorem dX4_fits_21 : decode cX4_fits 21 = .ok (.goto (-16), 3) := by decide +kernel
theorem dX4_fits_24 : decode cX4_fits 24 = .ok (.iload_n 3, 1) := by decide +kernel
theorem dX4_fits_25 : decode cX4_fits 25 = .ok (.aload_n 0, 1) := by decide +kernel
theorem dX4_fits_26 : decode cX4_fits 26 = .ok (.getfield 13, 3) := by decide +kernel
theorem dX4_fits_29 : decode cX4_fits 29 = .ok (.if_icmp .lt 7, 3) := by decide +kernel
theorem dX4_fits_32 : decode cX4_fits 32 = .ok (.iconst 1, 1) := by decide +kernel
theorem dX4_fits_33 : decode cX4_fits 33 = .ok (.goto 4, 3) := by decide +kernel
theorem dX4_fits_36 : decode cX4_fits 36 = .ok (.iconst 0, 1) := by decide +kernel
theorem dX4_fits_37 : decode cX4_fits 37 = .ok (.ireturn, 1) := by decide +kernel
def wX4_fits (I : Nat → Int32) (L : Nat → Int64) (A : Nat → Nat → Int32) (B : Nat → Nat → Int64) (x1 : Int32) (x2 : Int32) (post : Int32 → Prop) : Prop := ∃ n, lfix (fun (r : (Int32 × Int32) → Prop) (v4, v3) => if x1 ≤ v4 then (if v3 < (I 5) then (post 0) else (post 1)) else (wX4_endOfRow I L A B v3 x2 (fun r14 => ∀ v4_1 : Int32, v4_1 = v4 + 1 → r (v4_1, r14)))) n (0, 0)
abbrev rmX4_fits : Room := { frames := 2, cells := 0, slots := 0, locals := 44 }
theorem wd_X4_fits : Cond.instanceMethod yX4_fits ∈ BW ∧ Cond.selects yX4_fits.cls yX4_fits yX4_fits ∈ BW ∧ Cond.initialized yX4_fits.cls ∈ BW ∧ Cond.code yX4_fits cX4_fits 5 (some .boolean) ∈ BW := ⟨mw_3_154, mp_10, mw_1_9, mw_3_155⟩
set_option maxHeartbeats 4000000 in
set_option maxRecDepth 100000 in
theorem c_X4_fits {l : Launch} {D : va_G} {cy : Nat → ClassId} {ad : Nat → Nat} {Ad : Nat → Prop} (hAd : adok 103 Ad ad) (I : Nat → Int32) (L : Nat → Int64) (A : Nat → Nat → Int32) (B : Nat → Nat → Int64) (x1 : Int32) (x2 : Int32)  (post : Int32 → Prop) (h : wX4_fits I L A B x1 x2 post) : Met l yX4_fits (.code yX4_fits cX4_fits 5 (some .boolean) :: BW) rmX4_fits (va_Pc [.ref (ad 5), .int x1, .int x2] (fun U => kC D cy U ∧ va_P D vwCl (wC cy ad I L A B) U.heap)) (qCi D cy ad Ad (fun r u => post r  ∧ I = u.1 ∧ L = u.2.1 ∧ A = u.2.2.1 ∧ B = u.2.2.2)) 0 0 Ad := by
  refine startCz (by decide) (Nat.le_of_ble_eq_true rfl) (lv := [(0, .ref (ad 5)), (1, .int x1), (2, .int x2)]) rfl (fun p e s m args below meth c Q ls hx hb hml hT hown hK hret hl hP hS => ?_)
  unfold wX4_fits at h
  refine lv_iconst (v := 0) hx hb dX4_fits_0 (by decide) ?_
  refine lv_istore_n (lv' := [(3, .int 0), (0, .ref (ad 5)), (1, .int x1), (2, .int x2)]) hx hb dX4_fits_1 rfl hl (by decide) rfl (fun ls hl => ?_)
  refine lv_iconst (v := 0) hx hb dX4_fits_2 (by decide) ?_
  refine lv_istore (lv' := [(4, .int 0), (3, .int 0), (0, .ref (ad 5)), (1, .int x1), (2, .int x2)]) hx hb dX4_fits_3 hl (by decide) rfl (fun ls hl => ?_)
  obtain ⟨F, n, h, hF, hG⟩ := lfix_ex h
  have LP : ∀ (n : Nat) (v4 : Int32) (v3 : Int32) (ls : Array Slot) (H : Heap) (locs : List Loc), F n (v4, v3) → lv_has ls 5 [(4, .int v4), (3, .int v3), (0, .ref (ad 5)), (1, .int x1), (2, .int x2)] → va_P D vwCl (wC cy ad I L A B) H → va_S Ad s.heap H locs → W p l e rmX4_fits s m args below meth c H locs 0 0 Q (F0 m 5 ls []) := by
    intro n
    induction n with
    | zero => intro v4 v3 ls H locs h _ _ _; exact absurd h (hF _)
    | succ n ih =>
      intro v4 v3 ls H locs h hl hP hS
      replace h := hG _ _ h
      try dsimp only at h
      refine lv_iload hx hb dX4_fits_5 (lv_at hl 0 rfl) ?_
      refine lv_iload_n hx hb dX4_fits_7 rfl (lv_at hl 3 rfl) ?_
      refine lv_icmp_ge (tgt := 24) hx hb dX4_fits_8 (by decide) (fun hc => ?_) (fun hc => ?_)
      · rw [if_pos hc] at h
        refine lv_iload_n hx hb dX4_fits_24 rfl (lv_at hl 1 rfl) ?_
        refine lv_aload_n hx hb dX4_fits_25 rfl (lv_at hl 2 rfl) ?_
        refine va_get (T := TX4) hx hb hT inlX4 hown hK.1 hP 5 he_X4 rfl 1 (by decide) (hT _ mw_1_214) (fun _ h9 => h9) rfl dX4_fits_26 ?_
        refine lv_icmp_lt (tgt := 36) hx hb dX4_fits_29 (by decide) (fun hc_1 => ?_) (fun hc_1 => ?_)
        · rw [if_pos hc_1] at h
          refine lv_iconst (v := 0) hx hb dX4_fits_36 (by decide) ?_
          exact hret _ (I, L, A, B) zb_0 dX4_fits_37 ⟨h, rfl, rfl, rfl, rfl⟩ hP hS
        · rw [if_neg hc_1] at h
          refine lv_iconst (v := 1) hx hb dX4_fits_32 (by decide) ?_
          refine lv_goto (tgt := 37) hx hb dX4_fits_33 (by decide) ?_
          exact hret _ (I, L, A, B) zb_1 dX4_fits_37 ⟨h, rfl, rfl, rfl, rfl⟩ hP hS
      · rw [if_neg hc] at h
        refine lv_aload_n hx hb dX4_fits_11 rfl (lv_at hl 2 rfl) ?_
        refine lv_iload_n hx hb dX4_fits_12 rfl (lv_at hl 1 rfl) ?_
        refine lv_iload_n hx hb dX4_fits_13 rfl (lv_at hl 4 rfl) ?_
        refine callCi (k := 5) (As := [.int v3, .int x2]) (rest := []) (n := 2) (c_X4_endOfRow hAd I L A B v3 x2 _ h) hx hb hT hown hK hP hS mw_3_156 wd_X4_endOfRow (by decide +kernel) ⟨rfl, rfl⟩ (by decide) rfl rfl he_X4 rfl hl.1 hml rfl (Nat.le_of_ble_eq_true rfl) dX4_fits_14 ⟨Nat.zero_le _, Nat.zero_le _⟩ (fun r14 u H locs h hP hS => ?_)
        obtain ⟨Iu, Lu, Au, Bu⟩ := u
        dsimp only at h hP
        obtain ⟨h, rfl, rfl, rfl, rfl⟩ := h
        try dsimp only at h
        refine lv_istore_n (lv' := [(3, .int r14), (4, .int v4), (0, .ref (ad 5)), (1, .int x1), (2, .int x2)]) hx hb dX4_fits_17 rfl hl (by decide) rfl (fun ls hl => ?_)
        obtain ⟨v4_1, ev4_1⟩ : ∃ z : Int32, z = v4 + 1 := ⟨_, rfl⟩
        replace h := h v4_1 ev4_1
        refine lv_iinc (v := v4_1) (lv' := [(4, .int v4_1), (3, .int r14), (0, .ref (ad 5)), (1, .int x1), (2, .int x2)]) hx hb dX4_fits_18 hl (k := 1) rfl (by rw [ev4_1]; rfl) (by decide) rfl (fun ls hl => ?_)
        refine lv_goto (tgt := 5) hx hb dX4_fits_21 (by decide) ?_
        exact ih v4_1 r14 _ _ _ h (lv_sub hl [0, 1, 2, 3, 4] rfl) hP hS
  exact LP _ 0 0 _ _ _ h (lv_sub hl [0, 1, 2, 3, 4] rfl) hP hS
theorem dX4_flattest_0 : decode cX4_flattest 0 = .ok (.iconst 0, 1) := by decide +kernel
theorem dX4_flattest_1 : decode cX4_flattest 1 = .ok (.istore_n 2, 1) := by decide +kernel
theorem dX4_flattest_2 : decode cX4_flattest 2 = .ok (.iload_n 2, 1) := by decide +kernel
theorem dX4_flattest_3 : decode cX4_flattest 3 = .ok (.aload_n 0, 1) := by decide +kernel
theorem dX4_flattest_4 : decode cX4_flattest 4 = .ok (.getfield 13, 3) := by decide +kernel
theorem dX4_flattest_7 : decode cX4_flattest 7 = .ok (.if_icmp .ge 18, 3) := by decide +kernel
theorem dX4_flattest_10 : decode cX4_flattest 10 = .ok (.aload_n 0, 1) := by decide +kernel
theorem dX4_flattest_11 : decode cX4_flattest 11 = .ok (.iload_n 1, 1) := by decide +kernel
theorem dX4_flattest_12 : decode cX4_flattest 12 = .ok (.iload_n 2, 1) := by decide +kernel
theorem dX4_flattest_13 : decode cX4_flattest 13 = .ok (.invokevirtual 26, 3) := by decide +kernel
theorem dX4_flattest_16 : decode cX4_flattest 16 = .ok (.ifCond .ne 9, 3) := by decide +kernel
theorem dX4_flattest_19 : decode cX4_flattest 19 = .ok (.iinc 2 1, 3) := by decide +kernel
theorem dX4_flattest_22 : decode cX4_flattest 22 = .ok (.goto (-20), 3) := by decide +kernel
theorem dX4_flattest_25 : decode cX4_flattest 25 = .ok (.iload_n 2, 1) := by decide +kernel
theorem dX4_flattest_26 : decode cX4_flattest 26 = .ok (.ireturn, 1) := by decide +kernel
def wX4_flattest (I : Nat → Int32) (L : Nat → Int64) (A : Nat → Nat → Int32) (B : Nat → Nat → Int64) (x1 : Int32) (post : Int32 → Prop) : Prop := ∃ n, lfix (fun (r : Int32 → Prop) v2 => if (I 5) ≤ v2 then (post v2) else (wX4_fits I L A B x1 v2 (fun r13 => if r13 = 0 then (∀ v2_1 : Int32, v2_1 = v2 + 1 → r v2_1) else (post v2)))) n 0
abbrev rmX4_flattest : Room := { frames := 3, cells := 0, slots := 0, locals := 68 }
theorem wd_X4_flattest : Cond.instanceMethod yX4_flattest ∈ BW ∧ Cond.selects yX4_flattest.cls yX4_flattest yX4_flattest ∈ BW ∧ Cond.initialized yX4_flattest.cls ∈ BW ∧ Cond.code yX4_flattest cX4_flattest 3 (some .int) ∈ BW := ⟨mw_3_149, mw_3_150, mw_1_9, mw_3_151⟩
set_option maxHeartbeats 4000000 in
set_option maxRecDepth 100000 in
theorem c_X4_flattest {l : Launch} {D : va_G} {cy : Nat → ClassId} {ad : Nat → Nat} {Ad : Nat → Prop} (hAd : adok 103 Ad ad) (I : Nat → Int32) (L : Nat → Int64) (A : Nat → Nat → Int32) (B : Nat → Nat → Int64) (x1 : Int32)  (post : Int32 → Prop) (h : wX4_flattest I L A B x1 post) : Met l yX4_flattest (.code yX4_flattest cX4_flattest 3 (some .int) :: BW) rmX4_flattest (va_Pc [.ref (ad 5), .int x1] (fun U => kC D cy U ∧ va_P D vwCl (wC cy ad I L A B) U.heap)) (qCi D cy ad Ad (fun r u => post r  ∧ I = u.1 ∧ L = u.2.1 ∧ A = u.2.2.1 ∧ B = u.2.2.2)) 0 0 Ad := by
  refine startCi (by decide) (Nat.le_of_ble_eq_true rfl) (lv := [(0, .ref (ad 5)), (1, .int x1)]) rfl (fun p e s m args below meth c Q ls hx hb hml hT hown hK hret hl hP hS => ?_)
  unfold wX4_flattest at h
  refine lv_iconst (v := 0) hx hb dX4_flattest_0 (by decide) ?_
  refine lv_istore_n (lv' := [(2, .int 0), (0, .ref (ad 5)), (1, .int x1)]) hx hb dX4_flattest_1 rfl hl (by decide) rfl (fun ls hl => ?_)
  obtain ⟨F, n, h, hF, hG⟩ := lfix_ex h
  have LP : ∀ (n : Nat) (v2 : Int32) (ls : Array Slot) (H : Heap) (locs : List Loc), F n v2 → lv_has ls 3 [(2, .int v2), (0, .ref (ad 5)), (1, .int x1)] → va_P D vwCl (wC cy ad I L A B) H → va_S Ad s.heap H locs → W p l e rmX4_flattest s m args below meth c H locs 0 0 Q (F0 m 2 ls []) := by
    intro n
    induction n with
    | zero => intro v2 ls H locs h _ _ _; exact absurd h (hF _)
    | succ n ih =>
      intro v2 ls H locs h hl hP hS
      replace h := hG _ _ h
      try dsimp only at h
      refine lv_iload_n hx hb dX4_flattest_2 rfl (lv_at hl 0 rfl) ?_
      refine lv_aload_n hx hb dX4_flattest_3 rfl (lv_at hl 1 rfl) ?_
      refine va_get (T := TX4) hx hb hT inlX4 hown hK.1 hP 5 he_X4 rfl 1 (by decide) (hT _ mw_1_214) (fun _ h9 => h9) rfl dX4_flattest_4 ?_
      refine lv_icmp_ge (tgt := 25) hx hb dX4_flattest_7 (by decide) (fun hc => ?_) (fun hc => ?_)
      · rw [if_pos hc] at h
        refine lv_iload_n hx hb dX4_flattest_25 rfl (lv_at hl 0 rfl) ?_
        exact hret _ (I, L, A, B) dX4_flattest_26 ⟨h, rfl, rfl, rfl, rfl⟩ hP hS
      · rw [if_neg hc] at h
        refine lv_aload_n hx hb dX4_flattest_10 rfl (lv_at hl 1 rfl) ?_
        refine lv_iload_n hx hb dX4_flattest_11 rfl (lv_at hl 2 rfl) ?_
        refine lv_iload_n hx hb dX4_flattest_12 rfl (lv_at hl 0 rfl) ?_
        refine callCi (k := 5) (As := [.int x1, .int v2]) (rest := []) (n := 2) (c_X4_fits hAd I L A B x1 v2 _ h) hx hb hT hown hK hP hS mw_3_152 wd_X4_fits (by decide +kernel) ⟨rfl, rfl⟩ (by decide) rfl rfl he_X4 rfl hl.1 hml rfl (Nat.le_of_ble_eq_true rfl) dX4_flattest_13 ⟨Nat.zero_le _, Nat.zero_le _⟩ (fun r13 u H locs h hP hS => ?_)
        obtain ⟨Iu, Lu, Au, Bu⟩ := u
        dsimp only at h hP
        obtain ⟨h, rfl, rfl, rfl, rfl⟩ := h
        try dsimp only at h
        refine lv_if_ne (tgt := 25) hx hb dX4_flattest_16 (by decide) (fun hc_1 => ?_) (fun hc_1 => ?_)
        · rw [if_neg hc_1] at h
          refine lv_iload_n hx hb dX4_flattest_25 rfl (lv_at hl 0 rfl) ?_
          exact hret _ (I, L, A, B) dX4_flattest_26 ⟨h, rfl, rfl, rfl, rfl⟩ hP hS
        · rw [if_pos hc_1] at h
          obtain ⟨v2_1, ev2_1⟩ : ∃ z : Int32, z = v2 + 1 := ⟨_, rfl⟩
          replace h := h v2_1 ev2_1
          refine lv_iinc (v := v2_1) (lv' := [(2, .int v2_1), (0, .ref (ad 5)), (1, .int x1)]) hx hb dX4_flattest_19 hl (k := 0) rfl (by rw [ev2_1]; rfl) (by decide) rfl (fun ls hl => ?_)
          refine lv_goto (tgt := 2) hx hb dX4_flattest_22 (by decide) ?_
          exact ih v2_1 _ _ _ h (lv_sub hl [0, 1, 2] rfl) hP hS
  exact LP _ 0 _ _ _ h (lv_sub hl [0, 1, 2] rfl) hP hS
theorem dX5_isOpen_0 : decode cX5_isOpen 0 = .ok (.aload_n 0, 1) := by decide +kernel
theorem dX5_isOpen_1 : decode cX5_isOpen 1 = .ok (.getfield 18, 3) := by decide +kernel
theorem dX5_isOpen_4 : decode cX5_isOpen 4 = .ok (.lconst 0, 1) := by decide +kernel
theorem dX5_isOpen_5 : decode cX5_isOpen 5 = .ok (.lcmp, 1) := by decide +kernel
theorem dX5_isOpen_6 : decode cX5_isOpen 6 = .ok (.ifCond .ne 21, 3) := by decide +kernel
theorem dX5_isOpen_9 : decode cX5_isOpen 9 = .ok (.aload_n 0, 1) := by decide +kernel
theorem dX5_isOpen_10 : decode cX5_isOpen 10 = .ok (.getfield 22, 3) := by decide +kernel
theorem dX5_isOpen_13 : decode cX5_isOpen 13 = .ok (.ifCond .ne 14, 3) := by decide +kernel
theorem dX5_isOpen_16 : decode cX5_isOpen 16 = .ok (.aload_n 0, 1) := by decide +kernel
theorem dX5_isOpen_17 : decode cX5_isOpen 17 = .ok (.getfield 26, 3) := by decide +kernel
theorem dX5_isOpen_20 : decode cX5_isOpen 20 = .ok (.ifCond .ne 7, 3) := by decide +kernel
theorem dX5_isOpen_23 : decode cX5_isOpen 23 = .ok (.iconst 1, 1) := by decide +kernel
theorem dX5_isOpen_24 : decode cX5_isOpen 24 = .ok (.goto 4, 3) := by decide +kernel
theorem dX5_isOpen_27 : decode cX5_isOpen 27 = .ok (.iconst 0, 1) := by decide +kernel
theorem dX5_isOpen_28 : decode cX5_isOpen 28 = .ok (.ireturn, 1) := by decide +kernel
def wX5_isOpen (I : Nat → Int32) (L : Nat → Int64) (A : Nat → Nat → Int32) (B : Nat → Nat → Int64) (k0 : Nat) (post : Int32 → Prop) : Prop := if (lg_cmp (L k0) 0) = 0 then (if (I k0) = 0 then (if (I (k0 + 22)) = 0 then (post 1) else (post 0)) else (post 0)) else (post 0)
abbrev rmX5_isOpen : Room := { frames := 0, cells := 0, slots := 0, locals := 0 }
theorem wd_X5_isOpen : Cond.instanceMethod yX5_isOpen ∈ BW ∧ Cond.selects yX5_isOpen.cls yX5_isOpen yX5_isOpen ∈ BW ∧ Cond.initialized yX5_isOpen.cls ∈ BW ∧ Cond.code yX5_isOpen cX5_isOpen 1 (some .boolean) ∈ BW := ⟨mw_2_49, mw_2_50, mw_1_7, mw_2_51⟩
set_option maxHeartbeats 4000000 in
set_option maxRecDepth 100000 in
theorem c_X5_isOpen {l : Launch} {D : va_G} {cy : Nat → ClassId} {ad : Nat → Nat} {Ad : Nat → Prop} (hAd : adok 103 Ad ad) (I : Nat → Int32) (L : Nat → Int64) (A : Nat → Nat → Int32) (B : Nat → Nat → Int64) (k0 : Nat) (hk0 : 14 ≤ k0 ∧ k0 < 36) (post : Int32 → Prop) (h : wX5_isOpen I L A B k0 post) : Met l yX5_isOpen (.code yX5_isOpen cX5_isOpen 1 (some .boolean) :: BW) rmX5_isOpen (va_Pc [.ref (ad k0)] (fun U => kC D cy U ∧ va_P D vwCl (wC cy ad I L A B) U.heap)) (qCi D cy ad Ad (fun r u => post r  ∧ I = u.1 ∧ L = u.2.1 ∧ A = u.2.2.1 ∧ B = u.2.2.2)) 0 0 Ad := by
  refine startCz (by decide) (Nat.le_of_ble_eq_true rfl) (lv := [(0, .ref (ad k0))]) rfl (fun p e s m args below meth c Q ls hx hb hml hT hown hK hret hl hP hS => ?_)
  unfold wX5_isOpen at h
  refine lv_aload_n hx hb dX5_isOpen_0 rfl (lv_at hl 0 rfl) ?_
  refine va_get (T := TX5) hx hb hT inlX5 hown hK.1 hP k0 (he_X5 (by omega)) rfl 0 (by decide) (hT _ mw_1_120) (fun _ h9 => h9) rfl dX5_isOpen_1 ?_
  refine lv_lconst (v := 0) hx hb dX5_isOpen_4 (by decide) ?_
  refine W.lcmp hx hb dX5_isOpen_5 ?_
  refine lv_if_ne (tgt := 27) hx hb dX5_isOpen_6 (by decide) (fun hc => ?_) (fun hc => ?_)
  · rw [if_neg hc] at h
    refine lv_iconst (v := 0) hx hb dX5_isOpen_27 (by decide) ?_
    exact hret _ (I, L, A, B) zb_0 dX5_isOpen_28 ⟨h, rfl, rfl, rfl, rfl⟩ hP hS
  · rw [if_pos hc] at h
    refine lv_aload_n hx hb dX5_isOpen_9 rfl (lv_at hl 0 rfl) ?_
    refine va_get (T := TX5) hx hb hT inlX5 hown hK.1 hP k0 (he_X5 (by omega)) rfl 1 (by decide) (hT _ mw_1_123) (fun _ h9 => h9) rfl dX5_isOpen_10 ?_
    refine lv_if_ne (tgt := 27) hx hb dX5_isOpen_13 (by decide) (fun hc_1 => ?_) (fun hc_1 => ?_)
    · rw [if_neg hc_1] at h
      refine lv_iconst (v := 0) hx hb dX5_isOpen_27 (by decide) ?_
      exact hret _ (I, L, A, B) zb_0 dX5_isOpen_28 ⟨h, rfl, rfl, rfl, rfl⟩ hP hS
    · rw [if_pos hc_1] at h
      refine lv_aload_n hx hb dX5_isOpen_16 rfl (lv_at hl 0 rfl) ?_
      refine va_get (T := TX5) hx hb hT inlX5 hown hK.1 hP k0 (he_X5 (by omega)) rfl 2 (by decide) (hT _ mw_1_126) (fun _ h9 => h9) rfl dX5_isOpen_17 ?_
      refine lv_if_ne (tgt := 27) hx hb dX5_isOpen_20 (by decide) (fun hc_2 => ?_) (fun hc_2 => ?_)
      · rw [if_neg hc_2] at h
        refine lv_iconst (v := 0) hx hb dX5_isOpen_27 (by decide) ?_
        exact hret _ (I, L, A, B) zb_0 dX5_isOpen_28 ⟨h, rfl, rfl, rfl, rfl⟩ hP hS
      · rw [if_pos hc_2] at h
        refine lv_iconst (v := 1) hx hb dX5_isOpen_23 (by decide) ?_
        refine lv_goto (tgt := 28) hx hb dX5_isOpen_24 (by decide) ?_
        exact hret _ (I, L, A, B) zb_1 dX5_isOpen_28 ⟨h, rfl, rfl, rfl, rfl⟩ hP hS
theorem dX5_clear_0 : decode cX5_clear 0 = .ok (.aload_n 0, 1) := by decide +kernel
theorem dX5_clear_1 : decode cX5_clear 1 = .ok (.lconst 0, 1) := by decide +kernel
theorem dX5_clear_2 : decode cX5_clear 2 = .ok (.putfield 18, 3) := by decide +kernel
theorem dX5_clear_5 : decode cX5_clear 5 = .ok (.aload_n 0, 1) := by decide +kernel
theorem dX5_clear_6 : decode cX5_clear 6 = .ok (.iconst 0, 1) := by decide +kernel
theorem dX5_clear_7 : decode cX5_clear 7 = .ok (.putfield 22, 3) := by decide +kernel
theorem dX5_clear_10 : decode cX5_clear 10 = .ok (.aload_n 0, 1) := by decide +kernel
theorem dX5_clear_11 : decode cX5_clear 11 = .ok (.iconst 0, 1) := by decide +kernel
theorem dX5_clear_12 : decode cX5_clear 12 = .ok (.putfield 26, 3) := by decide +kernel
theorem dX5_clear_15 : decode cX5_clear 15 = .ok (.return_, 1) := by decide +kernel
def wX5_clear (I : Nat → Int32) (L : Nat → Int64) (A : Nat → Nat → Int32) (B : Nat → Nat → Int64) (k0 : Nat) (post : (Nat → Int32) → (Nat → Int64) → Prop) : Prop := (∀ L_1, L_1 = va_up L k0 0 → (∀ I_1, I_1 = va_up I k0 0 → (∀ I_2, I_2 = va_up I_1 (k0 + 22) 0 → post I_2 L_1)))
abbrev rmX5_clear : Room := { frames := 0, cells := 0, slots := 0, locals := 0 }
theorem wd_X5_clear : Cond.instanceMethod yX5_clear ∈ BW ∧ Cond.selects yX5_clear.cls yX5_clear yX5_clear ∈ BW ∧ Cond.initialized yX5_clear.cls ∈ BW ∧ Cond.code yX5_clear cX5_clear 1 (none : Option Jvm.ClassFile.FieldType) ∈ BW := ⟨mw_3_24, mw_3_25, mw_1_7, mw_3_26⟩
set_option maxHeartbeats 4000000 in
set_option maxRecDepth 100000 in
theorem c_X5_clear {l : Launch} {D : va_G} {cy : Nat → ClassId} {ad : Nat → Nat} {Ad : Nat → Prop} (hAd : adok 103 Ad ad) (I : Nat → Int32) (L : Nat → Int64) (A : Nat → Nat → Int32) (B : Nat → Nat → Int64) (k0 : Nat) (hk0 : 14 ≤ k0 ∧ k0 < 36) (post : (Nat → Int32) → (Nat → Int64) → Prop) (h : wX5_clear I L A B k0 post) : Met l yX5_clear (.code yX5_clear cX5_clear 1 (none : Option Jvm.ClassFile.FieldType) :: BW) rmX5_clear (va_Pc [.ref (ad k0)] (fun U => kC D cy U ∧ va_P D vwCl (wC cy ad I L A B) U.heap)) (qCv D cy ad Ad (fun u => post u.1 u.2.1 ∧ A = u.2.2.1 ∧ B = u.2.2.2)) 0 0 Ad := by
  refine startCv (by decide) (Nat.le_of_ble_eq_true rfl) (lv := [(0, .ref (ad k0))]) rfl (fun p e s m args below meth c Q ls hx hb hml hT hown hK hret hl hP hS => ?_)
  unfold wX5_clear at h
  refine lv_aload_n hx hb dX5_clear_0 rfl (lv_at hl 0 rfl) ?_
  refine lv_lconst (v := 0) hx hb dX5_clear_1 (by decide) ?_
  refine pC_X5_categories (by omega) hAd hx hb hT hown hK.1 hP hS (hT _ mw_1_120) dX5_clear_2 (fun H locs hP hS => ?_)
  obtain ⟨L_1, eL_1⟩ : ∃ z, z = va_up L k0 0 := ⟨_, rfl⟩
  rw [← eL_1] at hP
  replace h := h L_1 eL_1
  refine lv_aload_n hx hb dX5_clear_5 rfl (lv_at hl 0 rfl) ?_
  refine lv_iconst (v := 0) hx hb dX5_clear_6 (by decide) ?_
  refine pC_X5_absent (by omega) hAd hx hb hT hown hK.1 hP hS zb_0 (hT _ mw_1_123) dX5_clear_7 (fun H locs hP hS => ?_)
  obtain ⟨I_1, eI_1⟩ : ∃ z, z = va_up I k0 0 := ⟨_, rfl⟩
  rw [← eI_1] at hP
  replace h := h I_1 eI_1
  refine lv_aload_n hx hb dX5_clear_10 rfl (lv_at hl 0 rfl) ?_
  refine lv_iconst (v := 0) hx hb dX5_clear_11 (by decide) ?_
  refine pC_X5_ranges (by omega) hAd hx hb hT hown hK.1 hP hS (hT _ mw_1_126) dX5_clear_12 (fun H locs hP hS => ?_)
  obtain ⟨I_2, eI_2⟩ : ∃ z, z = va_up I_1 (k0 + 22) 0 := ⟨_, rfl⟩
  rw [← eI_2] at hP
  replace h := h I_2 eI_2
  exact hret (I_2, L_1, A, B) dX5_clear_15 ⟨h, rfl, rfl⟩ hP hS
theorem dX5_copy_0 : decode cX5_copy 0 = .ok (.aload_n 0, 1) := by decide +kernel
theorem dX5_copy_1 : decode cX5_copy 1 = .ok (.aload_n 1, 1) := by decide +kernel
theorem dX5_copy_2 : decode cX5_copy 2 = .ok (.getfield 18, 3) := by decide +kernel
theorem dX5_copy_5 : decode cX5_copy 5 = .ok (.putfield 18, 3) := by decide +kernel
theorem dX5_copy_8 : decode cX5_copy 8 = .ok (.aload_n 0, 1) := by decide +kernel
theorem dX5_copy_9 : decode cX5_copy 9 = .ok (.aload_n 1, 1) := by decide +kernel
theorem dX5_copy_10 : decode cX5_copy 10 = .ok (.getfield 22, 3) := by decide +kernel
theorem dX5_copy_13 : decode cX5_copy 13 = .ok (.putfield 22, 3) := by decide +kernel
theorem dX5_copy_16 : decode cX5_copy 16 = .ok (.aload_n 0, 1) := by decide +kernel
theorem dX5_copy_17 : decode cX5_copy 17 = .ok (.aload_n 1, 1) := by decide +kernel
theorem dX5_copy_18 : decode cX5_copy 18 = .ok (.getfield 26, 3) := by decide +kernel
theorem dX5_copy_21 : decode cX5_copy 21 = .ok (.putfield 26, 3) := by decide +kernel
theorem dX5_copy_24 : decode cX5_copy 24 = .ok (.iconst 0, 1) := by decide +kernel
theorem dX5_copy_25 : decode cX5_copy 25 = .ok (.istore_n 2, 1) := by decide +kernel
theorem dX5_copy_26 : decode cX5_copy 26 = .ok (.iload_n 2, 1) := by decide +kernel
theorem dX5_copy_27 : decode cX5_copy 27 = .ok (.iconst 3, 1) := by decide +kernel
theorem dX5_copy_28 : decode cX5_copy 28 = .ok (.if_icmp .ge 33, 3) := by decide +kernel
theorem dX5_copy_31 : decode cX5_copy 31 = .ok (.aload_n 0, 1) := by decide +kernel
theorem dX5_copy_32 : decode cX5_copy 32 = .ok (.getfield 9, 3) := by decide +kernel
theorem dX5_copy_35 : decode cX5_copy 35 = .ok (.iload_n 2, 1) := by decide +kernel
theorem dX5_copy_36 : decode cX5_copy 36 = .ok (.aload_n 1, 1) := by decide +kernel
theorem dX5_copy_37 : decode cX5_copy 37 = .ok (.getfield 9, 3) := by decide +kernel
theorem dX5_copy_40 : decode cX5_copy 40 = .ok (.iload_n 2, 1) := by decide +kernel
theorem dX5_copy_41 : decode cX5_copy 41 = .ok (.iaload, 1) := by decide +kernel
theorem dX5_copy_42 : decode cX5_copy 42 = .ok (.iastore, 1) := by decide +kernel
theorem dX5_copy_43 : decode cX5_copy 43 = .ok (.aload_n 0, 1) := by decide +kernel
theorem dX5_copy_44 : decode cX5_copy 44 = .ok (.getfield 15, 3) := by decide +kernel
theorem dX5_copy_47 : decode cX5_copy 47 = .ok (.iload_n 2, 1) := by decide +kernel
theorem dX5_copy_48 : decode cX5_copy 48 = .ok (.aload_n 1, 1) := by decide +kernel
theorem dX5_copy_49 : decode cX5_copy 49 = .ok (.getfield 15, 3) := by decide +kernel
theorem dX5_copy_52 : decode cX5_copy 52 = .ok (.iload_n 2, 1) := by decide +kernel
theorem dX5_copy_53 : decode cX5_copy 53 = .ok (.iaload, 1) := by decide +kernel
theorem dX5_copy_54 : decode cX5_copy 54 = .ok (.iastore, 1) := by decide +kernel
theorem dX5_copy_55 : decode cX5_copy 55 = .ok (.iinc 2 1, 3) := by decide +kernel
theorem dX5_copy_58 : decode cX5_copy 58 = .ok (.goto (-32), 3) := by decide +kernel
theorem dX5_copy_61 : decode cX5_copy 61 = .ok (.return_, 1) := by decide +kernel
def wX5_copy (I : Nat → Int32) (L : Nat → Int64) (A : Nat → Nat → Int32) (B : Nat → Nat → Int64) (k0 : Nat) (k1 : Nat) (post : (Nat → Int32) → (Nat → Int64) → (Nat → Nat → Int32) → Prop) : Prop := (∀ L_1, L_1 = va_up L k0 (L k1) → zb (I k1) ∧ (∀ I_1, I_1 = va_up I k0 (I k1) → (∀ I_2, I_2 = va_up I_1 (k0 + 22) (I_1 (k1 + 22)) → ∃ n, lfix (fun (r : (Int32 × (Nat → Nat → Int32)) → Prop) (v2, A_1) => if 3 ≤ v2 then (post I_2 L_1 A_1) else (vp_in v2 3 ∧ (vp_in v2 3 ∧ (∀ A_2, A_2 = va_up A_1 (k0 + 45) (upd (A_1 (k0 + 45)) v2.toNatClampNeg (A_1 (k1 + 45) v2.toNatClampNeg)) → vp_in v2 3 ∧ (vp_in v2 3 ∧ (∀ A_3, A_3 = va_up A_2 (k0 + 67) (upd (A_2 (k0 + 67)) v2.toNatClampNeg (A_2 (k1 + 67) v2.toNatClampNeg)) → ∀ v2_1 : Int32, v2_1 = v2 + 1 → r (v2_1, A_3))))))) n (0, A))))
abbrev rmX5_copy : Room := { frames := 0, cells := 0, slots := 0, locals := 0 }
theorem wd_X5_copy : Cond.instanceMethod yX5_copy ∈ BW ∧ Cond.selects yX5_copy.cls yX5_copy yX5_copy ∈ BW ∧ Cond.initialized yX5_copy.cls ∈ BW ∧ Cond.code yX5_copy cX5_copy 3 (none : Option Jvm.ClassFile.FieldType) ∈ BW := ⟨mw_2_231, mw_2_232, mw_1_7, mw_2_233⟩
set_option maxHeartbeats 4000000 in
set_option maxRecDepth 100000 in
theorem c_X5_copy {l : Launch} {D : va_G} {cy : Nat → ClassId} {ad : Nat → Nat} {Ad : Nat → Prop} (hAd : adok 103 Ad ad) (I : Nat → Int32) (L : Nat → Int64) (A : Nat → Nat → Int32) (B : Nat → Nat → Int64) (k0 : Nat) (k1 : Nat) (hk0 : 14 ≤ k0 ∧ k0 < 36) (hk1 : 14 ≤ k1 ∧ k1 < 36) (post : (Nat → Int32) → (Nat → Int64) → (Nat → Nat → Int32) → Prop) (h : wX5_copy I L A B k0 k1 post) : Met l yX5_copy (.code yX5_copy cX5_copy 3 (none : Option Jvm.ClassFile.FieldType) :: BW) rmX5_copy (va_Pc [.ref (ad k0), .ref (ad k1)] (fun U => kC D cy U ∧ va_P D vwCl (wC cy ad I L A B) U.heap)) (qCv D cy ad Ad (fun u => post u.1 u.2.1 u.2.2.1 ∧ B = u.2.2.2)) 0 0 Ad := by
  refine startCv (by decide) (Nat.le_of_ble_eq_true rfl) (lv := [(0, .ref (ad k0)), (1, .ref (ad k1))]) rfl (fun p e s m args below meth c Q ls hx hb hml hT hown hK hret hl hP hS => ?_)
  unfold wX5_copy at h
  refine lv_aload_n hx hb dX5_copy_0 rfl (lv_at hl 0 rfl) ?_
  refine lv_aload_n hx hb dX5_copy_1 rfl (lv_at hl 1 rfl) ?_
  refine va_get (T := TX5) hx hb hT inlX5 hown hK.1 hP k1 (he_X5 (by omega)) rfl 0 (by decide) (hT _ mw_1_120) (fun _ h9 => h9) rfl dX5_copy_2 ?_
  refine pC_X5_categories (by omega) hAd hx hb hT hown hK.1 hP hS (hT _ mw_1_120) dX5_copy_5 (fun H locs hP hS => ?_)
  obtain ⟨L_1, eL_1⟩ : ∃ z, z = va_up L k0 (L k1) := ⟨_, rfl⟩
  rw [← eL_1] at hP
  replace h := h L_1 eL_1
  refine lv_aload_n hx hb dX5_copy_8 rfl (lv_at hl 0 rfl) ?_
  refine lv_aload_n hx hb dX5_copy_9 rfl (lv_at hl 1 rfl) ?_
  refine va_get (T := TX5) hx hb hT inlX5 hown hK.1 hP k1 (he_X5 (by omega)) rfl 1 (by decide) (hT _ mw_1_123) (fun _ h9 => h9) rfl dX5_copy_10 ?_
  obtain ⟨hz, h⟩ := h
  refine pC_X5_absent (by omega) hAd hx hb hT hown hK.1 hP hS hz (hT _ mw_1_123) dX5_copy_13 (fun H locs hP hS => ?_)
  obtain ⟨I_1, eI_1⟩ : ∃ z, z = va_up I k0 (I k1) := ⟨_, rfl⟩
  rw [← eI_1] at hP
  replace h := h I_1 eI_1
  refine lv_aload_n hx hb dX5_copy_16 rfl (lv_at hl 0 rfl) ?_
  refine lv_aload_n hx hb dX5_copy_17 rfl (lv_at hl 1 rfl) ?_
  refine va_get (T := TX5) hx hb hT inlX5 hown hK.1 hP k1 (he_X5 (by omega)) rfl 2 (by decide) (hT _ mw_1_126) (fun _ h9 => h9) rfl dX5_copy_18 ?_
  refine pC_X5_ranges (by omega) hAd hx hb hT hown hK.1 hP hS (hT _ mw_1_126) dX5_copy_21 (fun H locs hP hS => ?_)
  obtain ⟨I_2, eI_2⟩ : ∃ z, z = va_up I_1 (k0 + 22) (I_1 (k1 + 22)) := ⟨_, rfl⟩
  rw [← eI_2] at hP
  replace h := h I_2 eI_2
  refine lv_iconst (v := 0) hx hb dX5_copy_24 (by decide) ?_
  refine lv_istore_n (lv' := [(2, .int 0), (0, .ref (ad k0)), (1, .ref (ad k1))]) hx hb dX5_copy_25 rfl hl (by decide) rfl (fun ls hl => ?_)
  obtain ⟨F, n, h, hF, hG⟩ := lfix_ex h
  have LP : ∀ (n : Nat) (v2 : Int32) (A_1 : Nat → Nat → Int32) (ls : Array Slot) (H : Heap) (locs : List Loc), F n (v2, A_1) → lv_has ls 3 [(2, .int v2), (0, .ref (ad k0)), (1, .ref (ad k1))] → va_P D vwCl (wC cy ad I_2 L_1 A_1 B) H → va_S Ad s.heap H locs → W p l e rmX5_copy s m args below meth c H locs 0 0 Q (F0 m 26 ls []) := by
    intro n
    induction n with
    | zero => intro v2 A_1 ls H locs h _ _ _; exact absurd h (hF _)
    | succ n ih =>
      intro v2 A_1 ls H locs h hl hP hS
      replace h := hG _ _ h
      try dsimp only at h
      refine lv_iload_n hx hb dX5_copy_26 rfl (lv_at hl 0 rfl) ?_
      refine lv_iconst (v := 3) hx hb dX5_copy_27 (by decide) ?_
      refine lv_icmp_ge (tgt := 61) hx hb dX5_copy_28 (by decide) (fun hc => ?_) (fun hc => ?_)
      · rw [if_pos hc] at h
        exact hret (I_2, L_1, A_1, B) dX5_copy_61 ⟨h, rfl⟩ hP hS
      · rw [if_neg hc] at h
        refine lv_aload_n hx hb dX5_copy_31 rfl (lv_at hl 1 rfl) ?_
        refine va_get (T := TX5) hx hb hT inlX5 hown hK.1 hP k0 (he_X5 (by omega)) rfl 3 (by decide) (hT _ mw_1_129) (fun _ h9 => h9) rfl dX5_copy_32 ?_
        refine lv_iload_n hx hb dX5_copy_35 rfl (lv_at hl 0 rfl) ?_
        refine lv_aload_n hx hb dX5_copy_36 rfl (lv_at hl 2 rfl) ?_
        refine va_get (T := TX5) hx hb hT inlX5 hown hK.1 hP k1 (he_X5 (by omega)) rfl 3 (by decide) (hT _ mw_1_129) (fun _ h9 => h9) rfl dX5_copy_37 ?_
        refine lv_iload_n hx hb dX5_copy_40 rfl (lv_at hl 0 rfl) ?_
        obtain ⟨hi, h⟩ := h
        refine lC_I hx hb hK.1 hP (by omega) (eC_R3 (by omega)) hi dX5_copy_41 ?_
        obtain ⟨hi_1, h⟩ := h
        refine sC_I hAd hx hb hK.1 hP hS (by omega) (fun _ => eC_R3 (by omega)) hi_1 dX5_copy_42 (fun H locs hP hS => ?_)
        obtain ⟨A_2, eA_2⟩ : ∃ z, z = va_up A_1 (k0 + 45) (upd (A_1 (k0 + 45)) v2.toNatClampNeg (A_1 (k1 + 45) v2.toNatClampNeg)) := ⟨_, rfl⟩
        rw [← eA_2] at hP
        replace h := h A_2 eA_2
        refine lv_aload_n hx hb dX5_copy_43 rfl (lv_at hl 1 rfl) ?_
        refine va_get (T := TX5) hx hb hT inlX5 hown hK.1 hP k0 (he_X5 (by omega)) rfl 4 (by decide) (hT _ mw_1_130) (fun _ h9 => h9) rfl dX5_copy_44 ?_
        refine lv_iload_n hx hb dX5_copy_47 rfl (lv_at hl 0 rfl) ?_
        refine lv_aload_n hx hb dX5_copy_48 rfl (lv_at hl 2 rfl) ?_
        refine va_get (T := TX5) hx hb hT inlX5 hown hK.1 hP k1 (he_X5 (by omega)) rfl 4 (by decide) (hT _ mw_1_130) (fun _ h9 => h9) rfl dX5_copy_49 ?_
        refine lv_iload_n hx hb dX5_copy_52 rfl (lv_at hl 0 rfl) ?_
        obtain ⟨hi_2, h⟩ := h
        refine lC_I hx hb hK.1 hP (by omega) (eC_R3 (by omega)) hi_2 dX5_copy_53 ?_
        obtain ⟨hi_3, h⟩ := h
        refine sC_I hAd hx hb hK.1 hP hS (by omega) (fun _ => eC_R3 (by omega)) hi_3 dX5_copy_54 (fun H locs hP hS => ?_)
        obtain ⟨A_3, eA_3⟩ : ∃ z, z = va_up A_2 (k0 + 67) (upd (A_2 (k0 + 67)) v2.toNatClampNeg (A_2 (k1 + 67) v2.toNatClampNeg)) := ⟨_, rfl⟩
        rw [← eA_3] at hP
        replace h := h A_3 eA_3
        obtain ⟨v2_1, ev2_1⟩ : ∃ z : Int32, z = v2 + 1 := ⟨_, rfl⟩
        replace h := h v2_1 ev2_1
        refine lv_iinc (v := v2_1) (lv' := [(2, .int v2_1), (0, .ref (ad k0)), (1, .ref (ad k1))]) hx hb dX5_copy_55 hl (k := 0) rfl (by rw [ev2_1]; rfl) (by decide) rfl (fun ls hl => ?_)
        refine lv_goto (tgt := 26) hx hb dX5_copy_58 (by decide) ?_
        exact ih v2_1 A_3 _ _ _ h (lv_sub hl [0, 1, 2] rfl) hP hS
  exact LP _ 0 A _ _ _ h (lv_sub hl [0, 1, 2] rfl) hP hS
theorem dX5_addRange_0 : decode cX5_addRange 0 = .ok (.aload_n 0, 1) := by decide +kernel
theorem dX5_addRange_1 : decode cX5_addRange 1 = .ok (.getfield 26, 3) := by decide +kernel
theorem dX5_addRange_4 : decode cX5_addRange 4 = .ok (.iconst 3, 1) := by decide +kernel
theorem dX5_addRange_5 : decode cX5_addRange 5 = .ok (.if_icmp .ge 33, 3) := by decide +kernel
theorem dX5_addRange_8 : decode cX5_addRange 8 = .ok (.aload_n 0, 1) := by decide +kernel
theorem dX5_addRange_9 : decode cX5_addRange 9 = .ok (.getfield 9, 3) := by decide +kernel
theorem dX5_addRange_12 : decode cX5_addRange 12 = .ok (.aload_n 0, 1) := by decide +kernel
theorem dX5_addRange_13 : decode cX5_addRange 13 = .ok (.getfield 26, 3) := by decide +kernel
theorem dX5_addRange_16 : decode cX5_addRange 16 = .ok (.iload_n 1, 1) := by decide +kernel
theorem dX5_addRange_17 : decode cX5_addRange 17 = .ok (.iastore, 1) := by decide +kernel
theorem dX5_addRange_18 : decode cX5_addRange 18 = .ok (.aload_n 0, 1) := by decide +kernel
theorem dX5_addRange_19 : decode cX5_addRange 19 = .ok (.getfield 15, 3) := by decide +kernel
theorem dX5_addRange_22 : decode cX5_addRange 22 = .ok (.aload_n 0, 1) := by decide +kernel
theorem dX5_addRange_23 : decode cX5_addRange 23 = .ok (.getfield 26, 3) := by decide +kernel
theorem dX5_addRange_26 : decode cX5_addRange 26 = .ok (.iload_n 2, 1) := by decide +kernel
theorem dX5_addRange_27 : decode cX5_addRange 27 = .ok (.iastore, 1) := by decide +kernel
theorem dX5_addRange_28 : decode cX5_addRange 28 = .ok (.aload_n 0, 1) := by decide +kernel
theorem dX5_addRange_29 : decode cX5_addRange 29 = .ok (.dup, 1) := by decide +kernel
theorem dX5_addRange_30 : decode cX5_addRange 30 = .ok (.getfield 26, 3) := by decide +kernel
theorem dX5_addRange_33 : decode cX5_addRange 33 = .ok (.iconst 1, 1) := by decide +kernel
theorem dX5_addRange_34 : decode cX5_addRange 34 = .ok (.iadd, 1) := by decide +kernel
theorem dX5_addRange_35 : decode cX5_addRange 35 = .ok (.putfield 26, 3) := by decide +kernel
theorem dX5_addRange_38 : decode cX5_addRange 38 = .ok (.return_, 1) := by decide +kernel
def wX5_addRange (I : Nat → Int32) (L : Nat → Int64) (A : Nat → Nat → Int32) (B : Nat → Nat → Int64) (k0 : Nat) (x1 : Int32) (x2 : Int32) (post : (Nat → Int32) → (Nat → Nat → Int32) → Prop) : Prop := if 3 ≤ (I (k0 + 22)) then (post I A) else (vp_in (I (k0 + 22)) 3 ∧ (∀ A_1, A_1 = va_up A (k0 + 45) (upd (A (k0 + 45)) (I (k0 + 22)).toNatClampNeg x1) → vp_in (I (k0 + 22)) 3 ∧ (∀ A_2, A_2 = va_up A_1 (k0 + 67) (upd (A_1 (k0 + 67)) (I (k0 + 22)).toNatClampNeg x2) → (∀ I_1, I_1 = va_up I (k0 + 22) ((I (k0 + 22)) + 1) → post I_1 A_2))))
abbrev rmX5_addRange : Room := { frames := 0, cells := 0, slots := 0, locals := 0 }
theorem wd_X5_addRange : Cond.instanceMethod yX5_addRange ∈ BW ∧ Cond.selects yX5_addRange.cls yX5_addRange yX5_addRange ∈ BW ∧ Cond.initialized yX5_addRange.cls ∈ BW ∧ Cond.code yX5_addRange cX5_addRange 3 (none : Option Jvm.ClassFile.FieldType) ∈ BW := ⟨mw_3_2, mw_3_3, mw_1_7, mw_3_4⟩
set_option maxHeartbeats 4000000 in
set_option maxRecDepth 100000 in
theorem c_X5_addRange {l : Launch} {D : va_G} {cy : Nat → ClassId} {ad : Nat → Nat} {Ad : Nat → Prop} (hAd : adok 103 Ad ad) (I : Nat → Int32) (L : Nat → Int64) (A : Nat → Nat → Int32) (B : Nat → Nat → Int64) (k0 : Nat) (x1 : Int32) (x2 : Int32) (hk0 : 14 ≤ k0 ∧ k0 < 36) (post : (Nat → Int32) → (Nat → Nat → Int32) → Prop) (h : wX5_addRange I L A B k0 x1 x2 post) : Met l yX5_addRange (.code yX5_addRange cX5_addRange 3 (none : Option Jvm.ClassFile.FieldType) :: BW) rmX5_addRange (va_Pc [.ref (ad k0), .int x1, .int x2] (fun U => kC D cy U ∧ va_P D vwCl (wC cy ad I L A B) U.heap)) (qCv D cy ad Ad (fun u => post u.1 u.2.2.1 ∧ L = u.2.1 ∧ B = u.2.2.2)) 0 0 Ad := by
  refine startCv (by decide) (Nat.le_of_ble_eq_true rfl) (lv := [(0, .ref (ad k0)), (1, .int x1), (2, .int x2)]) rfl (fun p e s m args below meth c Q ls hx hb hml hT hown hK hret hl hP hS => ?_)
  unfold wX5_addRange at h
  refine lv_aload_n hx hb dX5_addRange_0 rfl (lv_at hl 0 rfl) ?_
  refine va_get (T := TX5) hx hb hT inlX5 hown hK.1 hP k0 (he_X5 (by omega)) rfl 2 (by decide) (hT _ mw_1_126) (fun _ h9 => h9) rfl dX5_addRange_1 ?_
  refine lv_iconst (v := 3) hx hb dX5_addRange_4 (by decide) ?_
  refine lv_icmp_ge (tgt := 38) hx hb dX5_addRange_5 (by decide) (fun hc => ?_) (fun hc => ?_)
  · rw [if_pos hc] at h
    exact hret (I, L, A, B) dX5_addRange_38 ⟨h, rfl, rfl⟩ hP hS
  · rw [if_neg hc] at h
    refine lv_aload_n hx hb dX5_addRange_8 rfl (lv_at hl 0 rfl) ?_
    refine va_get (T := TX5) hx hb hT inlX5 hown hK.1 hP k0 (he_X5 (by omega)) rfl 3 (by decide) (hT _ mw_1_129) (fun _ h9 => h9) rfl dX5_addRange_9 ?_
    refine lv_aload_n hx hb dX5_addRange_12 rfl (lv_at hl 0 rfl) ?_
    refine va_get (T := TX5) hx hb hT inlX5 hown hK.1 hP k0 (he_X5 (by omega)) rfl 2 (by decide) (hT _ mw_1_126) (fun _ h9 => h9) rfl dX5_addRange_13 ?_
    refine lv_iload_n hx hb dX5_addRange_16 rfl (lv_at hl 1 rfl) ?_
    obtain ⟨hi, h⟩ := h
    refine sC_I hAd hx hb hK.1 hP hS (by omega) (fun _ => eC_R3 (by omega)) hi dX5_addRange_17 (fun H locs hP hS => ?_)
    obtain ⟨A_1, eA_1⟩ : ∃ z, z = va_up A (k0 + 45) (upd (A (k0 + 45)) (I (k0 + 22)).toNatClampNeg x1) := ⟨_, rfl⟩
    rw [← eA_1] at hP
    replace h := h A_1 eA_1
    refine lv_aload_n hx hb dX5_addRange_18 rfl (lv_at hl 0 rfl) ?_
    refine va_get (T := TX5) hx hb hT inlX5 hown hK.1 hP k0 (he_X5 (by omega)) rfl 4 (by decide) (hT _ mw_1_130) (fun _ h9 => h9) rfl dX5_addRange_19 ?_
    refine lv_aload_n hx hb dX5_addRange_22 rfl (lv_at hl 0 rfl) ?_
    refine va_get (T := TX5) hx hb hT inlX5 hown hK.1 hP k0 (he_X5 (by omega)) rfl 2 (by decide) (hT _ mw_1_126) (fun _ h9 => h9) rfl dX5_addRange_23 ?_
    refine lv_iload_n hx hb dX5_addRange_26 rfl (lv_at hl 2 rfl) ?_
    obtain ⟨hi_1, h⟩ := h
    refine sC_I hAd hx hb hK.1 hP hS (by omega) (fun _ => eC_R3 (by omega)) hi_1 dX5_addRange_27 (fun H locs hP hS => ?_)
    obtain ⟨A_2, eA_2⟩ : ∃ z, z = va_up A_1 (k0 + 67) (upd (A_1 (k0 + 67)) (I (k0 + 22)).toNatClampNeg x2) := ⟨_, rfl⟩
    rw [← eA_2] at hP
    replace h := h A_2 eA_2
    refine lv_aload_n hx hb dX5_addRange_28 rfl (lv_at hl 0 rfl) ?_
    refine lv_dup hx hb dX5_addRange_29 rfl ?_
    refine va_get (T := TX5) hx hb hT inlX5 hown hK.1 hP k0 (he_X5 (by omega)) rfl 2 (by decide) (hT _ mw_1_126) (fun _ h9 => h9) rfl dX5_addRange_30 ?_
    refine lv_iconst (v := 1) hx hb dX5_addRange_33 (by decide) ?_
    refine lv_iadd hx hb dX5_addRange_34 ?_
    refine pC_X5_ranges (by omega) hAd hx hb hT hown hK.1 hP hS (hT _ mw_1_126) dX5_addRange_35 (fun H locs hP hS => ?_)
    obtain ⟨I_1, eI_1⟩ : ∃ z, z = va_up I (k0 + 22) ((I (k0 + 22)) + 1) := ⟨_, rfl⟩
    rw [← eI_1] at hP
    replace h := h I_1 eI_1
    exact hret (I_1, L, A_2, B) dX5_addRange_38 ⟨h, rfl, rfl⟩ hP hS
theorem dX5_dropRange_0 : decode cX5_dropRange 0 = .ok (.iload_n 1, 1) := by decide +kernel
theorem dX5_dropRange_1 : decode cX5_dropRange 1 = .ok (.istore_n 2, 1) := by decide +kernel
theorem dX5_dropRange_2 : decode cX5_dropRange 2 = .ok (.iload_n 2, 1) := by decide +kernel
theorem dX5_dropRange_3 : decode cX5_dropRange 3 = .ok (.iconst 1, 1) := by decide +kernel
theorem dX5_dropRange_4 : decode cX5_dropRange 4 = .ok (.iadd, 1) := by decide +kernel
theorem dX5_dropRange_5 : decode cX5_dropRange 5 = .ok (.aload_n 0, 1) := by decide +kernel
theorem dX5_dropRange_6 : decode cX5_dropRange 6 = .ok (.getfield 26, 3) := by decide +kernel
theorem dX5_dropRange_9 : decode cX5_dropRange 9 = .ok (.if_icmp .ge 37, 3) := by decide +kernel
theorem dX5_dropRange_12 : decode cX5_dropRange 12 = .ok (.aload_n 0, 1) := by decide +kernel
theorem dX5_dropRange_13 : decode cX5_dropRange 13 = .ok (.getfield 9, 3) := by decide +kernel
theorem dX5_dropRange_16 : decode cX5_dropRange 16 = .ok (.iload_n 2, 1) := by decide +kernel
theorem dX5_dropRange_17 : decode cX5_dropRange 17 = .ok (.aload_n 0, 1) := by decide +kernel
theorem dX5_dropRange_18 : decode cX5_dropRange 18 = .ok (.getfield 9, 3) := by decide +kernel
theorem dX5_dropRange_21 : decode cX5_dropRange 21 = .ok (.iload_n 2, 1) := by decide +kernel
theorem dX5_dropRange_22 : decode cX5_dropRange 22 = .ok (.iconst 1, 1) := by decide +kernel
theorem dX5_dropRange_23 : decode cX5_dropRange 23 = .ok (.iadd, 1) := by decide +kernel
theorem dX5_dropRange_24 : decode cX5_dropRange 24 = .ok (.iaload, 1) := by decide +kernel
theorem dX5_dropRange_25 : decode cX5_dropRange 25 = .ok (.iastore, 1) := by decide +kernel
theorem dX5_dropRange_26 : decode cX5_dropRange 26 = .ok (.aload_n 0, 1) := by decide +kernel
theorem dX5_dropRange_27 : decode cX5_dropRange 27 = .ok (.getfield 15, 3) := by decide +kernel
theorem dX5_dropRange_30 : decode cX5_dropRange 30 = .ok (.iload_n 2, 1) := by decide +kernel
theorem dX5_dropRange_31 : decode cX5_dropRange 31 = .ok (.aload_n 0, 1) := by decide +kernel
theorem dX5_dropRange_32 : decode cX5_dropRange 32 = .ok (.getfield 15, 3) := by decide +kernel
theorem dX5_dropRange_35 : decode cX5_dropRange 35 = .ok (.iload_n 2, 1) := by decide +kernel
theorem dX5_dropRange_36 : decode cX5_dropRange 36 = .ok (.iconst 1, 1) := by decide +kernel
theorem dX5_dropRange_37 : decode cX5_dropRange 37 = .ok (.iadd, 1) := by decide +kernel
theorem dX5_dropRange_38 : decode cX5_dropRange 38 = .ok (.iaload, 1) := by decide +kernel
theorem dX5_dropRange_39 : decode cX5_dropRange 39 = .ok (.iastore, 1) := by decide +kernel
theorem dX5_dropRange_40 : decode cX5_dropRange 40 = .ok (.iinc 2 1, 3) := by decide +kernel
theorem dX5_dropRange_43 : decode cX5_dropRange 43 = .ok (.goto (-41), 3) := by decide +kernel
theorem dX5_dropRange_46 : decode cX5_dropRange 46 = .ok (.aload_n 0, 1) := by decide +kernel
theorem dX5_dropRange_47 : decode cX5_dropRange 47 = .ok (.dup, 1) := by decide +kernel
theorem dX5_dropRange_48 : decode cX5_dropRange 48 = .ok (.getfield 26, 3) := by decide +kernel
theorem dX5_dropRange_51 : decode cX5_dropRange 51 = .ok (.iconst 1, 1) := by decide +kernel
theorem dX5_dropRange_52 : decode cX5_dropRange 52 = .ok (.isub, 1) := by decide +kernel
theorem dX5_dropRange_53 : decode cX5_dropRange 53 = .ok (.putfield 26, 3) := by decide +kernel
theorem dX5_dropRange_56 : decode cX5_dropRange 56 = .ok (.return_, 1) := by decide +kernel
def wX5_dropRange (I : Nat → Int32) (L : Nat → Int64) (A : Nat → Nat → Int32) (B : Nat → Nat → Int64) (k0 : Nat) (x1 : Int32) (post : (Nat → Int32) → (Nat → Nat → Int32) → Prop) : Prop := ∃ n, lfix (fun (r : (Int32 × (Nat → Nat → Int32)) → Prop) (v2, A_1) => if (I (k0 + 22)) ≤ (v2 + 1) then ((∀ I_1, I_1 = va_up I (k0 + 22) ((I (k0 + 22)) - 1) → post I_1 A_1)) else (vp_in (v2 + 1) 3 ∧ (vp_in v2 3 ∧ (∀ A_2, A_2 = va_up A_1 (k0 + 45) (upd (A_1 (k0 + 45)) v2.toNatClampNeg (A_1 (k0 + 45) (v2 + 1).toNatClampNeg)) → vp_in (v2 + 1) 3 ∧ (vp_in v2 3 ∧ (∀ A_3, A_3 = va_up A_2 (k0 + 67) (upd (A_2 (k0 + 67)) v2.toNatClampNeg (A_2 (k0 + 67) (v2 + 1).toNatClampNeg)) → ∀ v2_1 : Int32, v2_1 = v2 + 1 → r (v2_1, A_3))))))) n (x1, A)
abbrev rmX5_dropRange : Room := { frames := 0, cells := 0, slots := 0, locals := 0 }
theorem wd_X5_dropRange : Cond.instanceMethod yX5_dropRange ∈ BW ∧ Cond.selects yX5_dropRange.cls yX5_dropRange yX5_dropRange ∈ BW ∧ Cond.initialized yX5_dropRange.cls ∈ BW ∧ Cond.code yX5_dropRange cX5_dropRange 3 (none : Option Jvm.ClassFile.FieldType) ∈ BW := ⟨mw_3_10, mw_3_11, mw_1_7, mw_3_12⟩
set_option maxHeartbeats 4000000 in
set_option maxRecDepth 100000 in
theorem c_X5_dropRange {l : Launch} {D : va_G} {cy : Nat → ClassId} {ad : Nat → Nat} {Ad : Nat → Prop} (hAd : adok 103 Ad ad) (I : Nat → Int32) (L : Nat → Int64) (A : Nat → Nat → Int32) (B : Nat → Nat → Int64) (k0 : Nat) (x1 : Int32) (hk0 : 14 ≤ k0 ∧ k0 < 36) (post : (Nat → Int32) → (Nat → Nat → Int32) → Prop) (h : wX5_dropRange I L A B k0 x1 post) : Met l yX5_dropRange (.code yX5_dropRange cX5_dropRange 3 (none : Option Jvm.ClassFile.FieldType) :: BW) rmX5_dropRange (va_Pc [.ref (ad k0), .int x1] (fun U => kC D cy U ∧ va_P D vwCl (wC cy ad I L A B) U.heap)) (qCv D cy ad Ad (fun u => post u.1 u.2.2.1 ∧ L = u.2.1 ∧ B = u.2.2.2)) 0 0 Ad := by
  refine startCv (by decide) (Nat.le_of_ble_eq_true rfl) (lv := [(0, .ref (ad k0)), (1, .int x1)]) rfl (fun p e s m args below meth c Q ls hx hb hml hT hown hK hret hl hP hS => ?_)
  unfold wX5_dropRange at h
  refine lv_iload_n hx hb dX5_dropRange_0 rfl (lv_at hl 1 rfl) ?_
  refine lv_istore_n (lv' := [(2, .int x1), (0, .ref (ad k0)), (1, .int x1)]) hx hb dX5_dropRange_1 rfl hl (by decide) rfl (fun ls hl => ?_)
  obtain ⟨F, n, h, hF, hG⟩ := lfix_ex h
  have LP : ∀ (n : Nat) (v2 : Int32) (A_1 : Nat → Nat → Int32) (ls : Array Slot) (H : Heap) (locs : List Loc), F n (v2, A_1) → lv_has ls 3 [(2, .int v2), (0, .ref (ad k0))] → va_P D vwCl (wC cy ad I L A_1 B) H → va_S Ad s.heap H locs → W p l e rmX5_dropRange s m args below meth c H locs 0 0 Q (F0 m 2 ls []) := by
    intro n
    induction n with
    | zero => intro v2 A_1 ls H locs h _ _ _; exact absurd h (hF _)
    | succ n ih =>
      intro v2 A_1 ls H locs h hl hP hS
      replace h := hG _ _ h
      try dsimp only at h
      refine lv_iload_n hx hb dX5_dropRange_2 rfl (lv_at hl 0 rfl) ?_
      refine lv_iconst (v := 1) hx hb dX5_dropRange_3 (by decide) ?_
      refine lv_iadd hx hb dX5_dropRange_4 ?_
      refine lv_aload_n hx hb dX5_dropRange_5 rfl (lv_at hl 1 rfl) ?_
      refine va_get (T := TX5) hx hb hT inlX5 hown hK.1 hP k0 (he_X5 (by omega)) rfl 2 (by decide) (hT _ mw_1_126) (fun _ h9 => h9) rfl dX5_dropRange_6 ?_
      refine lv_icmp_ge (tgt := 46) hx hb dX5_dropRange_9 (by decide) (fun hc => ?_) (fun hc => ?_)
      · rw [if_pos hc] at h
        refine lv_aload_n hx hb dX5_dropRange_46 rfl (lv_at hl 1 rfl) ?_
        refine lv_dup hx hb dX5_dropRange_47 rfl ?_
        refine va_get (T := TX5) hx hb hT inlX5 hown hK.1 hP k0 (he_X5 (by omega)) rfl 2 (by decide) (hT _ mw_1_126) (fun _ h9 => h9) rfl dX5_dropRange_48 ?_
        refine lv_iconst (v := 1) hx hb dX5_dropRange_51 (by decide) ?_
        refine lv_isub hx hb dX5_dropRange_52 ?_
        refine pC_X5_ranges (by omega) hAd hx hb hT hown hK.1 hP hS (hT _ mw_1_126) dX5_dropRange_53 (fun H locs hP hS => ?_)
        obtain ⟨I_1, eI_1⟩ : ∃ z, z = va_up I (k0 + 22) ((I (k0 + 22)) - 1) := ⟨_, rfl⟩
        rw [← eI_1] at hP
        replace h := h I_1 eI_1
        exact hret (I_1, L, A_1, B) dX5_dropRange_56 ⟨h, rfl, rfl⟩ hP hS
      · rw [if_neg hc] at h
        refine lv_aload_n hx hb dX5_dropRange_12 rfl (lv_at hl 1 rfl) ?_
        refine va_get (T := TX5) hx hb hT inlX5 hown hK.1 hP k0 (he_X5 (by omega)) rfl 3 (by decide) (hT _ mw_1_129) (fun _ h9 => h9) rfl dX5_dropRange_13 ?_
        refine lv_iload_n hx hb dX5_dropRange_16 rfl (lv_at hl 0 rfl) ?_
        refine lv_aload_n hx hb dX5_dropRange_17 rfl (lv_at hl 1 rfl) ?_
        refine va_get (T := TX5) hx hb hT inlX5 hown hK.1 hP k0 (he_X5 (by omega)) rfl 3 (by decide) (hT _ mw_1_129) (fun _ h9 => h9) rfl dX5_dropRange_18 ?_
        refine lv_iload_n hx hb dX5_dropRange_21 rfl (lv_at hl 0 rfl) ?_
        refine lv_iconst (v := 1) hx hb dX5_dropRange_22 (by decide) ?_
        refine lv_iadd hx hb dX5_dropRange_23 ?_
        obtain ⟨hi, h⟩ := h
        refine lC_I hx hb hK.1 hP (by omega) (eC_R3 (by omega)) hi dX5_dropRange_24 ?_
        obtain ⟨hi_1, h⟩ := h
        refine sC_I hAd hx hb hK.1 hP hS (by omega) (fun _ => eC_R3 (by omega)) hi_1 dX5_dropRange_25 (fun H locs hP hS => ?_)
        obtain ⟨A_2, eA_2⟩ : ∃ z, z = va_up A_1 (k0 + 45) (upd (A_1 (k0 + 45)) v2.toNatClampNeg (A_1 (k0 + 45) (v2 + 1).toNatClampNeg)) := ⟨_, rfl⟩
        rw [← eA_2] at hP
        replace h := h A_2 eA_2
        refine lv_aload_n hx hb dX5_dropRange_26 rfl (lv_at hl 1 rfl) ?_
        refine va_get (T := TX5) hx hb hT inlX5 hown hK.1 hP k0 (he_X5 (by omega)) rfl 4 (by decide) (hT _ mw_1_130) (fun _ h9 => h9) rfl dX5_dropRange_27 ?_
        refine lv_iload_n hx hb dX5_dropRange_30 rfl (lv_at hl 0 rfl) ?_
        refine lv_aload_n hx hb dX5_dropRange_31 rfl (lv_at hl 1 rfl) ?_
        refine va_get (T := TX5) hx hb hT inlX5 hown hK.1 hP k0 (he_X5 (by omega)) rfl 4 (by decide) (hT _ mw_1_130) (fun _ h9 => h9) rfl dX5_dropRange_32 ?_
        refine lv_iload_n hx hb dX5_dropRange_35 rfl (lv_at hl 0 rfl) ?_
        refine lv_iconst (v := 1) hx hb dX5_dropRange_36 (by decide) ?_
        refine lv_iadd hx hb dX5_dropRange_37 ?_
        obtain ⟨hi_2, h⟩ := h
        refine lC_I hx hb hK.1 hP (by omega) (eC_R3 (by omega)) hi_2 dX5_dropRange_38 ?_
        obtain ⟨hi_3, h⟩ := h
        refine sC_I hAd hx hb hK.1 hP hS (by omega) (fun _ => eC_R3 (by omega)) hi_3 dX5_dropRange_39 (fun H locs hP hS => ?_)
        obtain ⟨A_3, eA_3⟩ : ∃ z, z = va_up A_2 (k0 + 67) (upd (A_2 (k0 + 67)) v2.toNatClampNeg (A_2 (k0 + 67) (v2 + 1).toNatClampNeg)) := ⟨_, rfl⟩
        rw [← eA_3] at hP
        replace h := h A_3 eA_3
        obtain ⟨v2_1, ev2_1⟩ : ∃ z : Int32, z = v2 + 1 := ⟨_, rfl⟩
        replace h := h v2_1 ev2_1
        refine lv_iinc (v := v2_1) (lv' := [(2, .int v2_1), (0, .ref (ad k0))]) hx hb dX5_dropRange_40 hl (k := 0) rfl (by rw [ev2_1]; rfl) (by decide) rfl (fun ls hl => ?_)
        refine lv_goto (tgt := 2) hx hb dX5_dropRange_43 (by decide) ?_
        exact ih v2_1 A_3 _ _ _ h (lv_sub hl [0, 1] rfl) hP hS
  exact LP _ x1 A _ _ _ h (lv_sub hl [0, 1] rfl) hP hS
theorem dX5_takesNumber_0 : decode cX5_takesNumber 0 = .ok (.iconst 0, 1) := by decide +kernel
theorem dX5_takesNumber_1 : decode cX5_takesNumber 1 = .ok (.istore_n 2, 1) := by decide +kernel
theorem dX5_takesNumber_2 : decode cX5_takesNumber 2 = .ok (.iload_n 2, 1) := by decide +kernel
theorem dX5_takesNumber_3 : decode cX5_takesNumber 3 = .ok (.aload_n 0, 1) := by decide +kernel
theorem dX5_takesNumber_4 : decode cX5_takesNumber 4 = .ok (.getfield 26, 3) := by decide +kernel
theorem dX5_takesNumber_7 : decode cX5_takesNumber 7 = .ok (.if_icmp .ge 31, 3) := by decide +kernel
theorem dX5_takesNumber_10 : decode cX5_takesNumber 10 = .ok (.aload_n 0, 1) := by decide +kernel
theorem dX5_takesNumber_11 : decode cX5_takesNumber 11 = .ok (.getfield 9, 3) := by decide +kernel
theorem dX5_takesNumber_14 : decode cX5_takesNumber 14 = .ok (.iload_n 2, 1) := by decide +kernel
theorem dX5_takesNumber_15 : decode cX5_takesNumber 15 = .ok (.iaload, 1) := by decide +kernel
theorem dX5_takesNumber_16 : decode cX5_takesNumber 16 = .ok (.iload_n 1, 1) := by decide +kernel
theorem dX5_takesNumber_17 : decode cX5_takesNumber 17 = .ok (.if_icmp .gt 15, 3) := by decide +kernel
theorem dX5_takesNumber_20 : decode cX5_takesNumber 20 = .ok (.iload_n 1, 1) := by decide +kernel
theorem dX5_takesNumber_21 : decode cX5_takesNumber 21 = .ok (.aload_n 0, 1) := by decide +kernel
theorem dX5_takesNumber_22 : decode cX5_takesNumber 22 = .ok (.getfield 15, 3) := by decide +kernel
theorem dX5_takesNumber_25 : decode cX5_takesNumber 25 = .ok (.iload_n 2, 1) := by decide +kernel
theorem dX5_takesNumber_26 : decode cX5_takesNumber 26 = .ok (.iaload, 1) := by decide +kernel
theorem dX5_takesNumber_27 : decode cX5_takesNumber 27 = .ok (.if_icmp .gt 5, 3) := by decide +kernel
theorem dX5_takesNumber_30 : decode cX5_takesNumber 30 = .ok (.iconst 1, 1) := by decide +kernel
theorem dX5_takesNumber_31 : decode cX5_takesNumber 31 = .ok (.ireturn, 1) := by decide +kernel
theorem dX5_takesNumber_32 : decode cX5_takesNumber 32 = .ok (.iinc 2 1, 3) := by decide +kernel
theorem dX5_takesNumber_35 : decode cX5_takesNumber 35 = .ok (.goto (-33), 3) := by decide +kernel
theorem dX5_takesNumber_38 : decode cX5_takesNumber 38 = .ok (.iconst 0, 1) := by decide +kernel
theorem dX5_takesNumber_39 : decode cX5_takesNumber 39 = .ok (.ireturn, 1) := by decide +kernel
def wX5_takesNumber (I : Nat → Int32) (L : Nat → Int64) (A : Nat → Nat → Int32) (B : Nat → Nat → Int64) (k0 : Nat) (x1 : Int32) (post : Int32 → Prop) : Prop := ∃ n, lfix (fun (r : Int32 → Prop) v2 => if (I (k0 + 22)) ≤ v2 then (post 0) else (vp_in v2 3 ∧ (if x1 < (A (k0 + 45) v2.toNatClampNeg) then (∀ v2_1 : Int32, v2_1 = v2 + 1 → r v2_1) else (vp_in v2 3 ∧ (if (A (k0 + 67) v2.toNatClampNeg) < x1 then (∀ v2_2 : Int32, v2_2 = v2 + 1 → r v2_2) else (post 1)))))) n 0
abbrev rmX5_takesNumber : Room := { frames := 0, cells := 0, slots := 0, locals := 0 }
theorem wd_X5_takesNumber : Cond.instanceMethod yX5_takesNumber ∈ BW ∧ Cond.selects yX5_takesNumber.cls yX5_takesNumber yX5_takesNumber ∈ BW ∧ Cond.initialized yX5_takesNumber.cls ∈ BW ∧ Cond.code yX5_takesNumber cX5_takesNumber 3 (some .boolean) ∈ BW := ⟨mw_2_75, mw_2_76, mw_1_7, mw_2_77⟩
set_option maxHeartbeats 4000000 in
set_option maxRecDepth 100000 in
theorem c_X5_takesNumber {l : Launch} {D : va_G} {cy : Nat → ClassId} {ad : Nat → Nat} {Ad : Nat → Prop} (hAd : adok 103 Ad ad) (I : Nat → Int32) (L : Nat → Int64) (A : Nat → Nat → Int32) (B : Nat → Nat → Int64) (k0 : Nat) (x1 : Int32) (hk0 : 14 ≤ k0 ∧ k0 < 36) (post : Int32 → Prop) (h : wX5_takesNumber I L A B k0 x1 post) : Met l yX5_takesNumber (.code yX5_takesNumber cX5_takesNumber 3 (some .boolean) :: BW) rmX5_takesNumber (va_Pc [.ref (ad k0), .int x1] (fun U => kC D cy U ∧ va_P D vwCl (wC cy ad I L A B) U.heap)) (qCi D cy ad Ad (fun r u => post r  ∧ I = u.1 ∧ L = u.2.1 ∧ A = u.2.2.1 ∧ B = u.2.2.2)) 0 0 Ad := by
  refine startCz (by decide) (Nat.le_of_ble_eq_true rfl) (lv := [(0, .ref (ad k0)), (1, .int x1)]) rfl (fun p e s m args below meth c Q ls hx hb hml hT hown hK hret hl hP hS => ?_)
  unfold wX5_takesNumber at h
  refine lv_iconst (v := 0) hx hb dX5_takesNumber_0 (by decide) ?_
  refine lv_istore_n (lv' := [(2, .int 0), (0, .ref (ad k0)), (1, .int x1)]) hx hb dX5_takesNumber_1 rfl hl (by decide) rfl (fun ls hl => ?_)
  obtain ⟨F, n, h, hF, hG⟩ := lfix_ex h
  have LP : ∀ (n : Nat) (v2 : Int32) (ls : Array Slot) (H : Heap) (locs : List Loc), F n v2 → lv_has ls 3 [(2, .int v2), (0, .ref (ad k0)), (1, .int x1)] → va_P D vwCl (wC cy ad I L A B) H → va_S Ad s.heap H locs → W p l e rmX5_takesNumber s m args below meth c H locs 0 0 Q (F0 m 2 ls []) := by
    intro n
    induction n with
    | zero => intro v2 ls H locs h _ _ _; exact absurd h (hF _)
    | succ n ih =>
      intro v2 ls H locs h hl hP hS
      replace h := hG _ _ h
      try dsimp only at h
      refine lv_iload_n hx hb dX5_takesNumber_2 rfl (lv_at hl 0 rfl) ?_
      refine lv_aload_n hx hb dX5_takesNumber_3 rfl (lv_at hl 1 rfl) ?_
      refine va_get (T := TX5) hx hb hT inlX5 hown hK.1 hP k0 (he_X5 (by omega)) rfl 2 (by decide) (hT _ mw_1_126) (fun _ h9 => h9) rfl dX5_takesNumber_4 ?_
      refine lv_icmp_ge (tgt := 38) hx hb dX5_takesNumber_7 (by decide) (fun hc => ?_) (fun hc => ?_)
      · rw [if_pos hc] at h
        refine lv_iconst (v := 0) hx hb dX5_takesNumber_38 (by decide) ?_
        exact hret _ (I, L, A, B) zb_0 dX5_takesNumber_39 ⟨h, rfl, rfl, rfl, rfl⟩ hP hS
      · rw [if_neg hc] at h
        refine lv_aload_n hx hb dX5_takesNumber_10 rfl (lv_at hl 1 rfl) ?_
        refine va_get (T := TX5) hx hb hT inlX5 hown hK.1 hP k0 (he_X5 (by omega)) rfl 3 (by decide) (hT _ mw_1_129) (fun _ h9 => h9) rfl dX5_takesNumber_11 ?_
        refine lv_iload_n hx hb dX5_takesNumber_14 rfl (lv_at hl 0 rfl) ?_
        obtain ⟨hi, h⟩ := h
        refine lC_I hx hb hK.1 hP (by omega) (eC_R3 (by omega)) hi dX5_takesNumber_15 ?_
        refine lv_iload_n hx hb dX5_takesNumber_16 rfl (lv_at hl 2 rfl) ?_
        refine lv_icmp_gt (tgt := 32) hx hb dX5_takesNumber_17 (by decide) (fun hc_1 => ?_) (fun hc_1 => ?_)
        · rw [if_pos hc_1] at h
          obtain ⟨v2_1, ev2_1⟩ : ∃ z : Int32, z = v2 + 1 := ⟨_, rfl⟩
          replace h := h v2_1 ev2_1
          refine lv_iinc (v := v2_1) (lv' := [(2, .int v2_1), (0, .ref (ad k0)), (1, .int x1)]) hx hb dX5_takesNumber_32 hl (k := 0) rfl (by rw [ev2_1]; rfl) (by decide) rfl (fun ls hl => ?_)
          refine lv_goto (tgt := 2) hx hb dX5_takesNumber_35 (by decide) ?_
          exact ih v2_1 _ _ _ h (lv_sub hl [0, 1, 2] rfl) hP hS
        · rw [if_neg hc_1] at h
          refine lv_iload_n hx hb dX5_takesNumber_20 rfl (lv_at hl 2 rfl) ?_
          refine lv_aload_n hx hb dX5_takesNumber_21 rfl (lv_at hl 1 rfl) ?_
          refine va_get (T := TX5) hx hb hT inlX5 hown hK.1 hP k0 (he_X5 (by omega)) rfl 4 (by decide) (hT _ mw_1_130) (fun _ h9 => h9) rfl dX5_takesNumber_22 ?_
          refine lv_iload_n hx hb dX5_takesNumber_25 rfl (lv_at hl 0 rfl) ?_
          obtain ⟨hi_1, h⟩ := h
          refine lC_I hx hb hK.1 hP (by omega) (eC_R3 (by omega)) hi_1 dX5_takesNumber_26 ?_
          refine lv_icmp_gt (tgt := 32) hx hb dX5_takesNumber_27 (by decide) (fun hc_2 => ?_) (fun hc_2 => ?_)
          · rw [if_pos hc_2] at h
            obtain ⟨v2_2, ev2_2⟩ : ∃ z : Int32, z = v2 + 1 := ⟨_, rfl⟩
            replace h := h v2_2 ev2_2
            refine lv_iinc (v := v2_2) (lv' := [(2, .int v2_2), (0, .ref (ad k0)), (1, .int x1)]) hx hb dX5_takesNumber_32 hl (k := 0) rfl (by rw [ev2_2]; rfl) (by decide) rfl (fun ls hl => ?_)
            refine lv_goto (tgt := 2) hx hb dX5_takesNumber_35 (by decide) ?_
            exact ih v2_2 _ _ _ h (lv_sub hl [0, 1, 2] rfl) hP hS
          · rw [if_neg hc_2] at h
            refine lv_iconst (v := 1) hx hb dX5_takesNumber_30 (by decide) ?_
            exact hret _ (I, L, A, B) zb_1 dX5_takesNumber_31 ⟨h, rfl, rfl, rfl, rfl⟩ hP hS
  exact LP _ 0 _ _ _ h (lv_sub hl [0, 1, 2] rfl) hP hS
theorem dX6_knows_0 : decode cX6_knows 0 = .ok (.iload_n 1, 1) := by decide +kernel
theorem dX6_knows_1 : decode cX6_knows 1 = .ok (.ifCond .lt 15, 3) := by decide +kernel
theorem dX6_knows_4 : decode cX6_knows 4 = .ok (.iload_n 1, 1) := by decide +kernel
theorem dX6_knows_5 : decode cX6_knows 5 = .ok (.aload_n 0, 1) := by decide +kernel
theorem dX6_knows_6 : decode cX6_knows 6 = .ok (.getfield 20, 3) := by decide +kernel
theorem dX6_knows_9 : decode cX6_knows 9 = .ok (.if_icmp .ge 7, 3) := by decide +kernel
theorem dX6_knows_12 : decode cX6_knows 12 = .ok (.iconst 1, 1) := by decide +kernel
theorem dX6_knows_13 : decode cX6_knows 13 = .ok (.goto 4, 3) := by decide +kernel
theorem dX6_knows_16 : decode cX6_knows 16 = .ok (.iconst 0, 1) := by decide +kernel
theorem dX6_knows_17 : decode cX6_knows 17 = .ok (.ireturn, 1) := by decide +kernel
def wX6_knows (I : Nat → Int32) (L : Nat → Int64) (A : Nat → Nat → Int32) (B : Nat → Nat → Int64) (x1 : Int32) (post : Int32 → Prop) : Prop := if x1 < 0 then (post 0) else (if (I 2) ≤ x1 then (post 0) else (post 1))
abbrev rmX6_knows : Room := { frames := 0, cells := 0, slots := 0, locals := 0 }
theorem wd_X6_knows : Cond.instanceMethod yX6_knows ∈ BW ∧ Cond.selects yX6_knows.cls yX6_knows yX6_knows ∈ BW ∧ Cond.initialized yX6_knows.cls ∈ BW ∧ Cond.code yX6_knows cX6_knows 2 (some .boolean) ∈ BW := ⟨mw_2_179, mw_2_180, mw_1_3, mw_2_181⟩
set_option maxHeartbeats 4000000 in
set_option maxRecDepth 100000 in
theorem c_X6_knows {l : Launch} {D : va_G} {cy : Nat → ClassId} {ad : Nat → Nat} {Ad : Nat → Prop} (hAd : adok 103 Ad ad) (I : Nat → Int32) (L : Nat → Int64) (A : Nat → Nat → Int32) (B : Nat → Nat → Int64) (x1 : Int32)  (post : Int32 → Prop) (h : wX6_knows I L A B x1 post) : Met l yX6_knows (.code yX6_knows cX6_knows 2 (some .boolean) :: BW) rmX6_knows (va_Pc [.ref (ad 2), .int x1] (fun U => kC D cy U ∧ va_P D vwCl (wC cy ad I L A B) U.heap)) (qCi D cy ad Ad (fun r u => post r  ∧ I = u.1 ∧ L = u.2.1 ∧ A = u.2.2.1 ∧ B = u.2.2.2)) 0 0 Ad := by
  refine startCz (by decide) (Nat.le_of_ble_eq_true rfl) (lv := [(0, .ref (ad 2)), (1, .int x1)]) rfl (fun p e s m args below meth c Q ls hx hb hml hT hown hK hret hl hP hS => ?_)
  unfold wX6_knows at h
  refine lv_iload_n hx hb dX6_knows_0 rfl (lv_at hl 1 rfl) ?_
  refine lv_if_lt (tgt := 16) hx hb dX6_knows_1 (by decide) (fun hc => ?_) (fun hc => ?_)
  · rw [if_pos hc] at h
    refine lv_iconst (v := 0) hx hb dX6_knows_16 (by decide) ?_
    exact hret _ (I, L, A, B) zb_0 dX6_knows_17 ⟨h, rfl, rfl, rfl, rfl⟩ hP hS
  · rw [if_neg hc] at h
    refine lv_iload_n hx hb dX6_knows_4 rfl (lv_at hl 1 rfl) ?_
    refine lv_aload_n hx hb dX6_knows_5 rfl (lv_at hl 0 rfl) ?_
    refine va_get (T := TX6) hx hb hT inlX6 hown hK.1 hP 2 he_X6 rfl 2 (by decide) (hT _ mw_1_91) (fun _ h9 => h9) rfl dX6_knows_6 ?_
    refine lv_icmp_ge (tgt := 16) hx hb dX6_knows_9 (by decide) (fun hc_1 => ?_) (fun hc_1 => ?_)
    · rw [if_pos hc_1] at h
      refine lv_iconst (v := 0) hx hb dX6_knows_16 (by decide) ?_
      exact hret _ (I, L, A, B) zb_0 dX6_knows_17 ⟨h, rfl, rfl, rfl, rfl⟩ hP hS
    · rw [if_neg hc_1] at h
      refine lv_iconst (v := 1) hx hb dX6_knows_12 (by decide) ?_
      refine lv_goto (tgt := 17) hx hb dX6_knows_13 (by decide) ?_
      exact hret _ (I, L, A, B) zb_1 dX6_knows_17 ⟨h, rfl, rfl, rfl, rfl⟩ hP hS
theorem dX6_isThere_0 : decode cX6_isThere 0 = .ok (.aload_n 0, 1) := by decide +kernel
theorem dX6_isThere_1 : decode cX6_isThere 1 = .ok (.iload_n 1, 1) := by decide +kernel
theorem dX6_isThere_2 : decode cX6_isThere 2 = .ok (.invokevirtual 24, 3) := by decide +kernel
theorem dX6_isThere_5 : decode cX6_isThere 5 = .ok (.ifCond .eq 18, 3) := by decide +kernel
theorem dX6_isThere_8 : decode cX6_isThere 8 = .ok (.aload_n 0, 1) := by decide +kernel
theorem dX6_isThere_9 : decode cX6_isThere 9 = .ok (.getfield 28, 3) := by decide +kernel
theorem dX6_isThere_12 : decode cX6_isThere 12 = .ok (.iload_n 1, 1) := by decide +kernel
theorem dX6_isThere_13 : decode cX6_isThere 13 = .ok (.invokestatic 32, 3) := by decide +kernel
theorem dX6_isThere_16 : decode cX6_isThere 16 = .ok (.ifCond .eq 7, 3) := by decide +kernel
theorem dX6_isThere_19 : decode cX6_isThere 19 = .ok (.iconst 1, 1) := by decide +kernel
theorem dX6_isThere_20 : decode cX6_isThere 20 = .ok (.goto 4, 3) := by decide +kernel
theorem dX6_isThere_23 : decode cX6_isThere 23 = .ok (.iconst 0, 1) := by decide +kernel
theorem dX6_isThere_24 : decode cX6_isThere 24 = .ok (.ireturn, 1) := by decide +kernel
def wX6_isThere (I : Nat → Int32) (L : Nat → Int64) (A : Nat → Nat → Int32) (B : Nat → Nat → Int64) (x1 : Int32) (post : Int32 → Prop) : Prop := wX6_knows I L A B x1 (fun r2 => if r2 = 0 then (post 0) else (wX9_inSet (L 2) x1 (fun r13 => if r13 = 0 then (post 0) else (post 1))))
abbrev rmX6_isThere : Room := { frames := 1, cells := 0, slots := 0, locals := 22 }
theorem wd_X6_isThere : Cond.instanceMethod yX6_isThere ∈ BW ∧ Cond.selects yX6_isThere.cls yX6_isThere yX6_isThere ∈ BW ∧ Cond.initialized yX6_isThere.cls ∈ BW ∧ Cond.code yX6_isThere cX6_isThere 2 (some .boolean) ∈ BW := ⟨mw_2_175, mw_2_176, mw_1_3, mw_2_177⟩
set_option maxHeartbeats 4000000 in
set_option maxRecDepth 100000 in
theorem c_X6_isThere {l : Launch} {D : va_G} {cy : Nat → ClassId} {ad : Nat → Nat} {Ad : Nat → Prop} (hAd : adok 103 Ad ad) (I : Nat → Int32) (L : Nat → Int64) (A : Nat → Nat → Int32) (B : Nat → Nat → Int64) (x1 : Int32)  (post : Int32 → Prop) (h : wX6_isThere I L A B x1 post) : Met l yX6_isThere (.code yX6_isThere cX6_isThere 2 (some .boolean) :: BW) rmX6_isThere (va_Pc [.ref (ad 2), .int x1] (fun U => kC D cy U ∧ va_P D vwCl (wC cy ad I L A B) U.heap)) (qCi D cy ad Ad (fun r u => post r  ∧ I = u.1 ∧ L = u.2.1 ∧ A = u.2.2.1 ∧ B = u.2.2.2)) 0 0 Ad := by
  refine startCz (by decide) (Nat.le_of_ble_eq_true rfl) (lv := [(0, .ref (ad 2)), (1, .int x1)]) rfl (fun p e s m args below meth c Q ls hx hb hml hT hown hK hret hl hP hS => ?_)
  unfold wX6_isThere at h
  refine lv_aload_n hx hb dX6_isThere_0 rfl (lv_at hl 0 rfl) ?_
  refine lv_iload_n hx hb dX6_isThere_1 rfl (lv_at hl 1 rfl) ?_
  refine callCi (k := 2) (As := [.int x1]) (rest := []) (n := 1) (c_X6_knows hAd I L A B x1 _ h) hx hb hT hown hK hP hS mw_2_178 wd_X6_knows (by decide +kernel) ⟨rfl, rfl⟩ (by decide) rfl rfl he_X6 rfl hl.1 hml rfl (Nat.le_of_ble_eq_true rfl) dX6_isThere_2 ⟨Nat.zero_le _, Nat.zero_le _⟩ (fun r2 u H locs h hP hS => ?_)
  obtain ⟨Iu, Lu, Au, Bu⟩ := u
  dsimp only at h hP
  obtain ⟨h, rfl, rfl, rfl, rfl⟩ := h
  try dsimp only at h
  refine lv_if_eq (tgt := 23) hx hb dX6_isThere_5 (by decide) (fun hc => ?_) (fun hc => ?_)
  · rw [if_pos hc] at h
    refine lv_iconst (v := 0) hx hb dX6_isThere_23 (by decide) ?_
    exact hret _ (I, L, A, B) zb_0 dX6_isThere_24 ⟨h, rfl, rfl, rfl, rfl⟩ hP hS
  · rw [if_neg hc] at h
    refine lv_aload_n hx hb dX6_isThere_8 rfl (lv_at hl 0 rfl) ?_
    refine va_get (T := TX6) hx hb hT inlX6 hown hK.1 hP 2 he_X6 rfl 1 (by decide) (hT _ mw_1_89) (fun _ h9 => h9) rfl dX6_isThere_9 ?_
    refine lv_iload_n hx hb dX6_isThere_12 rfl (lv_at hl 1 rfl) ?_
    refine callNi (As := [.long (L 2), .int x1]) (rest := []) (n := 2) (c_X9_inSet (L 2) x1 _ h) hx hb hT hown hP hS (hK.2 _ (List.mem_of_getElem? (i := 5) rfl)) wd_X9_inSet (by decide +kernel) ⟨rfl, rfl⟩ (by decide) rfl hl.1 hml rfl (Nat.le_of_ble_eq_true rfl) dX6_isThere_13 ⟨Nat.zero_le _, Nat.zero_le _⟩ (fun r13 H locs h hP hS => ?_)
    try dsimp only at h
    refine lv_if_eq (tgt := 23) hx hb dX6_isThere_16 (by decide) (fun hc_1 => ?_) (fun hc_1 => ?_)
    · rw [if_pos hc_1] at h
      refine lv_iconst (v := 0) hx hb dX6_isThere_23 (by decide) ?_
      exact hret _ (I, L, A, B) zb_0 dX6_isThere_24 ⟨h, rfl, rfl, rfl, rfl⟩ hP hS
    · rw [if_neg hc_1] at h
      refine lv_iconst (v := 1) hx hb dX6_isThere_19 (by decide) ?_
      refine lv_goto (tgt := 24) hx hb dX6_isThere_20 (by decide) ?_
      exact hret _ (I, L, A, B) zb_1 dX6_isThere_24 ⟨h, rfl, rfl, rfl, rfl⟩ hP hS
theorem dX6_lay_0 : decode cX6_lay 0 = .ok (.aload_n 0, 1) := by decide +kernel
theorem dX6_lay_1 : decode cX6_lay 1 = .ok (.getfield 20, 3) := by decide +kernel
theorem dX6_lay_4 : decode cX6_lay 4 = .ok (.istore_n 2, 1) := by decide +kernel
theorem dX6_lay_5 : decode cX6_lay 5 = .ok (.aload_n 0, 1) := by decide +kernel
theorem dX6_lay_6 : decode cX6_lay 6 = .ok (.dup, 1) := by decide +kernel
theorem dX6_lay_7 : decode cX6_lay 7 = .ok (.getfield 20, 3) := by decide +kernel
theorem dX6_lay_10 : decode cX6_lay 10 = .ok (.iconst 1, 1) := by decide +kernel
theorem dX6_lay_11 : decode cX6_lay 11 = .ok (.iadd, 1) := by decide +kernel
theorem dX6_lay_12 : decode cX6_lay 12 = .ok (.putfield 20, 3) := by decide +kernel
theorem dX6_lay_15 : decode cX6_lay 15 = .ok (.aload_n 0, 1) := by decide +kernel
theorem dX6_lay_16 : decode cX6_lay 16 = .ok (.dup, 1) := by decide +kernel
theorem dX6_lay_17 : decode cX6_lay 17 = .ok (.getfield 28, 3) := by decide +kernel
theorem dX6_lay_20 : decode cX6_lay 20 = .ok (.iload_n 2, 1) := by decide +kernel
theorem dX6_lay_21 : decode cX6_lay 21 = .ok (.invokestatic 36, 3) := by decide +kernel
theorem dX6_lay_24 : decode cX6_lay 24 = .ok (.lor, 1) := by decide +kernel
theorem dX6_lay_25 : decode cX6_lay 25 = .ok (.putfield 28, 3) := by decide +kernel
theorem dX6_lay_28 : decode cX6_lay 28 = .ok (.aload_n 0, 1) := by decide +kernel
theorem dX6_lay_29 : decode cX6_lay 29 = .ok (.getfield 14, 3) := by decide +kernel
theorem dX6_lay_32 : decode cX6_lay 32 = .ok (.iload_n 2, 1) := by decide +kernel
theorem dX6_lay_33 : decode cX6_lay 33 = .ok (.iload_n 1, 1) := by decide +kernel
theorem dX6_lay_34 : decode cX6_lay 34 = .ok (.invokevirtual 40, 3) := by decide +kernel
theorem dX6_lay_37 : decode cX6_lay 37 = .ok (.iload_n 2, 1) := by decide +kernel
theorem dX6_lay_38 : decode cX6_lay 38 = .ok (.ireturn, 1) := by decide +kernel
def wX6_lay (I : Nat → Int32) (L : Nat → Int64) (A : Nat → Nat → Int32) (B : Nat → Nat → Int64) (x1 : Int32) (post : Int32 → (Nat → Int32) → (Nat → Int64) → (Nat → Nat → Int32) → Prop) : Prop := ∀ v2 : Int32, v2 = I 2 → (∀ I_1, I_1 = va_up I 2 ((I 2) + 1) → wX9_bit v2 (fun r21 => (∀ L_1, L_1 = va_up L 2 ((L 2) ||| r21) → wX3_put I_1 L_1 A B 7 v2 x1 (fun I_2 A_1 => post v2 I_2 L_1 A_1))))
abbrev rmX6_lay : Room := { frames := 3, cells := 0, slots := 0, locals := 67 }
theorem wd_X6_lay : Cond.instanceMethod yX6_lay ∈ BW ∧ Cond.selects yX6_lay.cls yX6_lay yX6_lay ∈ BW ∧ Cond.initialized yX6_lay.cls ∈ BW ∧ Cond.code yX6_lay cX6_lay 3 (some .int) ∈ BW := ⟨mw_2_154, mw_2_155, mw_1_3, mw_2_156⟩
set_option maxHeartbeats 4000000 in
set_option maxRecDepth 100000 in
theorem c_X6_lay {l : Launch} {D : va_G} {cy : Nat → ClassId} {ad : Nat → Nat} {Ad : Nat → Prop} (hAd : adok 103 Ad ad) (I : Nat → Int32) (L : Nat → Int64) (A : Nat → Nat → Int32) (B : Nat → Nat → Int64) (x1 : Int32)  (post : Int32 → (Nat → Int32) → (Nat → Int64) → (Nat → Nat → Int32) → Prop) (h : wX6_lay I L A B x1 post) : Met l yX6_lay (.code yX6_lay cX6_lay 3 (some .int) :: BW) rmX6_lay (va_Pc [.ref (ad 2), .int x1] (fun U => kC D cy U ∧ va_P D vwCl (wC cy ad I L A B) U.heap)) (qCi D cy ad Ad (fun r u => post r u.1 u.2.1 u.2.2.1 ∧ B = u.2.2.2)) 0 0 Ad := by
  refine startCi (by decide) (Nat.le_of_ble_eq_true rfl) (lv := [(0, .ref (ad 2)), (1, .int x1)]) rfl (fun p e s m args below meth c Q ls hx hb hml hT hown hK hret hl hP hS => ?_)
  unfold wX6_lay at h
  refine lv_aload_n hx hb dX6_lay_0 rfl (lv_at hl 0 rfl) ?_
  refine va_get (T := TX6) hx hb hT inlX6 hown hK.1 hP 2 he_X6 rfl 2 (by decide) (hT _ mw_1_91) (fun _ h9 => h9) rfl dX6_lay_1 ?_
  refine lv_topi (fun v2 ev2 => ?_)
  replace h := h v2 ev2
  refine lv_istore_n (lv' := [(2, .int v2), (0, .ref (ad 2)), (1, .int x1)]) hx hb dX6_lay_4 rfl hl (by decide) rfl (fun ls hl => ?_)
  refine lv_aload_n hx hb dX6_lay_5 rfl (lv_at hl 1 rfl) ?_
  refine lv_dup hx hb dX6_lay_6 rfl ?_
  refine va_get (T := TX6) hx hb hT inlX6 hown hK.1 hP 2 he_X6 rfl 2 (by decide) (hT _ mw_1_91) (fun _ h9 => h9) rfl dX6_lay_7 ?_
  refine lv_iconst (v := 1) hx hb dX6_lay_10 (by decide) ?_
  refine lv_iadd hx hb dX6_lay_11 ?_
  refine pC_X6_size hAd hx hb hT hown hK.1 hP hS (hT _ mw_1_91) dX6_lay_12 (fun H locs hP hS => ?_)
  obtain ⟨I_1, eI_1⟩ : ∃ z, z = va_up I 2 ((I 2) + 1) := ⟨_, rfl⟩
  rw [← eI_1] at hP
  replace h := h I_1 eI_1
  refine lv_aload_n hx hb dX6_lay_15 rfl (lv_at hl 1 rfl) ?_
  refine lv_dup hx hb dX6_lay_16 rfl ?_
  refine va_get (T := TX6) hx hb hT inlX6 hown hK.1 hP 2 he_X6 rfl 1 (by decide) (hT _ mw_1_89) (fun _ h9 => h9) rfl dX6_lay_17 ?_
  refine lv_iload_n hx hb dX6_lay_20 rfl (lv_at hl 0 rfl) ?_
  refine callNl (As := [.int v2]) (rest := [.long (L 2), .ref (ad 2)]) (n := 1) (c_X9_bit v2 _ h) hx hb hT hown hP hS (hK.2 _ (List.mem_of_getElem? (i := 4) rfl)) wd_X9_bit (by decide +kernel) ⟨rfl, rfl⟩ (by decide) rfl hl.1 hml rfl (Nat.le_of_ble_eq_true rfl) dX6_lay_21 ⟨Nat.zero_le _, Nat.zero_le _⟩ (fun r21 H locs h hP hS => ?_)
  try dsimp only at h
  refine lv_lor hx hb dX6_lay_24 ?_
  refine pC_X6_there hAd hx hb hT hown hK.1 hP hS (hT _ mw_1_89) dX6_lay_25 (fun H locs hP hS => ?_)
  obtain ⟨L_1, eL_1⟩ : ∃ z, z = va_up L 2 ((L 2) ||| r21) := ⟨_, rfl⟩
  rw [← eL_1] at hP
  replace h := h L_1 eL_1
  refine lv_aload_n hx hb dX6_lay_28 rfl (lv_at hl 1 rfl) ?_
  refine va_get (T := TX6) hx hb hT inlX6 hown hK.1 hP 2 he_X6 rfl 0 (by decide) (hT _ mw_1_87) (fun _ h9 => h9) rfl dX6_lay_29 ?_
  refine lv_iload_n hx hb dX6_lay_32 rfl (lv_at hl 0 rfl) ?_
  refine lv_iload_n hx hb dX6_lay_33 rfl (lv_at hl 2 rfl) ?_
  refine callCv (k := 7) (As := [.int v2, .int x1]) (rest := []) (n := 2) (c_X3_put hAd I_1 L_1 A B 7 v2 x1 (by decide) _ h) hx hb hT hown hK hP hS mw_2_158 wd_X3_put (by decide +kernel) ⟨rfl, rfl⟩ (by decide) rfl rfl (he_X3 (by decide)) rfl hl.1 hml rfl (Nat.le_of_ble_eq_true rfl) dX6_lay_34 ⟨Nat.zero_le _, Nat.zero_le _⟩ (fun u H locs h hP hS => ?_)
  obtain ⟨I_2, Lu, A_1, Bu⟩ := u
  dsimp only at h hP
  obtain ⟨h, rfl, rfl⟩ := h
  try dsimp only at h
  refine lv_iload_n hx hb dX6_lay_37 rfl (lv_at hl 0 rfl) ?_
  exact hret _ (I_2, L_1, A_1, B) dX6_lay_38 ⟨h, rfl⟩ hP hS
theorem dX6_discard_0 : decode cX6_discard 0 = .ok (.aload_n 0, 1) := by decide +kernel
theorem dX6_discard_1 : decode cX6_discard 1 = .ok (.dup, 1) := by decide +kernel
theorem dX6_discard_2 : decode cX6_discard 2 = .ok (.getfield 28, 3) := by decide +kernel
theorem dX6_discard_5 : decode cX6_discard 5 = .ok (.iload_n 1, 1) := by decide +kernel
theorem dX6_discard_6 : decode cX6_discard 6 = .ok (.invokestatic 36, 3) := by decide +kernel
theorem dX6_discard_9 : decode cX6_discard 9 = .ok (.ldc2_w 44, 3) := by decide +kernel
theorem dX6_discard_12 : decode cX6_discard 12 = .ok (.lxor, 1) := by decide +kernel
theorem dX6_discard_13 : decode cX6_discard 13 = .ok (.land, 1) := by decide +kernel
theorem dX6_discard_14 : decode cX6_discard 14 = .ok (.putfield 28, 3) := by decide +kernel
theorem dX6_discard_17 : decode cX6_discard 17 = .ok (.aload_n 0, 1) := by decide +kernel
theorem dX6_discard_18 : decode cX6_discard 18 = .ok (.getfield 14, 3) := by decide +kernel
theorem dX6_discard_21 : decode cX6_discard 21 = .ok (.iload_n 1, 1) := by decide +kernel
theorem dX6_discard_22 : decode cX6_discard 22 = .ok (.invokevirtual 46, 3) := by decide +kernel
theorem dX6_discard_25 : decode cX6_discard 25 = .ok (.return_, 1) := by decide +kernel
def wX6_discard (I : Nat → Int32) (L : Nat → Int64) (A : Nat → Nat → Int32) (B : Nat → Nat → Int64) (x1 : Int32) (post : (Nat → Int32) → (Nat → Int64) → (Nat → Nat → Int32) → Prop) : Prop := wX9_bit x1 (fun r6 => (∀ L_1, L_1 = va_up L 2 ((L 2) &&& (r6 ^^^ (-1))) → wX3_take I L_1 A B 7 x1 (fun I_1 A_1 => post I_1 L_1 A_1)))
abbrev rmX6_discard : Room := { frames := 2, cells := 0, slots := 0, locals := 45 }
theorem wd_X6_discard : Cond.instanceMethod yX6_discard ∈ BW ∧ Cond.selects yX6_discard.cls yX6_discard yX6_discard ∈ BW ∧ Cond.initialized yX6_discard.cls ∈ BW ∧ Cond.code yX6_discard cX6_discard 2 (none : Option Jvm.ClassFile.FieldType) ∈ BW := ⟨mw_2_210, mw_2_211, mw_1_3, mw_2_212⟩
set_option maxHeartbeats 4000000 in
set_option maxRecDepth 100000 in
theorem c_X6_discard {l : Launch} {D : va_G} {cy : Nat → ClassId} {ad : Nat → Nat} {Ad : Nat → Prop} (hAd : adok 103 Ad ad) (I : Nat → Int32) (L : Nat → Int64) (A : Nat → Nat → Int32) (B : Nat → Nat → Int64) (x1 : Int32)  (post : (Nat → Int32) → (Nat → Int64) → (Nat → Nat → Int32) → Prop) (h : wX6_discard I L A B x1 post) : Met l yX6_discard (.code yX6_discard cX6_discard 2 (none : Option Jvm.ClassFile.FieldType) :: BW) rmX6_discard (va_Pc [.ref (ad 2), .int x1] (fun U => kC D cy U ∧ va_P D vwCl (wC cy ad I L A B) U.heap)) (qCv D cy ad Ad (fun u => post u.1 u.2.1 u.2.2.1 ∧ B = u.2.2.2)) 0 0 Ad := by
  refine startCv (by decide) (Nat.le_of_ble_eq_true rfl) (lv := [(0, .ref (ad 2)), (1, .int x1)]) rfl (fun p e s m args below meth c Q ls hx hb hml hT hown hK hret hl hP hS => ?_)
  unfold wX6_discard at h
  refine lv_aload_n hx hb dX6_discard_0 rfl (lv_at hl 0 rfl) ?_
  refine lv_dup hx hb dX6_discard_1 rfl ?_
  refine va_get (T := TX6) hx hb hT inlX6 hown hK.1 hP 2 he_X6 rfl 1 (by decide) (hT _ mw_1_89) (fun _ h9 => h9) rfl dX6_discard_2 ?_
  refine lv_iload_n hx hb dX6_discard_5 rfl (lv_at hl 1 rfl) ?_
  refine callNl (As := [.int x1]) (rest := [.long (L 2), .ref (ad 2)]) (n := 1) (c_X9_bit x1 _ h) hx hb hT hown hP hS (hK.2 _ (List.mem_of_getElem? (i := 4) rfl)) wd_X9_bit (by decide +kernel) ⟨rfl, rfl⟩ (by decide) rfl hl.1 hml rfl (Nat.le_of_ble_eq_true rfl) dX6_discard_6 ⟨Nat.zero_le _, Nat.zero_le _⟩ (fun r6 H locs h hP hS => ?_)
  try dsimp only at h
  refine lv_ldc2 (v := (-1)) hx hb hown (hT _ mw_2_213) dX6_discard_9 ?_
  refine lv_lxor hx hb dX6_discard_12 ?_
  refine lv_land hx hb dX6_discard_13 ?_
  refine pC_X6_there hAd hx hb hT hown hK.1 hP hS (hT _ mw_1_89) dX6_discard_14 (fun H locs hP hS => ?_)
  obtain ⟨L_1, eL_1⟩ : ∃ z, z = va_up L 2 ((L 2) &&& (r6 ^^^ (-1))) := ⟨_, rfl⟩
  rw [← eL_1] at hP
  replace h := h L_1 eL_1
  refine lv_aload_n hx hb dX6_discard_17 rfl (lv_at hl 0 rfl) ?_
  refine va_get (T := TX6) hx hb hT inlX6 hown hK.1 hP 2 he_X6 rfl 0 (by decide) (hT _ mw_1_87) (fun _ h9 => h9) rfl dX6_discard_18 ?_
  refine lv_iload_n hx hb dX6_discard_21 rfl (lv_at hl 1 rfl) ?_
  refine callCv (k := 7) (As := [.int x1]) (rest := []) (n := 1) (c_X3_take hAd I L_1 A B 7 x1 (by decide) _ h) hx hb hT hown hK hP hS mw_2_214 wd_X3_take (by decide +kernel) ⟨rfl, rfl⟩ (by decide) rfl rfl (he_X3 (by decide)) rfl hl.1 hml rfl (Nat.le_of_ble_eq_true rfl) dX6_discard_22 ⟨Nat.zero_le _, Nat.zero_le _⟩ (fun u H locs h hP hS => ?_)
  obtain ⟨I_1, Lu, A_1, Bu⟩ := u
  dsimp only at h hP
  obtain ⟨h, rfl, rfl⟩ := h
  try dsimp only at h
  exact hret (I_1, L_1, A_1, B) dX6_discard_25 ⟨h, rfl⟩ hP hS
theorem dX7_knows_0 : decode cX7_knows 0 = .ok (.iload_n 1, 1) := by decide +kernel
theorem dX7_knows_1 : decode cX7_knows 1 = .ok (.ifCond .lt 15, 3) := by decide +kernel
theorem dX7_knows_4 : decode cX7_knows 4 = .ok (.iload_n 1, 1) := by decide +kernel
theorem dX7_knows_5 : decode cX7_knows 5 = .ok (.aload_n 0, 1) := by decide +kernel
theorem dX7_knows_6 : decode cX7_knows 6 = .ok (.getfield 30, 3) := by decide +kernel
theorem dX7_knows_9 : decode cX7_knows 9 = .ok (.if_icmp .ge 7, 3) := by decide +kernel
theorem dX7_knows_12 : decode cX7_knows 12 = .ok (.iconst 1, 1) := by decide +kernel
theorem dX7_knows_13 : decode cX7_knows 13 = .ok (.goto 4, 3) := by decide +kernel
theorem dX7_knows_16 : decode cX7_knows 16 = .ok (.iconst 0, 1) := by decide +kernel
theorem dX7_knows_17 : decode cX7_knows 17 = .ok (.ireturn, 1) := by decide +kernel
def wX7_knows (I : Nat → Int32) (L : Nat → Int64) (A : Nat → Nat → Int32) (B : Nat → Nat → Int64) (x1 : Int32) (post : Int32 → Prop) : Prop := if x1 < 0 then (post 0) else (if (I 3) ≤ x1 then (post 0) else (post 1))
abbrev rmX7_knows : Room := { frames := 0, cells := 0, slots := 0, locals := 0 }
theorem wd_X7_knows : Cond.instanceMethod yX7_knows ∈ BW ∧ Cond.selects yX7_knows.cls yX7_knows yX7_knows ∈ BW ∧ Cond.initialized yX7_knows.cls ∈ BW ∧ Cond.code yX7_knows cX7_knows 2 (some .boolean) ∈ BW := ⟨mw_2_94, mw_2_95, mw_1_5, mw_2_96⟩
set_option maxHeartbeats 4000000 in
set_option maxRecDepth 100000 in
theorem c_X7_knows {l : Launch} {D : va_G} {cy : Nat → ClassId} {ad : Nat → Nat} {Ad : Nat → Prop} (hAd : adok 103 Ad ad) (I : Nat → Int32) (L : Nat → Int64) (A : Nat → Nat → Int32) (B : Nat → Nat → Int64) (x1 : Int32)  (post : Int32 → Prop) (h : wX7_knows I L A B x1 post) : Met l yX7_knows (.code yX7_knows cX7_knows 2 (some .boolean) :: BW) rmX7_knows (va_Pc [.ref (ad 3), .int x1] (fun U => kC D cy U ∧ va_P D vwCl (wC cy ad I L A B) U.heap)) (qCi D cy ad Ad (fun r u => post r  ∧ I = u.1 ∧ L = u.2.1 ∧ A = u.2.2.1 ∧ B = u.2.2.2)) 0 0 Ad := by
  refine startCz (by decide) (Nat.le_of_ble_eq_true rfl) (lv := [(0, .ref (ad 3)), (1, .int x1)]) rfl (fun p e s m args below meth c Q ls hx hb hml hT hown hK hret hl hP hS => ?_)
  unfold wX7_knows at h
  refine lv_iload_n hx hb dX7_knows_0 rfl (lv_at hl 1 rfl) ?_
  refine lv_if_lt (tgt := 16) hx hb dX7_knows_1 (by decide) (fun hc => ?_) (fun hc => ?_)
  · rw [if_pos hc] at h
    refine lv_iconst (v := 0) hx hb dX7_knows_16 (by decide) ?_
    exact hret _ (I, L, A, B) zb_0 dX7_knows_17 ⟨h, rfl, rfl, rfl, rfl⟩ hP hS
  · rw [if_neg hc] at h
    refine lv_iload_n hx hb dX7_knows_4 rfl (lv_at hl 1 rfl) ?_
    refine lv_aload_n hx hb dX7_knows_5 rfl (lv_at hl 0 rfl) ?_
    refine va_get (T := TX7) hx hb hT inlX7 hown hK.1 hP 3 he_X7 rfl 4 (by decide) (hT _ mw_1_168) (fun _ h9 => h9) rfl dX7_knows_6 ?_
    refine lv_icmp_ge (tgt := 16) hx hb dX7_knows_9 (by decide) (fun hc_1 => ?_) (fun hc_1 => ?_)
    · rw [if_pos hc_1] at h
      refine lv_iconst (v := 0) hx hb dX7_knows_16 (by decide) ?_
      exact hret _ (I, L, A, B) zb_0 dX7_knows_17 ⟨h, rfl, rfl, rfl, rfl⟩ hP hS
    · rw [if_neg hc_1] at h
      refine lv_iconst (v := 1) hx hb dX7_knows_12 (by decide) ?_
      refine lv_goto (tgt := 17) hx hb dX7_knows_13 (by decide) ?_
      exact hret _ (I, L, A, B) zb_1 dX7_knows_17 ⟨h, rfl, rfl, rfl, rfl⟩ hP hS
theorem dX7_isNumeric_0 : decode cX7_isNumeric 0 = .ok (.aload_n 0, 1) := by decide +kernel
theorem dX7_isNumeric_1 : decode cX7_isNumeric 1 = .ok (.iload_n 1, 1) := by decide +kernel
theorem dX7_isNumeric_2 : decode cX7_isNumeric 2 = .ok (.invokevirtual 34, 3) := by decide +kernel
theorem dX7_isNumeric_5 : decode cX7_isNumeric 5 = .ok (.ifCond .eq 20, 3) := by decide +kernel
theorem dX7_isNumeric_8 : decode cX7_isNumeric 8 = .ok (.aload_n 0, 1) := by decide +kernel
theorem dX7_isNumeric_9 : decode cX7_isNumeric 9 = .ok (.getfield 11, 3) := by decide +kernel
theorem dX7_isNumeric_12 : decode cX7_isNumeric 12 = .ok (.iload_n 1, 1) := by decide +kernel
theorem dX7_isNumeric_13 : decode cX7_isNumeric 13 = .ok (.aaload, 1) := by decide +kernel
theorem dX7_isNumeric_14 : decode cX7_isNumeric 14 = .ok (.getfield 38, 3) := by decide +kernel
theorem dX7_isNumeric_17 : decode cX7_isNumeric 17 = .ok (.iconst 2, 1) := by decide +kernel
theorem dX7_isNumeric_18 : decode cX7_isNumeric 18 = .ok (.if_icmp .ne 7, 3) := by decide +kernel
theorem dX7_isNumeric_21 : decode cX7_isNumeric 21 = .ok (.iconst 1, 1) := by decide +kernel
theorem dX7_isNumeric_22 : decode cX7_isNumeric 22 = .ok (.goto 4, 3) := by decide +kernel
theorem dX7_isNumeric_25 : decode cX7_isNumeric 25 = .ok (.iconst 0, 1) := by decide +kernel
theorem dX7_isNumeric_26 : decode cX7_isNumeric 26 = .ok (.ireturn, 1) := by decide +kernel
def wX7_isNumeric (I : Nat → Int32) (L : Nat → Int64) (A : Nat → Nat → Int32) (B : Nat → Nat → Int64) (x1 : Int32) (post : Int32 → Prop) : Prop := wX7_knows I L A B x1 (fun r2 => if r2 = 0 then (post 0) else (vp_in x1 5 ∧ (if (I (9 + x1.toNatClampNeg)) = 2 then (post 1) else (post 0))))
abbrev rmX7_isNumeric : Room := { frames := 1, cells := 0, slots := 0, locals := 21 }
theorem wd_X7_isNumeric : Cond.instanceMethod yX7_isNumeric ∈ BW ∧ Cond.selects yX7_isNumeric.cls yX7_isNumeric yX7_isNumeric ∈ BW ∧ Cond.initialized yX7_isNumeric.cls ∈ BW ∧ Cond.code yX7_isNumeric cX7_isNumeric 2 (some .boolean) ∈ BW := ⟨mw_2_192, mw_2_193, mw_1_5, mw_2_194⟩
set_option maxHeartbeats 4000000 in
set_option maxRecDepth 100000 in
theorem c_X7_isNumeric {l : Launch} {D : va_G} {cy : Nat → ClassId} {ad : Nat → Nat} {Ad : Nat → Prop} (hAd : adok 103 Ad ad) (I : Nat → Int32) (L : Nat → Int64) (A : Nat → Nat → Int32) (B : Nat → Nat → Int64) (x1 : Int32)  (post : Int32 → Prop) (h : wX7_isNumeric I L A B x1 post) : Met l yX7_isNumeric (.code yX7_isNumeric cX7_isNumeric 2 (some .boolean) :: BW) rmX7_isNumeric (va_Pc [.ref (ad 3), .int x1] (fun U => kC D cy U ∧ va_P D vwCl (wC cy ad I L A B) U.heap)) (qCi D cy ad Ad (fun r u => post r  ∧ I = u.1 ∧ L = u.2.1 ∧ A = u.2.2.1 ∧ B = u.2.2.2)) 0 0 Ad := by
  refine startCz (by decide) (Nat.le_of_ble_eq_true rfl) (lv := [(0, .ref (ad 3)), (1, .int x1)]) rfl (fun p e s m args below meth c Q ls hx hb hml hT hown hK hret hl hP hS => ?_)
  unfold wX7_isNumeric at h
  refine lv_aload_n hx hb dX7_isNumeric_0 rfl (lv_at hl 0 rfl) ?_
  refine lv_iload_n hx hb dX7_isNumeric_1 rfl (lv_at hl 1 rfl) ?_
  refine callCi (k := 3) (As := [.int x1]) (rest := []) (n := 1) (c_X7_knows hAd I L A B x1 _ h) hx hb hT hown hK hP hS mw_2_93 wd_X7_knows (by decide +kernel) ⟨rfl, rfl⟩ (by decide) rfl rfl he_X7 rfl hl.1 hml rfl (Nat.le_of_ble_eq_true rfl) dX7_isNumeric_2 ⟨Nat.zero_le _, Nat.zero_le _⟩ (fun r2 u H locs h hP hS => ?_)
  obtain ⟨Iu, Lu, Au, Bu⟩ := u
  dsimp only at h hP
  obtain ⟨h, rfl, rfl, rfl, rfl⟩ := h
  try dsimp only at h
  refine lv_if_eq (tgt := 25) hx hb dX7_isNumeric_5 (by decide) (fun hc => ?_) (fun hc => ?_)
  · rw [if_pos hc] at h
    refine lv_iconst (v := 0) hx hb dX7_isNumeric_25 (by decide) ?_
    exact hret _ (I, L, A, B) zb_0 dX7_isNumeric_26 ⟨h, rfl, rfl, rfl, rfl⟩ hP hS
  · rw [if_neg hc] at h
    refine lv_aload_n hx hb dX7_isNumeric_8 rfl (lv_at hl 0 rfl) ?_
    refine va_get (T := TX7) hx hb hT inlX7 hown hK.1 hP 3 he_X7 rfl 2 (by decide) (hT _ mw_1_165) (fun _ h9 => h9) rfl dX7_isNumeric_9 ?_
    refine lv_iload_n hx hb dX7_isNumeric_12 rfl (lv_at hl 1 rfl) ?_
    obtain ⟨hi, h⟩ := h
    have hj := vp_lt hi
    refine lC_X hx hb hK.1 hP hi dX7_isNumeric_13 ?_
    refine va_get (T := TX0) hx hb hT inlX0 hown hK.1 hP (9 + x1.toNatClampNeg) (he_X0 (by omega)) rfl 0 (by decide) (hT _ mw_1_143) (fun _ h9 => h9) rfl dX7_isNumeric_14 ?_
    refine lv_iconst (v := 2) hx hb dX7_isNumeric_17 (by decide) ?_
    refine lv_icmp_ne (tgt := 25) hx hb dX7_isNumeric_18 (by decide) (fun hc_1 => ?_) (fun hc_1 => ?_)
    · rw [if_neg hc_1] at h
      refine lv_iconst (v := 0) hx hb dX7_isNumeric_25 (by decide) ?_
      exact hret _ (I, L, A, B) zb_0 dX7_isNumeric_26 ⟨h, rfl, rfl, rfl, rfl⟩ hP hS
    · rw [if_pos hc_1] at h
      refine lv_iconst (v := 1) hx hb dX7_isNumeric_21 (by decide) ?_
      refine lv_goto (tgt := 26) hx hb dX7_isNumeric_22 (by decide) ?_
      exact hret _ (I, L, A, B) zb_1 dX7_isNumeric_26 ⟨h, rfl, rfl, rfl, rfl⟩ hP hS
theorem dX7_isTree_0 : decode cX7_isTree 0 = .ok (.aload_n 0, 1) := by decide +kernel
theorem dX7_isTree_1 : decode cX7_isTree 1 = .ok (.iload_n 1, 1) := by decide +kernel
theorem dX7_isTree_2 : decode cX7_isTree 2 = .ok (.invokevirtual 34, 3) := by decide +kernel
theorem dX7_isTree_5 : decode cX7_isTree 5 = .ok (.ifCond .eq 20, 3) := by decide +kernel
theorem dX7_isTree_8 : decode cX7_isTree 8 = .ok (.aload_n 0, 1) := by decide +kernel
theorem dX7_isTree_9 : decode cX7_isTree 9 = .ok (.getfield 11, 3) := by decide +kernel
theorem dX7_isTree_12 : decode cX7_isTree 12 = .ok (.iload_n 1, 1) := by decide +kernel
theorem dX7_isTree_13 : decode cX7_isTree 13 = .ok (.aaload, 1) := by decide +kernel
theorem dX7_isTree_14 : decode cX7_isTree 14 = .ok (.getfield 38, 3) := by decide +kernel
theorem dX7_isTree_17 : decode cX7_isTree 17 = .ok (.iconst 2, 1) := by decide +kernel
theorem dX7_isTree_18 : decode cX7_isTree 18 = .ok (.if_icmp .eq 7, 3) := by decide +kernel
theorem dX7_isTree_21 : decode cX7_isTree 21 = .ok (.iconst 1, 1) := by decide +kernel
theorem dX7_isTree_22 : decode cX7_isTree 22 = .ok (.goto 4, 3) := by decide +kernel
theorem dX7_isTree_25 : decode cX7_isTree 25 = .ok (.iconst 0, 1) := by decide +kernel
theorem dX7_isTree_26 : decode cX7_isTree 26 = .ok (.ireturn, 1) := by decide +kernel
def wX7_isTree (I : Nat → Int32) (L : Nat → Int64) (A : Nat → Nat → Int32) (B : Nat → Nat → Int64) (x1 : Int32) (post : Int32 → Prop) : Prop := wX7_knows I L A B x1 (fun r2 => if r2 = 0 then (post 0) else (vp_in x1 5 ∧ (if (I (9 + x1.toNatClampNeg)) = 2 then (post 0) else (post 1))))
abbrev rmX7_isTree : Room := { frames := 1, cells := 0, slots := 0, locals := 21 }
theorem wd_X7_isTree : Cond.instanceMethod yX7_isTree ∈ BW ∧ Cond.selects yX7_isTree.cls yX7_isTree yX7_isTree ∈ BW ∧ Cond.initialized yX7_isTree.cls ∈ BW ∧ Cond.code yX7_isTree cX7_isTree 2 (some .boolean) ∈ BW := ⟨mw_2_90, mw_2_91, mw_1_5, mw_2_92⟩
set_option maxHeartbeats 4000000 in
set_option maxRecDepth 100000 in
theorem c_X7_isTree {l : Launch} {D : va_G} {cy : Nat → ClassId} {ad : Nat → Nat} {Ad : Nat → Prop} (hAd : adok 103 Ad ad) (I : Nat → Int32) (L : Nat → Int64) (A : Nat → Nat → Int32) (B : Nat → Nat → Int64) (x1 : Int32)  (post : Int32 → Prop) (h : wX7_isTree I L A B x1 post) : Met l yX7_isTree (.code yX7_isTree cX7_isTree 2 (some .boolean) :: BW) rmX7_isTree (va_Pc [.ref (ad 3), .int x1] (fun U => kC D cy U ∧ va_P D vwCl (wC cy ad I L A B) U.heap)) (qCi D cy ad Ad (fun r u => post r  ∧ I = u.1 ∧ L = u.2.1 ∧ A = u.2.2.1 ∧ B = u.2.2.2)) 0 0 Ad := by
  refine startCz (by decide) (Nat.le_of_ble_eq_true rfl) (lv := [(0, .ref (ad 3)), (1, .int x1)]) rfl (fun p e s m args below meth c Q ls hx hb hml hT hown hK hret hl hP hS => ?_)
  unfold wX7_isTree at h
  refine lv_aload_n hx hb dX7_isTree_0 rfl (lv_at hl 0 rfl) ?_
  refine lv_iload_n hx hb dX7_isTree_1 rfl (lv_at hl 1 rfl) ?_
  refine callCi (k := 3) (As := [.int x1]) (rest := []) (n := 1) (c_X7_knows hAd I L A B x1 _ h) hx hb hT hown hK hP hS mw_2_93 wd_X7_knows (by decide +kernel) ⟨rfl, rfl⟩ (by decide) rfl rfl he_X7 rfl hl.1 hml rfl (Nat.le_of_ble_eq_true rfl) dX7_isTree_2 ⟨Nat.zero_le _, Nat.zero_le _⟩ (fun r2 u H locs h hP hS => ?_)
  obtain ⟨Iu, Lu, Au, Bu⟩ := u
  dsimp only at h hP
  obtain ⟨h, rfl, rfl, rfl, rfl⟩ := h
  try dsimp only at h
  refine lv_if_eq (tgt := 25) hx hb dX7_isTree_5 (by decide) (fun hc => ?_) (fun hc => ?_)
  · rw [if_pos hc] at h
    refine lv_iconst (v := 0) hx hb dX7_isTree_25 (by decide) ?_
    exact hret _ (I, L, A, B) zb_0 dX7_isTree_26 ⟨h, rfl, rfl, rfl, rfl⟩ hP hS
  · rw [if_neg hc] at h
    refine lv_aload_n hx hb dX7_isTree_8 rfl (lv_at hl 0 rfl) ?_
    refine va_get (T := TX7) hx hb hT inlX7 hown hK.1 hP 3 he_X7 rfl 2 (by decide) (hT _ mw_1_165) (fun _ h9 => h9) rfl dX7_isTree_9 ?_
    refine lv_iload_n hx hb dX7_isTree_12 rfl (lv_at hl 1 rfl) ?_
    obtain ⟨hi, h⟩ := h
    have hj := vp_lt hi
    refine lC_X hx hb hK.1 hP hi dX7_isTree_13 ?_
    refine va_get (T := TX0) hx hb hT inlX0 hown hK.1 hP (9 + x1.toNatClampNeg) (he_X0 (by omega)) rfl 0 (by decide) (hT _ mw_1_143) (fun _ h9 => h9) rfl dX7_isTree_14 ?_
    refine lv_iconst (v := 2) hx hb dX7_isTree_17 (by decide) ?_
    refine lv_icmp_eq (tgt := 25) hx hb dX7_isTree_18 (by decide) (fun hc_1 => ?_) (fun hc_1 => ?_)
    · rw [if_pos hc_1] at h
      refine lv_iconst (v := 0) hx hb dX7_isTree_25 (by decide) ?_
      exact hret _ (I, L, A, B) zb_0 dX7_isTree_26 ⟨h, rfl, rfl, rfl, rfl⟩ hP hS
    · rw [if_neg hc_1] at h
      refine lv_iconst (v := 1) hx hb dX7_isTree_21 (by decide) ?_
      refine lv_goto (tgt := 26) hx hb dX7_isTree_22 (by decide) ?_
      exact hret _ (I, L, A, B) zb_1 dX7_isTree_26 ⟨h, rfl, rfl, rfl, rfl⟩ hP hS
theorem dX7_absentOn_0 : decode cX7_absentOn 0 = .ok (.aload_n 0, 1) := by decide +kernel
theorem dX7_absentOn_1 : decode cX7_absentOn 1 = .ok (.getfield 11, 3) := by decide +kernel
theorem dX7_absentOn_4 : decode cX7_absentOn 4 = .ok (.iload_n 1, 1) := by decide +kernel
theorem dX7_absentOn_5 : decode cX7_absentOn 5 = .ok (.aaload, 1) := by decide +kernel
theorem dX7_absentOn_6 : decode cX7_absentOn 6 = .ok (.getfield 38, 3) := by decide +kernel
theorem dX7_absentOn_9 : decode cX7_absentOn 9 = .ok (.iconst 2, 1) := by decide +kernel
theorem dX7_absentOn_10 : decode cX7_absentOn 10 = .ok (.if_icmp .ne 7, 3) := by decide +kernel
theorem dX7_absentOn_13 : decode cX7_absentOn 13 = .ok (.iconst 1, 1) := by decide +kernel
theorem dX7_absentOn_14 : decode cX7_absentOn 14 = .ok (.goto 4, 3) := by decide +kernel
theorem dX7_absentOn_17 : decode cX7_absentOn 17 = .ok (.iconst 0, 1) := by decide +kernel
theorem dX7_absentOn_18 : decode cX7_absentOn 18 = .ok (.istore_n 2, 1) := by decide +kernel
theorem dX7_absentOn_19 : decode cX7_absentOn 19 = .ok (.aload_n 0, 1) := by decide +kernel
theorem dX7_absentOn_20 : decode cX7_absentOn 20 = .ok (.getfield 25, 3) := by decide +kernel
theorem dX7_absentOn_23 : decode cX7_absentOn 23 = .ok (.getfield 58, 3) := by decide +kernel
theorem dX7_absentOn_26 : decode cX7_absentOn 26 = .ok (.iload_n 2, 1) := by decide +kernel
theorem dX7_absentOn_27 : decode cX7_absentOn 27 = .ok (.ifCond .eq 15, 3) := by decide +kernel
theorem dX7_absentOn_30 : decode cX7_absentOn 30 = .ok (.aload_n 0, 1) := by decide +kernel
theorem dX7_absentOn_31 : decode cX7_absentOn 31 = .ok (.getfield 11, 3) := by decide +kernel
theorem dX7_absentOn_34 : decode cX7_absentOn 34 = .ok (.iload_n 1, 1) := by decide +kernel
theorem dX7_absentOn_35 : decode cX7_absentOn 35 = .ok (.aaload, 1) := by decide +kernel
theorem dX7_absentOn_36 : decode cX7_absentOn 36 = .ok (.getfield 89, 3) := by decide +kernel
theorem dX7_absentOn_39 : decode cX7_absentOn 39 = .ok (.goto 11, 3) := by decide +kernel
theorem dX7_absentOn_42 : decode cX7_absentOn 42 = .ok (.aload_n 0, 1) := by decide +kernel
theorem dX7_absentOn_43 : decode cX7_absentOn 43 = .ok (.getfield 21, 3) := by decide +kernel
theorem dX7_absentOn_46 : decode cX7_absentOn 46 = .ok (.iload_n 1, 1) := by decide +kernel
theorem dX7_absentOn_47 : decode cX7_absentOn 47 = .ok (.invokevirtual 106, 3) := by decide +kernel
theorem dX7_absentOn_50 : decode cX7_absentOn 50 = .ok (.ldc2_w 109, 3) := by decide +kernel
theorem dX7_absentOn_53 : decode cX7_absentOn 53 = .ok (.lxor, 1) := by decide +kernel
theorem dX7_absentOn_54 : decode cX7_absentOn 54 = .ok (.land, 1) := by decide +kernel
theorem dX7_absentOn_55 : decode cX7_absentOn 55 = .ok (.lreturn, 1) := by decide +kernel
def wX7_absentOn (I : Nat → Int32) (L : Nat → Int64) (A : Nat → Nat → Int32) (B : Nat → Nat → Int64) (x1 : Int32) (post : Int64 → Prop) : Prop := vp_in x1 5 ∧ (jn (fun (t : Int32) => jn (fun (t_1 : Int64) => post ((L 2) &&& (t_1 ^^^ (-1)))) (fun k_1 => if t = 0 then (wX2_taggedOn I L A B x1 (fun r47 => k_1 r47)) else (vp_in x1 5 ∧ (k_1 (L (9 + x1.toNatClampNeg)))))) (fun k => if (I (9 + x1.toNatClampNeg)) = 2 then (k 1) else (k 0)))
abbrev rmX7_absentOn : Room := { frames := 1, cells := 0, slots := 0, locals := 24 }
theorem wd_X7_absentOn : Cond.instanceMethod yX7_absentOn ∈ BW ∧ Cond.selects yX7_absentOn.cls yX7_absentOn yX7_absentOn ∈ BW ∧ Cond.initialized yX7_absentOn.cls ∈ BW ∧ Cond.code yX7_absentOn cX7_absentOn 3 (some .long) ∈ BW := ⟨mw_2_53, mw_2_54, mw_1_5, mw_2_55⟩
set_option maxHeartbeats 4000000 in
set_option maxRecDepth 100000 in
theorem c_X7_absentOn {l : Launch} {D : va_G} {cy : Nat → ClassId} {ad : Nat → Nat} {Ad : Nat → Prop} (hAd : adok 103 Ad ad) (I : Nat → Int32) (L : Nat → Int64) (A : Nat → Nat → Int32) (B : Nat → Nat → Int64) (x1 : Int32)  (post : Int64 → Prop) (h : wX7_absentOn I L A B x1 post) : Met l yX7_absentOn (.code yX7_absentOn cX7_absentOn 3 (some .long) :: BW) rmX7_absentOn (va_Pc [.ref (ad 3), .int x1] (fun U => kC D cy U ∧ va_P D vwCl (wC cy ad I L A B) U.heap)) (qCl D cy ad Ad (fun r u => post r  ∧ I = u.1 ∧ L = u.2.1 ∧ A = u.2.2.1 ∧ B = u.2.2.2)) 0 0 Ad := by
  refine startCl (by decide) (Nat.le_of_ble_eq_true rfl) (lv := [(0, .ref (ad 3)), (1, .int x1)]) rfl (fun p e s m args below meth c Q ls hx hb hml hT hown hK hret hl hP hS => ?_)
  unfold wX7_absentOn at h
  refine lv_aload_n hx hb dX7_absentOn_0 rfl (lv_at hl 0 rfl) ?_
  refine va_get (T := TX7) hx hb hT inlX7 hown hK.1 hP 3 he_X7 rfl 2 (by decide) (hT _ mw_1_165) (fun _ h9 => h9) rfl dX7_absentOn_1 ?_
  refine lv_iload_n hx hb dX7_absentOn_4 rfl (lv_at hl 1 rfl) ?_
  obtain ⟨hi, h⟩ := h
  have hj := vp_lt hi
  refine lC_X hx hb hK.1 hP hi dX7_absentOn_5 ?_
  refine va_get (T := TX0) hx hb hT inlX0 hown hK.1 hP (9 + x1.toNatClampNeg) (he_X0 (by omega)) rfl 0 (by decide) (hT _ mw_1_143) (fun _ h9 => h9) rfl dX7_absentOn_6 ?_
  refine lv_iconst (v := 2) hx hb dX7_absentOn_9 (by decide) ?_
  obtain ⟨k, hk, h⟩ := jn_ex h
  try dsimp only at h
  have J : ∀ (t : Int32), k t → ∀ (ls : Array Slot) (H : Heap) (locs : List Loc), lv_has ls 3 [(0, .ref (ad 3)), (1, .int x1)] → va_P D vwCl (wC cy ad I L A B) H → va_S Ad s.heap H locs → W p l e rmX7_absentOn s m args below meth c H locs 0 0 Q (F0 m 18 ls [.int t]) := by
    intro t h ls H locs hl hP hS
    replace h := hk _ h
    try dsimp only at h
    refine lv_istore_n (lv' := [(2, .int t), (0, .ref (ad 3)), (1, .int x1)]) hx hb dX7_absentOn_18 rfl hl (by decide) rfl (fun ls hl => ?_)
    refine lv_aload_n hx hb dX7_absentOn_19 rfl (lv_at hl 1 rfl) ?_
    refine va_get (T := TX7) hx hb hT inlX7 hown hK.1 hP 3 he_X7 rfl 1 (by decide) (hT _ mw_1_164) (fun _ h9 => h9) rfl dX7_absentOn_20 ?_
    refine va_get (T := TX6) hx hb hT inlX6 hown hK.1 hP 2 he_X6 rfl 1 (by decide) (hT _ mw_1_90) (fun _ h9 => h9) rfl dX7_absentOn_23 ?_
    refine lv_iload_n hx hb dX7_absentOn_26 rfl (lv_at hl 0 rfl) ?_
    obtain ⟨k_1, hk_1, h⟩ := jn_ex h
    try dsimp only at h
    have J_1 : ∀ (t_1 : Int64), k_1 t_1 → ∀ (ls : Array Slot) (H : Heap) (locs : List Loc), lv_has ls 3 [] → va_P D vwCl (wC cy ad I L A B) H → va_S Ad s.heap H locs → W p l e rmX7_absentOn s m args below meth c H locs 0 0 Q (F0 m 50 ls [.long t_1, .long (L 2)]) := by
      intro t_1 h ls H locs hl hP hS
      replace h := hk_1 _ h
      try dsimp only at h
      refine lv_ldc2 (v := (-1)) hx hb hown (hT _ mw_2_60) dX7_absentOn_50 ?_
      refine lv_lxor hx hb dX7_absentOn_53 ?_
      refine lv_land hx hb dX7_absentOn_54 ?_
      exact hret _ (I, L, A, B) dX7_absentOn_55 ⟨h, rfl, rfl, rfl, rfl⟩ hP hS
    refine lv_if_eq (tgt := 42) hx hb dX7_absentOn_27 (by decide) (fun hc => ?_) (fun hc => ?_)
    · rw [if_pos hc] at h
      refine lv_aload_n hx hb dX7_absentOn_42 rfl (lv_at hl 1 rfl) ?_
      refine va_get (T := TX7) hx hb hT inlX7 hown hK.1 hP 3 he_X7 rfl 0 (by decide) (hT _ mw_1_163) (fun _ h9 => h9) rfl dX7_absentOn_43 ?_
      refine lv_iload_n hx hb dX7_absentOn_46 rfl (lv_at hl 2 rfl) ?_
      refine callCl (k := 1) (As := [.int x1]) (rest := [.long (L 2)]) (n := 1) (c_X2_taggedOn hAd I L A B x1 _ h) hx hb hT hown hK hP hS mw_2_56 wd_X2_taggedOn (by decide +kernel) ⟨rfl, rfl⟩ (by decide) rfl rfl he_X2 rfl hl.1 hml rfl (Nat.le_of_ble_eq_true rfl) dX7_absentOn_47 ⟨Nat.zero_le _, Nat.zero_le _⟩ (fun r47 u H locs h hP hS => ?_)
      obtain ⟨Iu, Lu, Au, Bu⟩ := u
      dsimp only at h hP
      obtain ⟨h, rfl, rfl, rfl, rfl⟩ := h
      try dsimp only at h
      exact J_1 r47 h _ _ _ (lv_sub hl [] rfl) hP hS
    · rw [if_neg hc] at h
      refine lv_aload_n hx hb dX7_absentOn_30 rfl (lv_at hl 1 rfl) ?_
      refine va_get (T := TX7) hx hb hT inlX7 hown hK.1 hP 3 he_X7 rfl 2 (by decide) (hT _ mw_1_165) (fun _ h9 => h9) rfl dX7_absentOn_31 ?_
      refine lv_iload_n hx hb dX7_absentOn_34 rfl (lv_at hl 2 rfl) ?_
      obtain ⟨hi_1, h⟩ := h
      have hj_1 := vp_lt hi_1
      refine lC_X hx hb hK.1 hP hi_1 dX7_absentOn_35 ?_
      refine va_get (T := TX0) hx hb hT inlX0 hown hK.1 hP (9 + x1.toNatClampNeg) (he_X0 (by omega)) rfl 3 (by decide) (hT _ mw_1_153) (fun _ h9 => h9) rfl dX7_absentOn_36 ?_
      refine lv_goto (tgt := 50) hx hb dX7_absentOn_39 (by decide) ?_
      exact J_1 (L (9 + x1.toNatClampNeg)) h _ _ _ (lv_sub hl [] rfl) hP hS
  refine lv_icmp_ne (tgt := 17) hx hb dX7_absentOn_10 (by decide) (fun hc_1 => ?_) (fun hc_1 => ?_)
  · rw [if_neg hc_1] at h
    refine lv_iconst (v := 0) hx hb dX7_absentOn_17 (by decide) ?_
    exact J 0 h _ _ _ (lv_sub hl [0, 1] rfl) hP hS
  · rw [if_pos hc_1] at h
    refine lv_iconst (v := 1) hx hb dX7_absentOn_13 (by decide) ?_
    refine lv_goto (tgt := 18) hx hb dX7_absentOn_14 (by decide) ?_
    exact J 1 h _ _ _ (lv_sub hl [0, 1] rfl) hP hS
theorem dX7_inRanges_0 : decode cX7_inRanges 0 = .ok (.lconst 0, 1) := by decide +kernel
theorem dX7_inRanges_1 : decode cX7_inRanges 1 = .ok (.lstore_n 3, 1) := by decide +kernel
theorem dX7_inRanges_2 : decode cX7_inRanges 2 = .ok (.iconst 0, 1) := by decide +kernel
theorem dX7_inRanges_3 : decode cX7_inRanges 3 = .ok (.istore 5, 2) := by decide +kernel
theorem dX7_inRanges_5 : decode cX7_inRanges 5 = .ok (.iload 5, 2) := by decide +kernel
theorem dX7_inRanges_7 : decode cX7_inRanges 7 = .ok (.aload_n 0, 1) := by decide +kernel
theorem dX7_inRanges_8 : decode cX7_inRanges 8 = .ok (.getfield 25, 3) := by decide +kernel
theorem dX7_inRanges_11 : decode cX7_inRanges 11 = .ok (.getfield 88, 3) := by decide +kernel
theorem dX7_inRanges_14 : decode cX7_inRanges 14 = .ok (.if_icmp .ge 43, 3) := by decide +kernel
theorem dX7_inRanges_17 : decode cX7_inRanges 17 = .ok (.aload_n 1, 1) := by decide +kernel
theorem dX7_inRanges_18 : decode cX7_inRanges 18 = .ok (.getfield 89, 3) := by decide +kernel
theorem dX7_inRanges_21 : decode cX7_inRanges 21 = .ok (.iload 5, 2) := by decide +kernel
theorem dX7_inRanges_23 : decode cX7_inRanges 23 = .ok (.invokestatic 92, 3) := by decide +kernel
theorem dX7_inRanges_26 : decode cX7_inRanges 26 = .ok (.ifCond .eq 25, 3) := by decide +kernel
theorem dX7_inRanges_29 : decode cX7_inRanges 29 = .ok (.aload_n 2, 1) := by decide +kernel
theorem dX7_inRanges_30 : decode cX7_inRanges 30 = .ok (.aload_n 1, 1) := by decide +kernel
theorem dX7_inRanges_31 : decode cX7_inRanges 31 = .ok (.getfield 96, 3) := by decide +kernel
theorem dX7_inRanges_34 : decode cX7_inRanges 34 = .ok (.iload 5, 2) := by decide +kernel
theorem dX7_inRanges_36 : decode cX7_inRanges 36 = .ok (.iaload, 1) := by decide +kernel
theorem dX7_inRanges_37 : decode cX7_inRanges 37 = .ok (.invokevirtual 100, 3) := by decide +kernel
theorem dX7_inRanges_40 : decode cX7_inRanges 40 = .ok (.ifCond .eq 11, 3) := by decide +kernel
theorem dX7_inRanges_43 : decode cX7_inRanges 43 = .ok (.lload_n 3, 1) := by decide +kernel
theorem dX7_inRanges_44 : decode cX7_inRanges 44 = .ok (.iload 5, 2) := by decide +kernel
theorem dX7_inRanges_46 : decode cX7_inRanges 46 = .ok (.invokestatic 103, 3) := by decide +kernel
theorem dX7_inRanges_49 : decode cX7_inRanges 49 = .ok (.lor, 1) := by decide +kernel
theorem dX7_inRanges_50 : decode cX7_inRanges 50 = .ok (.lstore_n 3, 1) := by decide +kernel
theorem dX7_inRanges_51 : decode cX7_inRanges 51 = .ok (.iinc 5 1, 3) := by decide +kernel
theorem dX7_inRanges_54 : decode cX7_inRanges 54 = .ok (.goto (-49), 3) := by decide +kernel
theorem dX7_inRanges_57 : decode cX7_inRanges 57 = .ok (.lload_n 3, 1) := by decide +kernel
theorem dX7_inRanges_58 : decode cX7_inRanges 58 = .ok (.lreturn, 1) := by decide +kernel
def wX7_inRanges (I : Nat → Int32) (L : Nat → Int64) (A : Nat → Nat → Int32) (B : Nat → Nat → Int64) (k1 : Nat) (k2 : Nat) (post : Int64 → Prop) : Prop := ∃ n, lfix (fun (r : (Int32 × Int64) → Prop) (v5, v3) => if (I 2) ≤ v5 then (post v3) else (wX9_inSet (L k1) v5 (fun r23 => if r23 = 0 then (∀ v5_1 : Int32, v5_1 = v5 + 1 → r (v5_1, v3)) else (vp_in v5 40 ∧ (wX5_takesNumber I L A B k2 (A (k1 + 45) v5.toNatClampNeg) (fun r37 => if r37 = 0 then (∀ v5_2 : Int32, v5_2 = v5 + 1 → r (v5_2, v3)) else (wX9_bit v5 (fun r46 => ∀ v3_1 : Int64, v3_1 = v3 ||| r46 → ∀ v5_3 : Int32, v5_3 = v5 + 1 → r (v5_3, v3_1))))))))) n (0, 0)
abbrev rmX7_inRanges : Room := { frames := 1, cells := 0, slots := 0, locals := 22 }
theorem wd_X7_inRanges : Cond.instanceMethod yX7_inRanges ∈ BW ∧ Cond.selects yX7_inRanges.cls yX7_inRanges yX7_inRanges ∈ BW ∧ Cond.initialized yX7_inRanges.cls ∈ BW ∧ Cond.code yX7_inRanges cX7_inRanges 6 (some .long) ∈ BW := ⟨mw_2_71, mp_0, mw_1_5, mw_2_72⟩
set_option maxHeartbeats 4000000 in
set_option maxRecDepth 100000 in
theorem c_X7_inRanges {l : Launch} {D : va_G} {cy : Nat → ClassId} {ad : Nat → Nat} {Ad : Nat → Prop} (hAd : adok 103 Ad ad) (I : Nat → Int32) (L : Nat → Int64) (A : Nat → Nat → Int32) (B : Nat → Nat → Int64) (k1 : Nat) (k2 : Nat) (hk1 : 9 ≤ k1 ∧ k1 < 14) (hk2 : 14 ≤ k2 ∧ k2 < 36) (post : Int64 → Prop) (h : wX7_inRanges I L A B k1 k2 post) : Met l yX7_inRanges (.code yX7_inRanges cX7_inRanges 6 (some .long) :: BW) rmX7_inRanges (va_Pc [.ref (ad 3), .ref (ad k1), .ref (ad k2)] (fun U => kC D cy U ∧ va_P D vwCl (wC cy ad I L A B) U.heap)) (qCl D cy ad Ad (fun r u => post r  ∧ I = u.1 ∧ L = u.2.1 ∧ A = u.2.2.1 ∧ B = u.2.2.2)) 0 0 Ad := by
  refine startCl (by decide) (Nat.le_of_ble_eq_true rfl) (lv := [(0, .ref (ad 3)), (1, .ref (ad k1)), (2, .ref (ad k2))]) rfl (fun p e s m args below meth c Q ls hx hb hml hT hown hK hret hl hP hS => ?_)
  unfold wX7_inRanges at h
  refine lv_lconst (v := 0) hx hb dX7_inRanges_0 (by decide) ?_
  refine lv_lstore_n (lv' := [(3, .long 0), (0, .ref (ad 3)), (1, .ref (ad k1)), (2, .ref (ad k2))]) hx hb dX7_inRanges_1 rfl hl (by decide) rfl (fun ls hl => ?_)
  refine lv_iconst (v := 0) hx hb dX7_inRanges_2 (by decide) ?_
  refine lv_istore (lv' := [(5, .int 0), (3, .long 0), (0, .ref (ad 3)), (1, .ref (ad k1)), (2, .ref (ad k2))]) hx hb dX7_inRanges_3 hl (by decide) rfl (fun ls hl => ?_)
  obtain ⟨F, n, h, hF, hG⟩ := lfix_ex h
  have LP : ∀ (n : Nat) (v5 : Int32) (v3 : Int64) (ls : Array Slot) (H : Heap) (locs : List Loc), F n (v5, v3) → lv_has ls 6 [(5, .int v5), (3, .long v3), (0, .ref (ad 3)), (1, .ref (ad k1)), (2, .ref (ad k2))] → va_P D vwCl (wC cy ad I L A B) H → va_S Ad s.heap H locs → W p l e rmX7_inRanges s m args below meth c H locs 0 0 Q (F0 m 5 ls []) := by
    intro n
    induction n with
    | zero => intro v5 v3 ls H locs h _ _ _; exact absurd h (hF _)
    | succ n ih =>
      intro v5 v3 ls H locs h hl hP hS
      replace h := hG _ _ h
      try dsimp only at h
      refine lv_iload hx hb dX7_inRanges_5 (lv_at hl 0 rfl) ?_
      refine lv_aload_n hx hb dX7_inRanges_7 rfl (lv_at hl 2 rfl) ?_
      refine va_get (T := TX7) hx hb hT inlX7 hown hK.1 hP 3 he_X7 rfl 1 (by decide) (hT _ mw_1_164) (fun _ h9 => h9) rfl dX7_inRanges_8 ?_
      refine va_get (T := TX6) hx hb hT inlX6 hown hK.1 hP 2 he_X6 rfl 2 (by decide) (hT _ mw_1_93) (fun _ h9 => h9) rfl dX7_inRanges_11 ?_
      refine lv_icmp_ge (tgt := 57) hx hb dX7_inRanges_14 (by decide) (fun hc => ?_) (fun hc => ?_)
      · rw [if_pos hc] at h
        refine lv_lload_n hx hb dX7_inRanges_57 rfl (lv_at hl 1 rfl) ?_
        exact hret _ (I, L, A, B) dX7_inRanges_58 ⟨h, rfl, rfl, rfl, rfl⟩ hP hS
      · rw [if_neg hc] at h
        refine lv_aload_n hx hb dX7_inRanges_17 rfl (lv_at hl 3 rfl) ?_
        refine va_get (T := TX0) hx hb hT inlX0 hown hK.1 hP k1 (he_X0 (by omega)) rfl 3 (by decide) (hT _ mw_1_153) (fun _ h9 => h9) rfl dX7_inRanges_18 ?_
        refine lv_iload hx hb dX7_inRanges_21 (lv_at hl 0 rfl) ?_
        refine callNi (As := [.long (L k1), .int v5]) (rest := []) (n := 2) (c_X9_inSet (L k1) v5 _ h) hx hb hT hown hP hS (hK.2 _ (List.mem_of_getElem? (i := 1) rfl)) wd_X9_inSet (by decide +kernel) ⟨rfl, rfl⟩ (by decide) rfl hl.1 hml rfl (Nat.le_of_ble_eq_true rfl) dX7_inRanges_23 ⟨Nat.zero_le _, Nat.zero_le _⟩ (fun r23 H locs h hP hS => ?_)
        try dsimp only at h
        refine lv_if_eq (tgt := 51) hx hb dX7_inRanges_26 (by decide) (fun hc_1 => ?_) (fun hc_1 => ?_)
        · rw [if_pos hc_1] at h
          obtain ⟨v5_1, ev5_1⟩ : ∃ z : Int32, z = v5 + 1 := ⟨_, rfl⟩
          replace h := h v5_1 ev5_1
          refine lv_iinc (v := v5_1) (lv' := [(5, .int v5_1), (3, .long v3), (0, .ref (ad 3)), (1, .ref (ad k1)), (2, .ref (ad k2))]) hx hb dX7_inRanges_51 hl (k := 0) rfl (by rw [ev5_1]; rfl) (by decide) rfl (fun ls hl => ?_)
          refine lv_goto (tgt := 5) hx hb dX7_inRanges_54 (by decide) ?_
          exact ih v5_1 v3 _ _ _ h (lv_sub hl [0, 1, 2, 3, 4] rfl) hP hS
        · rw [if_neg hc_1] at h
          refine lv_aload_n hx hb dX7_inRanges_29 rfl (lv_at hl 4 rfl) ?_
          refine lv_aload_n hx hb dX7_inRanges_30 rfl (lv_at hl 3 rfl) ?_
          refine va_get (T := TX0) hx hb hT inlX0 hown hK.1 hP k1 (he_X0 (by omega)) rfl 2 (by decide) (hT _ mw_1_151) (fun _ h9 => h9) rfl dX7_inRanges_31 ?_
          refine lv_iload hx hb dX7_inRanges_34 (lv_at hl 0 rfl) ?_
          obtain ⟨hi, h⟩ := h
          refine lC_I hx hb hK.1 hP (by omega) (eC_R40 (Or.inr (by omega))) hi dX7_inRanges_36 ?_
          refine callCi (k := k2) (As := [.int (A (k1 + 45) v5.toNatClampNeg)]) (rest := []) (n := 1) (c_X5_takesNumber hAd I L A B k2 (A (k1 + 45) v5.toNatClampNeg) (by omega) _ h) hx hb hT hown hK hP hS mw_2_74 wd_X5_takesNumber (by decide +kernel) ⟨rfl, rfl⟩ (by decide) rfl rfl (he_X5 (by omega)) rfl hl.1 hml rfl (Nat.le_of_ble_eq_true rfl) dX7_inRanges_37 ⟨Nat.zero_le _, Nat.zero_le _⟩ (fun r37 u H locs h hP hS => ?_)
          obtain ⟨Iu, Lu, Au, Bu⟩ := u
          dsimp only at h hP
          obtain ⟨h, rfl, rfl, rfl, rfl⟩ := h
          try dsimp only at h
          refine lv_if_eq (tgt := 51) hx hb dX7_inRanges_40 (by decide) (fun hc_2 => ?_) (fun hc_2 => ?_)
          · rw [if_pos hc_2] at h
            obtain ⟨v5_2, ev5_2⟩ : ∃ z : Int32, z = v5 + 1 := ⟨_, rfl⟩
            replace h := h v5_2 ev5_2
            refine lv_iinc (v := v5_2) (lv' := [(5, .int v5_2), (3, .long v3), (0, .ref (ad 3)), (1, .ref (ad k1)), (2, .ref (ad k2))]) hx hb dX7_inRanges_51 hl (k := 0) rfl (by rw [ev5_2]; rfl) (by decide) rfl (fun ls hl => ?_)
            refine lv_goto (tgt := 5) hx hb dX7_inRanges_54 (by decide) ?_
            exact ih v5_2 v3 _ _ _ h (lv_sub hl [0, 1, 2, 3, 4] rfl) hP hS
          · rw [if_neg hc_2] at h
            refine lv_lload_n hx hb dX7_inRanges_43 rfl (lv_at hl 1 rfl) ?_
            refine lv_iload hx hb dX7_inRanges_44 (lv_at hl 0 rfl) ?_
            refine callNl (As := [.int v5]) (rest := [.long v3]) (n := 1) (c_X9_bit v5 _ h) hx hb hT hown hP hS (hK.2 _ (List.mem_of_getElem? (i := 2) rfl)) wd_X9_bit (by decide +kernel) ⟨rfl, rfl⟩ (by decide) rfl hl.1 hml rfl (Nat.le_of_ble_eq_true rfl) dX7_inRanges_46 ⟨Nat.zero_le _, Nat.zero_le _⟩ (fun r46 H locs h hP hS => ?_)
            try dsimp only at h
            refine lv_lor hx hb dX7_inRanges_49 ?_
            refine lv_topl (fun v3_1 ev3_1 => ?_)
            replace h := h v3_1 ev3_1
            refine lv_lstore_n (lv' := [(3, .long v3_1), (5, .int v5), (0, .ref (ad 3)), (1, .ref (ad k1)), (2, .ref (ad k2))]) hx hb dX7_inRanges_50 rfl hl (by decide) rfl (fun ls hl => ?_)
            obtain ⟨v5_3, ev5_3⟩ : ∃ z : Int32, z = v5 + 1 := ⟨_, rfl⟩
            replace h := h v5_3 ev5_3
            refine lv_iinc (v := v5_3) (lv' := [(5, .int v5_3), (3, .long v3_1), (0, .ref (ad 3)), (1, .ref (ad k1)), (2, .ref (ad k2))]) hx hb dX7_inRanges_51 hl (k := 1) rfl (by rw [ev5_3]; rfl) (by decide) rfl (fun ls hl => ?_)
            refine lv_goto (tgt := 5) hx hb dX7_inRanges_54 (by decide) ?_
            exact ih v5_3 v3_1 _ _ _ h (lv_sub hl [0, 1, 2, 3, 4] rfl) hP hS
  exact LP _ 0 0 _ _ _ h (lv_sub hl [0, 1, 2, 3, 4] rfl) hP hS
theorem dX7_sift_0 : decode cX7_sift 0 = .ok (.aload_n 2, 1) := by decide +kernel
theorem dX7_sift_1 : decode cX7_sift 1 = .ok (.invokevirtual 52, 3) := by decide +kernel
theorem dX7_sift_4 : decode cX7_sift 4 = .ok (.ifCond .eq 11, 3) := by decide +kernel
theorem dX7_sift_7 : decode cX7_sift 7 = .ok (.aload_n 0, 1) := by decide +kernel
theorem dX7_sift_8 : decode cX7_sift 8 = .ok (.getfield 25, 3) := by decide +kernel
theorem dX7_sift_11 : decode cX7_sift 11 = .ok (.getfield 58, 3) := by decide +kernel
theorem dX7_sift_14 : decode cX7_sift 14 = .ok (.lreturn, 1) := by decide +kernel
theorem dX7_sift_15 : decode cX7_sift 15 = .ok (.aload_n 0, 1) := by decide +kernel
theorem dX7_sift_16 : decode cX7_sift 16 = .ok (.iload_n 1, 1) := by decide +kernel
theorem dX7_sift_17 : decode cX7_sift 17 = .ok (.invokevirtual 64, 3) := by decide +kernel
theorem dX7_sift_20 : decode cX7_sift 20 = .ok (.lstore_n 3, 1) := by decide +kernel
theorem dX7_sift_21 : decode cX7_sift 21 = .ok (.aload_n 0, 1) := by decide +kernel
theorem dX7_sift_22 : decode cX7_sift 22 = .ok (.getfield 11, 3) := by decide +kernel
theorem dX7_sift_25 : decode cX7_sift 25 = .ok (.iload_n 1, 1) := by decide +kernel
theorem dX7_sift_26 : decode cX7_sift 26 = .ok (.aaload, 1) := by decide +kernel
theorem dX7_sift_27 : decode cX7_sift 27 = .ok (.getfield 38, 3) := by decide +kernel
theorem dX7_sift_30 : decode cX7_sift 30 = .ok (.iconst 1, 1) := by decide +kernel
theorem dX7_sift_31 : decode cX7_sift 31 = .ok (.if_icmp .ne 41, 3) := by decide +kernel
theorem dX7_sift_34 : decode cX7_sift 34 = .ok (.aload_n 0, 1) := by decide +kernel
theorem dX7_sift_35 : decode cX7_sift 35 = .ok (.getfield 25, 3) := by decide +kernel
theorem dX7_sift_38 : decode cX7_sift 38 = .ok (.getfield 58, 3) := by decide +kernel
theorem dX7_sift_41 : decode cX7_sift 41 = .ok (.aload_n 0, 1) := by decide +kernel
theorem dX7_sift_42 : decode cX7_sift 42 = .ok (.getfield 21, 3) := by decide +kernel
theorem dX7_sift_45 : decode cX7_sift 45 = .ok (.aload_n 2, 1) := by decide +kernel
theorem dX7_sift_46 : decode cX7_sift 46 = .ok (.getfield 68, 3) := by decide +kernel
theorem dX7_sift_49 : decode cX7_sift 49 = .ok (.invokevirtual 71, 3) := by decide +kernel
theorem dX7_sift_52 : decode cX7_sift 52 = .ok (.land, 1) := by decide +kernel
theorem dX7_sift_53 : decode cX7_sift 53 = .ok (.lstore 5, 2) := by decide +kernel
theorem dX7_sift_55 : decode cX7_sift 55 = .ok (.aload_n 2, 1) := by decide +kernel
theorem dX7_sift_56 : decode cX7_sift 56 = .ok (.getfield 77, 3) := by decide +kernel
theorem dX7_sift_59 : decode cX7_sift 59 = .ok (.ifCond .eq 10, 3) := by decide +kernel
theorem dX7_sift_62 : decode cX7_sift 62 = .ok (.lload 5, 2) := by decide +kernel
theorem dX7_sift_64 : decode cX7_sift 64 = .ok (.lload_n 3, 1) := by decide +kernel
theorem dX7_sift_65 : decode cX7_sift 65 = .ok (.land, 1) := by decide +kernel
theorem dX7_sift_66 : decode cX7_sift 66 = .ok (.goto 5, 3) := by decide +kernel
theorem dX7_sift_69 : decode cX7_sift 69 = .ok (.lload 5, 2) := by decide +kernel
theorem dX7_sift_71 : decode cX7_sift 71 = .ok (.lreturn, 1) := by decide +kernel
theorem dX7_sift_72 : decode cX7_sift 72 = .ok (.aload_n 0, 1) := by decide +kernel
theorem dX7_sift_73 : decode cX7_sift 73 = .ok (.getfield 11, 3) := by decide +kernel
theorem dX7_sift_76 : decode cX7_sift 76 = .ok (.iload_n 1, 1) := by decide +kernel
theorem dX7_sift_77 : decode cX7_sift 77 = .ok (.aaload, 1) := by decide +kernel
theorem dX7_sift_78 : decode cX7_sift 78 = .ok (.getfield 38, 3) := by decide +kernel
theorem dX7_sift_81 : decode cX7_sift 81 = .ok (.iconst 2, 1) := by decide +kernel
theorem dX7_sift_82 : decode cX7_sift 82 = .ok (.if_icmp .ne 17, 3) := by decide +kernel
theorem dX7_sift_85 : decode cX7_sift 85 = .ok (.aload_n 0, 1) := by decide +kernel
theorem dX7_sift_86 : decode cX7_sift 86 = .ok (.aload_n 0, 1) := by decide +kernel
theorem dX7_sift_87 : decode cX7_sift 87 = .ok (.getfield 11, 3) := by decide +kernel
theorem dX7_sift_90 : decode cX7_sift 90 = .ok (.iload_n 1, 1) := by decide +kernel
theorem dX7_sift_91 : decode cX7_sift 91 = .ok (.aaload, 1) := by decide +kernel
theorem dX7_sift_92 : decode cX7_sift 92 = .ok (.aload_n 2, 1) := by decide +kernel
theorem dX7_sift_93 : decode cX7_sift 93 = .ok (.invokevirtual 81, 3) := by decide +kernel
theorem dX7_sift_96 : decode cX7_sift 96 = .ok (.goto 14, 3) := by decide +kernel
theorem dX7_sift_99 : decode cX7_sift 99 = .ok (.aload_n 0, 1) := by decide +kernel
theorem dX7_sift_100 : decode cX7_sift 100 = .ok (.getfield 21, 3) := by decide +kernel
theorem dX7_sift_103 : decode cX7_sift 103 = .ok (.aload_n 2, 1) := by decide +kernel
theorem dX7_sift_104 : decode cX7_sift 104 = .ok (.getfield 68, 3) := by decide +kernel
theorem dX7_sift_107 : decode cX7_sift 107 = .ok (.invokevirtual 85, 3) := by decide +kernel
theorem dX7_sift_110 : decode cX7_sift 110 = .ok (.lstore 5, 2) := by decide +kernel
theorem dX7_sift_112 : decode cX7_sift 112 = .ok (.aload_n 0, 1) := by decide +kernel
theorem dX7_sift_113 : decode cX7_sift 113 = .ok (.getfield 25, 3) := by decide +kernel
theorem dX7_sift_116 : decode cX7_sift 116 = .ok (.getfield 58, 3) := by decide +kernel
theorem dX7_sift_119 : decode cX7_sift 119 = .ok (.aload_n 2, 1) := by decide +kernel
theorem dX7_sift_120 : decode cX7_sift 120 = .ok (.getfield 77, 3) := by decide +kernel
theorem dX7_sift_123 : decode cX7_sift 123 = .ok (.ifCond .eq 10, 3) := by decide +kernel
theorem dX7_sift_126 : decode cX7_sift 126 = .ok (.lload 5, 2) := by decide +kernel
theorem dX7_sift_128 : decode cX7_sift 128 = .ok (.lload_n 3, 1) := by decide +kernel
theorem dX7_sift_129 : decode cX7_sift 129 = .ok (.lor, 1) := by decide +kernel
theorem dX7_sift_130 : decode cX7_sift 130 = .ok (.goto 5, 3) := by decide +kernel
theorem dX7_sift_133 : decode cX7_sift 133 = .ok (.lload 5, 2) := by decide +kernel
theorem dX7_sift_135 : decode cX7_sift 135 = .ok (.land, 1) := by decide +kernel
theorem dX7_sift_136 : decode cX7_sift 136 = .ok (.lreturn, 1) := by decide +kernel
def wX7_sift (I : Nat → Int32) (L : Nat → Int64) (A : Nat → Nat → Int32) (B : Nat → Nat → Int64) (x1 : Int32) (k2 : Nat) (post : Int64 → Prop) : Prop := wX5_isOpen I L A B k2  (fun r1 => if r1 = 0 then (wX7_absentOn I L A B x1 (fun r17 => vp_in x1 5 ∧ (if (I (9 + x1.toNatClampNeg)) = 1 then (wX2_havingAll I L A B (L k2) (fun r49 => ∀ v5 : Int64, v5 = (L 2) &&& r49 → if (I k2) = 0 then (post v5) else (post (v5 &&& r17)))) else (vp_in x1 5 ∧ (jn (fun (t : Int64) => jn (fun (t_1 : Int64) => post ((L 2) &&& t_1)) (fun k_1 => if (I k2) = 0 then (k_1 t) else (k_1 (t ||| r17)))) (fun k => if (I (9 + x1.toNatClampNeg)) = 2 then (vp_in x1 5 ∧ (wX7_inRanges I L A B (9 + x1.toNatClampNeg) k2 (fun r93 => k r93))) else (wX2_havingAny I L A B (L k2) (fun r107 => k r107)))))))) else (post (L 2)))
abbrev rmX7_sift : Room := { frames := 2, cells := 0, slots := 0, locals := 47 }
theorem wd_X7_sift : Cond.instanceMethod yX7_sift ∈ BW ∧ Cond.selects yX7_sift.cls yX7_sift yX7_sift ∈ BW ∧ Cond.initialized yX7_sift.cls ∈ BW ∧ Cond.code yX7_sift cX7_sift 7 (some .long) ∈ BW := ⟨mw_2_45, mw_2_46, mw_1_5, mw_2_47⟩
set_option maxHeartbeats 4000000 in
set_option maxRecDepth 100000 in
theorem c_X7_sift {l : Launch} {D : va_G} {cy : Nat → ClassId} {ad : Nat → Nat} {Ad : Nat → Prop} (hAd : adok 103 Ad ad) (I : Nat → Int32) (L : Nat → Int64) (A : Nat → Nat → Int32) (B : Nat → Nat → Int64) (x1 : Int32) (k2 : Nat) (hk2 : 14 ≤ k2 ∧ k2 < 36) (post : Int64 → Prop) (h : wX7_sift I L A B x1 k2 post) : Met l yX7_sift (.code yX7_sift cX7_sift 7 (some .long) :: BW) rmX7_sift (va_Pc [.ref (ad 3), .int x1, .ref (ad k2)] (fun U => kC D cy U ∧ va_P D vwCl (wC cy ad I L A B) U.heap)) (qCl D cy ad Ad (fun r u => post r  ∧ I = u.1 ∧ L = u.2.1 ∧ A = u.2.2.1 ∧ B = u.2.2.2)) 0 0 Ad := by
  refine startCl (by decide) (Nat.le_of_ble_eq_true rfl) (lv := [(0, .ref (ad 3)), (1, .int x1), (2, .ref (ad k2))]) rfl (fun p e s m args below meth c Q ls hx hb hml hT hown hK hret hl hP hS => ?_)
  unfold wX7_sift at h
  refine lv_aload_n hx hb dX7_sift_0 rfl (lv_at hl 2 rfl) ?_
  refine callCi (k := k2) (As := []) (rest := []) (n := 0) (c_X5_isOpen hAd I L A B k2  (by omega) _ h) hx hb hT hown hK hP hS mw_2_48 wd_X5_isOpen (by decide +kernel) ⟨rfl, rfl⟩ (by decide) rfl rfl (he_X5 (by omega)) rfl hl.1 hml rfl (Nat.le_of_ble_eq_true rfl) dX7_sift_1 ⟨Nat.zero_le _, Nat.zero_le _⟩ (fun r1 u H locs h hP hS => ?_)
  obtain ⟨Iu, Lu, Au, Bu⟩ := u
  dsimp only at h hP
  obtain ⟨h, rfl, rfl, rfl, rfl⟩ := h
  try dsimp only at h
  refine lv_if_eq (tgt := 15) hx hb dX7_sift_4 (by decide) (fun hc => ?_) (fun hc => ?_)
  · rw [if_pos hc] at h
    refine lv_aload_n hx hb dX7_sift_15 rfl (lv_at hl 0 rfl) ?_
    refine lv_iload_n hx hb dX7_sift_16 rfl (lv_at hl 1 rfl) ?_
    refine callCl (k := 3) (As := [.int x1]) (rest := []) (n := 1) (c_X7_absentOn hAd I L A B x1 _ h) hx hb hT hown hK hP hS mw_2_52 wd_X7_absentOn (by decide +kernel) ⟨rfl, rfl⟩ (by decide) rfl rfl he_X7 rfl hl.1 hml rfl (Nat.le_of_ble_eq_true rfl) dX7_sift_17 ⟨Nat.zero_le _, Nat.zero_le _⟩ (fun r17 u H locs h hP hS => ?_)
    obtain ⟨Iu_1, Lu_1, Au_1, Bu_1⟩ := u
    dsimp only at h hP
    obtain ⟨h, rfl, rfl, rfl, rfl⟩ := h
    try dsimp only at h
    refine lv_lstore_n (lv' := [(3, .long r17), (0, .ref (ad 3)), (1, .int x1), (2, .ref (ad k2))]) hx hb dX7_sift_20 rfl hl (by decide) rfl (fun ls hl => ?_)
    refine lv_aload_n hx hb dX7_sift_21 rfl (lv_at hl 1 rfl) ?_
    refine va_get (T := TX7) hx hb hT inlX7 hown hK.1 hP 3 he_X7 rfl 2 (by decide) (hT _ mw_1_165) (fun _ h9 => h9) rfl dX7_sift_22 ?_
    refine lv_iload_n hx hb dX7_sift_25 rfl (lv_at hl 2 rfl) ?_
    obtain ⟨hi, h⟩ := h
    have hj := vp_lt hi
    refine lC_X hx hb hK.1 hP hi dX7_sift_26 ?_
    refine va_get (T := TX0) hx hb hT inlX0 hown hK.1 hP (9 + x1.toNatClampNeg) (he_X0 (by omega)) rfl 0 (by decide) (hT _ mw_1_143) (fun _ h9 => h9) rfl dX7_sift_27 ?_
    refine lv_iconst (v := 1) hx hb dX7_sift_30 (by decide) ?_
    refine lv_icmp_ne (tgt := 72) hx hb dX7_sift_31 (by decide) (fun hc_1 => ?_) (fun hc_1 => ?_)
    · rw [if_neg hc_1] at h
      refine lv_aload_n hx hb dX7_sift_72 rfl (lv_at hl 1 rfl) ?_
      refine va_get (T := TX7) hx hb hT inlX7 hown hK.1 hP 3 he_X7 rfl 2 (by decide) (hT _ mw_1_165) (fun _ h9 => h9) rfl dX7_sift_73 ?_
      refine lv_iload_n hx hb dX7_sift_76 rfl (lv_at hl 2 rfl) ?_
      obtain ⟨hi_1, h⟩ := h
      have hj_1 := vp_lt hi_1
      refine lC_X hx hb hK.1 hP hi_1 dX7_sift_77 ?_
      refine va_get (T := TX0) hx hb hT inlX0 hown hK.1 hP (9 + x1.toNatClampNeg) (he_X0 (by omega)) rfl 0 (by decide) (hT _ mw_1_143) (fun _ h9 => h9) rfl dX7_sift_78 ?_
      refine lv_iconst (v := 2) hx hb dX7_sift_81 (by decide) ?_
      obtain ⟨k, hk, h⟩ := jn_ex h
      try dsimp only at h
      have J : ∀ (t : Int64), k t → ∀ (ls : Array Slot) (H : Heap) (locs : List Loc), lv_has ls 7 [(3, .long r17), (0, .ref (ad 3)), (2, .ref (ad k2))] → va_P D vwCl (wC cy ad I L A B) H → va_S Ad s.heap H locs → W p l e rmX7_sift s m args below meth c H locs 0 0 Q (F0 m 110 ls [.long t]) := by
        intro t h ls H locs hl hP hS
        replace h := hk _ h
        try dsimp only at h
        refine lv_lstore (lv' := [(5, .long t), (3, .long r17), (0, .ref (ad 3)), (2, .ref (ad k2))]) hx hb dX7_sift_110 hl (by decide) rfl (fun ls hl => ?_)
        refine lv_aload_n hx hb dX7_sift_112 rfl (lv_at hl 2 rfl) ?_
        refine va_get (T := TX7) hx hb hT inlX7 hown hK.1 hP 3 he_X7 rfl 1 (by decide) (hT _ mw_1_164) (fun _ h9 => h9) rfl dX7_sift_113 ?_
        refine va_get (T := TX6) hx hb hT inlX6 hown hK.1 hP 2 he_X6 rfl 1 (by decide) (hT _ mw_1_90) (fun _ h9 => h9) rfl dX7_sift_116 ?_
        refine lv_aload_n hx hb dX7_sift_119 rfl (lv_at hl 3 rfl) ?_
        refine va_get (T := TX5) hx hb hT inlX5 hown hK.1 hP k2 (he_X5 (by omega)) rfl 1 (by decide) (hT _ mw_1_124) (fun _ h9 => h9) rfl dX7_sift_120 ?_
        obtain ⟨k_1, hk_1, h⟩ := jn_ex h
        try dsimp only at h
        have J_1 : ∀ (t_1 : Int64), k_1 t_1 → ∀ (ls : Array Slot) (H : Heap) (locs : List Loc), lv_has ls 7 [] → va_P D vwCl (wC cy ad I L A B) H → va_S Ad s.heap H locs → W p l e rmX7_sift s m args below meth c H locs 0 0 Q (F0 m 135 ls [.long t_1, .long (L 2)]) := by
          intro t_1 h ls H locs hl hP hS
          replace h := hk_1 _ h
          try dsimp only at h
          refine lv_land hx hb dX7_sift_135 ?_
          exact hret _ (I, L, A, B) dX7_sift_136 ⟨h, rfl, rfl, rfl, rfl⟩ hP hS
        refine lv_if_eq (tgt := 133) hx hb dX7_sift_123 (by decide) (fun hc_2 => ?_) (fun hc_2 => ?_)
        · rw [if_pos hc_2] at h
          refine lv_lload hx hb dX7_sift_133 (lv_at hl 0 rfl) ?_
          exact J_1 t h _ _ _ (lv_sub hl [] rfl) hP hS
        · rw [if_neg hc_2] at h
          refine lv_lload hx hb dX7_sift_126 (lv_at hl 0 rfl) ?_
          refine lv_lload_n hx hb dX7_sift_128 rfl (lv_at hl 1 rfl) ?_
          refine lv_lor hx hb dX7_sift_129 ?_
          refine lv_goto (tgt := 135) hx hb dX7_sift_130 (by decide) ?_
          exact J_1 (t ||| r17) h _ _ _ (lv_sub hl [] rfl) hP hS
      refine lv_icmp_ne (tgt := 99) hx hb dX7_sift_82 (by decide) (fun hc_3 => ?_) (fun hc_3 => ?_)
      · rw [if_neg hc_3] at h
        refine lv_aload_n hx hb dX7_sift_99 rfl (lv_at hl 1 rfl) ?_
        refine va_get (T := TX7) hx hb hT inlX7 hown hK.1 hP 3 he_X7 rfl 0 (by decide) (hT _ mw_1_163) (fun _ h9 => h9) rfl dX7_sift_100 ?_
        refine lv_aload_n hx hb dX7_sift_103 rfl (lv_at hl 3 rfl) ?_
        refine va_get (T := TX5) hx hb hT inlX5 hown hK.1 hP k2 (he_X5 (by omega)) rfl 0 (by decide) (hT _ mw_1_121) (fun _ h9 => h9) rfl dX7_sift_104 ?_
        refine callCl (k := 1) (As := [.long (L k2)]) (rest := []) (n := 1) (c_X2_havingAny hAd I L A B (L k2) _ h) hx hb hT hown hK hP hS mw_2_81 wd_X2_havingAny (by decide +kernel) ⟨rfl, rfl⟩ (by decide) rfl rfl he_X2 rfl hl.1 hml rfl (Nat.le_of_ble_eq_true rfl) dX7_sift_107 ⟨Nat.zero_le _, Nat.zero_le _⟩ (fun r107 u H locs h hP hS => ?_)
        obtain ⟨Iu_2, Lu_2, Au_2, Bu_2⟩ := u
        dsimp only at h hP
        obtain ⟨h, rfl, rfl, rfl, rfl⟩ := h
        try dsimp only at h
        exact J r107 h _ _ _ (lv_sub hl [0, 1, 3] rfl) hP hS
      · rw [if_pos hc_3] at h
        refine lv_aload_n hx hb dX7_sift_85 rfl (lv_at hl 1 rfl) ?_
        refine lv_aload_n hx hb dX7_sift_86 rfl (lv_at hl 1 rfl) ?_
        refine va_get (T := TX7) hx hb hT inlX7 hown hK.1 hP 3 he_X7 rfl 2 (by decide) (hT _ mw_1_165) (fun _ h9 => h9) rfl dX7_sift_87 ?_
        refine lv_iload_n hx hb dX7_sift_90 rfl (lv_at hl 2 rfl) ?_
        obtain ⟨hi_2, h⟩ := h
        have hj_2 := vp_lt hi_2
        refine lC_X hx hb hK.1 hP hi_2 dX7_sift_91 ?_
        refine lv_aload_n hx hb dX7_sift_92 rfl (lv_at hl 3 rfl) ?_
        refine callCl (k := 3) (As := [.ref (ad (9 + x1.toNatClampNeg)), .ref (ad k2)]) (rest := []) (n := 2) (c_X7_inRanges hAd I L A B (9 + x1.toNatClampNeg) k2 (by omega) (by omega) _ h) hx hb hT hown hK hP hS mw_2_69 wd_X7_inRanges (by decide +kernel) ⟨rfl, rfl⟩ (by decide) rfl rfl he_X7 rfl hl.1 hml rfl (Nat.le_of_ble_eq_true rfl) dX7_sift_93 ⟨Nat.zero_le _, Nat.zero_le _⟩ (fun r93 u H locs h hP hS => ?_)
        obtain ⟨Iu_3, Lu_3, Au_3, Bu_3⟩ := u
        dsimp only at h hP
        obtain ⟨h, rfl, rfl, rfl, rfl⟩ := h
        try dsimp only at h
        refine lv_goto (tgt := 110) hx hb dX7_sift_96 (by decide) ?_
        exact J r93 h _ _ _ (lv_sub hl [0, 1, 3] rfl) hP hS
    · rw [if_pos hc_1] at h
      refine lv_aload_n hx hb dX7_sift_34 rfl (lv_at hl 1 rfl) ?_
      refine va_get (T := TX7) hx hb hT inlX7 hown hK.1 hP 3 he_X7 rfl 1 (by decide) (hT _ mw_1_164) (fun _ h9 => h9) rfl dX7_sift_35 ?_
      refine va_get (T := TX6) hx hb hT inlX6 hown hK.1 hP 2 he_X6 rfl 1 (by decide) (hT _ mw_1_90) (fun _ h9 => h9) rfl dX7_sift_38 ?_
      refine lv_aload_n hx hb dX7_sift_41 rfl (lv_at hl 1 rfl) ?_
      refine va_get (T := TX7) hx hb hT inlX7 hown hK.1 hP 3 he_X7 rfl 0 (by decide) (hT _ mw_1_163) (fun _ h9 => h9) rfl dX7_sift_42 ?_
      refine lv_aload_n hx hb dX7_sift_45 rfl (lv_at hl 3 rfl) ?_
      refine va_get (T := TX5) hx hb hT inlX5 hown hK.1 hP k2 (he_X5 (by omega)) rfl 0 (by decide) (hT _ mw_1_121) (fun _ h9 => h9) rfl dX7_sift_46 ?_
      refine callCl (k := 1) (As := [.long (L k2)]) (rest := [.long (L 2)]) (n := 1) (c_X2_havingAll hAd I L A B (L k2) _ h) hx hb hT hown hK hP hS mw_2_61 wd_X2_havingAll (by decide +kernel) ⟨rfl, rfl⟩ (by decide) rfl rfl he_X2 rfl hl.1 hml rfl (Nat.le_of_ble_eq_true rfl) dX7_sift_49 ⟨Nat.zero_le _, Nat.zero_le _⟩ (fun r49 u H locs h hP hS => ?_)
      obtain ⟨Iu_4, Lu_4, Au_4, Bu_4⟩ := u
      dsimp only at h hP
      obtain ⟨h, rfl, rfl, rfl, rfl⟩ := h
      try dsimp only at h
      refine lv_land hx hb dX7_sift_52 ?_
      refine lv_topl (fun v5 ev5 => ?_)
      replace h := h v5 ev5
      refine lv_lstore (lv' := [(5, .long v5), (3, .long r17), (0, .ref (ad 3)), (1, .int x1), (2, .ref (ad k2))]) hx hb dX7_sift_53 hl (by decide) rfl (fun ls hl => ?_)
      refine lv_aload_n hx hb dX7_sift_55 rfl (lv_at hl 4 rfl) ?_
      refine va_get (T := TX5) hx hb hT inlX5 hown hK.1 hP k2 (he_X5 (by omega)) rfl 1 (by decide) (hT _ mw_1_124) (fun _ h9 => h9) rfl dX7_sift_56 ?_
      refine lv_if_eq (tgt := 69) hx hb dX7_sift_59 (by decide) (fun hc_4 => ?_) (fun hc_4 => ?_)
      · rw [if_pos hc_4] at h
        refine lv_lload hx hb dX7_sift_69 (lv_at hl 0 rfl) ?_
        exact hret _ (I, L, A, B) dX7_sift_71 ⟨h, rfl, rfl, rfl, rfl⟩ hP hS
      · rw [if_neg hc_4] at h
        refine lv_lload hx hb dX7_sift_62 (lv_at hl 0 rfl) ?_
        refine lv_lload_n hx hb dX7_sift_64 rfl (lv_at hl 1 rfl) ?_
        refine lv_land hx hb dX7_sift_65 ?_
        refine lv_goto (tgt := 71) hx hb dX7_sift_66 (by decide) ?_
        exact hret _ (I, L, A, B) dX7_sift_71 ⟨h, rfl, rfl, rfl, rfl⟩ hP hS
  · rw [if_neg hc] at h
    refine lv_aload_n hx hb dX7_sift_7 rfl (lv_at hl 0 rfl) ?_
    refine va_get (T := TX7) hx hb hT inlX7 hown hK.1 hP 3 he_X7 rfl 1 (by decide) (hT _ mw_1_164) (fun _ h9 => h9) rfl dX7_sift_8 ?_
    refine va_get (T := TX6) hx hb hT inlX6 hown hK.1 hP 2 he_X6 rfl 1 (by decide) (hT _ mw_1_90) (fun _ h9 => h9) rfl dX7_sift_11 ?_
    exact hret _ (I, L, A, B) dX7_sift_14 ⟨h, rfl, rfl, rfl, rfl⟩ hP hS
theorem dX7_renew_0 : decode cX7_renew 0 = .ok (.iconst 0, 1) := by decide +kernel
theorem dX7_renew_1 : decode cX7_renew 1 = .ok (.istore_n 1, 1) := by decide +kernel
theorem dX7_renew_2 : decode cX7_renew 2 = .ok (.iload_n 1, 1) := by decide +kernel
theorem dX7_renew_3 : decode cX7_renew 3 = .ok (.aload_n 0, 1) := by decide +kernel
theorem dX7_renew_4 : decode cX7_renew 4 = .ok (.getfield 30, 3) := by decide +kernel
theorem dX7_renew_7 : decode cX7_renew 7 = .ok (.if_icmp .ge 29, 3) := by decide +kernel
theorem dX7_renew_10 : decode cX7_renew 10 = .ok (.aload_n 0, 1) := by decide +kernel
theorem dX7_renew_11 : decode cX7_renew 11 = .ok (.getfield 17, 3) := by decide +kernel
theorem dX7_renew_14 : decode cX7_renew 14 = .ok (.iload_n 1, 1) := by decide +kernel
theorem dX7_renew_15 : decode cX7_renew 15 = .ok (.aload_n 0, 1) := by decide +kernel
theorem dX7_renew_16 : decode cX7_renew 16 = .ok (.iload_n 1, 1) := by decide +kernel
theorem dX7_renew_17 : decode cX7_renew 17 = .ok (.aload_n 0, 1) := by decide +kernel
theorem dX7_renew_18 : decode cX7_renew 18 = .ok (.getfield 11, 3) := by decide +kernel
theorem dX7_renew_21 : decode cX7_renew 21 = .ok (.iload_n 1, 1) := by decide +kernel
theorem dX7_renew_22 : decode cX7_renew 22 = .ok (.aaload, 1) := by decide +kernel
theorem dX7_renew_23 : decode cX7_renew 23 = .ok (.getfield 44, 3) := by decide +kernel
theorem dX7_renew_26 : decode cX7_renew 26 = .ok (.invokevirtual 48, 3) := by decide +kernel
theorem dX7_renew_29 : decode cX7_renew 29 = .ok (.lastore, 1) := by decide +kernel
theorem dX7_renew_30 : decode cX7_renew 30 = .ok (.iinc 1 1, 3) := by decide +kernel
theorem dX7_renew_33 : decode cX7_renew 33 = .ok (.goto (-31), 3) := by decide +kernel
theorem dX7_renew_36 : decode cX7_renew 36 = .ok (.return_, 1) := by decide +kernel
def wX7_renew (I : Nat → Int32) (L : Nat → Int64) (A : Nat → Nat → Int32) (B : Nat → Nat → Int64)  (post : (Nat → Nat → Int64) → Prop) : Prop := ∃ n, lfix (fun (r : (Int32 × (Nat → Nat → Int64)) → Prop) (v1, B_1) => if (I 3) ≤ v1 then (post B_1) else (vp_in v1 5 ∧ (wX7_sift I L A B_1 v1 (9 + v1.toNatClampNeg + 5) (fun r26 => vp_in v1 5 ∧ (∀ B_2, B_2 = va_up B_1 46 (vp_updL (B_1 46) v1.toNatClampNeg r26) → ∀ v1_1 : Int32, v1_1 = v1 + 1 → r (v1_1, B_2)))))) n (0, B)
abbrev rmX7_renew : Room := { frames := 3, cells := 0, slots := 0, locals := 73 }
theorem wd_X7_renew : Cond.instanceMethod yX7_renew ∈ BW ∧ Cond.selects yX7_renew.cls yX7_renew yX7_renew ∈ BW ∧ Cond.initialized yX7_renew.cls ∈ BW ∧ Cond.code yX7_renew cX7_renew 2 (none : Option Jvm.ClassFile.FieldType) ∈ BW := ⟨mw_2_41, mw_2_42, mw_1_5, mw_2_43⟩
set_option maxHeartbeats 4000000 in
set_option maxRecDepth 100000 in
theorem c_X7_renew {l : Launch} {D : va_G} {cy : Nat → ClassId} {ad : Nat → Nat} {Ad : Nat → Prop} (hAd : adok 103 Ad ad) (I : Nat → Int32) (L : Nat → Int64) (A : Nat → Nat → Int32) (B : Nat → Nat → Int64)   (post : (Nat → Nat → Int64) → Prop) (h : wX7_renew I L A B  post) : Met l yX7_renew (.code yX7_renew cX7_renew 2 (none : Option Jvm.ClassFile.FieldType) :: BW) rmX7_renew (va_Pc [.ref (ad 3)] (fun U => kC D cy U ∧ va_P D vwCl (wC cy ad I L A B) U.heap)) (qCv D cy ad Ad (fun u => post u.2.2.2 ∧ I = u.1 ∧ L = u.2.1 ∧ A = u.2.2.1)) 0 0 Ad := by
  refine startCv (by decide) (Nat.le_of_ble_eq_true rfl) (lv := [(0, .ref (ad 3))]) rfl (fun p e s m args below meth c Q ls hx hb hml hT hown hK hret hl hP hS => ?_)
  unfold wX7_renew at h
  refine lv_iconst (v := 0) hx hb dX7_renew_0 (by decide) ?_
  refine lv_istore_n (lv' := [(1, .int 0), (0, .ref (ad 3))]) hx hb dX7_renew_1 rfl hl (by decide) rfl (fun ls hl => ?_)
  obtain ⟨F, n, h, hF, hG⟩ := lfix_ex h
  have LP : ∀ (n : Nat) (v1 : Int32) (B_1 : Nat → Nat → Int64) (ls : Array Slot) (H : Heap) (locs : List Loc), F n (v1, B_1) → lv_has ls 2 [(1, .int v1), (0, .ref (ad 3))] → va_P D vwCl (wC cy ad I L A B_1) H → va_S Ad s.heap H locs → W p l e rmX7_renew s m args below meth c H locs 0 0 Q (F0 m 2 ls []) := by
    intro n
    induction n with
    | zero => intro v1 B_1 ls H locs h _ _ _; exact absurd h (hF _)
    | succ n ih =>
      intro v1 B_1 ls H locs h hl hP hS
      replace h := hG _ _ h
      try dsimp only at h
      refine lv_iload_n hx hb dX7_renew_2 rfl (lv_at hl 0 rfl) ?_
      refine lv_aload_n hx hb dX7_renew_3 rfl (lv_at hl 1 rfl) ?_
      refine va_get (T := TX7) hx hb hT inlX7 hown hK.1 hP 3 he_X7 rfl 4 (by decide) (hT _ mw_1_168) (fun _ h9 => h9) rfl dX7_renew_4 ?_
      refine lv_icmp_ge (tgt := 36) hx hb dX7_renew_7 (by decide) (fun hc => ?_) (fun hc => ?_)
      · rw [if_pos hc] at h
        exact hret (I, L, A, B_1) dX7_renew_36 ⟨h, rfl, rfl, rfl⟩ hP hS
      · rw [if_neg hc] at h
        refine lv_aload_n hx hb dX7_renew_10 rfl (lv_at hl 1 rfl) ?_
        refine va_get (T := TX7) hx hb hT inlX7 hown hK.1 hP 3 he_X7 rfl 3 (by decide) (hT _ mw_1_167) (fun _ h9 => h9) rfl dX7_renew_11 ?_
        refine lv_iload_n hx hb dX7_renew_14 rfl (lv_at hl 0 rfl) ?_
        refine lv_aload_n hx hb dX7_renew_15 rfl (lv_at hl 1 rfl) ?_
        refine lv_iload_n hx hb dX7_renew_16 rfl (lv_at hl 0 rfl) ?_
        refine lv_aload_n hx hb dX7_renew_17 rfl (lv_at hl 1 rfl) ?_
        refine va_get (T := TX7) hx hb hT inlX7 hown hK.1 hP 3 he_X7 rfl 2 (by decide) (hT _ mw_1_165) (fun _ h9 => h9) rfl dX7_renew_18 ?_
        refine lv_iload_n hx hb dX7_renew_21 rfl (lv_at hl 0 rfl) ?_
        obtain ⟨hi, h⟩ := h
        have hj := vp_lt hi
        refine lC_X hx hb hK.1 hP hi dX7_renew_22 ?_
        refine va_get (T := TX0) hx hb hT inlX0 hown hK.1 hP (9 + v1.toNatClampNeg) (he_X0 (by omega)) rfl 1 (by decide) (hT _ mw_1_147) (fun _ h9 => h9) rfl dX7_renew_23 ?_
        refine callCl (k := 3) (As := [.int v1, .ref (ad (9 + v1.toNatClampNeg + 5))]) (rest := [.int v1, .ref (ad 46)]) (n := 2) (c_X7_sift hAd I L A B_1 v1 (9 + v1.toNatClampNeg + 5) (by omega) _ h) hx hb hT hown hK hP hS mw_2_44 wd_X7_sift (by decide +kernel) ⟨rfl, rfl⟩ (by decide) rfl rfl he_X7 rfl hl.1 hml rfl (Nat.le_of_ble_eq_true rfl) dX7_renew_26 ⟨Nat.zero_le _, Nat.zero_le _⟩ (fun r26 u H locs h hP hS => ?_)
        obtain ⟨Iu, Lu, Au, Bu⟩ := u
        dsimp only at h hP
        obtain ⟨h, rfl, rfl, rfl, rfl⟩ := h
        try dsimp only at h
        obtain ⟨hi_1, h⟩ := h
        refine sC_J hAd hx hb hK.1 hP hS (by decide) (fun _ => rfl) hi_1 dX7_renew_29 (fun H locs hP hS => ?_)
        obtain ⟨B_2, eB_2⟩ : ∃ z, z = va_up B_1 46 (vp_updL (B_1 46) v1.toNatClampNeg r26) := ⟨_, rfl⟩
        rw [← eB_2] at hP
        replace h := h B_2 eB_2
        obtain ⟨v1_1, ev1_1⟩ : ∃ z : Int32, z = v1 + 1 := ⟨_, rfl⟩
        replace h := h v1_1 ev1_1
        refine lv_iinc (v := v1_1) (lv' := [(1, .int v1_1), (0, .ref (ad 3))]) hx hb dX7_renew_30 hl (k := 0) rfl (by rw [ev1_1]; rfl) (by decide) rfl (fun ls hl => ?_)
        refine lv_goto (tgt := 2) hx hb dX7_renew_33 (by decide) ?_
        exact ih v1_1 B_2 _ _ _ h (lv_sub hl [0, 1] rfl) hP hS
  exact LP _ 0 B _ _ _ h (lv_sub hl [0, 1] rfl) hP hS
theorem dX7_addAxis_0 : decode cX7_addAxis 0 = .ok (.aload_n 0, 1) := by decide +kernel
theorem dX7_addAxis_1 : decode cX7_addAxis 1 = .ok (.getfield 30, 3) := by decide +kernel
theorem dX7_addAxis_4 : decode cX7_addAxis 4 = .ok (.istore_n 2, 1) := by decide +kernel
theorem dX7_addAxis_5 : decode cX7_addAxis 5 = .ok (.aload_n 0, 1) := by decide +kernel
theorem dX7_addAxis_6 : decode cX7_addAxis 6 = .ok (.dup, 1) := by decide +kernel
theorem dX7_addAxis_7 : decode cX7_addAxis 7 = .ok (.getfield 30, 3) := by decide +kernel
theorem dX7_addAxis_10 : decode cX7_addAxis 10 = .ok (.iconst 1, 1) := by decide +kernel
theorem dX7_addAxis_11 : decode cX7_addAxis 11 = .ok (.iadd, 1) := by decide +kernel
theorem dX7_addAxis_12 : decode cX7_addAxis 12 = .ok (.putfield 30, 3) := by decide +kernel
theorem dX7_addAxis_15 : decode cX7_addAxis 15 = .ok (.aload_n 0, 1) := by decide +kernel
theorem dX7_addAxis_16 : decode cX7_addAxis 16 = .ok (.getfield 11, 3) := by decide +kernel
theorem dX7_addAxis_19 : decode cX7_addAxis 19 = .ok (.iload_n 2, 1) := by decide +kernel
theorem dX7_addAxis_20 : decode cX7_addAxis 20 = .ok (.aaload, 1) := by decide +kernel
theorem dX7_addAxis_21 : decode cX7_addAxis 21 = .ok (.iload_n 1, 1) := by decide +kernel
theorem dX7_addAxis_22 : decode cX7_addAxis 22 = .ok (.putfield 38, 3) := by decide +kernel
theorem dX7_addAxis_25 : decode cX7_addAxis 25 = .ok (.aload_n 0, 1) := by decide +kernel
theorem dX7_addAxis_26 : decode cX7_addAxis 26 = .ok (.invokevirtual 41, 3) := by decide +kernel
theorem dX7_addAxis_29 : decode cX7_addAxis 29 = .ok (.iload_n 2, 1) := by decide +kernel
theorem dX7_addAxis_30 : decode cX7_addAxis 30 = .ok (.ireturn, 1) := by decide +kernel
def wX7_addAxis (I : Nat → Int32) (L : Nat → Int64) (A : Nat → Nat → Int32) (B : Nat → Nat → Int64) (x1 : Int32) (post : Int32 → (Nat → Int32) → (Nat → Nat → Int64) → Prop) : Prop := ∀ v2 : Int32, v2 = I 3 → (∀ I_1, I_1 = va_up I 3 ((I 3) + 1) → vp_in v2 5 ∧ ((∀ I_2, I_2 = va_up I_1 (9 + v2.toNatClampNeg) x1 → wX7_renew I_2 L A B  (fun B_1 => post v2 I_2 B_1))))
abbrev rmX7_addAxis : Room := { frames := 4, cells := 0, slots := 0, locals := 94 }
theorem wd_X7_addAxis : Cond.instanceMethod yX7_addAxis ∈ BW ∧ Cond.selects yX7_addAxis.cls yX7_addAxis yX7_addAxis ∈ BW ∧ Cond.initialized yX7_addAxis.cls ∈ BW ∧ Cond.code yX7_addAxis cX7_addAxis 3 (some .int) ∈ BW := ⟨mw_2_37, mw_2_38, mw_1_5, mw_2_39⟩
set_option maxHeartbeats 4000000 in
set_option maxRecDepth 100000 in
theorem c_X7_addAxis {l : Launch} {D : va_G} {cy : Nat → ClassId} {ad : Nat → Nat} {Ad : Nat → Prop} (hAd : adok 103 Ad ad) (I : Nat → Int32) (L : Nat → Int64) (A : Nat → Nat → Int32) (B : Nat → Nat → Int64) (x1 : Int32)  (post : Int32 → (Nat → Int32) → (Nat → Nat → Int64) → Prop) (h : wX7_addAxis I L A B x1 post) : Met l yX7_addAxis (.code yX7_addAxis cX7_addAxis 3 (some .int) :: BW) rmX7_addAxis (va_Pc [.ref (ad 3), .int x1] (fun U => kC D cy U ∧ va_P D vwCl (wC cy ad I L A B) U.heap)) (qCi D cy ad Ad (fun r u => post r u.1 u.2.2.2 ∧ L = u.2.1 ∧ A = u.2.2.1)) 0 0 Ad := by
  refine startCi (by decide) (Nat.le_of_ble_eq_true rfl) (lv := [(0, .ref (ad 3)), (1, .int x1)]) rfl (fun p e s m args below meth c Q ls hx hb hml hT hown hK hret hl hP hS => ?_)
  unfold wX7_addAxis at h
  refine lv_aload_n hx hb dX7_addAxis_0 rfl (lv_at hl 0 rfl) ?_
  refine va_get (T := TX7) hx hb hT inlX7 hown hK.1 hP 3 he_X7 rfl 4 (by decide) (hT _ mw_1_168) (fun _ h9 => h9) rfl dX7_addAxis_1 ?_
  refine lv_topi (fun v2 ev2 => ?_)
  replace h := h v2 ev2
  refine lv_istore_n (lv' := [(2, .int v2), (0, .ref (ad 3)), (1, .int x1)]) hx hb dX7_addAxis_4 rfl hl (by decide) rfl (fun ls hl => ?_)
  refine lv_aload_n hx hb dX7_addAxis_5 rfl (lv_at hl 1 rfl) ?_
  refine lv_dup hx hb dX7_addAxis_6 rfl ?_
  refine va_get (T := TX7) hx hb hT inlX7 hown hK.1 hP 3 he_X7 rfl 4 (by decide) (hT _ mw_1_168) (fun _ h9 => h9) rfl dX7_addAxis_7 ?_
  refine lv_iconst (v := 1) hx hb dX7_addAxis_10 (by decide) ?_
  refine lv_iadd hx hb dX7_addAxis_11 ?_
  refine pC_X7_size hAd hx hb hT hown hK.1 hP hS (hT _ mw_1_168) dX7_addAxis_12 (fun H locs hP hS => ?_)
  obtain ⟨I_1, eI_1⟩ : ∃ z, z = va_up I 3 ((I 3) + 1) := ⟨_, rfl⟩
  rw [← eI_1] at hP
  replace h := h I_1 eI_1
  refine lv_aload_n hx hb dX7_addAxis_15 rfl (lv_at hl 1 rfl) ?_
  refine va_get (T := TX7) hx hb hT inlX7 hown hK.1 hP 3 he_X7 rfl 2 (by decide) (hT _ mw_1_165) (fun _ h9 => h9) rfl dX7_addAxis_16 ?_
  refine lv_iload_n hx hb dX7_addAxis_19 rfl (lv_at hl 0 rfl) ?_
  obtain ⟨hi, h⟩ := h
  have hj := vp_lt hi
  refine lC_X hx hb hK.1 hP hi dX7_addAxis_20 ?_
  refine lv_iload_n hx hb dX7_addAxis_21 rfl (lv_at hl 2 rfl) ?_
  refine pC_X0_kind (by omega) hAd hx hb hT hown hK.1 hP hS (hT _ mw_1_143) dX7_addAxis_22 (fun H locs hP hS => ?_)
  obtain ⟨I_2, eI_2⟩ : ∃ z, z = va_up I_1 (9 + v2.toNatClampNeg) x1 := ⟨_, rfl⟩
  rw [← eI_2] at hP
  replace h := h I_2 eI_2
  refine lv_aload_n hx hb dX7_addAxis_25 rfl (lv_at hl 1 rfl) ?_
  refine callCv (k := 3) (As := []) (rest := []) (n := 0) (c_X7_renew hAd I_2 L A B  _ h) hx hb hT hown hK hP hS mw_2_40 wd_X7_renew (by decide +kernel) ⟨rfl, rfl⟩ (by decide) rfl rfl he_X7 rfl hl.1 hml rfl (Nat.le_of_ble_eq_true rfl) dX7_addAxis_26 ⟨Nat.zero_le _, Nat.zero_le _⟩ (fun u H locs h hP hS => ?_)
  obtain ⟨Iu, Lu, Au, B_1⟩ := u
  dsimp only at h hP
  obtain ⟨h, rfl, rfl, rfl⟩ := h
  try dsimp only at h
  refine lv_iload_n hx hb dX7_addAxis_29 rfl (lv_at hl 0 rfl) ?_
  exact hret _ (I_2, L, A, B_1) dX7_addAxis_30 ⟨h, rfl, rfl⟩ hP hS
theorem dX7_lifted_0 : decode cX7_lifted 0 = .ok (.aload_n 0, 1) := by decide +kernel
theorem dX7_lifted_1 : decode cX7_lifted 1 = .ok (.getfield 25, 3) := by decide +kernel
theorem dX7_lifted_4 : decode cX7_lifted 4 = .ok (.getfield 58, 3) := by decide +kernel
theorem dX7_lifted_7 : decode cX7_lifted 7 = .ok (.lstore_n 3, 1) := by decide +kernel
theorem dX7_lifted_8 : decode cX7_lifted 8 = .ok (.iconst 0, 1) := by decide +kernel
theorem dX7_lifted_9 : decode cX7_lifted 9 = .ok (.istore 5, 2) := by decide +kernel
theorem dX7_lifted_11 : decode cX7_lifted 11 = .ok (.iload 5, 2) := by decide +kernel
theorem dX7_lifted_13 : decode cX7_lifted 13 = .ok (.aload_n 0, 1) := by decide +kernel
theorem dX7_lifted_14 : decode cX7_lifted 14 = .ok (.getfield 30, 3) := by decide +kernel
theorem dX7_lifted_17 : decode cX7_lifted 17 = .ok (.if_icmp .ge 31, 3) := by decide +kernel
theorem dX7_lifted_20 : decode cX7_lifted 20 = .ok (.iload 5, 2) := by decide +kernel
theorem dX7_lifted_22 : decode cX7_lifted 22 = .ok (.iload_n 1, 1) := by decide +kernel
theorem dX7_lifted_23 : decode cX7_lifted 23 = .ok (.if_icmp .eq 19, 3) := by decide +kernel
theorem dX7_lifted_26 : decode cX7_lifted 26 = .ok (.iload 5, 2) := by decide +kernel
theorem dX7_lifted_28 : decode cX7_lifted 28 = .ok (.iload_n 2, 1) := by decide +kernel
theorem dX7_lifted_29 : decode cX7_lifted 29 = .ok (.if_icmp .eq 13, 3) := by decide +kernel
theorem dX7_lifted_32 : decode cX7_lifted 32 = .ok (.lload_n 3, 1) := by decide +kernel
theorem dX7_lifted_33 : decode cX7_lifted 33 = .ok (.aload_n 0, 1) := by decide +kernel
theorem dX7_lifted_34 : decode cX7_lifted 34 = .ok (.getfield 17, 3) := by decide +kernel
theorem dX7_lifted_37 : decode cX7_lifted 37 = .ok (.iload 5, 2) := by decide +kernel
theorem dX7_lifted_39 : decode cX7_lifted 39 = .ok (.laload, 1) := by decide +kernel
theorem dX7_lifted_40 : decode cX7_lifted 40 = .ok (.land, 1) := by decide +kernel
theorem dX7_lifted_41 : decode cX7_lifted 41 = .ok (.lstore_n 3, 1) := by decide +kernel
theorem dX7_lifted_42 : decode cX7_lifted 42 = .ok (.iinc 5 1, 3) := by decide +kernel
theorem dX7_lifted_45 : decode cX7_lifted 45 = .ok (.goto (-34), 3) := by decide +kernel
theorem dX7_lifted_48 : decode cX7_lifted 48 = .ok (.lload_n 3, 1) := by decide +kernel
theorem dX7_lifted_49 : decode cX7_lifted 49 = .ok (.lreturn, 1) := by decide +kernel
def wX7_lifted (I : Nat → Int32) (L : Nat → Int64) (A : Nat → Nat → Int32) (B : Nat → Nat → Int64) (x1 : Int32) (x2 : Int32) (post : Int64 → Prop) : Prop := ∀ v3 : Int64, v3 = L 2 → ∃ n, lfix (fun (r : (Int32 × Int64) → Prop) (v5, v3_1) => if (I 3) ≤ v5 then (post v3_1) else (if v5 = x1 then (∀ v5_1 : Int32, v5_1 = v5 + 1 → r (v5_1, v3_1)) else (if v5 = x2 then (∀ v5_2 : Int32, v5_2 = v5 + 1 → r (v5_2, v3_1)) else (vp_in v5 5 ∧ (∀ v3_2 : Int64, v3_2 = v3_1 &&& (B 46 v5.toNatClampNeg) → ∀ v5_3 : Int32, v5_3 = v5 + 1 → r (v5_3, v3_2)))))) n (0, v3)
abbrev rmX7_lifted : Room := { frames := 0, cells := 0, slots := 0, locals := 0 }
theorem wd_X7_lifted : Cond.instanceMethod yX7_lifted ∈ BW ∧ Cond.selects yX7_lifted.cls yX7_lifted yX7_lifted ∈ BW ∧ Cond.initialized yX7_lifted.cls ∈ BW ∧ Cond.code yX7_lifted cX7_lifted 6 (some .long) ∈ BW := ⟨mw_3_56, mw_3_57, mw_1_5, mw_3_58⟩
set_option maxHeartbeats 4000000 in
set_option maxRecDepth 100000 in
theorem c_X7_lifted {l : Launch} {D : va_G} {cy : Nat → ClassId} {ad : Nat → Nat} {Ad : Nat → Prop} (hAd : adok 103 Ad ad) (I : Nat → Int32) (L : Nat → Int64) (A : Nat → Nat → Int32) (B : Nat → Nat → Int64) (x1 : Int32) (x2 : Int32)  (post : Int64 → Prop) (h : wX7_lifted I L A B x1 x2 post) : Met l yX7_lifted (.code yX7_lifted cX7_lifted 6 (some .long) :: BW) rmX7_lifted (va_Pc [.ref (ad 3), .int x1, .int x2] (fun U => kC D cy U ∧ va_P D vwCl (wC cy ad I L A B) U.heap)) (qCl D cy ad Ad (fun r u => post r  ∧ I = u.1 ∧ L = u.2.1 ∧ A = u.2.2.1 ∧ B = u.2.2.2)) 0 0 Ad := by
  refine startCl (by decide) (Nat.le_of_ble_eq_true rfl) (lv := [(0, .ref (ad 3)), (1, .int x1), (2, .int x2)]) rfl (fun p e s m args below meth c Q ls hx hb hml hT hown hK hret hl hP hS => ?_)
  unfold wX7_lifted at h
  refine lv_aload_n hx hb dX7_lifted_0 rfl (lv_at hl 0 rfl) ?_
  refine va_get (T := TX7) hx hb hT inlX7 hown hK.1 hP 3 he_X7 rfl 1 (by decide) (hT _ mw_1_164) (fun _ h9 => h9) rfl dX7_lifted_1 ?_
  refine va_get (T := TX6) hx hb hT inlX6 hown hK.1 hP 2 he_X6 rfl 1 (by decide) (hT _ mw_1_90) (fun _ h9 => h9) rfl dX7_lifted_4 ?_
  refine lv_topl (fun v3 ev3 => ?_)
  replace h := h v3 ev3
  refine lv_lstore_n (lv' := [(3, .long v3), (0, .ref (ad 3)), (1, .int x1), (2, .int x2)]) hx hb dX7_lifted_7 rfl hl (by decide) rfl (fun ls hl => ?_)
  refine lv_iconst (v := 0) hx hb dX7_lifted_8 (by decide) ?_
  refine lv_istore (lv' := [(5, .int 0), (3, .long v3), (0, .ref (ad 3)), (1, .int x1), (2, .int x2)]) hx hb dX7_lifted_9 hl (by decide) rfl (fun ls hl => ?_)
  obtain ⟨F, n, h, hF, hG⟩ := lfix_ex h
  have LP : ∀ (n : Nat) (v5 : Int32) (v3_1 : Int64) (ls : Array Slot) (H : Heap) (locs : List Loc), F n (v5, v3_1) → lv_has ls 6 [(5, .int v5), (3, .long v3_1), (0, .ref (ad 3)), (1, .int x1), (2, .int x2)] → va_P D vwCl (wC cy ad I L A B) H → va_S Ad s.heap H locs → W p l e rmX7_lifted s m args below meth c H locs 0 0 Q (F0 m 11 ls []) := by
    intro n
    induction n with
    | zero => intro v5 v3_1 ls H locs h _ _ _; exact absurd h (hF _)
    | succ n ih =>
      intro v5 v3_1 ls H locs h hl hP hS
      replace h := hG _ _ h
      try dsimp only at h
      refine lv_iload hx hb dX7_lifted_11 (lv_at hl 0 rfl) ?_
      refine lv_aload_n hx hb dX7_lifted_13 rfl (lv_at hl 2 rfl) ?_
      refine va_get (T := TX7) hx hb hT inlX7 hown hK.1 hP 3 he_X7 rfl 4 (by decide) (hT _ mw_1_168) (fun _ h9 => h9) rfl dX7_lifted_14 ?_
      refine lv_icmp_ge (tgt := 48) hx hb dX7_lifted_17 (by decide) (fun hc => ?_) (fun hc => ?_)
      · rw [if_pos hc] at h
        refine lv_lload_n hx hb dX7_lifted_48 rfl (lv_at hl 1 rfl) ?_
        exact hret _ (I, L, A, B) dX7_lifted_49 ⟨h, rfl, rfl, rfl, rfl⟩ hP hS
      · rw [if_neg hc] at h
        refine lv_iload hx hb dX7_lifted_20 (lv_at hl 0 rfl) ?_
        refine lv_iload_n hx hb dX7_lifted_22 rfl (lv_at hl 3 rfl) ?_
        refine lv_icmp_eq (tgt := 42) hx hb dX7_lifted_23 (by decide) (fun hc_1 => ?_) (fun hc_1 => ?_)
        · rw [if_pos hc_1] at h
          obtain ⟨v5_1, ev5_1⟩ : ∃ z : Int32, z = v5 + 1 := ⟨_, rfl⟩
          replace h := h v5_1 ev5_1
          refine lv_iinc (v := v5_1) (lv' := [(5, .int v5_1), (3, .long v3_1), (0, .ref (ad 3)), (1, .int x1), (2, .int x2)]) hx hb dX7_lifted_42 hl (k := 0) rfl (by rw [ev5_1]; rfl) (by decide) rfl (fun ls hl => ?_)
          refine lv_goto (tgt := 11) hx hb dX7_lifted_45 (by decide) ?_
          exact ih v5_1 v3_1 _ _ _ h (lv_sub hl [0, 1, 2, 3, 4] rfl) hP hS
        · rw [if_neg hc_1] at h
          refine lv_iload hx hb dX7_lifted_26 (lv_at hl 0 rfl) ?_
          refine lv_iload_n hx hb dX7_lifted_28 rfl (lv_at hl 4 rfl) ?_
          refine lv_icmp_eq (tgt := 42) hx hb dX7_lifted_29 (by decide) (fun hc_2 => ?_) (fun hc_2 => ?_)
          · rw [if_pos hc_2] at h
            obtain ⟨v5_2, ev5_2⟩ : ∃ z : Int32, z = v5 + 1 := ⟨_, rfl⟩
            replace h := h v5_2 ev5_2
            refine lv_iinc (v := v5_2) (lv' := [(5, .int v5_2), (3, .long v3_1), (0, .ref (ad 3)), (1, .int x1), (2, .int x2)]) hx hb dX7_lifted_42 hl (k := 0) rfl (by rw [ev5_2]; rfl) (by decide) rfl (fun ls hl => ?_)
            refine lv_goto (tgt := 11) hx hb dX7_lifted_45 (by decide) ?_
            exact ih v5_2 v3_1 _ _ _ h (lv_sub hl [0, 1, 2, 3, 4] rfl) hP hS
          · rw [if_neg hc_2] at h
            refine lv_lload_n hx hb dX7_lifted_32 rfl (lv_at hl 1 rfl) ?_
            refine lv_aload_n hx hb dX7_lifted_33 rfl (lv_at hl 2 rfl) ?_
            refine va_get (T := TX7) hx hb hT inlX7 hown hK.1 hP 3 he_X7 rfl 3 (by decide) (hT _ mw_1_167) (fun _ h9 => h9) rfl dX7_lifted_34 ?_
            refine lv_iload hx hb dX7_lifted_37 (lv_at hl 0 rfl) ?_
            obtain ⟨hi, h⟩ := h
            refine lC_J hx hb hK.1 hP (by decide) rfl hi dX7_lifted_39 ?_
            refine lv_land hx hb dX7_lifted_40 ?_
            refine lv_topl (fun v3_2 ev3_2 => ?_)
            replace h := h v3_2 ev3_2
            refine lv_lstore_n (lv' := [(3, .long v3_2), (5, .int v5), (0, .ref (ad 3)), (1, .int x1), (2, .int x2)]) hx hb dX7_lifted_41 rfl hl (by decide) rfl (fun ls hl => ?_)
            obtain ⟨v5_3, ev5_3⟩ : ∃ z : Int32, z = v5 + 1 := ⟨_, rfl⟩
            replace h := h v5_3 ev5_3
            refine lv_iinc (v := v5_3) (lv' := [(5, .int v5_3), (3, .long v3_2), (0, .ref (ad 3)), (1, .int x1), (2, .int x2)]) hx hb dX7_lifted_42 hl (k := 1) rfl (by rw [ev5_3]; rfl) (by decide) rfl (fun ls hl => ?_)
            refine lv_goto (tgt := 11) hx hb dX7_lifted_45 (by decide) ?_
            exact ih v5_3 v3_2 _ _ _ h (lv_sub hl [0, 1, 2, 3, 4] rfl) hP hS
  exact LP _ 0 v3 _ _ _ h (lv_sub hl [0, 1, 2, 3, 4] rfl) hP hS
theorem dX7_hits_0 : decode cX7_hits 0 = .ok (.aload_n 0, 1) := by decide +kernel
theorem dX7_hits_1 : decode cX7_hits 1 = .ok (.iconst (-1), 1) := by decide +kernel
theorem dX7_hits_2 : decode cX7_hits 2 = .ok (.iconst (-1), 1) := by decide +kernel
theorem dX7_hits_3 : decode cX7_hits 3 = .ok (.invokevirtual 111, 3) := by decide +kernel
theorem dX7_hits_6 : decode cX7_hits 6 = .ok (.lreturn, 1) := by decide +kernel
def wX7_hits (I : Nat → Int32) (L : Nat → Int64) (A : Nat → Nat → Int32) (B : Nat → Nat → Int64)  (post : Int64 → Prop) : Prop := wX7_lifted I L A B (-1) (-1) (fun r3 => post r3)
abbrev rmX7_hits : Room := { frames := 1, cells := 0, slots := 0, locals := 25 }
theorem wd_X7_hits : Cond.instanceMethod yX7_hits ∈ BW ∧ Cond.selects yX7_hits.cls yX7_hits yX7_hits ∈ BW ∧ Cond.initialized yX7_hits.cls ∈ BW ∧ Cond.code yX7_hits cX7_hits 1 (some .long) ∈ BW := ⟨mw_3_52, mw_3_53, mw_1_5, mw_3_54⟩
set_option maxHeartbeats 4000000 in
set_option maxRecDepth 100000 in
theorem c_X7_hits {l : Launch} {D : va_G} {cy : Nat → ClassId} {ad : Nat → Nat} {Ad : Nat → Prop} (hAd : adok 103 Ad ad) (I : Nat → Int32) (L : Nat → Int64) (A : Nat → Nat → Int32) (B : Nat → Nat → Int64)   (post : Int64 → Prop) (h : wX7_hits I L A B  post) : Met l yX7_hits (.code yX7_hits cX7_hits 1 (some .long) :: BW) rmX7_hits (va_Pc [.ref (ad 3)] (fun U => kC D cy U ∧ va_P D vwCl (wC cy ad I L A B) U.heap)) (qCl D cy ad Ad (fun r u => post r  ∧ I = u.1 ∧ L = u.2.1 ∧ A = u.2.2.1 ∧ B = u.2.2.2)) 0 0 Ad := by
  refine startCl (by decide) (Nat.le_of_ble_eq_true rfl) (lv := [(0, .ref (ad 3))]) rfl (fun p e s m args below meth c Q ls hx hb hml hT hown hK hret hl hP hS => ?_)
  unfold wX7_hits at h
  refine lv_aload_n hx hb dX7_hits_0 rfl (lv_at hl 0 rfl) ?_
  refine lv_iconst (v := (-1)) hx hb dX7_hits_1 (by decide) ?_
  refine lv_iconst (v := (-1)) hx hb dX7_hits_2 (by decide) ?_
  refine callCl (k := 3) (As := [.int (-1), .int (-1)]) (rest := []) (n := 2) (c_X7_lifted hAd I L A B (-1) (-1) _ h) hx hb hT hown hK hP hS mw_3_55 wd_X7_lifted (by decide +kernel) ⟨rfl, rfl⟩ (by decide) rfl rfl he_X7 rfl hl.1 hml rfl (Nat.le_of_ble_eq_true rfl) dX7_hits_3 ⟨Nat.zero_le _, Nat.zero_le _⟩ (fun r3 u H locs h hP hS => ?_)
  obtain ⟨Iu, Lu, Au, Bu⟩ := u
  dsimp only at h hP
  obtain ⟨h, rfl, rfl, rfl, rfl⟩ := h
  try dsimp only at h
  exact hret _ (I, L, A, B) dX7_hits_6 ⟨h, rfl, rfl, rfl, rfl⟩ hP hS
theorem dX7_audience_0 : decode cX7_audience 0 = .ok (.aload_n 0, 1) := by decide +kernel
theorem dX7_audience_1 : decode cX7_audience 1 = .ok (.getfield 11, 3) := by decide +kernel
theorem dX7_audience_4 : decode cX7_audience 4 = .ok (.iload_n 1, 1) := by decide +kernel
theorem dX7_audience_5 : decode cX7_audience 5 = .ok (.aaload, 1) := by decide +kernel
theorem dX7_audience_6 : decode cX7_audience 6 = .ok (.getfield 38, 3) := by decide +kernel
theorem dX7_audience_9 : decode cX7_audience 9 = .ok (.iconst 1, 1) := by decide +kernel
theorem dX7_audience_10 : decode cX7_audience 10 = .ok (.if_icmp .ne 10, 3) := by decide +kernel
theorem dX7_audience_13 : decode cX7_audience 13 = .ok (.aload_n 0, 1) := by decide +kernel
theorem dX7_audience_14 : decode cX7_audience 14 = .ok (.invokevirtual 115, 3) := by decide +kernel
theorem dX7_audience_17 : decode cX7_audience 17 = .ok (.goto 9, 3) := by decide +kernel
theorem dX7_audience_20 : decode cX7_audience 20 = .ok (.aload_n 0, 1) := by decide +kernel
theorem dX7_audience_21 : decode cX7_audience 21 = .ok (.iload_n 1, 1) := by decide +kernel
theorem dX7_audience_22 : decode cX7_audience 22 = .ok (.iload_n 1, 1) := by decide +kernel
theorem dX7_audience_23 : decode cX7_audience 23 = .ok (.invokevirtual 111, 3) := by decide +kernel
theorem dX7_audience_26 : decode cX7_audience 26 = .ok (.lreturn, 1) := by decide +kernel
def wX7_audience (I : Nat → Int32) (L : Nat → Int64) (A : Nat → Nat → Int32) (B : Nat → Nat → Int64) (x1 : Int32) (post : Int64 → Prop) : Prop := vp_in x1 5 ∧ (if (I (9 + x1.toNatClampNeg)) = 1 then (wX7_hits I L A B  (fun r14 => post r14)) else (wX7_lifted I L A B x1 x1 (fun r23 => post r23)))
abbrev rmX7_audience : Room := { frames := 2, cells := 0, slots := 0, locals := 45 }
theorem wd_X7_audience : Cond.instanceMethod yX7_audience ∈ BW ∧ Cond.selects yX7_audience.cls yX7_audience yX7_audience ∈ BW ∧ Cond.initialized yX7_audience.cls ∈ BW ∧ Cond.code yX7_audience cX7_audience 2 (some .long) ∈ BW := ⟨mw_3_86, mw_3_87, mw_1_5, mw_3_88⟩
set_option maxHeartbeats 4000000 in
set_option maxRecDepth 100000 in
theorem c_X7_audience {l : Launch} {D : va_G} {cy : Nat → ClassId} {ad : Nat → Nat} {Ad : Nat → Prop} (hAd : adok 103 Ad ad) (I : Nat → Int32) (L : Nat → Int64) (A : Nat → Nat → Int32) (B : Nat → Nat → Int64) (x1 : Int32)  (post : Int64 → Prop) (h : wX7_audience I L A B x1 post) : Met l yX7_audience (.code yX7_audience cX7_audience 2 (some .long) :: BW) rmX7_audience (va_Pc [.ref (ad 3), .int x1] (fun U => kC D cy U ∧ va_P D vwCl (wC cy ad I L A B) U.heap)) (qCl D cy ad Ad (fun r u => post r  ∧ I = u.1 ∧ L = u.2.1 ∧ A = u.2.2.1 ∧ B = u.2.2.2)) 0 0 Ad := by
  refine startCl (by decide) (Nat.le_of_ble_eq_true rfl) (lv := [(0, .ref (ad 3)), (1, .int x1)]) rfl (fun p e s m args below meth c Q ls hx hb hml hT hown hK hret hl hP hS => ?_)
  unfold wX7_audience at h
  refine lv_aload_n hx hb dX7_audience_0 rfl (lv_at hl 0 rfl) ?_
  refine va_get (T := TX7) hx hb hT inlX7 hown hK.1 hP 3 he_X7 rfl 2 (by decide) (hT _ mw_1_165) (fun _ h9 => h9) rfl dX7_audience_1 ?_
  refine lv_iload_n hx hb dX7_audience_4 rfl (lv_at hl 1 rfl) ?_
  obtain ⟨hi, h⟩ := h
  have hj := vp_lt hi
  refine lC_X hx hb hK.1 hP hi dX7_audience_5 ?_
  refine va_get (T := TX0) hx hb hT inlX0 hown hK.1 hP (9 + x1.toNatClampNeg) (he_X0 (by omega)) rfl 0 (by decide) (hT _ mw_1_143) (fun _ h9 => h9) rfl dX7_audience_6 ?_
  refine lv_iconst (v := 1) hx hb dX7_audience_9 (by decide) ?_
  refine lv_icmp_ne (tgt := 20) hx hb dX7_audience_10 (by decide) (fun hc => ?_) (fun hc => ?_)
  · rw [if_neg hc] at h
    refine lv_aload_n hx hb dX7_audience_20 rfl (lv_at hl 0 rfl) ?_
    refine lv_iload_n hx hb dX7_audience_21 rfl (lv_at hl 1 rfl) ?_
    refine lv_iload_n hx hb dX7_audience_22 rfl (lv_at hl 1 rfl) ?_
    refine callCl (k := 3) (As := [.int x1, .int x1]) (rest := []) (n := 2) (c_X7_lifted hAd I L A B x1 x1 _ h) hx hb hT hown hK hP hS mw_3_55 wd_X7_lifted (by decide +kernel) ⟨rfl, rfl⟩ (by decide) rfl rfl he_X7 rfl hl.1 hml rfl (Nat.le_of_ble_eq_true rfl) dX7_audience_23 ⟨Nat.zero_le _, Nat.zero_le _⟩ (fun r23 u H locs h hP hS => ?_)
    obtain ⟨Iu, Lu, Au, Bu⟩ := u
    dsimp only at h hP
    obtain ⟨h, rfl, rfl, rfl, rfl⟩ := h
    try dsimp only at h
    exact hret _ (I, L, A, B) dX7_audience_26 ⟨h, rfl, rfl, rfl, rfl⟩ hP hS
  · rw [if_pos hc] at h
    refine lv_aload_n hx hb dX7_audience_13 rfl (lv_at hl 0 rfl) ?_
    refine callCl (k := 3) (As := []) (rest := []) (n := 0) (c_X7_hits hAd I L A B  _ h) hx hb hT hown hK hP hS mw_3_89 wd_X7_hits (by decide +kernel) ⟨rfl, rfl⟩ (by decide) rfl rfl he_X7 rfl hl.1 hml rfl (Nat.le_of_ble_eq_true rfl) dX7_audience_14 ⟨Nat.zero_le _, Nat.zero_le _⟩ (fun r14 u H locs h hP hS => ?_)
    obtain ⟨Iu_1, Lu_1, Au_1, Bu_1⟩ := u
    dsimp only at h hP
    obtain ⟨h, rfl, rfl, rfl, rfl⟩ := h
    try dsimp only at h
    refine lv_goto (tgt := 26) hx hb dX7_audience_17 (by decide) ?_
    exact hret _ (I, L, A, B) dX7_audience_26 ⟨h, rfl, rfl, rfl, rfl⟩ hP hS
theorem dX7_showing_0 : decode cX7_showing 0 = .ok (.aload_n 0, 1) := by decide +kernel
theorem dX7_showing_1 : decode cX7_showing 1 = .ok (.aload_n 0, 1) := by decide +kernel
theorem dX7_showing_2 : decode cX7_showing 2 = .ok (.getfield 21, 3) := by decide +kernel
theorem dX7_showing_5 : decode cX7_showing 5 = .ok (.getfield 119, 3) := by decide +kernel
theorem dX7_showing_8 : decode cX7_showing 8 = .ok (.iload_n 1, 1) := by decide +kernel
theorem dX7_showing_9 : decode cX7_showing 9 = .ok (.iaload, 1) := by decide +kernel
theorem dX7_showing_10 : decode cX7_showing 10 = .ok (.invokevirtual 122, 3) := by decide +kernel
theorem dX7_showing_13 : decode cX7_showing 13 = .ok (.aload_n 0, 1) := by decide +kernel
theorem dX7_showing_14 : decode cX7_showing 14 = .ok (.getfield 21, 3) := by decide +kernel
theorem dX7_showing_17 : decode cX7_showing 17 = .ok (.getfield 125, 3) := by decide +kernel
theorem dX7_showing_20 : decode cX7_showing 20 = .ok (.iload_n 1, 1) := by decide +kernel
theorem dX7_showing_21 : decode cX7_showing 21 = .ok (.laload, 1) := by decide +kernel
theorem dX7_showing_22 : decode cX7_showing 22 = .ok (.land, 1) := by decide +kernel
theorem dX7_showing_23 : decode cX7_showing 23 = .ok (.invokestatic 128, 3) := by decide +kernel
theorem dX7_showing_26 : decode cX7_showing 26 = .ok (.ireturn, 1) := by decide +kernel
def wX7_showing (I : Nat → Int32) (L : Nat → Int64) (A : Nat → Nat → Int32) (B : Nat → Nat → Int64) (x1 : Int32) (post : Int32 → Prop) : Prop := vp_in x1 40 ∧ (wX7_audience I L A B (A 36 x1.toNatClampNeg) (fun r10 => vp_in x1 40 ∧ (wJ13_bitCount_95d88 (r10 &&& (B 40 x1.toNatClampNeg)) (fun r23 => post r23))))
abbrev rmX7_showing : Room := { frames := 3, cells := 0, slots := 0, locals := 66 }
theorem wd_X7_showing : Cond.instanceMethod yX7_showing ∈ BW ∧ Cond.selects yX7_showing.cls yX7_showing yX7_showing ∈ BW ∧ Cond.initialized yX7_showing.cls ∈ BW ∧ Cond.code yX7_showing cX7_showing 2 (some .int) ∈ BW := ⟨mw_3_82, mw_3_83, mw_1_5, mw_3_84⟩
set_option maxHeartbeats 4000000 in
set_option maxRecDepth 100000 in
theorem c_X7_showing {l : Launch} {D : va_G} {cy : Nat → ClassId} {ad : Nat → Nat} {Ad : Nat → Prop} (hAd : adok 103 Ad ad) (I : Nat → Int32) (L : Nat → Int64) (A : Nat → Nat → Int32) (B : Nat → Nat → Int64) (x1 : Int32)  (post : Int32 → Prop) (h : wX7_showing I L A B x1 post) : Met l yX7_showing (.code yX7_showing cX7_showing 2 (some .int) :: BW) rmX7_showing (va_Pc [.ref (ad 3), .int x1] (fun U => kC D cy U ∧ va_P D vwCl (wC cy ad I L A B) U.heap)) (qCi D cy ad Ad (fun r u => post r  ∧ I = u.1 ∧ L = u.2.1 ∧ A = u.2.2.1 ∧ B = u.2.2.2)) 0 0 Ad := by
  refine startCi (by decide) (Nat.le_of_ble_eq_true rfl) (lv := [(0, .ref (ad 3)), (1, .int x1)]) rfl (fun p e s m args below meth c Q ls hx hb hml hT hown hK hret hl hP hS => ?_)
  unfold wX7_showing at h
  refine lv_aload_n hx hb dX7_showing_0 rfl (lv_at hl 0 rfl) ?_
  refine lv_aload_n hx hb dX7_showing_1 rfl (lv_at hl 0 rfl) ?_
  refine va_get (T := TX7) hx hb hT inlX7 hown hK.1 hP 3 he_X7 rfl 0 (by decide) (hT _ mw_1_163) (fun _ h9 => h9) rfl dX7_showing_2 ?_
  refine va_get (T := TX2) hx hb hT inlX2 hown hK.1 hP 1 he_X2 rfl 0 (by decide) (hT _ mw_1_35) (fun _ h9 => h9) rfl dX7_showing_5 ?_
  refine lv_iload_n hx hb dX7_showing_8 rfl (lv_at hl 1 rfl) ?_
  obtain ⟨hi, h⟩ := h
  refine lC_I hx hb hK.1 hP (by decide) rfl hi dX7_showing_9 ?_
  refine callCl (k := 3) (As := [.int (A 36 x1.toNatClampNeg)]) (rest := []) (n := 1) (c_X7_audience hAd I L A B (A 36 x1.toNatClampNeg) _ h) hx hb hT hown hK hP hS mw_3_85 wd_X7_audience (by decide +kernel) ⟨rfl, rfl⟩ (by decide) rfl rfl he_X7 rfl hl.1 hml rfl (Nat.le_of_ble_eq_true rfl) dX7_showing_10 ⟨Nat.zero_le _, Nat.zero_le _⟩ (fun r10 u H locs h hP hS => ?_)
  obtain ⟨Iu, Lu, Au, Bu⟩ := u
  dsimp only at h hP
  obtain ⟨h, rfl, rfl, rfl, rfl⟩ := h
  try dsimp only at h
  refine lv_aload_n hx hb dX7_showing_13 rfl (lv_at hl 0 rfl) ?_
  refine va_get (T := TX7) hx hb hT inlX7 hown hK.1 hP 3 he_X7 rfl 0 (by decide) (hT _ mw_1_163) (fun _ h9 => h9) rfl dX7_showing_14 ?_
  refine va_get (T := TX2) hx hb hT inlX2 hown hK.1 hP 1 he_X2 rfl 4 (by decide) (hT _ mw_1_43) (fun _ h9 => h9) rfl dX7_showing_17 ?_
  refine lv_iload_n hx hb dX7_showing_20 rfl (lv_at hl 1 rfl) ?_
  obtain ⟨hi_1, h⟩ := h
  refine lC_J hx hb hK.1 hP (by decide) rfl hi_1 dX7_showing_21 ?_
  refine lv_land hx hb dX7_showing_22 ?_
  refine callSCi (As := [.long (r10 &&& (B 40 x1.toNatClampNeg))]) (rest := []) (n := 1) (c_J13_bitCount_95d88 (r10 &&& (B 40 x1.toNatClampNeg)) _ h) hx hb hT hown hP hS mw_3_90 wd_J13_bitCount_95d88 (by decide +kernel) ⟨rfl, rfl⟩ (by decide) rfl hl.1 hml rfl (Nat.le_of_ble_eq_true rfl) dX7_showing_23 ⟨Nat.zero_le _, Nat.zero_le _⟩ (fun r23 H locs h hP hS => ?_)
  try dsimp only at h
  exact hret _ (I, L, A, B) dX7_showing_26 ⟨h, rfl, rfl, rfl, rfl⟩ hP hS
theorem dX7_passedBy_0 : decode cX7_passedBy 0 = .ok (.iconst 0, 1) := by decide +kernel
theorem dX7_passedBy_1 : decode cX7_passedBy 1 = .ok (.istore_n 2, 1) := by decide +kernel
theorem dX7_passedBy_2 : decode cX7_passedBy 2 = .ok (.iconst 0, 1) := by decide +kernel
theorem dX7_passedBy_3 : decode cX7_passedBy 3 = .ok (.istore_n 3, 1) := by decide +kernel
theorem dX7_passedBy_4 : decode cX7_passedBy 4 = .ok (.iload_n 3, 1) := by decide +kernel
theorem dX7_passedBy_5 : decode cX7_passedBy 5 = .ok (.aload_n 0, 1) := by decide +kernel
theorem dX7_passedBy_6 : decode cX7_passedBy 6 = .ok (.getfield 30, 3) := by decide +kernel
theorem dX7_passedBy_9 : decode cX7_passedBy 9 = .ok (.if_icmp .ge 28, 3) := by decide +kernel
theorem dX7_passedBy_12 : decode cX7_passedBy 12 = .ok (.aload_n 0, 1) := by decide +kernel
theorem dX7_passedBy_13 : decode cX7_passedBy 13 = .ok (.getfield 17, 3) := by decide +kernel
theorem dX7_passedBy_16 : decode cX7_passedBy 16 = .ok (.iload_n 3, 1) := by decide +kernel
theorem dX7_passedBy_17 : decode cX7_passedBy 17 = .ok (.laload, 1) := by decide +kernel
theorem dX7_passedBy_18 : decode cX7_passedBy 18 = .ok (.iload_n 1, 1) := by decide +kernel
theorem dX7_passedBy_19 : decode cX7_passedBy 19 = .ok (.invokestatic 92, 3) := by decide +kernel
theorem dX7_passedBy_22 : decode cX7_passedBy 22 = .ok (.ifCond .eq 9, 3) := by decide +kernel
theorem dX7_passedBy_25 : decode cX7_passedBy 25 = .ok (.iload_n 2, 1) := by decide +kernel
theorem dX7_passedBy_26 : decode cX7_passedBy 26 = .ok (.iconst 1, 1) := by decide +kernel
theorem dX7_passedBy_27 : decode cX7_passedBy 27 = .ok (.iload_n 3, 1) := by decide +kernel
theorem dX7_passedBy_28 : decode cX7_passedBy 28 = .ok (.ishl, 1) := by decide +kernel
theorem dX7_passedBy_29 : decode cX7_passedBy 29 = .ok (.ior, 1) := by decide +kernel
theorem dX7_passedBy_30 : decode cX7_passedBy 30 = .ok (.istore_n 2, 1) := by decide +kernel
theorem dX7_passedBy_31 : decode cX7_passedBy 31 = .ok (.iinc 3 1, 3) := by decide +kernel
theorem dX7_passedBy_34 : decode cX7_passedBy 34 = .ok (.goto (-30), 3) := by decide +kernel
theorem dX7_passedBy_37 : decode cX7_passedBy 37 = .ok (.iload_n 2, 1) := by decide +kernel
theorem dX7_passedBy_38 : decode cX7_passedBy 38 = .ok (.ireturn, 1) := by decide +kernel
def wX7_passedBy (I : Nat → Int32) (L : Nat → Int64) (A : Nat → Nat → Int32) (B : Nat → Nat → Int64) (x1 : Int32) (post : Int32 → Prop) : Prop := ∃ n, lfix (fun (r : (Int32 × Int32) → Prop) (v3, v2) => if (I 3) ≤ v3 then (post v2) else (vp_in v3 5 ∧ (wX9_inSet (B 46 v3.toNatClampNeg) x1 (fun r19 => if r19 = 0 then (∀ v3_1 : Int32, v3_1 = v3 + 1 → r (v3_1, v2)) else (∀ v2_1 : Int32, v2_1 = v2 ||| (1 <<< (v3 &&& 31)) → ∀ v3_2 : Int32, v3_2 = v3 + 1 → r (v3_2, v2_1)))))) n (0, 0)
abbrev rmX7_passedBy : Room := { frames := 1, cells := 0, slots := 0, locals := 22 }
theorem wd_X7_passedBy : Cond.instanceMethod yX7_passedBy ∈ BW ∧ Cond.selects yX7_passedBy.cls yX7_passedBy yX7_passedBy ∈ BW ∧ Cond.initialized yX7_passedBy.cls ∈ BW ∧ Cond.code yX7_passedBy cX7_passedBy 4 (some .int) ∈ BW := ⟨mw_3_60, mw_3_61, mw_1_5, mw_3_62⟩
set_option maxHeartbeats 4000000 in
set_option maxRecDepth 100000 in
theorem c_X7_passedBy {l : Launch} {D : va_G} {cy : Nat → ClassId} {ad : Nat → Nat} {Ad : Nat → Prop} (hAd : adok 103 Ad ad) (I : Nat → Int32) (L : Nat → Int64) (A : Nat → Nat → Int32) (B : Nat → Nat → Int64) (x1 : Int32)  (post : Int32 → Prop) (h : wX7_passedBy I L A B x1 post) : Met l yX7_passedBy (.code yX7_passedBy cX7_passedBy 4 (some .int) :: BW) rmX7_passedBy (va_Pc [.ref (ad 3), .int x1] (fun U => kC D cy U ∧ va_P D vwCl (wC cy ad I L A B) U.heap)) (qCi D cy ad Ad (fun r u => post r  ∧ I = u.1 ∧ L = u.2.1 ∧ A = u.2.2.1 ∧ B = u.2.2.2)) 0 0 Ad := by
  refine startCi (by decide) (Nat.le_of_ble_eq_true rfl) (lv := [(0, .ref (ad 3)), (1, .int x1)]) rfl (fun p e s m args below meth c Q ls hx hb hml hT hown hK hret hl hP hS => ?_)
  unfold wX7_passedBy at h
  refine lv_iconst (v := 0) hx hb dX7_passedBy_0 (by decide) ?_
  refine lv_istore_n (lv' := [(2, .int 0), (0, .ref (ad 3)), (1, .int x1)]) hx hb dX7_passedBy_1 rfl hl (by decide) rfl (fun ls hl => ?_)
  refine lv_iconst (v := 0) hx hb dX7_passedBy_2 (by decide) ?_
  refine lv_istore_n (lv' := [(3, .int 0), (2, .int 0), (0, .ref (ad 3)), (1, .int x1)]) hx hb dX7_passedBy_3 rfl hl (by decide) rfl (fun ls hl => ?_)
  obtain ⟨F, n, h, hF, hG⟩ := lfix_ex h
  have LP : ∀ (n : Nat) (v3 : Int32) (v2 : Int32) (ls : Array Slot) (H : Heap) (locs : List Loc), F n (v3, v2) → lv_has ls 4 [(3, .int v3), (2, .int v2), (0, .ref (ad 3)), (1, .int x1)] → va_P D vwCl (wC cy ad I L A B) H → va_S Ad s.heap H locs → W p l e rmX7_passedBy s m args below meth c H locs 0 0 Q (F0 m 4 ls []) := by
    intro n
    induction n with
    | zero => intro v3 v2 ls H locs h _ _ _; exact absurd h (hF _)
    | succ n ih =>
      intro v3 v2 ls H locs h hl hP hS
      replace h := hG _ _ h
      try dsimp only at h
      refine lv_iload_n hx hb dX7_passedBy_4 rfl (lv_at hl 0 rfl) ?_
      refine lv_aload_n hx hb dX7_passedBy_5 rfl (lv_at hl 2 rfl) ?_
      refine va_get (T := TX7) hx hb hT inlX7 hown hK.1 hP 3 he_X7 rfl 4 (by decide) (hT _ mw_1_168) (fun _ h9 => h9) rfl dX7_passedBy_6 ?_
      refine lv_icmp_ge (tgt := 37) hx hb dX7_passedBy_9 (by decide) (fun hc => ?_) (fun hc => ?_)
      · rw [if_pos hc] at h
        refine lv_iload_n hx hb dX7_passedBy_37 rfl (lv_at hl 1 rfl) ?_
        exact hret _ (I, L, A, B) dX7_passedBy_38 ⟨h, rfl, rfl, rfl, rfl⟩ hP hS
      · rw [if_neg hc] at h
        refine lv_aload_n hx hb dX7_passedBy_12 rfl (lv_at hl 2 rfl) ?_
        refine va_get (T := TX7) hx hb hT inlX7 hown hK.1 hP 3 he_X7 rfl 3 (by decide) (hT _ mw_1_167) (fun _ h9 => h9) rfl dX7_passedBy_13 ?_
        refine lv_iload_n hx hb dX7_passedBy_16 rfl (lv_at hl 0 rfl) ?_
        obtain ⟨hi, h⟩ := h
        refine lC_J hx hb hK.1 hP (by decide) rfl hi dX7_passedBy_17 ?_
        refine lv_iload_n hx hb dX7_passedBy_18 rfl (lv_at hl 3 rfl) ?_
        refine callNi (As := [.long (B 46 v3.toNatClampNeg), .int x1]) (rest := []) (n := 2) (c_X9_inSet (B 46 v3.toNatClampNeg) x1 _ h) hx hb hT hown hP hS (hK.2 _ (List.mem_of_getElem? (i := 1) rfl)) wd_X9_inSet (by decide +kernel) ⟨rfl, rfl⟩ (by decide) rfl hl.1 hml rfl (Nat.le_of_ble_eq_true rfl) dX7_passedBy_19 ⟨Nat.zero_le _, Nat.zero_le _⟩ (fun r19 H locs h hP hS => ?_)
        try dsimp only at h
        refine lv_if_eq (tgt := 31) hx hb dX7_passedBy_22 (by decide) (fun hc_1 => ?_) (fun hc_1 => ?_)
        · rw [if_pos hc_1] at h
          obtain ⟨v3_1, ev3_1⟩ : ∃ z : Int32, z = v3 + 1 := ⟨_, rfl⟩
          replace h := h v3_1 ev3_1
          refine lv_iinc (v := v3_1) (lv' := [(3, .int v3_1), (2, .int v2), (0, .ref (ad 3)), (1, .int x1)]) hx hb dX7_passedBy_31 hl (k := 0) rfl (by rw [ev3_1]; rfl) (by decide) rfl (fun ls hl => ?_)
          refine lv_goto (tgt := 4) hx hb dX7_passedBy_34 (by decide) ?_
          exact ih v3_1 v2 _ _ _ h (lv_sub hl [0, 1, 2, 3] rfl) hP hS
        · rw [if_neg hc_1] at h
          refine lv_iload_n hx hb dX7_passedBy_25 rfl (lv_at hl 1 rfl) ?_
          refine lv_iconst (v := 1) hx hb dX7_passedBy_26 (by decide) ?_
          refine lv_iload_n hx hb dX7_passedBy_27 rfl (lv_at hl 0 rfl) ?_
          refine lv_ishl hx hb dX7_passedBy_28 ?_
          refine lv_ior hx hb dX7_passedBy_29 ?_
          refine lv_topi (fun v2_1 ev2_1 => ?_)
          replace h := h v2_1 ev2_1
          refine lv_istore_n (lv' := [(2, .int v2_1), (3, .int v3), (0, .ref (ad 3)), (1, .int x1)]) hx hb dX7_passedBy_30 rfl hl (by decide) rfl (fun ls hl => ?_)
          obtain ⟨v3_2, ev3_2⟩ : ∃ z : Int32, z = v3 + 1 := ⟨_, rfl⟩
          replace h := h v3_2 ev3_2
          refine lv_iinc (v := v3_2) (lv' := [(3, .int v3_2), (2, .int v2_1), (0, .ref (ad 3)), (1, .int x1)]) hx hb dX7_passedBy_31 hl (k := 1) rfl (by rw [ev3_2]; rfl) (by decide) rfl (fun ls hl => ?_)
          refine lv_goto (tgt := 4) hx hb dX7_passedBy_34 (by decide) ?_
          exact ih v3_2 v2_1 _ _ _ h (lv_sub hl [0, 1, 2, 3] rfl) hP hS
  exact LP _ 0 0 _ _ _ h (lv_sub hl [0, 1, 2, 3] rfl) hP hS
theorem dX7_howManyCategoriesChosen_0 : decode cX7_howManyCategoriesChosen 0 = .ok (.iconst 0, 1) := by decide +kernel
theorem dX7_howManyCategoriesChosen_1 : decode cX7_howManyCategoriesChosen 1 = .ok (.istore_n 1, 1) := by decide +kernel
theorem dX7_howManyCategoriesChosen_2 : decode cX7_howManyCategoriesChosen 2 = .ok (.iconst 0, 1) := by decide +kernel
theorem dX7_howManyCategoriesChosen_3 : decode cX7_howManyCategoriesChosen 3 = .ok (.istore_n 2, 1) := by decide +kernel
theorem dX7_howManyCategoriesChosen_4 : decode cX7_howManyCategoriesChosen 4 = .ok (.iload_n 2, 1) := by decide +kernel
theorem dX7_howManyCategoriesChosen_5 : decode cX7_howManyCategoriesChosen 5 = .ok (.aload_n 0, 1) := by decide +kernel
theorem dX7_howManyCategoriesChosen_6 : decode cX7_howManyCategoriesChosen 6 = .ok (.getfield 30, 3) := by decide +kernel
theorem dX7_howManyCategoriesChosen_9 : decode cX7_howManyCategoriesChosen 9 = .ok (.if_icmp .ge 27, 3) := by decide +kernel
theorem dX7_howManyCategoriesChosen_12 : decode cX7_howManyCategoriesChosen 12 = .ok (.iload_n 1, 1) := by decide +kernel
theorem dX7_howManyCategoriesChosen_13 : decode cX7_howManyCategoriesChosen 13 = .ok (.aload_n 0, 1) := by decide +kernel
theorem dX7_howManyCategoriesChosen_14 : decode cX7_howManyCategoriesChosen 14 = .ok (.getfield 11, 3) := by decide +kernel
theorem dX7_howManyCategoriesChosen_17 : decode cX7_howManyCategoriesChosen 17 = .ok (.iload_n 2, 1) := by decide +kernel
theorem dX7_howManyCategoriesChosen_18 : decode cX7_howManyCategoriesChosen 18 = .ok (.aaload, 1) := by decide +kernel
theorem dX7_howManyCategoriesChosen_19 : decode cX7_howManyCategoriesChosen 19 = .ok (.getfield 44, 3) := by decide +kernel
theorem dX7_howManyCategoriesChosen_22 : decode cX7_howManyCategoriesChosen 22 = .ok (.getfield 68, 3) := by decide +kernel
theorem dX7_howManyCategoriesChosen_25 : decode cX7_howManyCategoriesChosen 25 = .ok (.invokestatic 128, 3) := by decide +kernel
theorem dX7_howManyCategoriesChosen_28 : decode cX7_howManyCategoriesChosen 28 = .ok (.iadd, 1) := by decide +kernel
theorem dX7_howManyCategoriesChosen_29 : decode cX7_howManyCategoriesChosen 29 = .ok (.istore_n 1, 1) := by decide +kernel
theorem dX7_howManyCategoriesChosen_30 : decode cX7_howManyCategoriesChosen 30 = .ok (.iinc 2 1, 3) := by decide +kernel
theorem dX7_howManyCategoriesChosen_33 : decode cX7_howManyCategoriesChosen 33 = .ok (.goto (-29), 3) := by decide +kernel
theorem dX7_howManyCategoriesChosen_36 : decode cX7_howManyCategoriesChosen 36 = .ok (.iload_n 1, 1) := by decide +kernel
theorem dX7_howManyCategoriesChosen_37 : decode cX7_howManyCategoriesChosen 37 = .ok (.ireturn, 1) := by decide +kernel
def wX7_howManyCategoriesChosen (I : Nat → Int32) (L : Nat → Int64) (A : Nat → Nat → Int32) (B : Nat → Nat → Int64)  (post : Int32 → Prop) : Prop := ∃ n, lfix (fun (r : (Int32 × Int32) → Prop) (v2, v1) => if (I 3) ≤ v2 then (post v1) else (vp_in v2 5 ∧ (wJ13_bitCount_95d88 (L (9 + v2.toNatClampNeg + 5)) (fun r25 => ∀ v1_1 : Int32, v1_1 = v1 + r25 → ∀ v2_1 : Int32, v2_1 = v2 + 1 → r (v2_1, v1_1))))) n (0, 0)
abbrev rmX7_howManyCategoriesChosen : Room := { frames := 1, cells := 0, slots := 0, locals := 21 }
theorem wd_X7_howManyCategoriesChosen : Cond.instanceMethod yX7_howManyCategoriesChosen ∈ BW ∧ Cond.selects yX7_howManyCategoriesChosen.cls yX7_howManyCategoriesChosen yX7_howManyCategoriesChosen ∈ BW ∧ Cond.initialized yX7_howManyCategoriesChosen.cls ∈ BW ∧ Cond.code yX7_howManyCategoriesChosen cX7_howManyCategoriesChosen 3 (some .int) ∈ BW := ⟨mw_4_24, mw_4_25, mw_1_5, mw_4_26⟩
set_option maxHeartbeats 4000000 in
set_option maxRecDepth 100000 in
theorem c_X7_howManyCategoriesChosen {l : Launch} {D : va_G} {cy : Nat → ClassId} {ad : Nat → Nat} {Ad : Nat → Prop} (hAd : adok 103 Ad ad) (I : Nat → Int32) (L : Nat → Int64) (A : Nat → Nat → Int32) (B : Nat → Nat → Int64)   (post : Int32 → Prop) (h : wX7_howManyCategoriesChosen I L A B  post) : Met l yX7_howManyCategoriesChosen (.code yX7_howManyCategoriesChosen cX7_howManyCategoriesChosen 3 (some .int) :: BW) rmX7_howManyCategoriesChosen (va_Pc [.ref (ad 3)] (fun U => kC D cy U ∧ va_P D vwCl (wC cy ad I L A B) U.heap)) (qCi D cy ad Ad (fun r u => post r  ∧ I = u.1 ∧ L = u.2.1 ∧ A = u.2.2.1 ∧ B = u.2.2.2)) 0 0 Ad := by
  refine startCi (by decide) (Nat.le_of_ble_eq_true rfl) (lv := [(0, .ref (ad 3))]) rfl (fun p e s m args below meth c Q ls hx hb hml hT hown hK hret hl hP hS => ?_)
  unfold wX7_howManyCategoriesChosen at h
  refine lv_iconst (v := 0) hx hb dX7_howManyCategoriesChosen_0 (by decide) ?_
  refine lv_istore_n (lv' := [(1, .int 0), (0, .ref (ad 3))]) hx hb dX7_howManyCategoriesChosen_1 rfl hl (by decide) rfl (fun ls hl => ?_)
  refine lv_iconst (v := 0) hx hb dX7_howManyCategoriesChosen_2 (by decide) ?_
  refine lv_istore_n (lv' := [(2, .int 0), (1, .int 0), (0, .ref (ad 3))]) hx hb dX7_howManyCategoriesChosen_3 rfl hl (by decide) rfl (fun ls hl => ?_)
  obtain ⟨F, n, h, hF, hG⟩ := lfix_ex h
  have LP : ∀ (n : Nat) (v2 : Int32) (v1 : Int32) (ls : Array Slot) (H : Heap) (locs : List Loc), F n (v2, v1) → lv_has ls 3 [(2, .int v2), (1, .int v1), (0, .ref (ad 3))] → va_P D vwCl (wC cy ad I L A B) H → va_S Ad s.heap H locs → W p l e rmX7_howManyCategoriesChosen s m args below meth c H locs 0 0 Q (F0 m 4 ls []) := by
    intro n
    induction n with
    | zero => intro v2 v1 ls H locs h _ _ _; exact absurd h (hF _)
    | succ n ih =>
      intro v2 v1 ls H locs h hl hP hS
      replace h := hG _ _ h
      try dsimp only at h
      refine lv_iload_n hx hb dX7_howManyCategoriesChosen_4 rfl (lv_at hl 0 rfl) ?_
      refine lv_aload_n hx hb dX7_howManyCategoriesChosen_5 rfl (lv_at hl 2 rfl) ?_
      refine va_get (T := TX7) hx hb hT inlX7 hown hK.1 hP 3 he_X7 rfl 4 (by decide) (hT _ mw_1_168) (fun _ h9 => h9) rfl dX7_howManyCategoriesChosen_6 ?_
      refine lv_icmp_ge (tgt := 36) hx hb dX7_howManyCategoriesChosen_9 (by decide) (fun hc => ?_) (fun hc => ?_)
      · rw [if_pos hc] at h
        refine lv_iload_n hx hb dX7_howManyCategoriesChosen_36 rfl (lv_at hl 1 rfl) ?_
        exact hret _ (I, L, A, B) dX7_howManyCategoriesChosen_37 ⟨h, rfl, rfl, rfl, rfl⟩ hP hS
      · rw [if_neg hc] at h
        refine lv_iload_n hx hb dX7_howManyCategoriesChosen_12 rfl (lv_at hl 1 rfl) ?_
        refine lv_aload_n hx hb dX7_howManyCategoriesChosen_13 rfl (lv_at hl 2 rfl) ?_
        refine va_get (T := TX7) hx hb hT inlX7 hown hK.1 hP 3 he_X7 rfl 2 (by decide) (hT _ mw_1_165) (fun _ h9 => h9) rfl dX7_howManyCategoriesChosen_14 ?_
        refine lv_iload_n hx hb dX7_howManyCategoriesChosen_17 rfl (lv_at hl 0 rfl) ?_
        obtain ⟨hi, h⟩ := h
        have hj := vp_lt hi
        refine lC_X hx hb hK.1 hP hi dX7_howManyCategoriesChosen_18 ?_
        refine va_get (T := TX0) hx hb hT inlX0 hown hK.1 hP (9 + v2.toNatClampNeg) (he_X0 (by omega)) rfl 1 (by decide) (hT _ mw_1_147) (fun _ h9 => h9) rfl dX7_howManyCategoriesChosen_19 ?_
        refine va_get (T := TX5) hx hb hT inlX5 hown hK.1 hP (9 + v2.toNatClampNeg + 5) (he_X5 (by omega)) rfl 0 (by decide) (hT _ mw_1_121) (fun _ h9 => h9) rfl dX7_howManyCategoriesChosen_22 ?_
        refine callSCi (As := [.long (L (9 + v2.toNatClampNeg + 5))]) (rest := [.int v1]) (n := 1) (c_J13_bitCount_95d88 (L (9 + v2.toNatClampNeg + 5)) _ h) hx hb hT hown hP hS mw_3_90 wd_J13_bitCount_95d88 (by decide +kernel) ⟨rfl, rfl⟩ (by decide) rfl hl.1 hml rfl (Nat.le_of_ble_eq_true rfl) dX7_howManyCategoriesChosen_25 ⟨Nat.zero_le _, Nat.zero_le _⟩ (fun r25 H locs h hP hS => ?_)
        try dsimp only at h
        refine lv_iadd hx hb dX7_howManyCategoriesChosen_28 ?_
        refine lv_topi (fun v1_1 ev1_1 => ?_)
        replace h := h v1_1 ev1_1
        refine lv_istore_n (lv' := [(1, .int v1_1), (2, .int v2), (0, .ref (ad 3))]) hx hb dX7_howManyCategoriesChosen_29 rfl hl (by decide) rfl (fun ls hl => ?_)
        obtain ⟨v2_1, ev2_1⟩ : ∃ z : Int32, z = v2 + 1 := ⟨_, rfl⟩
        replace h := h v2_1 ev2_1
        refine lv_iinc (v := v2_1) (lv' := [(2, .int v2_1), (1, .int v1_1), (0, .ref (ad 3))]) hx hb dX7_howManyCategoriesChosen_30 hl (k := 1) rfl (by rw [ev2_1]; rfl) (by decide) rfl (fun ls hl => ?_)
        refine lv_goto (tgt := 4) hx hb dX7_howManyCategoriesChosen_33 (by decide) ?_
        exact ih v2_1 v1_1 _ _ _ h (lv_sub hl [0, 1, 2] rfl) hP hS
  exact LP _ 0 0 _ _ _ h (lv_sub hl [0, 1, 2] rfl) hP hS
theorem dX7_howManyRanges_0 : decode cX7_howManyRanges 0 = .ok (.iconst 0, 1) := by decide +kernel
theorem dX7_howManyRanges_1 : decode cX7_howManyRanges 1 = .ok (.istore_n 1, 1) := by decide +kernel
theorem dX7_howManyRanges_2 : decode cX7_howManyRanges 2 = .ok (.iconst 0, 1) := by decide +kernel
theorem dX7_howManyRanges_3 : decode cX7_howManyRanges 3 = .ok (.istore_n 2, 1) := by decide +kernel
theorem dX7_howManyRanges_4 : decode cX7_howManyRanges 4 = .ok (.iload_n 2, 1) := by decide +kernel
theorem dX7_howManyRanges_5 : decode cX7_howManyRanges 5 = .ok (.aload_n 0, 1) := by decide +kernel
theorem dX7_howManyRanges_6 : decode cX7_howManyRanges 6 = .ok (.getfield 30, 3) := by decide +kernel
theorem dX7_howManyRanges_9 : decode cX7_howManyRanges 9 = .ok (.if_icmp .ge 24, 3) := by decide +kernel
theorem dX7_howManyRanges_12 : decode cX7_howManyRanges 12 = .ok (.iload_n 1, 1) := by decide +kernel
theorem dX7_howManyRanges_13 : decode cX7_howManyRanges 13 = .ok (.aload_n 0, 1) := by decide +kernel
theorem dX7_howManyRanges_14 : decode cX7_howManyRanges 14 = .ok (.getfield 11, 3) := by decide +kernel
theorem dX7_howManyRanges_17 : decode cX7_howManyRanges 17 = .ok (.iload_n 2, 1) := by decide +kernel
theorem dX7_howManyRanges_18 : decode cX7_howManyRanges 18 = .ok (.aaload, 1) := by decide +kernel
theorem dX7_howManyRanges_19 : decode cX7_howManyRanges 19 = .ok (.getfield 44, 3) := by decide +kernel
theorem dX7_howManyRanges_22 : decode cX7_howManyRanges 22 = .ok (.getfield 134, 3) := by decide +kernel
theorem dX7_howManyRanges_25 : decode cX7_howManyRanges 25 = .ok (.iadd, 1) := by decide +kernel
theorem dX7_howManyRanges_26 : decode cX7_howManyRanges 26 = .ok (.istore_n 1, 1) := by decide +kernel
theorem dX7_howManyRanges_27 : decode cX7_howManyRanges 27 = .ok (.iinc 2 1, 3) := by decide +kernel
theorem dX7_howManyRanges_30 : decode cX7_howManyRanges 30 = .ok (.goto (-26), 3) := by decide +kernel
theorem dX7_howManyRanges_33 : decode cX7_howManyRanges 33 = .ok (.iload_n 1, 1) := by decide +kernel
theorem dX7_howManyRanges_34 : decode cX7_howManyRanges 34 = .ok (.ireturn, 1) := by decide +kernel
def wX7_howManyRanges (I : Nat → Int32) (L : Nat → Int64) (A : Nat → Nat → Int32) (B : Nat → Nat → Int64)  (post : Int32 → Prop) : Prop := ∃ n, lfix (fun (r : (Int32 × Int32) → Prop) (v2, v1) => if (I 3) ≤ v2 then (post v1) else (vp_in v2 5 ∧ (∀ v1_1 : Int32, v1_1 = v1 + (I (9 + v2.toNatClampNeg + 5 + 22)) → ∀ v2_1 : Int32, v2_1 = v2 + 1 → r (v2_1, v1_1)))) n (0, 0)
abbrev rmX7_howManyRanges : Room := { frames := 0, cells := 0, slots := 0, locals := 0 }
theorem wd_X7_howManyRanges : Cond.instanceMethod yX7_howManyRanges ∈ BW ∧ Cond.selects yX7_howManyRanges.cls yX7_howManyRanges yX7_howManyRanges ∈ BW ∧ Cond.initialized yX7_howManyRanges.cls ∈ BW ∧ Cond.code yX7_howManyRanges cX7_howManyRanges 3 (some .int) ∈ BW := ⟨mw_4_28, mw_4_29, mw_1_5, mw_4_30⟩
set_option maxHeartbeats 4000000 in
set_option maxRecDepth 100000 in
theorem c_X7_howManyRanges {l : Launch} {D : va_G} {cy : Nat → ClassId} {ad : Nat → Nat} {Ad : Nat → Prop} (hAd : adok 103 Ad ad) (I : Nat → Int32) (L : Nat → Int64) (A : Nat → Nat → Int32) (B : Nat → Nat → Int64)   (post : Int32 → Prop) (h : wX7_howManyRanges I L A B  post) : Met l yX7_howManyRanges (.code yX7_howManyRanges cX7_howManyRanges 3 (some .int) :: BW) rmX7_howManyRanges (va_Pc [.ref (ad 3)] (fun U => kC D cy U ∧ va_P D vwCl (wC cy ad I L A B) U.heap)) (qCi D cy ad Ad (fun r u => post r  ∧ I = u.1 ∧ L = u.2.1 ∧ A = u.2.2.1 ∧ B = u.2.2.2)) 0 0 Ad := by
  refine startCi (by decide) (Nat.le_of_ble_eq_true rfl) (lv := [(0, .ref (ad 3))]) rfl (fun p e s m args below meth c Q ls hx hb hml hT hown hK hret hl hP hS => ?_)
  unfold wX7_howManyRanges at h
  refine lv_iconst (v := 0) hx hb dX7_howManyRanges_0 (by decide) ?_
  refine lv_istore_n (lv' := [(1, .int 0), (0, .ref (ad 3))]) hx hb dX7_howManyRanges_1 rfl hl (by decide) rfl (fun ls hl => ?_)
  refine lv_iconst (v := 0) hx hb dX7_howManyRanges_2 (by decide) ?_
  refine lv_istore_n (lv' := [(2, .int 0), (1, .int 0), (0, .ref (ad 3))]) hx hb dX7_howManyRanges_3 rfl hl (by decide) rfl (fun ls hl => ?_)
  obtain ⟨F, n, h, hF, hG⟩ := lfix_ex h
  have LP : ∀ (n : Nat) (v2 : Int32) (v1 : Int32) (ls : Array Slot) (H : Heap) (locs : List Loc), F n (v2, v1) → lv_has ls 3 [(2, .int v2), (1, .int v1), (0, .ref (ad 3))] → va_P D vwCl (wC cy ad I L A B) H → va_S Ad s.heap H locs → W p l e rmX7_howManyRanges s m args below meth c H locs 0 0 Q (F0 m 4 ls []) := by
    intro n
    induction n with
    | zero => intro v2 v1 ls H locs h _ _ _; exact absurd h (hF _)
    | succ n ih =>
      intro v2 v1 ls H locs h hl hP hS
      replace h := hG _ _ h
      try dsimp only at h
      refine lv_iload_n hx hb dX7_howManyRanges_4 rfl (lv_at hl 0 rfl) ?_
      refine lv_aload_n hx hb dX7_howManyRanges_5 rfl (lv_at hl 2 rfl) ?_
      refine va_get (T := TX7) hx hb hT inlX7 hown hK.1 hP 3 he_X7 rfl 4 (by decide) (hT _ mw_1_168) (fun _ h9 => h9) rfl dX7_howManyRanges_6 ?_
      refine lv_icmp_ge (tgt := 33) hx hb dX7_howManyRanges_9 (by decide) (fun hc => ?_) (fun hc => ?_)
      · rw [if_pos hc] at h
        refine lv_iload_n hx hb dX7_howManyRanges_33 rfl (lv_at hl 1 rfl) ?_
        exact hret _ (I, L, A, B) dX7_howManyRanges_34 ⟨h, rfl, rfl, rfl, rfl⟩ hP hS
      · rw [if_neg hc] at h
        refine lv_iload_n hx hb dX7_howManyRanges_12 rfl (lv_at hl 1 rfl) ?_
        refine lv_aload_n hx hb dX7_howManyRanges_13 rfl (lv_at hl 2 rfl) ?_
        refine va_get (T := TX7) hx hb hT inlX7 hown hK.1 hP 3 he_X7 rfl 2 (by decide) (hT _ mw_1_165) (fun _ h9 => h9) rfl dX7_howManyRanges_14 ?_
        refine lv_iload_n hx hb dX7_howManyRanges_17 rfl (lv_at hl 0 rfl) ?_
        obtain ⟨hi, h⟩ := h
        have hj := vp_lt hi
        refine lC_X hx hb hK.1 hP hi dX7_howManyRanges_18 ?_
        refine va_get (T := TX0) hx hb hT inlX0 hown hK.1 hP (9 + v2.toNatClampNeg) (he_X0 (by omega)) rfl 1 (by decide) (hT _ mw_1_147) (fun _ h9 => h9) rfl dX7_howManyRanges_19 ?_
        refine va_get (T := TX5) hx hb hT inlX5 hown hK.1 hP (9 + v2.toNatClampNeg + 5) (he_X5 (by omega)) rfl 2 (by decide) (hT _ mw_1_128) (fun _ h9 => h9) rfl dX7_howManyRanges_22 ?_
        refine lv_iadd hx hb dX7_howManyRanges_25 ?_
        refine lv_topi (fun v1_1 ev1_1 => ?_)
        replace h := h v1_1 ev1_1
        refine lv_istore_n (lv' := [(1, .int v1_1), (2, .int v2), (0, .ref (ad 3))]) hx hb dX7_howManyRanges_26 rfl hl (by decide) rfl (fun ls hl => ?_)
        obtain ⟨v2_1, ev2_1⟩ : ∃ z : Int32, z = v2 + 1 := ⟨_, rfl⟩
        replace h := h v2_1 ev2_1
        refine lv_iinc (v := v2_1) (lv' := [(2, .int v2_1), (1, .int v1_1), (0, .ref (ad 3))]) hx hb dX7_howManyRanges_27 hl (k := 1) rfl (by rw [ev2_1]; rfl) (by decide) rfl (fun ls hl => ?_)
        refine lv_goto (tgt := 4) hx hb dX7_howManyRanges_30 (by decide) ?_
        exact ih v2_1 v1_1 _ _ _ h (lv_sub hl [0, 1, 2] rfl) hP hS
  exact LP _ 0 0 _ _ _ h (lv_sub hl [0, 1, 2] rfl) hP hS
theorem dX7_narrowed_0 : decode cX7_narrowed 0 = .ok (.iconst 0, 1) := by decide +kernel
theorem dX7_narrowed_1 : decode cX7_narrowed 1 = .ok (.istore_n 1, 1) := by decide +kernel
theorem dX7_narrowed_2 : decode cX7_narrowed 2 = .ok (.iconst 0, 1) := by decide +kernel
theorem dX7_narrowed_3 : decode cX7_narrowed 3 = .ok (.istore_n 2, 1) := by decide +kernel
theorem dX7_narrowed_4 : decode cX7_narrowed 4 = .ok (.iload_n 2, 1) := by decide +kernel
theorem dX7_narrowed_5 : decode cX7_narrowed 5 = .ok (.aload_n 0, 1) := by decide +kernel
theorem dX7_narrowed_6 : decode cX7_narrowed 6 = .ok (.getfield 30, 3) := by decide +kernel
theorem dX7_narrowed_9 : decode cX7_narrowed 9 = .ok (.if_icmp .ge 30, 3) := by decide +kernel
theorem dX7_narrowed_12 : decode cX7_narrowed 12 = .ok (.aload_n 0, 1) := by decide +kernel
theorem dX7_narrowed_13 : decode cX7_narrowed 13 = .ok (.getfield 11, 3) := by decide +kernel
theorem dX7_narrowed_16 : decode cX7_narrowed 16 = .ok (.iload_n 2, 1) := by decide +kernel
theorem dX7_narrowed_17 : decode cX7_narrowed 17 = .ok (.aaload, 1) := by decide +kernel
theorem dX7_narrowed_18 : decode cX7_narrowed 18 = .ok (.getfield 44, 3) := by decide +kernel
theorem dX7_narrowed_21 : decode cX7_narrowed 21 = .ok (.invokevirtual 52, 3) := by decide +kernel
theorem dX7_narrowed_24 : decode cX7_narrowed 24 = .ok (.ifCond .ne 9, 3) := by decide +kernel
theorem dX7_narrowed_27 : decode cX7_narrowed 27 = .ok (.iload_n 1, 1) := by decide +kernel
theorem dX7_narrowed_28 : decode cX7_narrowed 28 = .ok (.iconst 1, 1) := by decide +kernel
theorem dX7_narrowed_29 : decode cX7_narrowed 29 = .ok (.iload_n 2, 1) := by decide +kernel
theorem dX7_narrowed_30 : decode cX7_narrowed 30 = .ok (.ishl, 1) := by decide +kernel
theorem dX7_narrowed_31 : decode cX7_narrowed 31 = .ok (.ior, 1) := by decide +kernel
theorem dX7_narrowed_32 : decode cX7_narrowed 32 = .ok (.istore_n 1, 1) := by decide +kernel
theorem dX7_narrowed_33 : decode cX7_narrowed 33 = .ok (.iinc 2 1, 3) := by decide +kernel
theorem dX7_narrowed_36 : decode cX7_narrowed 36 = .ok (.goto (-32), 3) := by decide +kernel
theorem dX7_narrowed_39 : decode cX7_narrowed 39 = .ok (.iload_n 1, 1) := by decide +kernel
theorem dX7_narrowed_40 : decode cX7_narrowed 40 = .ok (.ireturn, 1) := by decide +kernel
def wX7_narrowed (I : Nat → Int32) (L : Nat → Int64) (A : Nat → Nat → Int32) (B : Nat → Nat → Int64)  (post : Int32 → Prop) : Prop := ∃ n, lfix (fun (r : (Int32 × Int32) → Prop) (v2, v1) => if (I 3) ≤ v2 then (post v1) else (vp_in v2 5 ∧ (wX5_isOpen I L A B (9 + v2.toNatClampNeg + 5)  (fun r21 => if r21 = 0 then (∀ v1_1 : Int32, v1_1 = v1 ||| (1 <<< (v2 &&& 31)) → ∀ v2_2 : Int32, v2_2 = v2 + 1 → r (v2_2, v1_1)) else (∀ v2_1 : Int32, v2_1 = v2 + 1 → r (v2_1, v1)))))) n (0, 0)
abbrev rmX7_narrowed : Room := { frames := 1, cells := 0, slots := 0, locals := 20 }
theorem wd_X7_narrowed : Cond.instanceMethod yX7_narrowed ∈ BW ∧ Cond.selects yX7_narrowed.cls yX7_narrowed yX7_narrowed ∈ BW ∧ Cond.initialized yX7_narrowed.cls ∈ BW ∧ Cond.code yX7_narrowed cX7_narrowed 3 (some .int) ∈ BW := ⟨mw_4_32, mw_4_33, mw_1_5, mw_4_34⟩
set_option maxHeartbeats 4000000 in
set_option maxRecDepth 100000 in
theorem c_X7_narrowed {l : Launch} {D : va_G} {cy : Nat → ClassId} {ad : Nat → Nat} {Ad : Nat → Prop} (hAd : adok 103 Ad ad) (I : Nat → Int32) (L : Nat → Int64) (A : Nat → Nat → Int32) (B : Nat → Nat → Int64)   (post : Int32 → Prop) (h : wX7_narrowed I L A B  post) : Met l yX7_narrowed (.code yX7_narrowed cX7_narrowed 3 (some .int) :: BW) rmX7_narrowed (va_Pc [.ref (ad 3)] (fun U => kC D cy U ∧ va_P D vwCl (wC cy ad I L A B) U.heap)) (qCi D cy ad Ad (fun r u => post r  ∧ I = u.1 ∧ L = u.2.1 ∧ A = u.2.2.1 ∧ B = u.2.2.2)) 0 0 Ad := by
  refine startCi (by decide) (Nat.le_of_ble_eq_true rfl) (lv := [(0, .ref (ad 3))]) rfl (fun p e s m args below meth c Q ls hx hb hml hT hown hK hret hl hP hS => ?_)
  unfold wX7_narrowed at h
  refine lv_iconst (v := 0) hx hb dX7_narrowed_0 (by decide) ?_
  refine lv_istore_n (lv' := [(1, .int 0), (0, .ref (ad 3))]) hx hb dX7_narrowed_1 rfl hl (by decide) rfl (fun ls hl => ?_)
  refine lv_iconst (v := 0) hx hb dX7_narrowed_2 (by decide) ?_
  refine lv_istore_n (lv' := [(2, .int 0), (1, .int 0), (0, .ref (ad 3))]) hx hb dX7_narrowed_3 rfl hl (by decide) rfl (fun ls hl => ?_)
  obtain ⟨F, n, h, hF, hG⟩ := lfix_ex h
  have LP : ∀ (n : Nat) (v2 : Int32) (v1 : Int32) (ls : Array Slot) (H : Heap) (locs : List Loc), F n (v2, v1) → lv_has ls 3 [(2, .int v2), (1, .int v1), (0, .ref (ad 3))] → va_P D vwCl (wC cy ad I L A B) H → va_S Ad s.heap H locs → W p l e rmX7_narrowed s m args below meth c H locs 0 0 Q (F0 m 4 ls []) := by
    intro n
    induction n with
    | zero => intro v2 v1 ls H locs h _ _ _; exact absurd h (hF _)
    | succ n ih =>
      intro v2 v1 ls H locs h hl hP hS
      replace h := hG _ _ h
      try dsimp only at h
      refine lv_iload_n hx hb dX7_narrowed_4 rfl (lv_at hl 0 rfl) ?_
      refine lv_aload_n hx hb dX7_narrowed_5 rfl (lv_at hl 2 rfl) ?_
      refine va_get (T := TX7) hx hb hT inlX7 hown hK.1 hP 3 he_X7 rfl 4 (by decide) (hT _ mw_1_168) (fun _ h9 => h9) rfl dX7_narrowed_6 ?_
      refine lv_icmp_ge (tgt := 39) hx hb dX7_narrowed_9 (by decide) (fun hc => ?_) (fun hc => ?_)
      · rw [if_pos hc] at h
        refine lv_iload_n hx hb dX7_narrowed_39 rfl (lv_at hl 1 rfl) ?_
        exact hret _ (I, L, A, B) dX7_narrowed_40 ⟨h, rfl, rfl, rfl, rfl⟩ hP hS
      · rw [if_neg hc] at h
        refine lv_aload_n hx hb dX7_narrowed_12 rfl (lv_at hl 2 rfl) ?_
        refine va_get (T := TX7) hx hb hT inlX7 hown hK.1 hP 3 he_X7 rfl 2 (by decide) (hT _ mw_1_165) (fun _ h9 => h9) rfl dX7_narrowed_13 ?_
        refine lv_iload_n hx hb dX7_narrowed_16 rfl (lv_at hl 0 rfl) ?_
        obtain ⟨hi, h⟩ := h
        have hj := vp_lt hi
        refine lC_X hx hb hK.1 hP hi dX7_narrowed_17 ?_
        refine va_get (T := TX0) hx hb hT inlX0 hown hK.1 hP (9 + v2.toNatClampNeg) (he_X0 (by omega)) rfl 1 (by decide) (hT _ mw_1_147) (fun _ h9 => h9) rfl dX7_narrowed_18 ?_
        refine callCi (k := (9 + v2.toNatClampNeg + 5)) (As := []) (rest := []) (n := 0) (c_X5_isOpen hAd I L A B (9 + v2.toNatClampNeg + 5)  (by omega) _ h) hx hb hT hown hK hP hS mw_2_48 wd_X5_isOpen (by decide +kernel) ⟨rfl, rfl⟩ (by decide) rfl rfl (he_X5 (by omega)) rfl hl.1 hml rfl (Nat.le_of_ble_eq_true rfl) dX7_narrowed_21 ⟨Nat.zero_le _, Nat.zero_le _⟩ (fun r21 u H locs h hP hS => ?_)
        obtain ⟨Iu, Lu, Au, Bu⟩ := u
        dsimp only at h hP
        obtain ⟨h, rfl, rfl, rfl, rfl⟩ := h
        try dsimp only at h
        refine lv_if_ne (tgt := 33) hx hb dX7_narrowed_24 (by decide) (fun hc_1 => ?_) (fun hc_1 => ?_)
        · rw [if_neg hc_1] at h
          obtain ⟨v2_1, ev2_1⟩ : ∃ z : Int32, z = v2 + 1 := ⟨_, rfl⟩
          replace h := h v2_1 ev2_1
          refine lv_iinc (v := v2_1) (lv' := [(2, .int v2_1), (1, .int v1), (0, .ref (ad 3))]) hx hb dX7_narrowed_33 hl (k := 0) rfl (by rw [ev2_1]; rfl) (by decide) rfl (fun ls hl => ?_)
          refine lv_goto (tgt := 4) hx hb dX7_narrowed_36 (by decide) ?_
          exact ih v2_1 v1 _ _ _ h (lv_sub hl [0, 1, 2] rfl) hP hS
        · rw [if_pos hc_1] at h
          refine lv_iload_n hx hb dX7_narrowed_27 rfl (lv_at hl 1 rfl) ?_
          refine lv_iconst (v := 1) hx hb dX7_narrowed_28 (by decide) ?_
          refine lv_iload_n hx hb dX7_narrowed_29 rfl (lv_at hl 0 rfl) ?_
          refine lv_ishl hx hb dX7_narrowed_30 ?_
          refine lv_ior hx hb dX7_narrowed_31 ?_
          refine lv_topi (fun v1_1 ev1_1 => ?_)
          replace h := h v1_1 ev1_1
          refine lv_istore_n (lv' := [(1, .int v1_1), (2, .int v2), (0, .ref (ad 3))]) hx hb dX7_narrowed_32 rfl hl (by decide) rfl (fun ls hl => ?_)
          obtain ⟨v2_2, ev2_2⟩ : ∃ z : Int32, z = v2 + 1 := ⟨_, rfl⟩
          replace h := h v2_2 ev2_2
          refine lv_iinc (v := v2_2) (lv' := [(2, .int v2_2), (1, .int v1_1), (0, .ref (ad 3))]) hx hb dX7_narrowed_33 hl (k := 1) rfl (by rw [ev2_2]; rfl) (by decide) rfl (fun ls hl => ?_)
          refine lv_goto (tgt := 4) hx hb dX7_narrowed_36 (by decide) ?_
          exact ih v2_2 v1_1 _ _ _ h (lv_sub hl [0, 1, 2] rfl) hP hS
  exact LP _ 0 0 _ _ _ h (lv_sub hl [0, 1, 2] rfl) hP hS
theorem dX8_note_0 : decode cX8_note 0 = .ok (.aload_n 0, 1) := by decide +kernel
theorem dX8_note_1 : decode cX8_note 1 = .ok (.getfield 9, 3) := by decide +kernel
theorem dX8_note_4 : decode cX8_note 4 = .ok (.aload_n 0, 1) := by decide +kernel
theorem dX8_note_5 : decode cX8_note 5 = .ok (.getfield 22, 3) := by decide +kernel
theorem dX8_note_8 : decode cX8_note 8 = .ok (.iload_n 1, 1) := by decide +kernel
theorem dX8_note_9 : decode cX8_note 9 = .ok (.iastore, 1) := by decide +kernel
theorem dX8_note_10 : decode cX8_note 10 = .ok (.aload_n 0, 1) := by decide +kernel
theorem dX8_note_11 : decode cX8_note 11 = .ok (.getfield 17, 3) := by decide +kernel
theorem dX8_note_14 : decode cX8_note 14 = .ok (.aload_n 0, 1) := by decide +kernel
theorem dX8_note_15 : decode cX8_note 15 = .ok (.getfield 22, 3) := by decide +kernel
theorem dX8_note_18 : decode cX8_note 18 = .ok (.aaload, 1) := by decide +kernel
theorem dX8_note_19 : decode cX8_note 19 = .ok (.aload_n 2, 1) := by decide +kernel
theorem dX8_note_20 : decode cX8_note 20 = .ok (.invokevirtual 26, 3) := by decide +kernel
theorem dX8_note_23 : decode cX8_note 23 = .ok (.aload_n 0, 1) := by decide +kernel
theorem dX8_note_24 : decode cX8_note 24 = .ok (.aload_n 0, 1) := by decide +kernel
theorem dX8_note_25 : decode cX8_note 25 = .ok (.getfield 22, 3) := by decide +kernel
theorem dX8_note_28 : decode cX8_note 28 = .ok (.iconst 1, 1) := by decide +kernel
theorem dX8_note_29 : decode cX8_note 29 = .ok (.iadd, 1) := by decide +kernel
theorem dX8_note_30 : decode cX8_note 30 = .ok (.bipush 16, 2) := by decide +kernel
theorem dX8_note_32 : decode cX8_note 32 = .ok (.irem, 1) := by decide +kernel
theorem dX8_note_33 : decode cX8_note 33 = .ok (.putfield 22, 3) := by decide +kernel
theorem dX8_note_36 : decode cX8_note 36 = .ok (.aload_n 0, 1) := by decide +kernel
theorem dX8_note_37 : decode cX8_note 37 = .ok (.aload_n 0, 1) := by decide +kernel
theorem dX8_note_38 : decode cX8_note 38 = .ok (.getfield 30, 3) := by decide +kernel
theorem dX8_note_41 : decode cX8_note 41 = .ok (.iconst 1, 1) := by decide +kernel
theorem dX8_note_42 : decode cX8_note 42 = .ok (.iadd, 1) := by decide +kernel
theorem dX8_note_43 : decode cX8_note 43 = .ok (.bipush 16, 2) := by decide +kernel
theorem dX8_note_45 : decode cX8_note 45 = .ok (.invokestatic 33, 3) := by decide +kernel
theorem dX8_note_48 : decode cX8_note 48 = .ok (.putfield 30, 3) := by decide +kernel
theorem dX8_note_51 : decode cX8_note 51 = .ok (.return_, 1) := by decide +kernel
def wX8_note (I : Nat → Int32) (L : Nat → Int64) (A : Nat → Nat → Int32) (B : Nat → Nat → Int64) (x1 : Int32) (k2 : Nat) (post : (Nat → Int32) → (Nat → Int64) → (Nat → Nat → Int32) → Prop) : Prop := vp_in (I 0) 16 ∧ (∀ A_1, A_1 = va_up A 47 (upd (A 47) (I 0).toNatClampNeg x1) → vp_in (I 0) 16 ∧ (wX5_copy I L A_1 B (20 + (I 0).toNatClampNeg) k2 (fun I_1 L_1 A_2 => ¬ (16 : Int32) = 0 ∧ ((∀ I_2, I_2 = va_up I_1 0 (((I_1 0) + 1) - ((I_1 0) + 1) / 16 * 16) → ∀ r45 : Int32, r45 = (if 16 < ((I_2 4) + 1) then 16 else ((I_2 4) + 1)) → (∀ I_3, I_3 = va_up I_2 4 r45 → post I_3 L_1 A_2))))))
abbrev rmX8_note : Room := { frames := 1, cells := 0, slots := 0, locals := 22 }
theorem wd_X8_note : Cond.instanceMethod yX8_note ∈ BW ∧ Cond.selects yX8_note.cls yX8_note yX8_note ∈ BW ∧ Cond.initialized yX8_note.cls ∈ BW ∧ Cond.code yX8_note cX8_note 3 (none : Option Jvm.ClassFile.FieldType) ∈ BW := ⟨mw_2_227, mw_2_228, mw_1_8, mw_2_229⟩
set_option maxHeartbeats 4000000 in
set_option maxRecDepth 100000 in
theorem c_X8_note {l : Launch} {D : va_G} {cy : Nat → ClassId} {ad : Nat → Nat} {Ad : Nat → Prop} (hAd : adok 103 Ad ad) (I : Nat → Int32) (L : Nat → Int64) (A : Nat → Nat → Int32) (B : Nat → Nat → Int64) (x1 : Int32) (k2 : Nat) (hk2 : 14 ≤ k2 ∧ k2 < 36) (post : (Nat → Int32) → (Nat → Int64) → (Nat → Nat → Int32) → Prop) (h : wX8_note I L A B x1 k2 post) : Met l yX8_note (.code yX8_note cX8_note 3 (none : Option Jvm.ClassFile.FieldType) :: BW) rmX8_note (va_Pc [.ref (ad 4), .int x1, .ref (ad k2)] (fun U => kC D cy U ∧ va_P D vwCl (wC cy ad I L A B) U.heap)) (qCv D cy ad Ad (fun u => post u.1 u.2.1 u.2.2.1 ∧ B = u.2.2.2)) 0 0 Ad := by
  refine startCv (by decide) (Nat.le_of_ble_eq_true rfl) (lv := [(0, .ref (ad 4)), (1, .int x1), (2, .ref (ad k2))]) rfl (fun p e s m args below meth c Q ls hx hb hml hT hown hK hret hl hP hS => ?_)
  unfold wX8_note at h
  refine lv_aload_n hx hb dX8_note_0 rfl (lv_at hl 0 rfl) ?_
  refine va_get (T := TX8) hx hb hT inlX8 hown hK.1 hP 4 he_X8 rfl 0 (by decide) (hT _ mw_1_190) (fun _ h9 => h9) rfl dX8_note_1 ?_
  refine lv_aload_n hx hb dX8_note_4 rfl (lv_at hl 0 rfl) ?_
  refine va_get (T := TX8) hx hb hT inlX8 hown hK.1 hP 4 he_X8 rfl 2 (by decide) (hT _ mw_1_192) (fun _ h9 => h9) rfl dX8_note_5 ?_
  refine lv_iload_n hx hb dX8_note_8 rfl (lv_at hl 1 rfl) ?_
  obtain ⟨hi, h⟩ := h
  refine sC_I hAd hx hb hK.1 hP hS (by decide) (fun _ => rfl) hi dX8_note_9 (fun H locs hP hS => ?_)
  obtain ⟨A_1, eA_1⟩ : ∃ z, z = va_up A 47 (upd (A 47) (I 0).toNatClampNeg x1) := ⟨_, rfl⟩
  rw [← eA_1] at hP
  replace h := h A_1 eA_1
  refine lv_aload_n hx hb dX8_note_10 rfl (lv_at hl 0 rfl) ?_
  refine va_get (T := TX8) hx hb hT inlX8 hown hK.1 hP 4 he_X8 rfl 1 (by decide) (hT _ mw_1_191) (fun _ h9 => h9) rfl dX8_note_11 ?_
  refine lv_aload_n hx hb dX8_note_14 rfl (lv_at hl 0 rfl) ?_
  refine va_get (T := TX8) hx hb hT inlX8 hown hK.1 hP 4 he_X8 rfl 2 (by decide) (hT _ mw_1_192) (fun _ h9 => h9) rfl dX8_note_15 ?_
  obtain ⟨hi_1, h⟩ := h
  have hj := vp_lt hi_1
  refine lC_S hx hb hK.1 hP hi_1 dX8_note_18 ?_
  refine lv_aload_n hx hb dX8_note_19 rfl (lv_at hl 2 rfl) ?_
  refine callCv (k := (20 + (I 0).toNatClampNeg)) (As := [.ref (ad k2)]) (rest := []) (n := 1) (c_X5_copy hAd I L A_1 B (20 + (I 0).toNatClampNeg) k2 (by omega) (by omega) _ h) hx hb hT hown hK hP hS mw_2_230 wd_X5_copy (by decide +kernel) ⟨rfl, rfl⟩ (by decide) rfl rfl (he_X5 (by omega)) rfl hl.1 hml rfl (Nat.le_of_ble_eq_true rfl) dX8_note_20 ⟨Nat.zero_le _, Nat.zero_le _⟩ (fun u H locs h hP hS => ?_)
  obtain ⟨I_1, L_1, A_2, Bu⟩ := u
  dsimp only at h hP
  obtain ⟨h, rfl⟩ := h
  try dsimp only at h
  refine lv_aload_n hx hb dX8_note_23 rfl (lv_at hl 0 rfl) ?_
  refine lv_aload_n hx hb dX8_note_24 rfl (lv_at hl 0 rfl) ?_
  refine va_get (T := TX8) hx hb hT inlX8 hown hK.1 hP 4 he_X8 rfl 2 (by decide) (hT _ mw_1_192) (fun _ h9 => h9) rfl dX8_note_25 ?_
  refine lv_iconst (v := 1) hx hb dX8_note_28 (by decide) ?_
  refine lv_iadd hx hb dX8_note_29 ?_
  refine lv_bipush (v := 16) hx hb dX8_note_30 (by decide) ?_
  obtain ⟨hn, h⟩ := h
  refine lv_irem hx hb dX8_note_32 hn ?_
  refine pC_X8_next hAd hx hb hT hown hK.1 hP hS (hT _ mw_1_192) dX8_note_33 (fun H locs hP hS => ?_)
  obtain ⟨I_2, eI_2⟩ : ∃ z, z = va_up I_1 0 (((I_1 0) + 1) - ((I_1 0) + 1) / 16 * 16) := ⟨_, rfl⟩
  rw [← eI_2] at hP
  replace h := h I_2 eI_2
  refine lv_aload_n hx hb dX8_note_36 rfl (lv_at hl 0 rfl) ?_
  refine lv_aload_n hx hb dX8_note_37 rfl (lv_at hl 0 rfl) ?_
  refine va_get (T := TX8) hx hb hT inlX8 hown hK.1 hP 4 he_X8 rfl 3 (by decide) (hT _ mw_1_193) (fun _ h9 => h9) rfl dX8_note_38 ?_
  refine lv_iconst (v := 1) hx hb dX8_note_41 (by decide) ?_
  refine lv_iadd hx hb dX8_note_42 ?_
  refine lv_bipush (v := 16) hx hb dX8_note_43 (by decide) ?_
  refine va_mmin hx hb (by rw [hml]; exact hl.1.symm) hown (hT _ mw_2_234) (hT _ mw_2_235) (hT _ mw_1_12) (hT _ mw_2_236) (Nat.le_of_ble_eq_true rfl) (Nat.le_of_ble_eq_true rfl) (Nat.zero_le _) (Nat.zero_le _) dX8_note_45 ?_
  refine lv_topi (fun r45 er45 => ?_)
  replace h := h r45 er45
  refine pC_X8_size hAd hx hb hT hown hK.1 hP hS (hT _ mw_1_193) dX8_note_48 (fun H locs hP hS => ?_)
  obtain ⟨I_3, eI_3⟩ : ∃ z, z = va_up I_2 4 r45 := ⟨_, rfl⟩
  rw [← eI_3] at hP
  replace h := h I_3 eI_3
  exact hret (I_3, L_1, A_2, B) dX8_note_51 ⟨h, rfl⟩ hP hS
theorem dX8_takeBack_0 : decode cX8_takeBack 0 = .ok (.aload_n 0, 1) := by decide +kernel
theorem dX8_takeBack_1 : decode cX8_takeBack 1 = .ok (.aload_n 0, 1) := by decide +kernel
theorem dX8_takeBack_2 : decode cX8_takeBack 2 = .ok (.getfield 22, 3) := by decide +kernel
theorem dX8_takeBack_5 : decode cX8_takeBack 5 = .ok (.bipush 16, 2) := by decide +kernel
theorem dX8_takeBack_7 : decode cX8_takeBack 7 = .ok (.iadd, 1) := by decide +kernel
theorem dX8_takeBack_8 : decode cX8_takeBack 8 = .ok (.iconst 1, 1) := by decide +kernel
theorem dX8_takeBack_9 : decode cX8_takeBack 9 = .ok (.isub, 1) := by decide +kernel
theorem dX8_takeBack_10 : decode cX8_takeBack 10 = .ok (.bipush 16, 2) := by decide +kernel
theorem dX8_takeBack_12 : decode cX8_takeBack 12 = .ok (.irem, 1) := by decide +kernel
theorem dX8_takeBack_13 : decode cX8_takeBack 13 = .ok (.putfield 22, 3) := by decide +kernel
theorem dX8_takeBack_16 : decode cX8_takeBack 16 = .ok (.aload_n 0, 1) := by decide +kernel
theorem dX8_takeBack_17 : decode cX8_takeBack 17 = .ok (.dup, 1) := by decide +kernel
theorem dX8_takeBack_18 : decode cX8_takeBack 18 = .ok (.getfield 30, 3) := by decide +kernel
theorem dX8_takeBack_21 : decode cX8_takeBack 21 = .ok (.iconst 1, 1) := by decide +kernel
theorem dX8_takeBack_22 : decode cX8_takeBack 22 = .ok (.isub, 1) := by decide +kernel
theorem dX8_takeBack_23 : decode cX8_takeBack 23 = .ok (.putfield 30, 3) := by decide +kernel
theorem dX8_takeBack_26 : decode cX8_takeBack 26 = .ok (.aload_n 1, 1) := by decide +kernel
theorem dX8_takeBack_27 : decode cX8_takeBack 27 = .ok (.aload_n 0, 1) := by decide +kernel
theorem dX8_takeBack_28 : decode cX8_takeBack 28 = .ok (.getfield 9, 3) := by decide +kernel
theorem dX8_takeBack_31 : decode cX8_takeBack 31 = .ok (.aload_n 0, 1) := by decide +kernel
theorem dX8_takeBack_32 : decode cX8_takeBack 32 = .ok (.getfield 22, 3) := by decide +kernel
theorem dX8_takeBack_35 : decode cX8_takeBack 35 = .ok (.iaload, 1) := by decide +kernel
theorem dX8_takeBack_36 : decode cX8_takeBack 36 = .ok (.aaload, 1) := by decide +kernel
theorem dX8_takeBack_37 : decode cX8_takeBack 37 = .ok (.getfield 39, 3) := by decide +kernel
theorem dX8_takeBack_40 : decode cX8_takeBack 40 = .ok (.aload_n 0, 1) := by decide +kernel
theorem dX8_takeBack_41 : decode cX8_takeBack 41 = .ok (.getfield 17, 3) := by decide +kernel
theorem dX8_takeBack_44 : decode cX8_takeBack 44 = .ok (.aload_n 0, 1) := by decide +kernel
theorem dX8_takeBack_45 : decode cX8_takeBack 45 = .ok (.getfield 22, 3) := by decide +kernel
theorem dX8_takeBack_48 : decode cX8_takeBack 48 = .ok (.aaload, 1) := by decide +kernel
theorem dX8_takeBack_49 : decode cX8_takeBack 49 = .ok (.invokevirtual 26, 3) := by decide +kernel
theorem dX8_takeBack_52 : decode cX8_takeBack 52 = .ok (.return_, 1) := by decide +kernel
def wX8_takeBack (I : Nat → Int32) (L : Nat → Int64) (A : Nat → Nat → Int32) (B : Nat → Nat → Int64)  (post : (Nat → Int32) → (Nat → Int64) → (Nat → Nat → Int32) → Prop) : Prop := ¬ (16 : Int32) = 0 ∧ ((∀ I_1, I_1 = va_up I 0 ((((I 0) + 16) - 1) - (((I 0) + 16) - 1) / 16 * 16) → (∀ I_2, I_2 = va_up I_1 4 ((I_1 4) - 1) → vp_in (I_2 0) 16 ∧ (vp_in (A 47 (I_2 0).toNatClampNeg) 5 ∧ (vp_in (I_2 0) 16 ∧ (wX5_copy I_2 L A B (9 + (A 47 (I_2 0).toNatClampNeg).toNatClampNeg + 5) (20 + (I_2 0).toNatClampNeg) (fun I_3 L_1 A_1 => post I_3 L_1 A_1)))))))
abbrev rmX8_takeBack : Room := { frames := 1, cells := 0, slots := 0, locals := 22 }
theorem wd_X8_takeBack : Cond.instanceMethod yX8_takeBack ∈ BW ∧ Cond.selects yX8_takeBack.cls yX8_takeBack yX8_takeBack ∈ BW ∧ Cond.initialized yX8_takeBack.cls ∈ BW ∧ Cond.code yX8_takeBack cX8_takeBack 2 (none : Option Jvm.ClassFile.FieldType) ∈ BW := ⟨mw_3_32, mw_3_33, mw_1_8, mw_3_34⟩
set_option maxHeartbeats 4000000 in
set_option maxRecDepth 100000 in
theorem c_X8_takeBack {l : Launch} {D : va_G} {cy : Nat → ClassId} {ad : Nat → Nat} {Ad : Nat → Prop} (hAd : adok 103 Ad ad) (I : Nat → Int32) (L : Nat → Int64) (A : Nat → Nat → Int32) (B : Nat → Nat → Int64)   (post : (Nat → Int32) → (Nat → Int64) → (Nat → Nat → Int32) → Prop) (h : wX8_takeBack I L A B  post) : Met l yX8_takeBack (.code yX8_takeBack cX8_takeBack 2 (none : Option Jvm.ClassFile.FieldType) :: BW) rmX8_takeBack (va_Pc [.ref (ad 4), .ref (ad 45)] (fun U => kC D cy U ∧ va_P D vwCl (wC cy ad I L A B) U.heap)) (qCv D cy ad Ad (fun u => post u.1 u.2.1 u.2.2.1 ∧ B = u.2.2.2)) 0 0 Ad := by
  refine startCv (by decide) (Nat.le_of_ble_eq_true rfl) (lv := [(0, .ref (ad 4)), (1, .ref (ad 45))]) rfl (fun p e s m args below meth c Q ls hx hb hml hT hown hK hret hl hP hS => ?_)
  unfold wX8_takeBack at h
  refine lv_aload_n hx hb dX8_takeBack_0 rfl (lv_at hl 0 rfl) ?_
  refine lv_aload_n hx hb dX8_takeBack_1 rfl (lv_at hl 0 rfl) ?_
  refine va_get (T := TX8) hx hb hT inlX8 hown hK.1 hP 4 he_X8 rfl 2 (by decide) (hT _ mw_1_192) (fun _ h9 => h9) rfl dX8_takeBack_2 ?_
  refine lv_bipush (v := 16) hx hb dX8_takeBack_5 (by decide) ?_
  refine lv_iadd hx hb dX8_takeBack_7 ?_
  refine lv_iconst (v := 1) hx hb dX8_takeBack_8 (by decide) ?_
  refine lv_isub hx hb dX8_takeBack_9 ?_
  refine lv_bipush (v := 16) hx hb dX8_takeBack_10 (by decide) ?_
  obtain ⟨hn, h⟩ := h
  refine lv_irem hx hb dX8_takeBack_12 hn ?_
  refine pC_X8_next hAd hx hb hT hown hK.1 hP hS (hT _ mw_1_192) dX8_takeBack_13 (fun H locs hP hS => ?_)
  obtain ⟨I_1, eI_1⟩ : ∃ z, z = va_up I 0 ((((I 0) + 16) - 1) - (((I 0) + 16) - 1) / 16 * 16) := ⟨_, rfl⟩
  rw [← eI_1] at hP
  replace h := h I_1 eI_1
  refine lv_aload_n hx hb dX8_takeBack_16 rfl (lv_at hl 0 rfl) ?_
  refine lv_dup hx hb dX8_takeBack_17 rfl ?_
  refine va_get (T := TX8) hx hb hT inlX8 hown hK.1 hP 4 he_X8 rfl 3 (by decide) (hT _ mw_1_193) (fun _ h9 => h9) rfl dX8_takeBack_18 ?_
  refine lv_iconst (v := 1) hx hb dX8_takeBack_21 (by decide) ?_
  refine lv_isub hx hb dX8_takeBack_22 ?_
  refine pC_X8_size hAd hx hb hT hown hK.1 hP hS (hT _ mw_1_193) dX8_takeBack_23 (fun H locs hP hS => ?_)
  obtain ⟨I_2, eI_2⟩ : ∃ z, z = va_up I_1 4 ((I_1 4) - 1) := ⟨_, rfl⟩
  rw [← eI_2] at hP
  replace h := h I_2 eI_2
  refine lv_aload_n hx hb dX8_takeBack_26 rfl (lv_at hl 1 rfl) ?_
  refine lv_aload_n hx hb dX8_takeBack_27 rfl (lv_at hl 0 rfl) ?_
  refine va_get (T := TX8) hx hb hT inlX8 hown hK.1 hP 4 he_X8 rfl 0 (by decide) (hT _ mw_1_190) (fun _ h9 => h9) rfl dX8_takeBack_28 ?_
  refine lv_aload_n hx hb dX8_takeBack_31 rfl (lv_at hl 0 rfl) ?_
  refine va_get (T := TX8) hx hb hT inlX8 hown hK.1 hP 4 he_X8 rfl 2 (by decide) (hT _ mw_1_192) (fun _ h9 => h9) rfl dX8_takeBack_32 ?_
  obtain ⟨hi, h⟩ := h
  refine lC_I hx hb hK.1 hP (by decide) rfl hi dX8_takeBack_35 ?_
  obtain ⟨hi_1, h⟩ := h
  have hj := vp_lt hi_1
  refine lC_X hx hb hK.1 hP hi_1 dX8_takeBack_36 ?_
  refine va_get (T := TX0) hx hb hT inlX0 hown hK.1 hP (9 + (A 47 (I_2 0).toNatClampNeg).toNatClampNeg) (he_X0 (by omega)) rfl 1 (by decide) (hT _ mw_1_146) (fun _ h9 => h9) rfl dX8_takeBack_37 ?_
  refine lv_aload_n hx hb dX8_takeBack_40 rfl (lv_at hl 0 rfl) ?_
  refine va_get (T := TX8) hx hb hT inlX8 hown hK.1 hP 4 he_X8 rfl 1 (by decide) (hT _ mw_1_191) (fun _ h9 => h9) rfl dX8_takeBack_41 ?_
  refine lv_aload_n hx hb dX8_takeBack_44 rfl (lv_at hl 0 rfl) ?_
  refine va_get (T := TX8) hx hb hT inlX8 hown hK.1 hP 4 he_X8 rfl 2 (by decide) (hT _ mw_1_192) (fun _ h9 => h9) rfl dX8_takeBack_45 ?_
  obtain ⟨hi_2, h⟩ := h
  have hj_1 := vp_lt hi_2
  refine lC_S hx hb hK.1 hP hi_2 dX8_takeBack_48 ?_
  refine callCv (k := (9 + (A 47 (I_2 0).toNatClampNeg).toNatClampNeg + 5)) (As := [.ref (ad (20 + (I_2 0).toNatClampNeg))]) (rest := []) (n := 1) (c_X5_copy hAd I_2 L A B (9 + (A 47 (I_2 0).toNatClampNeg).toNatClampNeg + 5) (20 + (I_2 0).toNatClampNeg) (by omega) (by omega) _ h) hx hb hT hown hK hP hS mw_2_230 wd_X5_copy (by decide +kernel) ⟨rfl, rfl⟩ (by decide) rfl rfl (he_X5 (by omega)) rfl hl.1 hml rfl (Nat.le_of_ble_eq_true rfl) dX8_takeBack_49 ⟨Nat.zero_le _, Nat.zero_le _⟩ (fun u H locs h hP hS => ?_)
  obtain ⟨I_3, L_1, A_1, Bu⟩ := u
  dsimp only at h hP
  obtain ⟨h, rfl⟩ := h
  try dsimp only at h
  exact hret (I_3, L_1, A_1, B) dX8_takeBack_52 ⟨h, rfl⟩ hP hS
theorem dX9_axis_0 : decode cX9_axis 0 = .ok (.iload_n 1, 1) := by decide +kernel
theorem dX9_axis_1 : decode cX9_axis 1 = .ok (.ifCond .lt 19, 3) := by decide +kernel
theorem dX9_axis_4 : decode cX9_axis 4 = .ok (.iload_n 1, 1) := by decide +kernel
theorem dX9_axis_5 : decode cX9_axis 5 = .ok (.iconst 2, 1) := by decide +kernel
theorem dX9_axis_6 : decode cX9_axis 6 = .ok (.if_icmp .gt 14, 3) := by decide +kernel
theorem dX9_axis_9 : decode cX9_axis 9 = .ok (.aload_n 0, 1) := by decide +kernel
theorem dX9_axis_10 : decode cX9_axis 10 = .ok (.getfield 28, 3) := by decide +kernel
theorem dX9_axis_13 : decode cX9_axis 13 = .ok (.getfield 69, 3) := by decide +kernel
theorem dX9_axis_16 : decode cX9_axis 16 = .ok (.iconst 5, 1) := by decide +kernel
theorem dX9_axis_17 : decode cX9_axis 17 = .ok (.if_icmp .lt 5, 3) := by decide +kernel
theorem dX9_axis_20 : decode cX9_axis 20 = .ok (.iconst (-1), 1) := by decide +kernel
theorem dX9_axis_21 : decode cX9_axis 21 = .ok (.ireturn, 1) := by decide +kernel
theorem dX9_axis_22 : decode cX9_axis 22 = .ok (.aload_n 0, 1) := by decide +kernel
theorem dX9_axis_23 : decode cX9_axis 23 = .ok (.getfield 28, 3) := by decide +kernel
theorem dX9_axis_26 : decode cX9_axis 26 = .ok (.iload_n 1, 1) := by decide +kernel
theorem dX9_axis_27 : decode cX9_axis 27 = .ok (.invokevirtual 73, 3) := by decide +kernel
theorem dX9_axis_30 : decode cX9_axis 30 = .ok (.ireturn, 1) := by decide +kernel
def wX9_axis (I : Nat → Int32) (L : Nat → Int64) (A : Nat → Nat → Int32) (B : Nat → Nat → Int64) (x1 : Int32) (post : Int32 → (Nat → Int32) → (Nat → Nat → Int64) → Prop) : Prop := if x1 < 0 then (post (-1) I B) else (if 2 < x1 then (post (-1) I B) else (if (I 3) < 5 then (wX7_addAxis I L A B x1 (fun r27 I_1 B_1 => post r27 I_1 B_1)) else (post (-1) I B)))
abbrev rmX9_axis : Room := { frames := 5, cells := 0, slots := 0, locals := 116 }
theorem wd_X9_axis : Cond.instanceMethod yX9_axis ∈ BW ∧ Cond.selects yX9_axis.cls yX9_axis yX9_axis ∈ BW ∧ Cond.initialized yX9_axis.cls ∈ BW ∧ Cond.code yX9_axis cX9_axis 2 (some .int) ∈ BW := ⟨mw_2_33, mw_2_34, mw_1_1, mw_2_35⟩
set_option maxHeartbeats 4000000 in
set_option maxRecDepth 100000 in
theorem c_X9_axis {l : Launch} {D : va_G} {cy : Nat → ClassId} {ad : Nat → Nat} {Ad : Nat → Prop} (hAd : adok 103 Ad ad) (I : Nat → Int32) (L : Nat → Int64) (A : Nat → Nat → Int32) (B : Nat → Nat → Int64) (x1 : Int32)  (post : Int32 → (Nat → Int32) → (Nat → Nat → Int64) → Prop) (h : wX9_axis I L A B x1 post) : Met l yX9_axis (.code yX9_axis cX9_axis 2 (some .int) :: BW) rmX9_axis (va_Pc [.ref (ad 0), .int x1] (fun U => kC D cy U ∧ va_P D vwCl (wC cy ad I L A B) U.heap)) (qCi D cy ad Ad (fun r u => post r u.1 u.2.2.2 ∧ L = u.2.1 ∧ A = u.2.2.1)) 0 0 Ad := by
  refine startCi (by decide) (Nat.le_of_ble_eq_true rfl) (lv := [(0, .ref (ad 0)), (1, .int x1)]) rfl (fun p e s m args below meth c Q ls hx hb hml hT hown hK hret hl hP hS => ?_)
  unfold wX9_axis at h
  refine lv_iload_n hx hb dX9_axis_0 rfl (lv_at hl 1 rfl) ?_
  refine lv_if_lt (tgt := 20) hx hb dX9_axis_1 (by decide) (fun hc => ?_) (fun hc => ?_)
  · rw [if_pos hc] at h
    refine lv_iconst (v := (-1)) hx hb dX9_axis_20 (by decide) ?_
    exact hret _ (I, L, A, B) dX9_axis_21 ⟨h, rfl, rfl⟩ hP hS
  · rw [if_neg hc] at h
    refine lv_iload_n hx hb dX9_axis_4 rfl (lv_at hl 1 rfl) ?_
    refine lv_iconst (v := 2) hx hb dX9_axis_5 (by decide) ?_
    refine lv_icmp_gt (tgt := 20) hx hb dX9_axis_6 (by decide) (fun hc_1 => ?_) (fun hc_1 => ?_)
    · rw [if_pos hc_1] at h
      refine lv_iconst (v := (-1)) hx hb dX9_axis_20 (by decide) ?_
      exact hret _ (I, L, A, B) dX9_axis_21 ⟨h, rfl, rfl⟩ hP hS
    · rw [if_neg hc_1] at h
      refine lv_aload_n hx hb dX9_axis_9 rfl (lv_at hl 0 rfl) ?_
      refine va_get (T := TX9) hx hb hT inlX9 hown hK.1 hP 0 he_X9 rfl 2 (by decide) (hT _ mw_2_9) (fun _ h9 => h9) rfl dX9_axis_10 ?_
      refine va_get (T := TX7) hx hb hT inlX7 hown hK.1 hP 3 he_X7 rfl 4 (by decide) (hT _ mw_1_169) (fun _ h9 => h9) rfl dX9_axis_13 ?_
      refine lv_iconst (v := 5) hx hb dX9_axis_16 (by decide) ?_
      refine lv_icmp_lt (tgt := 22) hx hb dX9_axis_17 (by decide) (fun hc_2 => ?_) (fun hc_2 => ?_)
      · rw [if_pos hc_2] at h
        refine lv_aload_n hx hb dX9_axis_22 rfl (lv_at hl 0 rfl) ?_
        refine va_get (T := TX9) hx hb hT inlX9 hown hK.1 hP 0 he_X9 rfl 2 (by decide) (hT _ mw_2_9) (fun _ h9 => h9) rfl dX9_axis_23 ?_
        refine lv_iload_n hx hb dX9_axis_26 rfl (lv_at hl 1 rfl) ?_
        refine callCi (k := 3) (As := [.int x1]) (rest := []) (n := 1) (c_X7_addAxis hAd I L A B x1 _ h) hx hb hT hown hK hP hS mw_2_36 wd_X7_addAxis (by decide +kernel) ⟨rfl, rfl⟩ (by decide) rfl rfl he_X7 rfl hl.1 hml rfl (Nat.le_of_ble_eq_true rfl) dX9_axis_27 ⟨Nat.zero_le _, Nat.zero_le _⟩ (fun r27 u H locs h hP hS => ?_)
        obtain ⟨I_1, Lu, Au, B_1⟩ := u
        dsimp only at h hP
        obtain ⟨h, rfl, rfl⟩ := h
        try dsimp only at h
        exact hret _ (I_1, L, A, B_1) dX9_axis_30 ⟨h, rfl, rfl⟩ hP hS
      · rw [if_neg hc_2] at h
        refine lv_iconst (v := (-1)) hx hb dX9_axis_20 (by decide) ?_
        exact hret _ (I, L, A, B) dX9_axis_21 ⟨h, rfl, rfl⟩ hP hS
theorem dX9_canStandBelow_0 : decode cX9_canStandBelow 0 = .ok (.iload_n 2, 1) := by decide +kernel
theorem dX9_canStandBelow_1 : decode cX9_canStandBelow 1 = .ok (.iconst (-1), 1) := by decide +kernel
theorem dX9_canStandBelow_2 : decode cX9_canStandBelow 2 = .ok (.if_icmp .eq 27, 3) := by decide +kernel
theorem dX9_canStandBelow_5 : decode cX9_canStandBelow 5 = .ok (.aload_n 0, 1) := by decide +kernel
theorem dX9_canStandBelow_6 : decode cX9_canStandBelow 6 = .ok (.getfield 10, 3) := by decide +kernel
theorem dX9_canStandBelow_9 : decode cX9_canStandBelow 9 = .ok (.iload_n 2, 1) := by decide +kernel
theorem dX9_canStandBelow_10 : decode cX9_canStandBelow 10 = .ok (.invokevirtual 93, 3) := by decide +kernel
theorem dX9_canStandBelow_13 : decode cX9_canStandBelow 13 = .ok (.ifCond .eq 20, 3) := by decide +kernel
theorem dX9_canStandBelow_16 : decode cX9_canStandBelow 16 = .ok (.aload_n 0, 1) := by decide +kernel
theorem dX9_canStandBelow_17 : decode cX9_canStandBelow 17 = .ok (.getfield 10, 3) := by decide +kernel
theorem dX9_canStandBelow_20 : decode cX9_canStandBelow 20 = .ok (.getfield 96, 3) := by decide +kernel
theorem dX9_canStandBelow_23 : decode cX9_canStandBelow 23 = .ok (.iload_n 2, 1) := by decide +kernel
theorem dX9_canStandBelow_24 : decode cX9_canStandBelow 24 = .ok (.iaload, 1) := by decide +kernel
theorem dX9_canStandBelow_25 : decode cX9_canStandBelow 25 = .ok (.iload_n 1, 1) := by decide +kernel
theorem dX9_canStandBelow_26 : decode cX9_canStandBelow 26 = .ok (.if_icmp .ne 7, 3) := by decide +kernel
theorem dX9_canStandBelow_29 : decode cX9_canStandBelow 29 = .ok (.iconst 1, 1) := by decide +kernel
theorem dX9_canStandBelow_30 : decode cX9_canStandBelow 30 = .ok (.goto 4, 3) := by decide +kernel
theorem dX9_canStandBelow_33 : decode cX9_canStandBelow 33 = .ok (.iconst 0, 1) := by decide +kernel
theorem dX9_canStandBelow_34 : decode cX9_canStandBelow 34 = .ok (.ireturn, 1) := by decide +kernel
def wX9_canStandBelow (I : Nat → Int32) (L : Nat → Int64) (A : Nat → Nat → Int32) (B : Nat → Nat → Int64) (x1 : Int32) (x2 : Int32) (post : Int32 → Prop) : Prop := if x2 = (-1) then (post 1) else (wX2_knows I L A B x2 (fun r10 => if r10 = 0 then (post 0) else (vp_in x2 40 ∧ (if (A 36 x2.toNatClampNeg) = x1 then (post 1) else (post 0)))))
abbrev rmX9_canStandBelow : Room := { frames := 1, cells := 0, slots := 0, locals := 21 }
theorem wd_X9_canStandBelow : Cond.instanceMethod yX9_canStandBelow ∈ BW ∧ Cond.selects yX9_canStandBelow.cls yX9_canStandBelow yX9_canStandBelow ∈ BW ∧ Cond.initialized yX9_canStandBelow.cls ∈ BW ∧ Cond.code yX9_canStandBelow cX9_canStandBelow 3 (some .boolean) ∈ BW := ⟨mw_2_99, mp_1, mw_1_1, mw_2_100⟩
set_option maxHeartbeats 4000000 in
set_option maxRecDepth 100000 in
theorem c_X9_canStandBelow {l : Launch} {D : va_G} {cy : Nat → ClassId} {ad : Nat → Nat} {Ad : Nat → Prop} (hAd : adok 103 Ad ad) (I : Nat → Int32) (L : Nat → Int64) (A : Nat → Nat → Int32) (B : Nat → Nat → Int64) (x1 : Int32) (x2 : Int32)  (post : Int32 → Prop) (h : wX9_canStandBelow I L A B x1 x2 post) : Met l yX9_canStandBelow (.code yX9_canStandBelow cX9_canStandBelow 3 (some .boolean) :: BW) rmX9_canStandBelow (va_Pc [.ref (ad 0), .int x1, .int x2] (fun U => kC D cy U ∧ va_P D vwCl (wC cy ad I L A B) U.heap)) (qCi D cy ad Ad (fun r u => post r  ∧ I = u.1 ∧ L = u.2.1 ∧ A = u.2.2.1 ∧ B = u.2.2.2)) 0 0 Ad := by
  refine startCz (by decide) (Nat.le_of_ble_eq_true rfl) (lv := [(0, .ref (ad 0)), (1, .int x1), (2, .int x2)]) rfl (fun p e s m args below meth c Q ls hx hb hml hT hown hK hret hl hP hS => ?_)
  unfold wX9_canStandBelow at h
  refine lv_iload_n hx hb dX9_canStandBelow_0 rfl (lv_at hl 2 rfl) ?_
  refine lv_iconst (v := (-1)) hx hb dX9_canStandBelow_1 (by decide) ?_
  refine lv_icmp_eq (tgt := 29) hx hb dX9_canStandBelow_2 (by decide) (fun hc => ?_) (fun hc => ?_)
  · rw [if_pos hc] at h
    refine lv_iconst (v := 1) hx hb dX9_canStandBelow_29 (by decide) ?_
    refine lv_goto (tgt := 34) hx hb dX9_canStandBelow_30 (by decide) ?_
    exact hret _ (I, L, A, B) zb_1 dX9_canStandBelow_34 ⟨h, rfl, rfl, rfl, rfl⟩ hP hS
  · rw [if_neg hc] at h
    refine lv_aload_n hx hb dX9_canStandBelow_5 rfl (lv_at hl 0 rfl) ?_
    refine va_get (T := TX9) hx hb hT inlX9 hown hK.1 hP 0 he_X9 rfl 0 (by decide) (hT _ mw_2_7) (fun _ h9 => h9) rfl dX9_canStandBelow_6 ?_
    refine lv_iload_n hx hb dX9_canStandBelow_9 rfl (lv_at hl 2 rfl) ?_
    refine callCi (k := 1) (As := [.int x2]) (rest := []) (n := 1) (c_X2_knows hAd I L A B x2 _ h) hx hb hT hown hK hP hS mw_2_101 wd_X2_knows (by decide +kernel) ⟨rfl, rfl⟩ (by decide) rfl rfl he_X2 rfl hl.1 hml rfl (Nat.le_of_ble_eq_true rfl) dX9_canStandBelow_10 ⟨Nat.zero_le _, Nat.zero_le _⟩ (fun r10 u H locs h hP hS => ?_)
    obtain ⟨Iu, Lu, Au, Bu⟩ := u
    dsimp only at h hP
    obtain ⟨h, rfl, rfl, rfl, rfl⟩ := h
    try dsimp only at h
    refine lv_if_eq (tgt := 33) hx hb dX9_canStandBelow_13 (by decide) (fun hc_1 => ?_) (fun hc_1 => ?_)
    · rw [if_pos hc_1] at h
      refine lv_iconst (v := 0) hx hb dX9_canStandBelow_33 (by decide) ?_
      exact hret _ (I, L, A, B) zb_0 dX9_canStandBelow_34 ⟨h, rfl, rfl, rfl, rfl⟩ hP hS
    · rw [if_neg hc_1] at h
      refine lv_aload_n hx hb dX9_canStandBelow_16 rfl (lv_at hl 0 rfl) ?_
      refine va_get (T := TX9) hx hb hT inlX9 hown hK.1 hP 0 he_X9 rfl 0 (by decide) (hT _ mw_2_7) (fun _ h9 => h9) rfl dX9_canStandBelow_17 ?_
      refine va_get (T := TX2) hx hb hT inlX2 hown hK.1 hP 1 he_X2 rfl 0 (by decide) (hT _ mw_1_34) (fun _ h9 => h9) rfl dX9_canStandBelow_20 ?_
      refine lv_iload_n hx hb dX9_canStandBelow_23 rfl (lv_at hl 2 rfl) ?_
      obtain ⟨hi, h⟩ := h
      refine lC_I hx hb hK.1 hP (by decide) rfl hi dX9_canStandBelow_24 ?_
      refine lv_iload_n hx hb dX9_canStandBelow_25 rfl (lv_at hl 1 rfl) ?_
      refine lv_icmp_ne (tgt := 33) hx hb dX9_canStandBelow_26 (by decide) (fun hc_2 => ?_) (fun hc_2 => ?_)
      · rw [if_neg hc_2] at h
        refine lv_iconst (v := 0) hx hb dX9_canStandBelow_33 (by decide) ?_
        exact hret _ (I, L, A, B) zb_0 dX9_canStandBelow_34 ⟨h, rfl, rfl, rfl, rfl⟩ hP hS
      · rw [if_pos hc_2] at h
        refine lv_iconst (v := 1) hx hb dX9_canStandBelow_29 (by decide) ?_
        refine lv_goto (tgt := 34) hx hb dX9_canStandBelow_30 (by decide) ?_
        exact hret _ (I, L, A, B) zb_1 dX9_canStandBelow_34 ⟨h, rfl, rfl, rfl, rfl⟩ hP hS
theorem dX9_category_0 : decode cX9_category 0 = .ok (.aload_n 0, 1) := by decide +kernel
theorem dX9_category_1 : decode cX9_category 1 = .ok (.getfield 28, 3) := by decide +kernel
theorem dX9_category_4 : decode cX9_category 4 = .ok (.iload_n 1, 1) := by decide +kernel
theorem dX9_category_5 : decode cX9_category 5 = .ok (.invokevirtual 77, 3) := by decide +kernel
theorem dX9_category_8 : decode cX9_category 8 = .ok (.ifCond .eq 24, 3) := by decide +kernel
theorem dX9_category_11 : decode cX9_category 11 = .ok (.aload_n 0, 1) := by decide +kernel
theorem dX9_category_12 : decode cX9_category 12 = .ok (.getfield 10, 3) := by decide +kernel
theorem dX9_category_15 : decode cX9_category 15 = .ok (.getfield 81, 3) := by decide +kernel
theorem dX9_category_18 : decode cX9_category 18 = .ok (.bipush 40, 2) := by decide +kernel
theorem dX9_category_20 : decode cX9_category 20 = .ok (.if_icmp .ge 12, 3) := by decide +kernel
theorem dX9_category_23 : decode cX9_category 23 = .ok (.aload_n 0, 1) := by decide +kernel
theorem dX9_category_24 : decode cX9_category 24 = .ok (.iload_n 1, 1) := by decide +kernel
theorem dX9_category_25 : decode cX9_category 25 = .ok (.iload_n 2, 1) := by decide +kernel
theorem dX9_category_26 : decode cX9_category 26 = .ok (.invokevirtual 82, 3) := by decide +kernel
theorem dX9_category_29 : decode cX9_category 29 = .ok (.ifCond .ne 5, 3) := by decide +kernel
theorem dX9_category_32 : decode cX9_category 32 = .ok (.iconst (-1), 1) := by decide +kernel
theorem dX9_category_33 : decode cX9_category 33 = .ok (.ireturn, 1) := by decide +kernel
theorem dX9_category_34 : decode cX9_category 34 = .ok (.aload_n 0, 1) := by decide +kernel
theorem dX9_category_35 : decode cX9_category 35 = .ok (.getfield 10, 3) := by decide +kernel
theorem dX9_category_38 : decode cX9_category 38 = .ok (.iload_n 2, 1) := by decide +kernel
theorem dX9_category_39 : decode cX9_category 39 = .ok (.invokevirtual 86, 3) := by decide +kernel
theorem dX9_category_42 : decode cX9_category 42 = .ok (.iconst 5, 1) := by decide +kernel
theorem dX9_category_43 : decode cX9_category 43 = .ok (.if_icmp .le 5, 3) := by decide +kernel
theorem dX9_category_46 : decode cX9_category 46 = .ok (.iconst (-1), 1) := by decide +kernel
theorem dX9_category_47 : decode cX9_category 47 = .ok (.ireturn, 1) := by decide +kernel
theorem dX9_category_48 : decode cX9_category 48 = .ok (.aload_n 0, 1) := by decide +kernel
theorem dX9_category_49 : decode cX9_category 49 = .ok (.getfield 10, 3) := by decide +kernel
theorem dX9_category_52 : decode cX9_category 52 = .ok (.iload_n 1, 1) := by decide +kernel
theorem dX9_category_53 : decode cX9_category 53 = .ok (.iload_n 2, 1) := by decide +kernel
theorem dX9_category_54 : decode cX9_category 54 = .ok (.invokevirtual 89, 3) := by decide +kernel
theorem dX9_category_57 : decode cX9_category 57 = .ok (.ireturn, 1) := by decide +kernel
def wX9_category (I : Nat → Int32) (L : Nat → Int64) (A : Nat → Nat → Int32) (B : Nat → Nat → Int64) (x1 : Int32) (x2 : Int32) (post : Int32 → (Nat → Int32) → (Nat → Nat → Int32) → (Nat → Nat → Int64) → Prop) : Prop := wX7_isTree I L A B x1 (fun r5 => if r5 = 0 then (post (-1) I A B) else (if 40 ≤ (I 1) then (post (-1) I A B) else (wX9_canStandBelow I L A B x1 x2 (fun r26 => if r26 = 0 then (post (-1) I A B) else (wX2_levelBelow I L A B x2 (fun r39 => if r39 ≤ 5 then (wX2_grow I L A B x1 x2 (fun r54 I_1 A_1 B_1 => post r54 I_1 A_1 B_1)) else (post (-1) I A B)))))))
abbrev rmX9_category : Room := { frames := 3, cells := 0, slots := 0, locals := 69 }
theorem wd_X9_category : Cond.instanceMethod yX9_category ∈ BW ∧ Cond.selects yX9_category.cls yX9_category yX9_category ∈ BW ∧ Cond.initialized yX9_category.cls ∈ BW ∧ Cond.code yX9_category cX9_category 3 (some .int) ∈ BW := ⟨mw_2_86, mw_2_87, mw_1_1, mw_2_88⟩
set_option maxHeartbeats 4000000 in
set_option maxRecDepth 100000 in
theorem c_X9_category {l : Launch} {D : va_G} {cy : Nat → ClassId} {ad : Nat → Nat} {Ad : Nat → Prop} (hAd : adok 103 Ad ad) (I : Nat → Int32) (L : Nat → Int64) (A : Nat → Nat → Int32) (B : Nat → Nat → Int64) (x1 : Int32) (x2 : Int32)  (post : Int32 → (Nat → Int32) → (Nat → Nat → Int32) → (Nat → Nat → Int64) → Prop) (h : wX9_category I L A B x1 x2 post) : Met l yX9_category (.code yX9_category cX9_category 3 (some .int) :: BW) rmX9_category (va_Pc [.ref (ad 0), .int x1, .int x2] (fun U => kC D cy U ∧ va_P D vwCl (wC cy ad I L A B) U.heap)) (qCi D cy ad Ad (fun r u => post r u.1 u.2.2.1 u.2.2.2 ∧ L = u.2.1)) 0 0 Ad := by
  refine startCi (by decide) (Nat.le_of_ble_eq_true rfl) (lv := [(0, .ref (ad 0)), (1, .int x1), (2, .int x2)]) rfl (fun p e s m args below meth c Q ls hx hb hml hT hown hK hret hl hP hS => ?_)
  unfold wX9_category at h
  refine lv_aload_n hx hb dX9_category_0 rfl (lv_at hl 0 rfl) ?_
  refine va_get (T := TX9) hx hb hT inlX9 hown hK.1 hP 0 he_X9 rfl 2 (by decide) (hT _ mw_2_9) (fun _ h9 => h9) rfl dX9_category_1 ?_
  refine lv_iload_n hx hb dX9_category_4 rfl (lv_at hl 1 rfl) ?_
  refine callCi (k := 3) (As := [.int x1]) (rest := []) (n := 1) (c_X7_isTree hAd I L A B x1 _ h) hx hb hT hown hK hP hS mw_2_89 wd_X7_isTree (by decide +kernel) ⟨rfl, rfl⟩ (by decide) rfl rfl he_X7 rfl hl.1 hml rfl (Nat.le_of_ble_eq_true rfl) dX9_category_5 ⟨Nat.zero_le _, Nat.zero_le _⟩ (fun r5 u H locs h hP hS => ?_)
  obtain ⟨Iu, Lu, Au, Bu⟩ := u
  dsimp only at h hP
  obtain ⟨h, rfl, rfl, rfl, rfl⟩ := h
  try dsimp only at h
  refine lv_if_eq (tgt := 32) hx hb dX9_category_8 (by decide) (fun hc => ?_) (fun hc => ?_)
  · rw [if_pos hc] at h
    refine lv_iconst (v := (-1)) hx hb dX9_category_32 (by decide) ?_
    exact hret _ (I, L, A, B) dX9_category_33 ⟨h, rfl⟩ hP hS
  · rw [if_neg hc] at h
    refine lv_aload_n hx hb dX9_category_11 rfl (lv_at hl 0 rfl) ?_
    refine va_get (T := TX9) hx hb hT inlX9 hown hK.1 hP 0 he_X9 rfl 0 (by decide) (hT _ mw_2_7) (fun _ h9 => h9) rfl dX9_category_12 ?_
    refine va_get (T := TX2) hx hb hT inlX2 hown hK.1 hP 1 he_X2 rfl 5 (by decide) (hT _ mw_1_46) (fun _ h9 => h9) rfl dX9_category_15 ?_
    refine lv_bipush (v := 40) hx hb dX9_category_18 (by decide) ?_
    refine lv_icmp_ge (tgt := 32) hx hb dX9_category_20 (by decide) (fun hc_1 => ?_) (fun hc_1 => ?_)
    · rw [if_pos hc_1] at h
      refine lv_iconst (v := (-1)) hx hb dX9_category_32 (by decide) ?_
      exact hret _ (I, L, A, B) dX9_category_33 ⟨h, rfl⟩ hP hS
    · rw [if_neg hc_1] at h
      refine lv_aload_n hx hb dX9_category_23 rfl (lv_at hl 0 rfl) ?_
      refine lv_iload_n hx hb dX9_category_24 rfl (lv_at hl 1 rfl) ?_
      refine lv_iload_n hx hb dX9_category_25 rfl (lv_at hl 2 rfl) ?_
      refine callCi (k := 0) (As := [.int x1, .int x2]) (rest := []) (n := 2) (c_X9_canStandBelow hAd I L A B x1 x2 _ h) hx hb hT hown hK hP hS mw_2_97 wd_X9_canStandBelow (by decide +kernel) ⟨rfl, rfl⟩ (by decide) rfl rfl he_X9 rfl hl.1 hml rfl (Nat.le_of_ble_eq_true rfl) dX9_category_26 ⟨Nat.zero_le _, Nat.zero_le _⟩ (fun r26 u H locs h hP hS => ?_)
      obtain ⟨Iu_1, Lu_1, Au_1, Bu_1⟩ := u
      dsimp only at h hP
      obtain ⟨h, rfl, rfl, rfl, rfl⟩ := h
      try dsimp only at h
      refine lv_if_ne (tgt := 34) hx hb dX9_category_29 (by decide) (fun hc_2 => ?_) (fun hc_2 => ?_)
      · rw [if_neg hc_2] at h
        refine lv_aload_n hx hb dX9_category_34 rfl (lv_at hl 0 rfl) ?_
        refine va_get (T := TX9) hx hb hT inlX9 hown hK.1 hP 0 he_X9 rfl 0 (by decide) (hT _ mw_2_7) (fun _ h9 => h9) rfl dX9_category_35 ?_
        refine lv_iload_n hx hb dX9_category_38 rfl (lv_at hl 2 rfl) ?_
        refine callCi (k := 1) (As := [.int x2]) (rest := []) (n := 1) (c_X2_levelBelow hAd I L A B x2 _ h) hx hb hT hown hK hP hS mw_2_105 wd_X2_levelBelow (by decide +kernel) ⟨rfl, rfl⟩ (by decide) rfl rfl he_X2 rfl hl.1 hml rfl (Nat.le_of_ble_eq_true rfl) dX9_category_39 ⟨Nat.zero_le _, Nat.zero_le _⟩ (fun r39 u H locs h hP hS => ?_)
        obtain ⟨Iu_2, Lu_2, Au_2, Bu_2⟩ := u
        dsimp only at h hP
        obtain ⟨h, rfl, rfl, rfl, rfl⟩ := h
        try dsimp only at h
        refine lv_iconst (v := 5) hx hb dX9_category_42 (by decide) ?_
        refine lv_icmp_le (tgt := 48) hx hb dX9_category_43 (by decide) (fun hc_3 => ?_) (fun hc_3 => ?_)
        · rw [if_pos hc_3] at h
          refine lv_aload_n hx hb dX9_category_48 rfl (lv_at hl 0 rfl) ?_
          refine va_get (T := TX9) hx hb hT inlX9 hown hK.1 hP 0 he_X9 rfl 0 (by decide) (hT _ mw_2_7) (fun _ h9 => h9) rfl dX9_category_49 ?_
          refine lv_iload_n hx hb dX9_category_52 rfl (lv_at hl 1 rfl) ?_
          refine lv_iload_n hx hb dX9_category_53 rfl (lv_at hl 2 rfl) ?_
          refine callCi (k := 1) (As := [.int x1, .int x2]) (rest := []) (n := 2) (c_X2_grow hAd I L A B x1 x2 _ h) hx hb hT hown hK hP hS mw_2_110 wd_X2_grow (by decide +kernel) ⟨rfl, rfl⟩ (by decide) rfl rfl he_X2 rfl hl.1 hml rfl (Nat.le_of_ble_eq_true rfl) dX9_category_54 ⟨Nat.zero_le _, Nat.zero_le _⟩ (fun r54 u H locs h hP hS => ?_)
          obtain ⟨I_1, Lu_3, A_1, B_1⟩ := u
          dsimp only at h hP
          obtain ⟨h, rfl⟩ := h
          try dsimp only at h
          exact hret _ (I_1, L, A_1, B_1) dX9_category_57 ⟨h, rfl⟩ hP hS
        · rw [if_neg hc_3] at h
          refine lv_iconst (v := (-1)) hx hb dX9_category_46 (by decide) ?_
          exact hret _ (I, L, A, B) dX9_category_47 ⟨h, rfl⟩ hP hS
      · rw [if_pos hc_2] at h
        refine lv_iconst (v := (-1)) hx hb dX9_category_32 (by decide) ?_
        exact hret _ (I, L, A, B) dX9_category_33 ⟨h, rfl⟩ hP hS
theorem dX9_move_0 : decode cX9_move 0 = .ok (.aload_n 0, 1) := by decide +kernel
theorem dX9_move_1 : decode cX9_move 1 = .ok (.getfield 10, 3) := by decide +kernel
theorem dX9_move_4 : decode cX9_move 4 = .ok (.iload_n 1, 1) := by decide +kernel
theorem dX9_move_5 : decode cX9_move 5 = .ok (.invokevirtual 93, 3) := by decide +kernel
theorem dX9_move_8 : decode cX9_move 8 = .ok (.ifCond .eq 20, 3) := by decide +kernel
theorem dX9_move_11 : decode cX9_move 11 = .ok (.aload_n 0, 1) := by decide +kernel
theorem dX9_move_12 : decode cX9_move 12 = .ok (.aload_n 0, 1) := by decide +kernel
theorem dX9_move_13 : decode cX9_move 13 = .ok (.getfield 10, 3) := by decide +kernel
theorem dX9_move_16 : decode cX9_move 16 = .ok (.getfield 96, 3) := by decide +kernel
theorem dX9_move_19 : decode cX9_move 19 = .ok (.iload_n 1, 1) := by decide +kernel
theorem dX9_move_20 : decode cX9_move 20 = .ok (.iaload, 1) := by decide +kernel
theorem dX9_move_21 : decode cX9_move 21 = .ok (.iload_n 2, 1) := by decide +kernel
theorem dX9_move_22 : decode cX9_move 22 = .ok (.invokevirtual 82, 3) := by decide +kernel
theorem dX9_move_25 : decode cX9_move 25 = .ok (.ifCond .ne 5, 3) := by decide +kernel
theorem dX9_move_28 : decode cX9_move 28 = .ok (.iconst 0, 1) := by decide +kernel
theorem dX9_move_29 : decode cX9_move 29 = .ok (.ireturn, 1) := by decide +kernel
theorem dX9_move_30 : decode cX9_move 30 = .ok (.iload_n 2, 1) := by decide +kernel
theorem dX9_move_31 : decode cX9_move 31 = .ok (.iload_n 1, 1) := by decide +kernel
theorem dX9_move_32 : decode cX9_move 32 = .ok (.if_icmp .eq 24, 3) := by decide +kernel
theorem dX9_move_35 : decode cX9_move 35 = .ok (.iload_n 2, 1) := by decide +kernel
theorem dX9_move_36 : decode cX9_move 36 = .ok (.iconst (-1), 1) := by decide +kernel
theorem dX9_move_37 : decode cX9_move 37 = .ok (.if_icmp .eq 21, 3) := by decide +kernel
theorem dX9_move_40 : decode cX9_move 40 = .ok (.aload_n 0, 1) := by decide +kernel
theorem dX9_move_41 : decode cX9_move 41 = .ok (.getfield 10, 3) := by decide +kernel
theorem dX9_move_44 : decode cX9_move 44 = .ok (.getfield 100, 3) := by decide +kernel
theorem dX9_move_47 : decode cX9_move 47 = .ok (.iload_n 1, 1) := by decide +kernel
theorem dX9_move_48 : decode cX9_move 48 = .ok (.laload, 1) := by decide +kernel
theorem dX9_move_49 : decode cX9_move 49 = .ok (.iload_n 2, 1) := by decide +kernel
theorem dX9_move_50 : decode cX9_move 50 = .ok (.invokestatic 104, 3) := by decide +kernel
theorem dX9_move_53 : decode cX9_move 53 = .ok (.ifCond .eq 5, 3) := by decide +kernel
theorem dX9_move_56 : decode cX9_move 56 = .ok (.iconst 0, 1) := by decide +kernel
theorem dX9_move_57 : decode cX9_move 57 = .ok (.ireturn, 1) := by decide +kernel
theorem dX9_move_58 : decode cX9_move 58 = .ok (.aload_n 0, 1) := by decide +kernel
theorem dX9_move_59 : decode cX9_move 59 = .ok (.getfield 10, 3) := by decide +kernel
theorem dX9_move_62 : decode cX9_move 62 = .ok (.iload_n 2, 1) := by decide +kernel
theorem dX9_move_63 : decode cX9_move 63 = .ok (.invokevirtual 86, 3) := by decide +kernel
theorem dX9_move_66 : decode cX9_move 66 = .ok (.aload_n 0, 1) := by decide +kernel
theorem dX9_move_67 : decode cX9_move 67 = .ok (.getfield 10, 3) := by decide +kernel
theorem dX9_move_70 : decode cX9_move 70 = .ok (.iload_n 1, 1) := by decide +kernel
theorem dX9_move_71 : decode cX9_move 71 = .ok (.invokevirtual 108, 3) := by decide +kernel
theorem dX9_move_74 : decode cX9_move 74 = .ok (.iadd, 1) := by decide +kernel
theorem dX9_move_75 : decode cX9_move 75 = .ok (.iconst 5, 1) := by decide +kernel
theorem dX9_move_76 : decode cX9_move 76 = .ok (.if_icmp .le 5, 3) := by decide +kernel
theorem dX9_move_79 : decode cX9_move 79 = .ok (.iconst 0, 1) := by decide +kernel
theorem dX9_move_80 : decode cX9_move 80 = .ok (.ireturn, 1) := by decide +kernel
theorem dX9_move_81 : decode cX9_move 81 = .ok (.aload_n 0, 1) := by decide +kernel
theorem dX9_move_82 : decode cX9_move 82 = .ok (.getfield 10, 3) := by decide +kernel
theorem dX9_move_85 : decode cX9_move 85 = .ok (.iload_n 1, 1) := by decide +kernel
theorem dX9_move_86 : decode cX9_move 86 = .ok (.iload_n 2, 1) := by decide +kernel
theorem dX9_move_87 : decode cX9_move 87 = .ok (.invokevirtual 111, 3) := by decide +kernel
theorem dX9_move_90 : decode cX9_move 90 = .ok (.aload_n 0, 1) := by decide +kernel
theorem dX9_move_91 : decode cX9_move 91 = .ok (.getfield 28, 3) := by decide +kernel
theorem dX9_move_94 : decode cX9_move 94 = .ok (.invokevirtual 115, 3) := by decide +kernel
theorem dX9_move_97 : decode cX9_move 97 = .ok (.iconst 1, 1) := by decide +kernel
theorem dX9_move_98 : decode cX9_move 98 = .ok (.ireturn, 1) := by decide +kernel
def wX9_move (I : Nat → Int32) (L : Nat → Int64) (A : Nat → Nat → Int32) (B : Nat → Nat → Int64) (x1 : Int32) (x2 : Int32) (post : Int32 → (Nat → Nat → Int32) → (Nat → Nat → Int64) → Prop) : Prop := wX2_knows I L A B x1 (fun r5 => if r5 = 0 then (post 0 A B) else (vp_in x1 40 ∧ (wX9_canStandBelow I L A B (A 36 x1.toNatClampNeg) x2 (fun r22 => if r22 = 0 then (post 0 A B) else (if x2 = x1 then (post 0 A B) else (jn (fun (_ : Unit) => wX2_levelBelow I L A B x2 (fun r63 => wX2_height I L A B x1 (fun r71 => if (r63 + r71) ≤ 5 then (wX2_hang I L A B x1 x2 (fun A_1 B_1 => wX7_renew I L A_1 B_1  (fun B_2 => post 1 A_1 B_2))) else (post 0 A B)))) (fun k => if x2 = (-1) then (k ()) else (vp_in x1 40 ∧ (wX9_inSet (B 38 x1.toNatClampNeg) x2 (fun r50 => if r50 = 0 then (k ()) else (post 0 A B)))))))))))
abbrev rmX9_move : Room := { frames := 4, cells := 0, slots := 0, locals := 97 }
theorem wd_X9_move : Cond.instanceMethod yX9_move ∈ BW ∧ Cond.selects yX9_move.cls yX9_move yX9_move ∈ BW ∧ Cond.initialized yX9_move.cls ∈ BW ∧ Cond.code yX9_move cX9_move 3 (some .boolean) ∈ BW := ⟨mw_2_120, mw_2_121, mw_1_1, mw_2_122⟩
set_option maxHeartbeats 4000000 in
set_option maxRecDepth 100000 in
theorem c_X9_move {l : Launch} {D : va_G} {cy : Nat → ClassId} {ad : Nat → Nat} {Ad : Nat → Prop} (hAd : adok 103 Ad ad) (I : Nat → Int32) (L : Nat → Int64) (A : Nat → Nat → Int32) (B : Nat → Nat → Int64) (x1 : Int32) (x2 : Int32)  (post : Int32 → (Nat → Nat → Int32) → (Nat → Nat → Int64) → Prop) (h : wX9_move I L A B x1 x2 post) : Met l yX9_move (.code yX9_move cX9_move 3 (some .boolean) :: BW) rmX9_move (va_Pc [.ref (ad 0), .int x1, .int x2] (fun U => kC D cy U ∧ va_P D vwCl (wC cy ad I L A B) U.heap)) (qCi D cy ad Ad (fun r u => post r u.2.2.1 u.2.2.2 ∧ I = u.1 ∧ L = u.2.1)) 0 0 Ad := by
  refine startCz (by decide) (Nat.le_of_ble_eq_true rfl) (lv := [(0, .ref (ad 0)), (1, .int x1), (2, .int x2)]) rfl (fun p e s m args below meth c Q ls hx hb hml hT hown hK hret hl hP hS => ?_)
  unfold wX9_move at h
  refine lv_aload_n hx hb dX9_move_0 rfl (lv_at hl 0 rfl) ?_
  refine va_get (T := TX9) hx hb hT inlX9 hown hK.1 hP 0 he_X9 rfl 0 (by decide) (hT _ mw_2_7) (fun _ h9 => h9) rfl dX9_move_1 ?_
  refine lv_iload_n hx hb dX9_move_4 rfl (lv_at hl 1 rfl) ?_
  refine callCi (k := 1) (As := [.int x1]) (rest := []) (n := 1) (c_X2_knows hAd I L A B x1 _ h) hx hb hT hown hK hP hS mw_2_101 wd_X2_knows (by decide +kernel) ⟨rfl, rfl⟩ (by decide) rfl rfl he_X2 rfl hl.1 hml rfl (Nat.le_of_ble_eq_true rfl) dX9_move_5 ⟨Nat.zero_le _, Nat.zero_le _⟩ (fun r5 u H locs h hP hS => ?_)
  obtain ⟨Iu, Lu, Au, Bu⟩ := u
  dsimp only at h hP
  obtain ⟨h, rfl, rfl, rfl, rfl⟩ := h
  try dsimp only at h
  refine lv_if_eq (tgt := 28) hx hb dX9_move_8 (by decide) (fun hc => ?_) (fun hc => ?_)
  · rw [if_pos hc] at h
    refine lv_iconst (v := 0) hx hb dX9_move_28 (by decide) ?_
    exact hret _ (I, L, A, B) zb_0 dX9_move_29 ⟨h, rfl, rfl⟩ hP hS
  · rw [if_neg hc] at h
    refine lv_aload_n hx hb dX9_move_11 rfl (lv_at hl 0 rfl) ?_
    refine lv_aload_n hx hb dX9_move_12 rfl (lv_at hl 0 rfl) ?_
    refine va_get (T := TX9) hx hb hT inlX9 hown hK.1 hP 0 he_X9 rfl 0 (by decide) (hT _ mw_2_7) (fun _ h9 => h9) rfl dX9_move_13 ?_
    refine va_get (T := TX2) hx hb hT inlX2 hown hK.1 hP 1 he_X2 rfl 0 (by decide) (hT _ mw_1_34) (fun _ h9 => h9) rfl dX9_move_16 ?_
    refine lv_iload_n hx hb dX9_move_19 rfl (lv_at hl 1 rfl) ?_
    obtain ⟨hi, h⟩ := h
    refine lC_I hx hb hK.1 hP (by decide) rfl hi dX9_move_20 ?_
    refine lv_iload_n hx hb dX9_move_21 rfl (lv_at hl 2 rfl) ?_
    refine callCi (k := 0) (As := [.int (A 36 x1.toNatClampNeg), .int x2]) (rest := []) (n := 2) (c_X9_canStandBelow hAd I L A B (A 36 x1.toNatClampNeg) x2 _ h) hx hb hT hown hK hP hS mw_2_97 wd_X9_canStandBelow (by decide +kernel) ⟨rfl, rfl⟩ (by decide) rfl rfl he_X9 rfl hl.1 hml rfl (Nat.le_of_ble_eq_true rfl) dX9_move_22 ⟨Nat.zero_le _, Nat.zero_le _⟩ (fun r22 u H locs h hP hS => ?_)
    obtain ⟨Iu_1, Lu_1, Au_1, Bu_1⟩ := u
    dsimp only at h hP
    obtain ⟨h, rfl, rfl, rfl, rfl⟩ := h
    try dsimp only at h
    refine lv_if_ne (tgt := 30) hx hb dX9_move_25 (by decide) (fun hc_1 => ?_) (fun hc_1 => ?_)
    · rw [if_neg hc_1] at h
      refine lv_iload_n hx hb dX9_move_30 rfl (lv_at hl 2 rfl) ?_
      refine lv_iload_n hx hb dX9_move_31 rfl (lv_at hl 1 rfl) ?_
      refine lv_icmp_eq (tgt := 56) hx hb dX9_move_32 (by decide) (fun hc_2 => ?_) (fun hc_2 => ?_)
      · rw [if_pos hc_2] at h
        refine lv_iconst (v := 0) hx hb dX9_move_56 (by decide) ?_
        exact hret _ (I, L, A, B) zb_0 dX9_move_57 ⟨h, rfl, rfl⟩ hP hS
      · rw [if_neg hc_2] at h
        refine lv_iload_n hx hb dX9_move_35 rfl (lv_at hl 2 rfl) ?_
        refine lv_iconst (v := (-1)) hx hb dX9_move_36 (by decide) ?_
        obtain ⟨k, hk, h⟩ := jn_ex h
        try dsimp only at h
        have J : k () → ∀ (ls : Array Slot) (H : Heap) (locs : List Loc), lv_has ls 3 [(0, .ref (ad 0)), (1, .int x1), (2, .int x2)] → va_P D vwCl (wC cy ad I L A B) H → va_S Ad s.heap H locs → W p l e rmX9_move s m args below meth c H locs 0 0 Q (F0 m 58 ls []) := by
          intro  h ls H locs hl hP hS
          replace h := hk _ h
          try dsimp only at h
          refine lv_aload_n hx hb dX9_move_58 rfl (lv_at hl 0 rfl) ?_
          refine va_get (T := TX9) hx hb hT inlX9 hown hK.1 hP 0 he_X9 rfl 0 (by decide) (hT _ mw_2_7) (fun _ h9 => h9) rfl dX9_move_59 ?_
          refine lv_iload_n hx hb dX9_move_62 rfl (lv_at hl 2 rfl) ?_
          refine callCi (k := 1) (As := [.int x2]) (rest := []) (n := 1) (c_X2_levelBelow hAd I L A B x2 _ h) hx hb hT hown hK hP hS mw_2_105 wd_X2_levelBelow (by decide +kernel) ⟨rfl, rfl⟩ (by decide) rfl rfl he_X2 rfl hl.1 hml rfl (Nat.le_of_ble_eq_true rfl) dX9_move_63 ⟨Nat.zero_le _, Nat.zero_le _⟩ (fun r63 u H locs h hP hS => ?_)
          obtain ⟨Iu_2, Lu_2, Au_2, Bu_2⟩ := u
          dsimp only at h hP
          obtain ⟨h, rfl, rfl, rfl, rfl⟩ := h
          try dsimp only at h
          refine lv_aload_n hx hb dX9_move_66 rfl (lv_at hl 0 rfl) ?_
          refine va_get (T := TX9) hx hb hT inlX9 hown hK.1 hP 0 he_X9 rfl 0 (by decide) (hT _ mw_2_7) (fun _ h9 => h9) rfl dX9_move_67 ?_
          refine lv_iload_n hx hb dX9_move_70 rfl (lv_at hl 1 rfl) ?_
          refine callCi (k := 1) (As := [.int x1]) (rest := [.int r63]) (n := 1) (c_X2_height hAd I L A B x1 _ h) hx hb hT hown hK hP hS mw_2_124 wd_X2_height (by decide +kernel) ⟨rfl, rfl⟩ (by decide) rfl rfl he_X2 rfl hl.1 hml rfl (Nat.le_of_ble_eq_true rfl) dX9_move_71 ⟨Nat.zero_le _, Nat.zero_le _⟩ (fun r71 u H locs h hP hS => ?_)
          obtain ⟨Iu_3, Lu_3, Au_3, Bu_3⟩ := u
          dsimp only at h hP
          obtain ⟨h, rfl, rfl, rfl, rfl⟩ := h
          try dsimp only at h
          refine lv_iadd hx hb dX9_move_74 ?_
          refine lv_iconst (v := 5) hx hb dX9_move_75 (by decide) ?_
          refine lv_icmp_le (tgt := 81) hx hb dX9_move_76 (by decide) (fun hc_3 => ?_) (fun hc_3 => ?_)
          · rw [if_pos hc_3] at h
            refine lv_aload_n hx hb dX9_move_81 rfl (lv_at hl 0 rfl) ?_
            refine va_get (T := TX9) hx hb hT inlX9 hown hK.1 hP 0 he_X9 rfl 0 (by decide) (hT _ mw_2_7) (fun _ h9 => h9) rfl dX9_move_82 ?_
            refine lv_iload_n hx hb dX9_move_85 rfl (lv_at hl 1 rfl) ?_
            refine lv_iload_n hx hb dX9_move_86 rfl (lv_at hl 2 rfl) ?_
            refine callCv (k := 1) (As := [.int x1, .int x2]) (rest := []) (n := 2) (c_X2_hang hAd I L A B x1 x2 _ h) hx hb hT hown hK hP hS mw_2_136 wd_X2_hang (by decide +kernel) ⟨rfl, rfl⟩ (by decide) rfl rfl he_X2 rfl hl.1 hml rfl (Nat.le_of_ble_eq_true rfl) dX9_move_87 ⟨Nat.zero_le _, Nat.zero_le _⟩ (fun u H locs h hP hS => ?_)
            obtain ⟨Iu_4, Lu_4, A_1, B_1⟩ := u
            dsimp only at h hP
            obtain ⟨h, rfl, rfl⟩ := h
            try dsimp only at h
            refine lv_aload_n hx hb dX9_move_90 rfl (lv_at hl 0 rfl) ?_
            refine va_get (T := TX9) hx hb hT inlX9 hown hK.1 hP 0 he_X9 rfl 2 (by decide) (hT _ mw_2_9) (fun _ h9 => h9) rfl dX9_move_91 ?_
            refine callCv (k := 3) (As := []) (rest := []) (n := 0) (c_X7_renew hAd I L A_1 B_1  _ h) hx hb hT hown hK hP hS mw_2_148 wd_X7_renew (by decide +kernel) ⟨rfl, rfl⟩ (by decide) rfl rfl he_X7 rfl hl.1 hml rfl (Nat.le_of_ble_eq_true rfl) dX9_move_94 ⟨Nat.zero_le _, Nat.zero_le _⟩ (fun u H locs h hP hS => ?_)
            obtain ⟨Iu_5, Lu_5, Au_4, B_2⟩ := u
            dsimp only at h hP
            obtain ⟨h, rfl, rfl, rfl⟩ := h
            try dsimp only at h
            refine lv_iconst (v := 1) hx hb dX9_move_97 (by decide) ?_
            exact hret _ (I, L, A_1, B_2) zb_1 dX9_move_98 ⟨h, rfl, rfl⟩ hP hS
          · rw [if_neg hc_3] at h
            refine lv_iconst (v := 0) hx hb dX9_move_79 (by decide) ?_
            exact hret _ (I, L, A, B) zb_0 dX9_move_80 ⟨h, rfl, rfl⟩ hP hS
        refine lv_icmp_eq (tgt := 58) hx hb dX9_move_37 (by decide) (fun hc_4 => ?_) (fun hc_4 => ?_)
        · rw [if_pos hc_4] at h
          exact J  h _ _ _ (lv_sub hl [0, 1, 2] rfl) hP hS
        · rw [if_neg hc_4] at h
          refine lv_aload_n hx hb dX9_move_40 rfl (lv_at hl 0 rfl) ?_
          refine va_get (T := TX9) hx hb hT inlX9 hown hK.1 hP 0 he_X9 rfl 0 (by decide) (hT _ mw_2_7) (fun _ h9 => h9) rfl dX9_move_41 ?_
          refine va_get (T := TX2) hx hb hT inlX2 hown hK.1 hP 1 he_X2 rfl 2 (by decide) (hT _ mw_1_39) (fun _ h9 => h9) rfl dX9_move_44 ?_
          refine lv_iload_n hx hb dX9_move_47 rfl (lv_at hl 1 rfl) ?_
          obtain ⟨hi_1, h⟩ := h
          refine lC_J hx hb hK.1 hP (by decide) rfl hi_1 dX9_move_48 ?_
          refine lv_iload_n hx hb dX9_move_49 rfl (lv_at hl 2 rfl) ?_
          refine callSCi (As := [.long (B 38 x1.toNatClampNeg), .int x2]) (rest := []) (n := 2) (c_X9_inSet (B 38 x1.toNatClampNeg) x2 _ h) hx hb hT hown hP hS mw_2_123 wd_X9_inSet (by decide +kernel) ⟨rfl, rfl⟩ (by decide) rfl hl.1 hml rfl (Nat.le_of_ble_eq_true rfl) dX9_move_50 ⟨Nat.zero_le _, Nat.zero_le _⟩ (fun r50 H locs h hP hS => ?_)
          try dsimp only at h
          refine lv_if_eq (tgt := 58) hx hb dX9_move_53 (by decide) (fun hc_5 => ?_) (fun hc_5 => ?_)
          · rw [if_pos hc_5] at h
            exact J  h _ _ _ (lv_sub hl [0, 1, 2] rfl) hP hS
          · rw [if_neg hc_5] at h
            refine lv_iconst (v := 0) hx hb dX9_move_56 (by decide) ?_
            exact hret _ (I, L, A, B) zb_0 dX9_move_57 ⟨h, rfl, rfl⟩ hP hS
    · rw [if_pos hc_1] at h
      refine lv_iconst (v := 0) hx hb dX9_move_28 (by decide) ?_
      exact hret _ (I, L, A, B) zb_0 dX9_move_29 ⟨h, rfl, rfl⟩ hP hS
