theorem dX10_read_0 : decode cX10_read 0 = .ok (.aload_n 0, 1) := by decide +kernel
theorem dX10_read_1 : decode cX10_read 1 = .ok (.iconst 0, 1) := by decide +kernel
theorem dX10_read_2 : decode cX10_read 2 = .ok (.putfield 56, 3) := by decide +kernel
theorem dX10_read_5 : decode cX10_read 5 = .ok (.aload_n 0, 1) := by decide +kernel
theorem dX10_read_6 : decode cX10_read 6 = .ok (.iload_n 1, 1) := by decide +kernel
theorem dX10_read_7 : decode cX10_read 7 = .ok (.invokevirtual 80, 3) := by decide +kernel
theorem dX10_read_10 : decode cX10_read 10 = .ok (.ifCond .eq 13, 3) := by decide +kernel
theorem dX10_read_13 : decode cX10_read 13 = .ok (.iload_n 2, 1) := by decide +kernel
theorem dX10_read_14 : decode cX10_read 14 = .ok (.iconst 1, 1) := by decide +kernel
theorem dX10_read_15 : decode cX10_read 15 = .ok (.bipush 9, 2) := by decide +kernel
theorem dX10_read_17 : decode cX10_read 17 = .ok (.invokestatic 73, 3) := by decide +kernel
theorem dX10_read_20 : decode cX10_read 20 = .ok (.ifCond .ne 5, 3) := by decide +kernel
theorem dX10_read_23 : decode cX10_read 23 = .ok (.iconst (-1), 1) := by decide +kernel
theorem dX10_read_24 : decode cX10_read 24 = .ok (.ireturn, 1) := by decide +kernel
theorem dX10_read_25 : decode cX10_read 25 = .ok (.aload_n 0, 1) := by decide +kernel
theorem dX10_read_26 : decode cX10_read 26 = .ok (.invokevirtual 143, 3) := by decide +kernel
theorem dX10_read_29 : decode cX10_read 29 = .ok (.iconst 0, 1) := by decide +kernel
theorem dX10_read_30 : decode cX10_read 30 = .ok (.istore_n 3, 1) := by decide +kernel
theorem dX10_read_31 : decode cX10_read 31 = .ok (.iload_n 3, 1) := by decide +kernel
theorem dX10_read_32 : decode cX10_read 32 = .ok (.aload_n 0, 1) := by decide +kernel
theorem dX10_read_33 : decode cX10_read 33 = .ok (.getfield 67, 3) := by decide +kernel
theorem dX10_read_36 : decode cX10_read 36 = .ok (.if_icmp .ge 16, 3) := by decide +kernel
theorem dX10_read_39 : decode cX10_read 39 = .ok (.aload_n 0, 1) := by decide +kernel
theorem dX10_read_40 : decode cX10_read 40 = .ok (.getfield 50, 3) := by decide +kernel
theorem dX10_read_43 : decode cX10_read 43 = .ok (.iload_n 3, 1) := by decide +kernel
theorem dX10_read_44 : decode cX10_read 44 = .ok (.iconst 0, 1) := by decide +kernel
theorem dX10_read_45 : decode cX10_read 45 = .ok (.iastore, 1) := by decide +kernel
theorem dX10_read_46 : decode cX10_read 46 = .ok (.iinc 3 1, 3) := by decide +kernel
theorem dX10_read_49 : decode cX10_read 49 = .ok (.goto (-18), 3) := by decide +kernel
theorem dX10_read_52 : decode cX10_read 52 = .ok (.iconst 0, 1) := by decide +kernel
theorem dX10_read_53 : decode cX10_read 53 = .ok (.istore_n 3, 1) := by decide +kernel
theorem dX10_read_54 : decode cX10_read 54 = .ok (.iload_n 3, 1) := by decide +kernel
theorem dX10_read_55 : decode cX10_read 55 = .ok (.aload_n 0, 1) := by decide +kernel
theorem dX10_read_56 : decode cX10_read 56 = .ok (.getfield 137, 3) := by decide +kernel
theorem dX10_read_59 : decode cX10_read 59 = .ok (.if_icmp .ge 85, 3) := by decide +kernel
theorem dX10_read_62 : decode cX10_read 62 = .ok (.aload_n 0, 1) := by decide +kernel
theorem dX10_read_63 : decode cX10_read 63 = .ok (.iload_n 1, 1) := by decide +kernel
theorem dX10_read_64 : decode cX10_read 64 = .ok (.iload_n 2, 1) := by decide +kernel
theorem dX10_read_65 : decode cX10_read 65 = .ok (.aload_n 0, 1) := by decide +kernel
theorem dX10_read_66 : decode cX10_read 66 = .ok (.getfield 137, 3) := by decide +kernel
theorem dX10_read_69 : decode cX10_read 69 = .ok (.iload_n 3, 1) := by decide +kernel
theorem dX10_read_70 : decode cX10_read 70 = .ok (.isub, 1) := by decide +kernel
theorem dX10_read_71 : decode cX10_read 71 = .ok (.invokevirtual 197, 3) := by decide +kernel
theorem dX10_read_74 : decode cX10_read 74 = .ok (.ifCond .eq 5, 3) := by decide +kernel
theorem dX10_read_77 : decode cX10_read 77 = .ok (.iload_n 3, 1) := by decide +kernel
theorem dX10_read_78 : decode cX10_read 78 = .ok (.ireturn, 1) := by decide +kernel
theorem dX10_read_79 : decode cX10_read 79 = .ok (.iconst 0, 1) := by decide +kernel
theorem dX10_read_80 : decode cX10_read 80 = .ok (.istore 4, 2) := by decide +kernel
theorem dX10_read_82 : decode cX10_read 82 = .ok (.iload 4, 2) := by decide +kernel
theorem dX10_read_84 : decode cX10_read 84 = .ok (.aload_n 0, 1) := by decide +kernel
theorem dX10_read_85 : decode cX10_read 85 = .ok (.getfield 67, 3) := by decide +kernel
theorem dX10_read_88 : decode cX10_read 88 = .ok (.if_icmp .ge 50, 3) := by decide +kernel
theorem dX10_read_91 : decode cX10_read 91 = .ok (.aload_n 0, 1) := by decide +kernel
theorem dX10_read_92 : decode cX10_read 92 = .ok (.getfield 50, 3) := by decide +kernel
theorem dX10_read_95 : decode cX10_read 95 = .ok (.iload 4, 2) := by decide +kernel
theorem dX10_read_97 : decode cX10_read 97 = .ok (.dup2, 1) := by decide +kernel
theorem dX10_read_98 : decode cX10_read 98 = .ok (.iaload, 1) := by decide +kernel
theorem dX10_read_99 : decode cX10_read 99 = .ok (.aload_n 0, 1) := by decide +kernel
theorem dX10_read_100 : decode cX10_read 100 = .ok (.getfield 13, 3) := by decide +kernel
theorem dX10_read_103 : decode cX10_read 103 = .ok (.iload 4, 2) := by decide +kernel
theorem dX10_read_105 : decode cX10_read 105 = .ok (.iaload, 1) := by decide +kernel
theorem dX10_read_106 : decode cX10_read 106 = .ok (.iload_n 1, 1) := by decide +kernel
theorem dX10_read_107 : decode cX10_read 107 = .ok (.if_icmp .ne 22, 3) := by decide +kernel
theorem dX10_read_110 : decode cX10_read 110 = .ok (.aload_n 0, 1) := by decide +kernel
theorem dX10_read_111 : decode cX10_read 111 = .ok (.aload_n 0, 1) := by decide +kernel
theorem dX10_read_112 : decode cX10_read 112 = .ok (.getfield 41, 3) := by decide +kernel
theorem dX10_read_115 : decode cX10_read 115 = .ok (.iload_n 3, 1) := by decide +kernel
theorem dX10_read_116 : decode cX10_read 116 = .ok (.iaload, 1) := by decide +kernel
theorem dX10_read_117 : decode cX10_read 117 = .ok (.iload 4, 2) := by decide +kernel
theorem dX10_read_119 : decode cX10_read 119 = .ok (.invokevirtual 155, 3) := by decide +kernel
theorem dX10_read_122 : decode cX10_read 122 = .ok (.ifCond .eq 7, 3) := by decide +kernel
theorem dX10_read_125 : decode cX10_read 125 = .ok (.iconst 1, 1) := by decide +kernel
theorem dX10_read_126 : decode cX10_read 126 = .ok (.goto 4, 3) := by decide +kernel
theorem dX10_read_129 : decode cX10_read 129 = .ok (.iconst 0, 1) := by decide +kernel
theorem dX10_read_130 : decode cX10_read 130 = .ok (.iadd, 1) := by decide +kernel
theorem dX10_read_131 : decode cX10_read 131 = .ok (.iastore, 1) := by decide +kernel
theorem dX10_read_132 : decode cX10_read 132 = .ok (.iinc 4 1, 3) := by decide +kernel
theorem dX10_read_135 : decode cX10_read 135 = .ok (.goto (-53), 3) := by decide +kernel
theorem dX10_read_138 : decode cX10_read 138 = .ok (.iinc 3 1, 3) := by decide +kernel
theorem dX10_read_141 : decode cX10_read 141 = .ok (.goto (-87), 3) := by decide +kernel
theorem dX10_read_144 : decode cX10_read 144 = .ok (.aload_n 0, 1) := by decide +kernel
theorem dX10_read_145 : decode cX10_read 145 = .ok (.getfield 137, 3) := by decide +kernel
theorem dX10_read_148 : decode cX10_read 148 = .ok (.ireturn, 1) := by decide +kernel
def wX10_read (I : Nat → Int32) (A : Nat → Nat → Int32) (x1 : Int32) (x2 : Int32) (post : Int32 → (Nat → Int32) → (Nat → Nat → Int32) → Prop) : Prop := (∀ I_1, I_1 = va_up I 0 0 → wX10_isTree I_1 A x1 (fun r7 => if r7 = 0 then (post (-1) I_1 A) else (wX10_within x2 1 9 (fun r17 => if r17 = 0 then (post (-1) I_1 A) else (wX10_orders I_1 A  (fun I_2 A_1 => ∃ n, lfix (fun (r : (Int32 × (Nat → Nat → Int32)) → Prop) (v3, A_2) => if (I_2 2) ≤ v3 then (∃ n_1, lfix (fun (r_1 : (Int32 × (Nat → Nat → Int32)) → Prop) (v3_1, A_3) => if (I_2 5) ≤ v3_1 then (post (I_2 5) I_2 A_3) else (wX10_isCertain I_2 A_3 x1 x2 ((I_2 5) - v3_1) (fun r71 => if r71 = 0 then (∃ n_2, lfix (fun (r_2 : (Int32 × (Nat → Nat → Int32)) → Prop) (v4, A_4) => if (I_2 2) ≤ v4 then (∀ v3_2 : Int32, v3_2 = v3_1 + 1 → r_1 (v3_2, A_4)) else (vp_in v4 40 ∧ (vp_in v4 40 ∧ (jn (fun (t : Int32) => vp_in v4 40 ∧ (∀ A_5, A_5 = va_up A_4 14 (upd (A_4 14) v4.toNatClampNeg ((A_4 14 v4.toNatClampNeg) + t)) → ∀ v4_1 : Int32, v4_1 = v4 + 1 → r_2 (v4_1, A_5))) (fun k => jn (fun (_ : Unit) => k 0) (fun k_1 => if (A_4 2 v4.toNatClampNeg) = x1 then (vp_in v3_1 40 ∧ (wX10_counts I_2 A_4 (A_4 11 v3_1.toNatClampNeg) v4 (fun r119 => if r119 = 0 then (k_1 ()) else (k 1)))) else (k_1 ()))))))) n_2 (0, A_3)) else (post v3_1 I_2 A_3)))) n_1 (0, A_2)) else (vp_in v3 40 ∧ (∀ A_6, A_6 = va_up A_2 14 (upd (A_2 14) v3.toNatClampNeg 0) → ∀ v3_3 : Int32, v3_3 = v3 + 1 → r (v3_3, A_6)))) n (0, A_1)))))))
abbrev rmX10_read : Room := { frames := 4, cells := 0, slots := 0, locals := 102 }
theorem wd_X10_read : Cond.instanceMethod yX10_read ∈ BW ∧ Cond.selects yX10_read.cls yX10_read yX10_read ∈ BW ∧ Cond.initialized yX10_read.cls ∈ BW ∧ Cond.code yX10_read cX10_read 5 (some .int) ∈ BW := ⟨mw_5_236, mw_5_237, mw_1_11, mw_5_238⟩
set_option maxHeartbeats 4000000 in
set_option maxRecDepth 100000 in
theorem c_X10_read {l : Launch} {D : va_G} {cy : Nat → ClassId} {ad : Nat → Nat} {Ad : Nat → Prop} (hAd : adok 16 Ad ad) (I : Nat → Int32) (A : Nat → Nat → Int32) (x1 : Int32) (x2 : Int32)  (post : Int32 → (Nat → Int32) → (Nat → Nat → Int32) → Prop) (h : wX10_read I A x1 x2 post) : Met l yX10_read (.code yX10_read cX10_read 5 (some .int) :: BW) rmX10_read (va_Pc [.ref (ad 0), .int x1, .int x2] (fun U => kC D cy U ∧ va_P D vwCl (wM cy ad I A) U.heap)) (qMi D cy ad Ad (fun r u => post r u.1 u.2)) 0 0 Ad := by
  refine startMi (by decide) (Nat.le_of_ble_eq_true rfl) (lv := [(0, .ref (ad 0)), (1, .int x1), (2, .int x2)]) rfl (fun p e s m args below meth c Q ls hx hb hml hT hown hK hret hl hP hS => ?_)
  unfold wX10_read at h
  refine lv_aload_n hx hb dX10_read_0 rfl (lv_at hl 0 rfl) ?_
  refine lv_iconst (v := 0) hx hb dX10_read_1 (by decide) ?_
  refine pM_X10_thrown hAd hx hb hT hown hK.1 hP hS (hT _ mw_4_137) dX10_read_2 (fun H locs hP hS => ?_)
  obtain ⟨I_1, eI_1⟩ : ∃ z, z = va_up I 0 0 := ⟨_, rfl⟩
  rw [← eI_1] at hP
  replace h := h I_1 eI_1
  refine lv_aload_n hx hb dX10_read_5 rfl (lv_at hl 0 rfl) ?_
  refine lv_iload_n hx hb dX10_read_6 rfl (lv_at hl 1 rfl) ?_
  refine callMi (k := 0) (As := [.int x1]) (rest := []) (n := 1) (c_X10_isTree hAd I_1 A x1 _ h) hx hb hT hown hK hP hS mw_4_220 wd_X10_isTree (by decide +kernel) ⟨rfl, rfl⟩ (by decide) rfl rfl he_X10 rfl hl.1 hml rfl (Nat.le_of_ble_eq_true rfl) dX10_read_7 ⟨Nat.zero_le _, Nat.zero_le _⟩ (fun r7 u H locs h hP hS => ?_)
  obtain ⟨Iu, Au⟩ := u
  dsimp only at h hP
  obtain ⟨h, rfl, rfl⟩ := h
  try dsimp only at h
  refine lv_if_eq (tgt := 23) hx hb dX10_read_10 (by decide) (fun hc => ?_) (fun hc => ?_)
  · rw [if_pos hc] at h
    refine lv_iconst (v := (-1)) hx hb dX10_read_23 (by decide) ?_
    exact hret _ (I_1, A) dX10_read_24 h hP hS
  · rw [if_neg hc] at h
    refine lv_iload_n hx hb dX10_read_13 rfl (lv_at hl 2 rfl) ?_
    refine lv_iconst (v := 1) hx hb dX10_read_14 (by decide) ?_
    refine lv_bipush (v := 9) hx hb dX10_read_15 (by decide) ?_
    refine callSMi (As := [.int x2, .int 1, .int 9]) (rest := []) (n := 3) (c_X10_within x2 1 9 _ h) hx hb hT hown hP hS mw_4_213 wd_X10_within (by decide +kernel) ⟨rfl, rfl⟩ (by decide) rfl hl.1 hml rfl (Nat.le_of_ble_eq_true rfl) dX10_read_17 ⟨Nat.zero_le _, Nat.zero_le _⟩ (fun r17 H locs h hP hS => ?_)
    try dsimp only at h
    refine lv_if_ne (tgt := 25) hx hb dX10_read_20 (by decide) (fun hc_1 => ?_) (fun hc_1 => ?_)
    · rw [if_neg hc_1] at h
      refine lv_aload_n hx hb dX10_read_25 rfl (lv_at hl 0 rfl) ?_
      refine callMv (k := 0) (As := []) (rest := []) (n := 0) (c_X10_orders hAd I_1 A  _ h) hx hb hT hown hK hP hS mw_5_120 wd_X10_orders (by decide +kernel) ⟨rfl, rfl⟩ (by decide) rfl rfl he_X10 rfl hl.1 hml rfl (Nat.le_of_ble_eq_true rfl) dX10_read_26 ⟨Nat.zero_le _, Nat.zero_le _⟩ (fun u H locs h hP hS => ?_)
      obtain ⟨I_2, A_1⟩ := u
      dsimp only at h hP
      refine lv_iconst (v := 0) hx hb dX10_read_29 (by decide) ?_
      refine lv_istore_n (lv' := [(3, .int 0), (0, .ref (ad 0)), (1, .int x1), (2, .int x2)]) hx hb dX10_read_30 rfl hl (by decide) rfl (fun ls hl => ?_)
      obtain ⟨F, n, h, hF, hG⟩ := lfix_ex h
      have LP : ∀ (n : Nat) (v3 : Int32) (A_2 : Nat → Nat → Int32) (ls : Array Slot) (H : Heap) (locs : List Loc), F n (v3, A_2) → lv_has ls 5 [(3, .int v3), (0, .ref (ad 0)), (1, .int x1), (2, .int x2)] → va_P D vwCl (wM cy ad I_2 A_2) H → va_S Ad s.heap H locs → W p l e rmX10_read s m args below meth c H locs 0 0 Q (F0 m 31 ls []) := by
        intro n
        induction n with
        | zero => intro v3 A_2 ls H locs h _ _ _; exact absurd h (hF _)
        | succ n ih =>
          intro v3 A_2 ls H locs h hl hP hS
          replace h := hG _ _ h
          try dsimp only at h
          refine lv_iload_n hx hb dX10_read_31 rfl (lv_at hl 0 rfl) ?_
          refine lv_aload_n hx hb dX10_read_32 rfl (lv_at hl 1 rfl) ?_
          refine va_get (T := TX10) hx hb hT inlX10 hown hK.1 hP 0 he_X10 rfl 2 (by decide) (hT _ mw_4_139) (fun _ h9 => h9) rfl dX10_read_33 ?_
          refine lv_icmp_ge (tgt := 52) hx hb dX10_read_36 (by decide) (fun hc_2 => ?_) (fun hc_2 => ?_)
          · rw [if_pos hc_2] at h
            refine lv_iconst (v := 0) hx hb dX10_read_52 (by decide) ?_
            refine lv_istore_n (lv' := [(3, .int 0), (0, .ref (ad 0)), (1, .int x1), (2, .int x2)]) hx hb dX10_read_53 rfl hl (by decide) rfl (fun ls hl => ?_)
            obtain ⟨F_1, n_1, h, hF_1, hG_1⟩ := lfix_ex h
            have LP_1 : ∀ (n_1 : Nat) (v3_1 : Int32) (A_3 : Nat → Nat → Int32) (ls : Array Slot) (H : Heap) (locs : List Loc), F_1 n_1 (v3_1, A_3) → lv_has ls 5 [(3, .int v3_1), (0, .ref (ad 0)), (1, .int x1), (2, .int x2)] → va_P D vwCl (wM cy ad I_2 A_3) H → va_S Ad s.heap H locs → W p l e rmX10_read s m args below meth c H locs 0 0 Q (F0 m 54 ls []) := by
              intro n_1
              induction n_1 with
              | zero => intro v3_1 A_3 ls H locs h _ _ _; exact absurd h (hF_1 _)
              | succ n_1 ih_1 =>
                intro v3_1 A_3 ls H locs h hl hP hS
                replace h := hG_1 _ _ h
                try dsimp only at h
                refine lv_iload_n hx hb dX10_read_54 rfl (lv_at hl 0 rfl) ?_
                refine lv_aload_n hx hb dX10_read_55 rfl (lv_at hl 1 rfl) ?_
                refine va_get (T := TX10) hx hb hT inlX10 hown hK.1 hP 0 he_X10 rfl 16 (by decide) (hT _ mw_4_153) (fun _ h9 => h9) rfl dX10_read_56 ?_
                refine lv_icmp_ge (tgt := 144) hx hb dX10_read_59 (by decide) (fun hc_3 => ?_) (fun hc_3 => ?_)
                · rw [if_pos hc_3] at h
                  refine lv_aload_n hx hb dX10_read_144 rfl (lv_at hl 1 rfl) ?_
                  refine va_get (T := TX10) hx hb hT inlX10 hown hK.1 hP 0 he_X10 rfl 16 (by decide) (hT _ mw_4_153) (fun _ h9 => h9) rfl dX10_read_145 ?_
                  exact hret _ (I_2, A_3) dX10_read_148 h hP hS
                · rw [if_neg hc_3] at h
                  refine lv_aload_n hx hb dX10_read_62 rfl (lv_at hl 1 rfl) ?_
                  refine lv_iload_n hx hb dX10_read_63 rfl (lv_at hl 2 rfl) ?_
                  refine lv_iload_n hx hb dX10_read_64 rfl (lv_at hl 3 rfl) ?_
                  refine lv_aload_n hx hb dX10_read_65 rfl (lv_at hl 1 rfl) ?_
                  refine va_get (T := TX10) hx hb hT inlX10 hown hK.1 hP 0 he_X10 rfl 16 (by decide) (hT _ mw_4_153) (fun _ h9 => h9) rfl dX10_read_66 ?_
                  refine lv_iload_n hx hb dX10_read_69 rfl (lv_at hl 0 rfl) ?_
                  refine lv_isub hx hb dX10_read_70 ?_
                  refine callMi (k := 0) (As := [.int x1, .int x2, .int ((I_2 5) - v3_1)]) (rest := []) (n := 3) (c_X10_isCertain hAd I_2 A_3 x1 x2 ((I_2 5) - v3_1) _ h) hx hb hT hown hK hP hS mw_5_239 wd_X10_isCertain (by decide +kernel) ⟨rfl, rfl⟩ (by decide) rfl rfl he_X10 rfl hl.1 hml rfl (Nat.le_of_ble_eq_true rfl) dX10_read_71 ⟨Nat.zero_le _, Nat.zero_le _⟩ (fun r71 u H locs h hP hS => ?_)
                  obtain ⟨Iu_1, Au_1⟩ := u
                  dsimp only at h hP
                  obtain ⟨h, rfl, rfl⟩ := h
                  try dsimp only at h
                  refine lv_if_eq (tgt := 79) hx hb dX10_read_74 (by decide) (fun hc_4 => ?_) (fun hc_4 => ?_)
                  · rw [if_pos hc_4] at h
                    refine lv_iconst (v := 0) hx hb dX10_read_79 (by decide) ?_
                    refine lv_istore (lv' := [(4, .int 0), (3, .int v3_1), (0, .ref (ad 0)), (1, .int x1), (2, .int x2)]) hx hb dX10_read_80 hl (by decide) rfl (fun ls hl => ?_)
                    obtain ⟨F_2, n_2, h, hF_2, hG_2⟩ := lfix_ex h
                    have LP_2 : ∀ (n_2 : Nat) (v4 : Int32) (A_4 : Nat → Nat → Int32) (ls : Array Slot) (H : Heap) (locs : List Loc), F_2 n_2 (v4, A_4) → lv_has ls 5 [(4, .int v4), (3, .int v3_1), (0, .ref (ad 0)), (1, .int x1), (2, .int x2)] → va_P D vwCl (wM cy ad I_2 A_4) H → va_S Ad s.heap H locs → W p l e rmX10_read s m args below meth c H locs 0 0 Q (F0 m 82 ls []) := by
                      intro n_2
                      induction n_2 with
                      | zero => intro v4 A_4 ls H locs h _ _ _; exact absurd h (hF_2 _)
                      | succ n_2 ih_2 =>
                        intro v4 A_4 ls H locs h hl hP hS
                        replace h := hG_2 _ _ h
                        try dsimp only at h
                        refine lv_iload hx hb dX10_read_82 (lv_at hl 0 rfl) ?_
                        refine lv_aload_n hx hb dX10_read_84 rfl (lv_at hl 2 rfl) ?_
                        refine va_get (T := TX10) hx hb hT inlX10 hown hK.1 hP 0 he_X10 rfl 2 (by decide) (hT _ mw_4_139) (fun _ h9 => h9) rfl dX10_read_85 ?_
                        refine lv_icmp_ge (tgt := 138) hx hb dX10_read_88 (by decide) (fun hc_5 => ?_) (fun hc_5 => ?_)
                        · rw [if_pos hc_5] at h
                          obtain ⟨v3_2, ev3_2⟩ : ∃ z : Int32, z = v3_1 + 1 := ⟨_, rfl⟩
                          replace h := h v3_2 ev3_2
                          refine lv_iinc (v := v3_2) (lv' := [(3, .int v3_2), (4, .int v4), (0, .ref (ad 0)), (1, .int x1), (2, .int x2)]) hx hb dX10_read_138 hl (k := 1) rfl (by rw [ev3_2]; rfl) (by decide) rfl (fun ls hl => ?_)
                          refine lv_goto (tgt := 54) hx hb dX10_read_141 (by decide) ?_
                          exact ih_1 v3_2 A_4 _ _ _ h (lv_sub hl [0, 2, 3, 4] rfl) hP hS
                        · rw [if_neg hc_5] at h
                          refine lv_aload_n hx hb dX10_read_91 rfl (lv_at hl 2 rfl) ?_
                          refine va_get (T := TX10) hx hb hT inlX10 hown hK.1 hP 0 he_X10 rfl 20 (by decide) (hT _ mw_4_157) (fun _ h9 => h9) rfl dX10_read_92 ?_
                          refine lv_iload hx hb dX10_read_95 (lv_at hl 0 rfl) ?_
                          refine lv_dup2_11 hx hb dX10_read_97 rfl rfl ?_
                          obtain ⟨hi, h⟩ := h
                          refine lM_I hx hb hK.1 hP (by decide) rfl hi dX10_read_98 ?_
                          refine lv_aload_n hx hb dX10_read_99 rfl (lv_at hl 2 rfl) ?_
                          refine va_get (T := TX10) hx hb hT inlX10 hown hK.1 hP 0 he_X10 rfl 5 (by decide) (hT _ mw_4_142) (fun _ h9 => h9) rfl dX10_read_100 ?_
                          refine lv_iload hx hb dX10_read_103 (lv_at hl 0 rfl) ?_
                          obtain ⟨hi_1, h⟩ := h
                          refine lM_I hx hb hK.1 hP (by decide) rfl hi_1 dX10_read_105 ?_
                          refine lv_iload_n hx hb dX10_read_106 rfl (lv_at hl 3 rfl) ?_
                          obtain ⟨k, hk, h⟩ := jn_ex h
                          try dsimp only at h
                          have J : ∀ (t : Int32), k t → ∀ (ls : Array Slot) (H : Heap) (locs : List Loc), lv_has ls 5 [(4, .int v4), (3, .int v3_1), (0, .ref (ad 0)), (1, .int x1), (2, .int x2)] → va_P D vwCl (wM cy ad I_2 A_4) H → va_S Ad s.heap H locs → W p l e rmX10_read s m args below meth c H locs 0 0 Q (F0 m 130 ls [.int t, .int (A_4 14 v4.toNatClampNeg), .int v4, .ref (ad 14)]) := by
                            intro t h ls H locs hl hP hS
                            replace h := hk _ h
                            try dsimp only at h
                            refine lv_iadd hx hb dX10_read_130 ?_
                            obtain ⟨hi_2, h⟩ := h
                            refine sM_I hAd hx hb hK.1 hP hS (by decide) (fun _ => rfl) hi_2 dX10_read_131 (fun H locs hP hS => ?_)
                            obtain ⟨A_5, eA_5⟩ : ∃ z, z = va_up A_4 14 (upd (A_4 14) v4.toNatClampNeg ((A_4 14 v4.toNatClampNeg) + t)) := ⟨_, rfl⟩
                            rw [← eA_5] at hP
                            replace h := h A_5 eA_5
                            obtain ⟨v4_1, ev4_1⟩ : ∃ z : Int32, z = v4 + 1 := ⟨_, rfl⟩
                            replace h := h v4_1 ev4_1
                            refine lv_iinc (v := v4_1) (lv' := [(4, .int v4_1), (3, .int v3_1), (0, .ref (ad 0)), (1, .int x1), (2, .int x2)]) hx hb dX10_read_132 hl (k := 0) rfl (by rw [ev4_1]; rfl) (by decide) rfl (fun ls hl => ?_)
                            refine lv_goto (tgt := 82) hx hb dX10_read_135 (by decide) ?_
                            exact ih_2 v4_1 A_5 _ _ _ h (lv_sub hl [0, 1, 2, 3, 4] rfl) hP hS
                          obtain ⟨k_1, hk_1, h⟩ := jn_ex h
                          try dsimp only at h
                          have J_1 : k_1 () → ∀ (ls : Array Slot) (H : Heap) (locs : List Loc), lv_has ls 5 [(4, .int v4), (3, .int v3_1), (0, .ref (ad 0)), (1, .int x1), (2, .int x2)] → va_P D vwCl (wM cy ad I_2 A_4) H → va_S Ad s.heap H locs → W p l e rmX10_read s m args below meth c H locs 0 0 Q (F0 m 129 ls [.int (A_4 14 v4.toNatClampNeg), .int v4, .ref (ad 14)]) := by
                            intro  h ls H locs hl hP hS
                            replace h := hk_1 _ h
                            try dsimp only at h
                            refine lv_iconst (v := 0) hx hb dX10_read_129 (by decide) ?_
                            exact J 0 h _ _ _ (lv_sub hl [0, 1, 2, 3, 4] rfl) hP hS
                          refine lv_icmp_ne (tgt := 129) hx hb dX10_read_107 (by decide) (fun hc_6 => ?_) (fun hc_6 => ?_)
                          · rw [if_neg hc_6] at h
                            exact J_1  h _ _ _ (lv_sub hl [0, 1, 2, 3, 4] rfl) hP hS
                          · rw [if_pos hc_6] at h
                            refine lv_aload_n hx hb dX10_read_110 rfl (lv_at hl 2 rfl) ?_
                            refine lv_aload_n hx hb dX10_read_111 rfl (lv_at hl 2 rfl) ?_
                            refine va_get (T := TX10) hx hb hT inlX10 hown hK.1 hP 0 he_X10 rfl 15 (by decide) (hT _ mw_4_152) (fun _ h9 => h9) rfl dX10_read_112 ?_
                            refine lv_iload_n hx hb dX10_read_115 rfl (lv_at hl 1 rfl) ?_
                            obtain ⟨hi_3, h⟩ := h
                            refine lM_I hx hb hK.1 hP (by decide) rfl hi_3 dX10_read_116 ?_
                            refine lv_iload hx hb dX10_read_117 (lv_at hl 0 rfl) ?_
                            refine callMi (k := 0) (As := [.int (A_4 11 v3_1.toNatClampNeg), .int v4]) (rest := [.int (A_4 14 v4.toNatClampNeg), .int v4, .ref (ad 14)]) (n := 2) (c_X10_counts hAd I_2 A_4 (A_4 11 v3_1.toNatClampNeg) v4 _ h) hx hb hT hown hK hP hS mw_5_152 wd_X10_counts (by decide +kernel) ⟨rfl, rfl⟩ (by decide) rfl rfl he_X10 rfl hl.1 hml rfl (Nat.le_of_ble_eq_true rfl) dX10_read_119 ⟨Nat.zero_le _, Nat.zero_le _⟩ (fun r119 u H locs h hP hS => ?_)
                            obtain ⟨Iu_2, Au_2⟩ := u
                            dsimp only at h hP
                            obtain ⟨h, rfl, rfl⟩ := h
                            try dsimp only at h
                            refine lv_if_eq (tgt := 129) hx hb dX10_read_122 (by decide) (fun hc_7 => ?_) (fun hc_7 => ?_)
                            · rw [if_pos hc_7] at h
                              exact J_1  h _ _ _ (lv_sub hl [0, 1, 2, 3, 4] rfl) hP hS
                            · rw [if_neg hc_7] at h
                              refine lv_iconst (v := 1) hx hb dX10_read_125 (by decide) ?_
                              refine lv_goto (tgt := 130) hx hb dX10_read_126 (by decide) ?_
                              exact J 1 h _ _ _ (lv_sub hl [0, 1, 2, 3, 4] rfl) hP hS
                    exact LP_2 _ 0 A_3 _ _ _ h (lv_sub hl [0, 1, 2, 3, 4] rfl) hP hS
                  · rw [if_neg hc_4] at h
                    refine lv_iload_n hx hb dX10_read_77 rfl (lv_at hl 0 rfl) ?_
                    exact hret _ (I_2, A_3) dX10_read_78 h hP hS
            exact LP_1 _ 0 A_2 _ _ _ h (lv_sub hl [0, 1, 2, 3] rfl) hP hS
          · rw [if_neg hc_2] at h
            refine lv_aload_n hx hb dX10_read_39 rfl (lv_at hl 1 rfl) ?_
            refine va_get (T := TX10) hx hb hT inlX10 hown hK.1 hP 0 he_X10 rfl 20 (by decide) (hT _ mw_4_157) (fun _ h9 => h9) rfl dX10_read_40 ?_
            refine lv_iload_n hx hb dX10_read_43 rfl (lv_at hl 0 rfl) ?_
            refine lv_iconst (v := 0) hx hb dX10_read_44 (by decide) ?_
            obtain ⟨hi_4, h⟩ := h
            refine sM_I hAd hx hb hK.1 hP hS (by decide) (fun _ => rfl) hi_4 dX10_read_45 (fun H locs hP hS => ?_)
            obtain ⟨A_6, eA_6⟩ : ∃ z, z = va_up A_2 14 (upd (A_2 14) v3.toNatClampNeg 0) := ⟨_, rfl⟩
            rw [← eA_6] at hP
            replace h := h A_6 eA_6
            obtain ⟨v3_3, ev3_3⟩ : ∃ z : Int32, z = v3 + 1 := ⟨_, rfl⟩
            replace h := h v3_3 ev3_3
            refine lv_iinc (v := v3_3) (lv' := [(3, .int v3_3), (0, .ref (ad 0)), (1, .int x1), (2, .int x2)]) hx hb dX10_read_46 hl (k := 0) rfl (by rw [ev3_3]; rfl) (by decide) rfl (fun ls hl => ?_)
            refine lv_goto (tgt := 31) hx hb dX10_read_49 (by decide) ?_
            exact ih v3_3 A_6 _ _ _ h (lv_sub hl [0, 1, 2, 3] rfl) hP hS
      exact LP _ 0 A_1 _ _ _ h (lv_sub hl [0, 1, 2, 3] rfl) hP hS
    · rw [if_pos hc_1] at h
      refine lv_iconst (v := (-1)) hx hb dX10_read_23 (by decide) ?_
      exact hret _ (I_1, A) dX10_read_24 h hP hS
theorem dX10_bestBelow_0 : decode cX10_bestBelow 0 = .ok (.iconst (-1), 1) := by decide +kernel
theorem dX10_bestBelow_1 : decode cX10_bestBelow 1 = .ok (.istore_n 3, 1) := by decide +kernel
theorem dX10_bestBelow_2 : decode cX10_bestBelow 2 = .ok (.iconst 0, 1) := by decide +kernel
theorem dX10_bestBelow_3 : decode cX10_bestBelow 3 = .ok (.istore 4, 2) := by decide +kernel
theorem dX10_bestBelow_5 : decode cX10_bestBelow 5 = .ok (.iload 4, 2) := by decide +kernel
theorem dX10_bestBelow_7 : decode cX10_bestBelow 7 = .ok (.aload_n 0, 1) := by decide +kernel
theorem dX10_bestBelow_8 : decode cX10_bestBelow 8 = .ok (.getfield 67, 3) := by decide +kernel
theorem dX10_bestBelow_11 : decode cX10_bestBelow 11 = .ok (.if_icmp .ge 80, 3) := by decide +kernel
theorem dX10_bestBelow_14 : decode cX10_bestBelow 14 = .ok (.aload_n 0, 1) := by decide +kernel
theorem dX10_bestBelow_15 : decode cX10_bestBelow 15 = .ok (.getfield 13, 3) := by decide +kernel
theorem dX10_bestBelow_18 : decode cX10_bestBelow 18 = .ok (.iload 4, 2) := by decide +kernel
theorem dX10_bestBelow_20 : decode cX10_bestBelow 20 = .ok (.iaload, 1) := by decide +kernel
theorem dX10_bestBelow_21 : decode cX10_bestBelow 21 = .ok (.iload_n 1, 1) := by decide +kernel
theorem dX10_bestBelow_22 : decode cX10_bestBelow 22 = .ok (.if_icmp .ne 28, 3) := by decide +kernel
theorem dX10_bestBelow_25 : decode cX10_bestBelow 25 = .ok (.aload_n 0, 1) := by decide +kernel
theorem dX10_bestBelow_26 : decode cX10_bestBelow 26 = .ok (.getfield 16, 3) := by decide +kernel
theorem dX10_bestBelow_29 : decode cX10_bestBelow 29 = .ok (.iload 4, 2) := by decide +kernel
theorem dX10_bestBelow_31 : decode cX10_bestBelow 31 = .ok (.iaload, 1) := by decide +kernel
theorem dX10_bestBelow_32 : decode cX10_bestBelow 32 = .ok (.iload_n 2, 1) := by decide +kernel
theorem dX10_bestBelow_33 : decode cX10_bestBelow 33 = .ok (.if_icmp .ne 17, 3) := by decide +kernel
theorem dX10_bestBelow_36 : decode cX10_bestBelow 36 = .ok (.aload_n 0, 1) := by decide +kernel
theorem dX10_bestBelow_37 : decode cX10_bestBelow 37 = .ok (.getfield 50, 3) := by decide +kernel
theorem dX10_bestBelow_40 : decode cX10_bestBelow 40 = .ok (.iload 4, 2) := by decide +kernel
theorem dX10_bestBelow_42 : decode cX10_bestBelow 42 = .ok (.iaload, 1) := by decide +kernel
theorem dX10_bestBelow_43 : decode cX10_bestBelow 43 = .ok (.ifCond .le 7, 3) := by decide +kernel
theorem dX10_bestBelow_46 : decode cX10_bestBelow 46 = .ok (.iconst 1, 1) := by decide +kernel
theorem dX10_bestBelow_47 : decode cX10_bestBelow 47 = .ok (.goto 4, 3) := by decide +kernel
theorem dX10_bestBelow_50 : decode cX10_bestBelow 50 = .ok (.iconst 0, 1) := by decide +kernel
theorem dX10_bestBelow_51 : decode cX10_bestBelow 51 = .ok (.istore 5, 2) := by decide +kernel
theorem dX10_bestBelow_53 : decode cX10_bestBelow 53 = .ok (.iload 5, 2) := by decide +kernel
theorem dX10_bestBelow_55 : decode cX10_bestBelow 55 = .ok (.ifCond .eq 28, 3) := by decide +kernel
theorem dX10_bestBelow_58 : decode cX10_bestBelow 58 = .ok (.iload_n 3, 1) := by decide +kernel
theorem dX10_bestBelow_59 : decode cX10_bestBelow 59 = .ok (.ifCond .lt 19, 3) := by decide +kernel
theorem dX10_bestBelow_62 : decode cX10_bestBelow 62 = .ok (.aload_n 0, 1) := by decide +kernel
theorem dX10_bestBelow_63 : decode cX10_bestBelow 63 = .ok (.getfield 50, 3) := by decide +kernel
theorem dX10_bestBelow_66 : decode cX10_bestBelow 66 = .ok (.iload 4, 2) := by decide +kernel
theorem dX10_bestBelow_68 : decode cX10_bestBelow 68 = .ok (.iaload, 1) := by decide +kernel
theorem dX10_bestBelow_69 : decode cX10_bestBelow 69 = .ok (.aload_n 0, 1) := by decide +kernel
theorem dX10_bestBelow_70 : decode cX10_bestBelow 70 = .ok (.getfield 50, 3) := by decide +kernel
theorem dX10_bestBelow_73 : decode cX10_bestBelow 73 = .ok (.iload_n 3, 1) := by decide +kernel
theorem dX10_bestBelow_74 : decode cX10_bestBelow 74 = .ok (.iaload, 1) := by decide +kernel
theorem dX10_bestBelow_75 : decode cX10_bestBelow 75 = .ok (.if_icmp .le 8, 3) := by decide +kernel
theorem dX10_bestBelow_78 : decode cX10_bestBelow 78 = .ok (.iload 4, 2) := by decide +kernel
theorem dX10_bestBelow_80 : decode cX10_bestBelow 80 = .ok (.goto 4, 3) := by decide +kernel
theorem dX10_bestBelow_83 : decode cX10_bestBelow 83 = .ok (.iload_n 3, 1) := by decide +kernel
theorem dX10_bestBelow_84 : decode cX10_bestBelow 84 = .ok (.istore_n 3, 1) := by decide +kernel
theorem dX10_bestBelow_85 : decode cX10_bestBelow 85 = .ok (.iinc 4 1, 3) := by decide +kernel
theorem dX10_bestBelow_88 : decode cX10_bestBelow 88 = .ok (.goto (-83), 3) := by decide +kernel
theorem dX10_bestBelow_91 : decode cX10_bestBelow 91 = .ok (.iload_n 3, 1) := by decide +kernel
theorem dX10_bestBelow_92 : decode cX10_bestBelow 92 = .ok (.ireturn, 1) := by decide +kernel
def wX10_bestBelow (I : Nat → Int32) (A : Nat → Nat → Int32) (x1 : Int32) (x2 : Int32) (post : Int32 → Prop) : Prop := ∃ n, lfix (fun (r : (Int32 × Int32) → Prop) (v4, v3) => if (I 2) ≤ v4 then (post v3) else (vp_in v4 40 ∧ (jn (fun (t : Int32) => jn (fun (t_1 : Int32) => ∀ v4_1 : Int32, v4_1 = v4 + 1 → r (v4_1, t_1)) (fun k_1 => jn (fun (_ : Unit) => k_1 v3) (fun k_2 => if t = 0 then (k_2 ()) else (jn (fun (_ : Unit) => k_1 v4) (fun k_3 => if v3 < 0 then (k_3 ()) else (vp_in v4 40 ∧ (vp_in v3 40 ∧ (if (A 14 v4.toNatClampNeg) ≤ (A 14 v3.toNatClampNeg) then (k_2 ()) else (k_3 ()))))))))) (fun k => jn (fun (_ : Unit) => k 0) (fun k_4 => if (A 2 v4.toNatClampNeg) = x1 then (vp_in v4 40 ∧ (if (A 3 v4.toNatClampNeg) = x2 then (vp_in v4 40 ∧ (if (A 14 v4.toNatClampNeg) ≤ 0 then (k_4 ()) else (k 1))) else (k_4 ()))) else (k_4 ())))))) n (0, (-1))
abbrev rmX10_bestBelow : Room := { frames := 0, cells := 0, slots := 0, locals := 0 }
theorem wd_X10_bestBelow : Cond.instanceMethod yX10_bestBelow ∈ BW ∧ Cond.selects yX10_bestBelow.cls yX10_bestBelow yX10_bestBelow ∈ BW ∧ Cond.initialized yX10_bestBelow.cls ∈ BW ∧ Cond.code yX10_bestBelow cX10_bestBelow 6 (some .int) ∈ BW := ⟨mw_6_9, mp_54, mw_1_11, mw_6_10⟩
set_option maxHeartbeats 4000000 in
set_option maxRecDepth 100000 in
theorem c_X10_bestBelow {l : Launch} {D : va_G} {cy : Nat → ClassId} {ad : Nat → Nat} {Ad : Nat → Prop} (hAd : adok 16 Ad ad) (I : Nat → Int32) (A : Nat → Nat → Int32) (x1 : Int32) (x2 : Int32)  (post : Int32 → Prop) (h : wX10_bestBelow I A x1 x2 post) : Met l yX10_bestBelow (.code yX10_bestBelow cX10_bestBelow 6 (some .int) :: BW) rmX10_bestBelow (va_Pc [.ref (ad 0), .int x1, .int x2] (fun U => kC D cy U ∧ va_P D vwCl (wM cy ad I A) U.heap)) (qMi D cy ad Ad (fun r u => post r  ∧ I = u.1 ∧ A = u.2)) 0 0 Ad := by
  refine startMi (by decide) (Nat.le_of_ble_eq_true rfl) (lv := [(0, .ref (ad 0)), (1, .int x1), (2, .int x2)]) rfl (fun p e s m args below meth c Q ls hx hb hml hT hown hK hret hl hP hS => ?_)
  unfold wX10_bestBelow at h
  refine lv_iconst (v := (-1)) hx hb dX10_bestBelow_0 (by decide) ?_
  refine lv_istore_n (lv' := [(3, .int (-1)), (0, .ref (ad 0)), (1, .int x1), (2, .int x2)]) hx hb dX10_bestBelow_1 rfl hl (by decide) rfl (fun ls hl => ?_)
  refine lv_iconst (v := 0) hx hb dX10_bestBelow_2 (by decide) ?_
  refine lv_istore (lv' := [(4, .int 0), (3, .int (-1)), (0, .ref (ad 0)), (1, .int x1), (2, .int x2)]) hx hb dX10_bestBelow_3 hl (by decide) rfl (fun ls hl => ?_)
  obtain ⟨F, n, h, hF, hG⟩ := lfix_ex h
  have LP : ∀ (n : Nat) (v4 : Int32) (v3 : Int32) (ls : Array Slot) (H : Heap) (locs : List Loc), F n (v4, v3) → lv_has ls 6 [(4, .int v4), (3, .int v3), (0, .ref (ad 0)), (1, .int x1), (2, .int x2)] → va_P D vwCl (wM cy ad I A) H → va_S Ad s.heap H locs → W p l e rmX10_bestBelow s m args below meth c H locs 0 0 Q (F0 m 5 ls []) := by
    intro n
    induction n with
    | zero => intro v4 v3 ls H locs h _ _ _; exact absurd h (hF _)
    | succ n ih =>
      intro v4 v3 ls H locs h hl hP hS
      replace h := hG _ _ h
      try dsimp only at h
      refine lv_iload hx hb dX10_bestBelow_5 (lv_at hl 0 rfl) ?_
      refine lv_aload_n hx hb dX10_bestBelow_7 rfl (lv_at hl 2 rfl) ?_
      refine va_get (T := TX10) hx hb hT inlX10 hown hK.1 hP 0 he_X10 rfl 2 (by decide) (hT _ mw_4_139) (fun _ h9 => h9) rfl dX10_bestBelow_8 ?_
      refine lv_icmp_ge (tgt := 91) hx hb dX10_bestBelow_11 (by decide) (fun hc => ?_) (fun hc => ?_)
      · rw [if_pos hc] at h
        refine lv_iload_n hx hb dX10_bestBelow_91 rfl (lv_at hl 1 rfl) ?_
        exact hret _ (I, A) dX10_bestBelow_92 ⟨h, rfl, rfl⟩ hP hS
      · rw [if_neg hc] at h
        refine lv_aload_n hx hb dX10_bestBelow_14 rfl (lv_at hl 2 rfl) ?_
        refine va_get (T := TX10) hx hb hT inlX10 hown hK.1 hP 0 he_X10 rfl 5 (by decide) (hT _ mw_4_142) (fun _ h9 => h9) rfl dX10_bestBelow_15 ?_
        refine lv_iload hx hb dX10_bestBelow_18 (lv_at hl 0 rfl) ?_
        obtain ⟨hi, h⟩ := h
        refine lM_I hx hb hK.1 hP (by decide) rfl hi dX10_bestBelow_20 ?_
        refine lv_iload_n hx hb dX10_bestBelow_21 rfl (lv_at hl 3 rfl) ?_
        obtain ⟨k, hk, h⟩ := jn_ex h
        try dsimp only at h
        have J : ∀ (t : Int32), k t → ∀ (ls : Array Slot) (H : Heap) (locs : List Loc), lv_has ls 6 [(4, .int v4), (3, .int v3), (0, .ref (ad 0)), (1, .int x1), (2, .int x2)] → va_P D vwCl (wM cy ad I A) H → va_S Ad s.heap H locs → W p l e rmX10_bestBelow s m args below meth c H locs 0 0 Q (F0 m 51 ls [.int t]) := by
          intro t h ls H locs hl hP hS
          replace h := hk _ h
          try dsimp only at h
          refine lv_istore (lv' := [(5, .int t), (4, .int v4), (3, .int v3), (0, .ref (ad 0)), (1, .int x1), (2, .int x2)]) hx hb dX10_bestBelow_51 hl (by decide) rfl (fun ls hl => ?_)
          refine lv_iload hx hb dX10_bestBelow_53 (lv_at hl 0 rfl) ?_
          obtain ⟨k_1, hk_1, h⟩ := jn_ex h
          try dsimp only at h
          have J_1 : ∀ (t_1 : Int32), k_1 t_1 → ∀ (ls : Array Slot) (H : Heap) (locs : List Loc), lv_has ls 6 [(4, .int v4), (0, .ref (ad 0)), (1, .int x1), (2, .int x2)] → va_P D vwCl (wM cy ad I A) H → va_S Ad s.heap H locs → W p l e rmX10_bestBelow s m args below meth c H locs 0 0 Q (F0 m 84 ls [.int t_1]) := by
            intro t_1 h ls H locs hl hP hS
            replace h := hk_1 _ h
            try dsimp only at h
            refine lv_istore_n (lv' := [(3, .int t_1), (4, .int v4), (0, .ref (ad 0)), (1, .int x1), (2, .int x2)]) hx hb dX10_bestBelow_84 rfl hl (by decide) rfl (fun ls hl => ?_)
            obtain ⟨v4_1, ev4_1⟩ : ∃ z : Int32, z = v4 + 1 := ⟨_, rfl⟩
            replace h := h v4_1 ev4_1
            refine lv_iinc (v := v4_1) (lv' := [(4, .int v4_1), (3, .int t_1), (0, .ref (ad 0)), (1, .int x1), (2, .int x2)]) hx hb dX10_bestBelow_85 hl (k := 1) rfl (by rw [ev4_1]; rfl) (by decide) rfl (fun ls hl => ?_)
            refine lv_goto (tgt := 5) hx hb dX10_bestBelow_88 (by decide) ?_
            exact ih v4_1 t_1 _ _ _ h (lv_sub hl [0, 1, 2, 3, 4] rfl) hP hS
          obtain ⟨k_2, hk_2, h⟩ := jn_ex h
          try dsimp only at h
          have J_2 : k_2 () → ∀ (ls : Array Slot) (H : Heap) (locs : List Loc), lv_has ls 6 [(4, .int v4), (3, .int v3), (0, .ref (ad 0)), (1, .int x1), (2, .int x2)] → va_P D vwCl (wM cy ad I A) H → va_S Ad s.heap H locs → W p l e rmX10_bestBelow s m args below meth c H locs 0 0 Q (F0 m 83 ls []) := by
            intro  h ls H locs hl hP hS
            replace h := hk_2 _ h
            try dsimp only at h
            refine lv_iload_n hx hb dX10_bestBelow_83 rfl (lv_at hl 1 rfl) ?_
            exact J_1 v3 h _ _ _ (lv_sub hl [0, 2, 3, 4] rfl) hP hS
          refine lv_if_eq (tgt := 83) hx hb dX10_bestBelow_55 (by decide) (fun hc_1 => ?_) (fun hc_1 => ?_)
          · rw [if_pos hc_1] at h
            exact J_2  h _ _ _ (lv_sub hl [1, 2, 3, 4, 5] rfl) hP hS
          · rw [if_neg hc_1] at h
            refine lv_iload_n hx hb dX10_bestBelow_58 rfl (lv_at hl 2 rfl) ?_
            obtain ⟨k_3, hk_3, h⟩ := jn_ex h
            try dsimp only at h
            have J_3 : k_3 () → ∀ (ls : Array Slot) (H : Heap) (locs : List Loc), lv_has ls 6 [(4, .int v4), (0, .ref (ad 0)), (1, .int x1), (2, .int x2)] → va_P D vwCl (wM cy ad I A) H → va_S Ad s.heap H locs → W p l e rmX10_bestBelow s m args below meth c H locs 0 0 Q (F0 m 78 ls []) := by
              intro  h ls H locs hl hP hS
              replace h := hk_3 _ h
              try dsimp only at h
              refine lv_iload hx hb dX10_bestBelow_78 (lv_at hl 0 rfl) ?_
              refine lv_goto (tgt := 84) hx hb dX10_bestBelow_80 (by decide) ?_
              exact J_1 v4 h _ _ _ (lv_sub hl [0, 1, 2, 3] rfl) hP hS
            refine lv_if_lt (tgt := 78) hx hb dX10_bestBelow_59 (by decide) (fun hc_2 => ?_) (fun hc_2 => ?_)
            · rw [if_pos hc_2] at h
              exact J_3  h _ _ _ (lv_sub hl [1, 3, 4, 5] rfl) hP hS
            · rw [if_neg hc_2] at h
              refine lv_aload_n hx hb dX10_bestBelow_62 rfl (lv_at hl 3 rfl) ?_
              refine va_get (T := TX10) hx hb hT inlX10 hown hK.1 hP 0 he_X10 rfl 20 (by decide) (hT _ mw_4_157) (fun _ h9 => h9) rfl dX10_bestBelow_63 ?_
              refine lv_iload hx hb dX10_bestBelow_66 (lv_at hl 1 rfl) ?_
              obtain ⟨hi_1, h⟩ := h
              refine lM_I hx hb hK.1 hP (by decide) rfl hi_1 dX10_bestBelow_68 ?_
              refine lv_aload_n hx hb dX10_bestBelow_69 rfl (lv_at hl 3 rfl) ?_
              refine va_get (T := TX10) hx hb hT inlX10 hown hK.1 hP 0 he_X10 rfl 20 (by decide) (hT _ mw_4_157) (fun _ h9 => h9) rfl dX10_bestBelow_70 ?_
              refine lv_iload_n hx hb dX10_bestBelow_73 rfl (lv_at hl 2 rfl) ?_
              obtain ⟨hi_2, h⟩ := h
              refine lM_I hx hb hK.1 hP (by decide) rfl hi_2 dX10_bestBelow_74 ?_
              refine lv_icmp_le (tgt := 83) hx hb dX10_bestBelow_75 (by decide) (fun hc_3 => ?_) (fun hc_3 => ?_)
              · rw [if_pos hc_3] at h
                exact J_2  h _ _ _ (lv_sub hl [1, 2, 3, 4, 5] rfl) hP hS
              · rw [if_neg hc_3] at h
                exact J_3  h _ _ _ (lv_sub hl [1, 3, 4, 5] rfl) hP hS
        obtain ⟨k_4, hk_4, h⟩ := jn_ex h
        try dsimp only at h
        have J_4 : k_4 () → ∀ (ls : Array Slot) (H : Heap) (locs : List Loc), lv_has ls 6 [(4, .int v4), (3, .int v3), (0, .ref (ad 0)), (1, .int x1), (2, .int x2)] → va_P D vwCl (wM cy ad I A) H → va_S Ad s.heap H locs → W p l e rmX10_bestBelow s m args below meth c H locs 0 0 Q (F0 m 50 ls []) := by
          intro  h ls H locs hl hP hS
          replace h := hk_4 _ h
          try dsimp only at h
          refine lv_iconst (v := 0) hx hb dX10_bestBelow_50 (by decide) ?_
          exact J 0 h _ _ _ (lv_sub hl [0, 1, 2, 3, 4] rfl) hP hS
        refine lv_icmp_ne (tgt := 50) hx hb dX10_bestBelow_22 (by decide) (fun hc_4 => ?_) (fun hc_4 => ?_)
        · rw [if_neg hc_4] at h
          exact J_4  h _ _ _ (lv_sub hl [0, 1, 2, 3, 4] rfl) hP hS
        · rw [if_pos hc_4] at h
          refine lv_aload_n hx hb dX10_bestBelow_25 rfl (lv_at hl 2 rfl) ?_
          refine va_get (T := TX10) hx hb hT inlX10 hown hK.1 hP 0 he_X10 rfl 6 (by decide) (hT _ mw_4_143) (fun _ h9 => h9) rfl dX10_bestBelow_26 ?_
          refine lv_iload hx hb dX10_bestBelow_29 (lv_at hl 0 rfl) ?_
          obtain ⟨hi_3, h⟩ := h
          refine lM_I hx hb hK.1 hP (by decide) rfl hi_3 dX10_bestBelow_31 ?_
          refine lv_iload_n hx hb dX10_bestBelow_32 rfl (lv_at hl 4 rfl) ?_
          refine lv_icmp_ne (tgt := 50) hx hb dX10_bestBelow_33 (by decide) (fun hc_5 => ?_) (fun hc_5 => ?_)
          · rw [if_neg hc_5] at h
            exact J_4  h _ _ _ (lv_sub hl [0, 1, 2, 3, 4] rfl) hP hS
          · rw [if_pos hc_5] at h
            refine lv_aload_n hx hb dX10_bestBelow_36 rfl (lv_at hl 2 rfl) ?_
            refine va_get (T := TX10) hx hb hT inlX10 hown hK.1 hP 0 he_X10 rfl 20 (by decide) (hT _ mw_4_157) (fun _ h9 => h9) rfl dX10_bestBelow_37 ?_
            refine lv_iload hx hb dX10_bestBelow_40 (lv_at hl 0 rfl) ?_
            obtain ⟨hi_4, h⟩ := h
            refine lM_I hx hb hK.1 hP (by decide) rfl hi_4 dX10_bestBelow_42 ?_
            refine lv_if_le (tgt := 50) hx hb dX10_bestBelow_43 (by decide) (fun hc_6 => ?_) (fun hc_6 => ?_)
            · rw [if_pos hc_6] at h
              exact J_4  h _ _ _ (lv_sub hl [0, 1, 2, 3, 4] rfl) hP hS
            · rw [if_neg hc_6] at h
              refine lv_iconst (v := 1) hx hb dX10_bestBelow_46 (by decide) ?_
              refine lv_goto (tgt := 51) hx hb dX10_bestBelow_47 (by decide) ?_
              exact J 1 h _ _ _ (lv_sub hl [0, 1, 2, 3, 4] rfl) hP hS
  exact LP _ 0 (-1) _ _ _ h (lv_sub hl [0, 1, 2, 3, 4] rfl) hP hS
theorem dX10_path_0 : decode cX10_path 0 = .ok (.aload_n 0, 1) := by decide +kernel
theorem dX10_path_1 : decode cX10_path 1 = .ok (.iconst 0, 1) := by decide +kernel
theorem dX10_path_2 : decode cX10_path 2 = .ok (.putfield 56, 3) := by decide +kernel
theorem dX10_path_5 : decode cX10_path 5 = .ok (.aload_n 0, 1) := by decide +kernel
theorem dX10_path_6 : decode cX10_path 6 = .ok (.iload_n 1, 1) := by decide +kernel
theorem dX10_path_7 : decode cX10_path 7 = .ok (.invokevirtual 80, 3) := by decide +kernel
theorem dX10_path_10 : decode cX10_path 10 = .ok (.ifCond .eq 7, 3) := by decide +kernel
theorem dX10_path_13 : decode cX10_path 13 = .ok (.iload_n 2, 1) := by decide +kernel
theorem dX10_path_14 : decode cX10_path 14 = .ok (.ifCond .ge 5, 3) := by decide +kernel
theorem dX10_path_17 : decode cX10_path 17 = .ok (.iconst (-1), 1) := by decide +kernel
theorem dX10_path_18 : decode cX10_path 18 = .ok (.ireturn, 1) := by decide +kernel
theorem dX10_path_19 : decode cX10_path 19 = .ok (.aload_n 0, 1) := by decide +kernel
theorem dX10_path_20 : decode cX10_path 20 = .ok (.iload_n 1, 1) := by decide +kernel
theorem dX10_path_21 : decode cX10_path 21 = .ok (.invokevirtual 190, 3) := by decide +kernel
theorem dX10_path_24 : decode cX10_path 24 = .ok (.aload_n 0, 1) := by decide +kernel
theorem dX10_path_25 : decode cX10_path 25 = .ok (.iload_n 1, 1) := by decide +kernel
theorem dX10_path_26 : decode cX10_path 26 = .ok (.iconst (-1), 1) := by decide +kernel
theorem dX10_path_27 : decode cX10_path 27 = .ok (.invokevirtual 200, 3) := by decide +kernel
theorem dX10_path_30 : decode cX10_path 30 = .ok (.istore_n 3, 1) := by decide +kernel
theorem dX10_path_31 : decode cX10_path 31 = .ok (.iconst 0, 1) := by decide +kernel
theorem dX10_path_32 : decode cX10_path 32 = .ok (.istore 4, 2) := by decide +kernel
theorem dX10_path_34 : decode cX10_path 34 = .ok (.iload 4, 2) := by decide +kernel
theorem dX10_path_36 : decode cX10_path 36 = .ok (.iload_n 2, 1) := by decide +kernel
theorem dX10_path_37 : decode cX10_path 37 = .ok (.if_icmp .ge 27, 3) := by decide +kernel
theorem dX10_path_40 : decode cX10_path 40 = .ok (.iload_n 3, 1) := by decide +kernel
theorem dX10_path_41 : decode cX10_path 41 = .ok (.ifCond .lt 23, 3) := by decide +kernel
theorem dX10_path_44 : decode cX10_path 44 = .ok (.iload 4, 2) := by decide +kernel
theorem dX10_path_46 : decode cX10_path 46 = .ok (.bipush 40, 2) := by decide +kernel
theorem dX10_path_48 : decode cX10_path 48 = .ok (.if_icmp .ge 16, 3) := by decide +kernel
theorem dX10_path_51 : decode cX10_path 51 = .ok (.aload_n 0, 1) := by decide +kernel
theorem dX10_path_52 : decode cX10_path 52 = .ok (.iload_n 1, 1) := by decide +kernel
theorem dX10_path_53 : decode cX10_path 53 = .ok (.iload_n 3, 1) := by decide +kernel
theorem dX10_path_54 : decode cX10_path 54 = .ok (.invokevirtual 200, 3) := by decide +kernel
theorem dX10_path_57 : decode cX10_path 57 = .ok (.istore_n 3, 1) := by decide +kernel
theorem dX10_path_58 : decode cX10_path 58 = .ok (.iinc 4 1, 3) := by decide +kernel
theorem dX10_path_61 : decode cX10_path 61 = .ok (.goto (-27), 3) := by decide +kernel
theorem dX10_path_64 : decode cX10_path 64 = .ok (.iload_n 2, 1) := by decide +kernel
theorem dX10_path_65 : decode cX10_path 65 = .ok (.bipush 40, 2) := by decide +kernel
theorem dX10_path_67 : decode cX10_path 67 = .ok (.if_icmp .ge 7, 3) := by decide +kernel
theorem dX10_path_70 : decode cX10_path 70 = .ok (.iload_n 3, 1) := by decide +kernel
theorem dX10_path_71 : decode cX10_path 71 = .ok (.goto 4, 3) := by decide +kernel
theorem dX10_path_74 : decode cX10_path 74 = .ok (.iconst (-1), 1) := by decide +kernel
theorem dX10_path_75 : decode cX10_path 75 = .ok (.ireturn, 1) := by decide +kernel
def wX10_path (I : Nat → Int32) (A : Nat → Nat → Int32) (x1 : Int32) (x2 : Int32) (post : Int32 → (Nat → Int32) → (Nat → Nat → Int32) → Prop) : Prop := (∀ I_1, I_1 = va_up I 0 0 → wX10_isTree I_1 A x1 (fun r7 => if r7 = 0 then (post (-1) I_1 A) else (if 0 ≤ x2 then (wX10_tells I_1 A x1 (fun A_1 => wX10_bestBelow I_1 A_1 x1 (-1) (fun r27 => ∃ n, lfix (fun (r : (Int32 × Int32) → Prop) (v4, v3) => jn (fun (_ : Unit) => if 40 ≤ x2 then (post (-1) I_1 A_1) else (post v3 I_1 A_1)) (fun k => if x2 ≤ v4 then (k ()) else (if v3 < 0 then (k ()) else (if 40 ≤ v4 then (k ()) else (wX10_bestBelow I_1 A_1 x1 v3 (fun r54 => ∀ v4_1 : Int32, v4_1 = v4 + 1 → r (v4_1, r54))))))) n (0, r27)))) else (post (-1) I_1 A))))
abbrev rmX10_path : Room := { frames := 6, cells := 0, slots := 0, locals := 147 }
theorem wd_X10_path : Cond.instanceMethod yX10_path ∈ BW ∧ Cond.selects yX10_path.cls yX10_path yX10_path ∈ BW ∧ Cond.initialized yX10_path.cls ∈ BW ∧ Cond.code yX10_path cX10_path 5 (some .int) ∈ BW := ⟨mw_6_4, mw_6_5, mw_1_11, mw_6_6⟩
set_option maxHeartbeats 4000000 in
set_option maxRecDepth 100000 in
theorem c_X10_path {l : Launch} {D : va_G} {cy : Nat → ClassId} {ad : Nat → Nat} {Ad : Nat → Prop} (hAd : adok 16 Ad ad) (I : Nat → Int32) (A : Nat → Nat → Int32) (x1 : Int32) (x2 : Int32)  (post : Int32 → (Nat → Int32) → (Nat → Nat → Int32) → Prop) (h : wX10_path I A x1 x2 post) : Met l yX10_path (.code yX10_path cX10_path 5 (some .int) :: BW) rmX10_path (va_Pc [.ref (ad 0), .int x1, .int x2] (fun U => kC D cy U ∧ va_P D vwCl (wM cy ad I A) U.heap)) (qMi D cy ad Ad (fun r u => post r u.1 u.2)) 0 0 Ad := by
  refine startMi (by decide) (Nat.le_of_ble_eq_true rfl) (lv := [(0, .ref (ad 0)), (1, .int x1), (2, .int x2)]) rfl (fun p e s m args below meth c Q ls hx hb hml hT hown hK hret hl hP hS => ?_)
  unfold wX10_path at h
  refine lv_aload_n hx hb dX10_path_0 rfl (lv_at hl 0 rfl) ?_
  refine lv_iconst (v := 0) hx hb dX10_path_1 (by decide) ?_
  refine pM_X10_thrown hAd hx hb hT hown hK.1 hP hS (hT _ mw_4_137) dX10_path_2 (fun H locs hP hS => ?_)
  obtain ⟨I_1, eI_1⟩ : ∃ z, z = va_up I 0 0 := ⟨_, rfl⟩
  rw [← eI_1] at hP
  replace h := h I_1 eI_1
  refine lv_aload_n hx hb dX10_path_5 rfl (lv_at hl 0 rfl) ?_
  refine lv_iload_n hx hb dX10_path_6 rfl (lv_at hl 1 rfl) ?_
  refine callMi (k := 0) (As := [.int x1]) (rest := []) (n := 1) (c_X10_isTree hAd I_1 A x1 _ h) hx hb hT hown hK hP hS mw_4_220 wd_X10_isTree (by decide +kernel) ⟨rfl, rfl⟩ (by decide) rfl rfl he_X10 rfl hl.1 hml rfl (Nat.le_of_ble_eq_true rfl) dX10_path_7 ⟨Nat.zero_le _, Nat.zero_le _⟩ (fun r7 u H locs h hP hS => ?_)
  obtain ⟨Iu, Au⟩ := u
  dsimp only at h hP
  obtain ⟨h, rfl, rfl⟩ := h
  try dsimp only at h
  refine lv_if_eq (tgt := 17) hx hb dX10_path_10 (by decide) (fun hc => ?_) (fun hc => ?_)
  · rw [if_pos hc] at h
    refine lv_iconst (v := (-1)) hx hb dX10_path_17 (by decide) ?_
    exact hret _ (I_1, A) dX10_path_18 h hP hS
  · rw [if_neg hc] at h
    refine lv_iload_n hx hb dX10_path_13 rfl (lv_at hl 2 rfl) ?_
    refine lv_if_ge (tgt := 19) hx hb dX10_path_14 (by decide) (fun hc_1 => ?_) (fun hc_1 => ?_)
    · rw [if_pos hc_1] at h
      refine lv_aload_n hx hb dX10_path_19 rfl (lv_at hl 0 rfl) ?_
      refine lv_iload_n hx hb dX10_path_20 rfl (lv_at hl 1 rfl) ?_
      refine callMv (k := 0) (As := [.int x1]) (rest := []) (n := 1) (c_X10_tells hAd I_1 A x1 _ h) hx hb hT hown hK hP hS mw_5_224 wd_X10_tells (by decide +kernel) ⟨rfl, rfl⟩ (by decide) rfl rfl he_X10 rfl hl.1 hml rfl (Nat.le_of_ble_eq_true rfl) dX10_path_21 ⟨Nat.zero_le _, Nat.zero_le _⟩ (fun u H locs h hP hS => ?_)
      obtain ⟨Iu_1, A_1⟩ := u
      dsimp only at h hP
      obtain ⟨h, rfl⟩ := h
      try dsimp only at h
      refine lv_aload_n hx hb dX10_path_24 rfl (lv_at hl 0 rfl) ?_
      refine lv_iload_n hx hb dX10_path_25 rfl (lv_at hl 1 rfl) ?_
      refine lv_iconst (v := (-1)) hx hb dX10_path_26 (by decide) ?_
      refine callMi (k := 0) (As := [.int x1, .int (-1)]) (rest := []) (n := 2) (c_X10_bestBelow hAd I_1 A_1 x1 (-1) _ h) hx hb hT hown hK hP hS mw_6_7 wd_X10_bestBelow (by decide +kernel) ⟨rfl, rfl⟩ (by decide) rfl rfl he_X10 rfl hl.1 hml rfl (Nat.le_of_ble_eq_true rfl) dX10_path_27 ⟨Nat.zero_le _, Nat.zero_le _⟩ (fun r27 u H locs h hP hS => ?_)
      obtain ⟨Iu_2, Au_1⟩ := u
      dsimp only at h hP
      obtain ⟨h, rfl, rfl⟩ := h
      try dsimp only at h
      refine lv_istore_n (lv' := [(3, .int r27), (0, .ref (ad 0)), (1, .int x1), (2, .int x2)]) hx hb dX10_path_30 rfl hl (by decide) rfl (fun ls hl => ?_)
      refine lv_iconst (v := 0) hx hb dX10_path_31 (by decide) ?_
      refine lv_istore (lv' := [(4, .int 0), (3, .int r27), (0, .ref (ad 0)), (1, .int x1), (2, .int x2)]) hx hb dX10_path_32 hl (by decide) rfl (fun ls hl => ?_)
      obtain ⟨F, n, h, hF, hG⟩ := lfix_ex h
      have LP : ∀ (n : Nat) (v4 : Int32) (v3 : Int32) (ls : Array Slot) (H : Heap) (locs : List Loc), F n (v4, v3) → lv_has ls 5 [(4, .int v4), (3, .int v3), (0, .ref (ad 0)), (1, .int x1), (2, .int x2)] → va_P D vwCl (wM cy ad I_1 A_1) H → va_S Ad s.heap H locs → W p l e rmX10_path s m args below meth c H locs 0 0 Q (F0 m 34 ls []) := by
        intro n
        induction n with
        | zero => intro v4 v3 ls H locs h _ _ _; exact absurd h (hF _)
        | succ n ih =>
          intro v4 v3 ls H locs h hl hP hS
          replace h := hG _ _ h
          try dsimp only at h
          refine lv_iload hx hb dX10_path_34 (lv_at hl 0 rfl) ?_
          refine lv_iload_n hx hb dX10_path_36 rfl (lv_at hl 4 rfl) ?_
          obtain ⟨k, hk, h⟩ := jn_ex h
          try dsimp only at h
          have J : k () → ∀ (ls : Array Slot) (H : Heap) (locs : List Loc), lv_has ls 5 [(3, .int v3), (2, .int x2)] → va_P D vwCl (wM cy ad I_1 A_1) H → va_S Ad s.heap H locs → W p l e rmX10_path s m args below meth c H locs 0 0 Q (F0 m 64 ls []) := by
            intro  h ls H locs hl hP hS
            replace h := hk _ h
            try dsimp only at h
            refine lv_iload_n hx hb dX10_path_64 rfl (lv_at hl 1 rfl) ?_
            refine lv_bipush (v := 40) hx hb dX10_path_65 (by decide) ?_
            refine lv_icmp_ge (tgt := 74) hx hb dX10_path_67 (by decide) (fun hc_2 => ?_) (fun hc_2 => ?_)
            · rw [if_pos hc_2] at h
              refine lv_iconst (v := (-1)) hx hb dX10_path_74 (by decide) ?_
              exact hret _ (I_1, A_1) dX10_path_75 h hP hS
            · rw [if_neg hc_2] at h
              refine lv_iload_n hx hb dX10_path_70 rfl (lv_at hl 0 rfl) ?_
              refine lv_goto (tgt := 75) hx hb dX10_path_71 (by decide) ?_
              exact hret _ (I_1, A_1) dX10_path_75 h hP hS
          refine lv_icmp_ge (tgt := 64) hx hb dX10_path_37 (by decide) (fun hc_3 => ?_) (fun hc_3 => ?_)
          · rw [if_pos hc_3] at h
            exact J  h _ _ _ (lv_sub hl [1, 4] rfl) hP hS
          · rw [if_neg hc_3] at h
            refine lv_iload_n hx hb dX10_path_40 rfl (lv_at hl 1 rfl) ?_
            refine lv_if_lt (tgt := 64) hx hb dX10_path_41 (by decide) (fun hc_4 => ?_) (fun hc_4 => ?_)
            · rw [if_pos hc_4] at h
              exact J  h _ _ _ (lv_sub hl [1, 4] rfl) hP hS
            · rw [if_neg hc_4] at h
              refine lv_iload hx hb dX10_path_44 (lv_at hl 0 rfl) ?_
              refine lv_bipush (v := 40) hx hb dX10_path_46 (by decide) ?_
              refine lv_icmp_ge (tgt := 64) hx hb dX10_path_48 (by decide) (fun hc_5 => ?_) (fun hc_5 => ?_)
              · rw [if_pos hc_5] at h
                exact J  h _ _ _ (lv_sub hl [1, 4] rfl) hP hS
              · rw [if_neg hc_5] at h
                refine lv_aload_n hx hb dX10_path_51 rfl (lv_at hl 2 rfl) ?_
                refine lv_iload_n hx hb dX10_path_52 rfl (lv_at hl 3 rfl) ?_
                refine lv_iload_n hx hb dX10_path_53 rfl (lv_at hl 1 rfl) ?_
                refine callMi (k := 0) (As := [.int x1, .int v3]) (rest := []) (n := 2) (c_X10_bestBelow hAd I_1 A_1 x1 v3 _ h) hx hb hT hown hK hP hS mw_6_7 wd_X10_bestBelow (by decide +kernel) ⟨rfl, rfl⟩ (by decide) rfl rfl he_X10 rfl hl.1 hml rfl (Nat.le_of_ble_eq_true rfl) dX10_path_54 ⟨Nat.zero_le _, Nat.zero_le _⟩ (fun r54 u H locs h hP hS => ?_)
                obtain ⟨Iu_3, Au_2⟩ := u
                dsimp only at h hP
                obtain ⟨h, rfl, rfl⟩ := h
                try dsimp only at h
                refine lv_istore_n (lv' := [(3, .int r54), (4, .int v4), (0, .ref (ad 0)), (1, .int x1), (2, .int x2)]) hx hb dX10_path_57 rfl hl (by decide) rfl (fun ls hl => ?_)
                obtain ⟨v4_1, ev4_1⟩ : ∃ z : Int32, z = v4 + 1 := ⟨_, rfl⟩
                replace h := h v4_1 ev4_1
                refine lv_iinc (v := v4_1) (lv' := [(4, .int v4_1), (3, .int r54), (0, .ref (ad 0)), (1, .int x1), (2, .int x2)]) hx hb dX10_path_58 hl (k := 1) rfl (by rw [ev4_1]; rfl) (by decide) rfl (fun ls hl => ?_)
                refine lv_goto (tgt := 34) hx hb dX10_path_61 (by decide) ?_
                exact ih v4_1 r54 _ _ _ h (lv_sub hl [0, 1, 2, 3, 4] rfl) hP hS
      exact LP _ 0 r27 _ _ _ h (lv_sub hl [0, 1, 2, 3, 4] rfl) hP hS
    · rw [if_neg hc_1] at h
      refine lv_iconst (v := (-1)) hx hb dX10_path_17 (by decide) ?_
      exact hret _ (I_1, A) dX10_path_18 h hP hS
theorem dX10_split_0 : decode cX10_split 0 = .ok (.aload_n 0, 1) := by decide +kernel
theorem dX10_split_1 : decode cX10_split 1 = .ok (.iconst 0, 1) := by decide +kernel
theorem dX10_split_2 : decode cX10_split 2 = .ok (.putfield 56, 3) := by decide +kernel
theorem dX10_split_5 : decode cX10_split 5 = .ok (.aload_n 0, 1) := by decide +kernel
theorem dX10_split_6 : decode cX10_split 6 = .ok (.iconst 0, 1) := by decide +kernel
theorem dX10_split_7 : decode cX10_split 7 = .ok (.invokevirtual 161, 3) := by decide +kernel
theorem dX10_split_10 : decode cX10_split 10 = .ok (.istore_n 1, 1) := by decide +kernel
theorem dX10_split_11 : decode cX10_split 11 = .ok (.iconst (-1), 1) := by decide +kernel
theorem dX10_split_12 : decode cX10_split 12 = .ok (.istore_n 2, 1) := by decide +kernel
theorem dX10_split_13 : decode cX10_split 13 = .ok (.iconst 0, 1) := by decide +kernel
theorem dX10_split_14 : decode cX10_split 14 = .ok (.istore_n 3, 1) := by decide +kernel
theorem dX10_split_15 : decode cX10_split 15 = .ok (.iconst 0, 1) := by decide +kernel
theorem dX10_split_16 : decode cX10_split 16 = .ok (.istore 4, 2) := by decide +kernel
theorem dX10_split_18 : decode cX10_split 18 = .ok (.iload 4, 2) := by decide +kernel
theorem dX10_split_20 : decode cX10_split 20 = .ok (.aload_n 0, 1) := by decide +kernel
theorem dX10_split_21 : decode cX10_split 21 = .ok (.getfield 67, 3) := by decide +kernel
theorem dX10_split_24 : decode cX10_split 24 = .ok (.if_icmp .ge 83, 3) := by decide +kernel
theorem dX10_split_27 : decode cX10_split 27 = .ok (.aload_n 0, 1) := by decide +kernel
theorem dX10_split_28 : decode cX10_split 28 = .ok (.getfield 35, 3) := by decide +kernel
theorem dX10_split_31 : decode cX10_split 31 = .ok (.iload 4, 2) := by decide +kernel
theorem dX10_split_33 : decode cX10_split 33 = .ok (.iaload, 1) := by decide +kernel
theorem dX10_split_34 : decode cX10_split 34 = .ok (.ifCond .ne 67, 3) := by decide +kernel
theorem dX10_split_37 : decode cX10_split 37 = .ok (.iconst 2, 1) := by decide +kernel
theorem dX10_split_38 : decode cX10_split 38 = .ok (.aload_n 0, 1) := by decide +kernel
theorem dX10_split_39 : decode cX10_split 39 = .ok (.iload 4, 2) := by decide +kernel
theorem dX10_split_41 : decode cX10_split 41 = .ok (.invokevirtual 158, 3) := by decide +kernel
theorem dX10_split_44 : decode cX10_split 44 = .ok (.imul, 1) := by decide +kernel
theorem dX10_split_45 : decode cX10_split 45 = .ok (.iload_n 1, 1) := by decide +kernel
theorem dX10_split_46 : decode cX10_split 46 = .ok (.invokestatic 203, 3) := by decide +kernel
theorem dX10_split_49 : decode cX10_split 49 = .ok (.istore 5, 2) := by decide +kernel
theorem dX10_split_51 : decode cX10_split 51 = .ok (.iload_n 2, 1) := by decide +kernel
theorem dX10_split_52 : decode cX10_split 52 = .ok (.ifCond .lt 9, 3) := by decide +kernel
theorem dX10_split_55 : decode cX10_split 55 = .ok (.iload 5, 2) := by decide +kernel
theorem dX10_split_57 : decode cX10_split 57 = .ok (.iload_n 3, 1) := by decide +kernel
theorem dX10_split_58 : decode cX10_split 58 = .ok (.if_icmp .ge 8, 3) := by decide +kernel
theorem dX10_split_61 : decode cX10_split 61 = .ok (.iload 5, 2) := by decide +kernel
theorem dX10_split_63 : decode cX10_split 63 = .ok (.goto 4, 3) := by decide +kernel
theorem dX10_split_66 : decode cX10_split 66 = .ok (.iload_n 3, 1) := by decide +kernel
theorem dX10_split_67 : decode cX10_split 67 = .ok (.istore_n 3, 1) := by decide +kernel
theorem dX10_split_68 : decode cX10_split 68 = .ok (.iload_n 2, 1) := by decide +kernel
theorem dX10_split_69 : decode cX10_split 69 = .ok (.ifCond .lt 25, 3) := by decide +kernel
theorem dX10_split_72 : decode cX10_split 72 = .ok (.iload 5, 2) := by decide +kernel
theorem dX10_split_74 : decode cX10_split 74 = .ok (.iload_n 3, 1) := by decide +kernel
theorem dX10_split_75 : decode cX10_split 75 = .ok (.if_icmp .ne 24, 3) := by decide +kernel
theorem dX10_split_78 : decode cX10_split 78 = .ok (.iload 5, 2) := by decide +kernel
theorem dX10_split_80 : decode cX10_split 80 = .ok (.iconst 2, 1) := by decide +kernel
theorem dX10_split_81 : decode cX10_split 81 = .ok (.aload_n 0, 1) := by decide +kernel
theorem dX10_split_82 : decode cX10_split 82 = .ok (.iload_n 2, 1) := by decide +kernel
theorem dX10_split_83 : decode cX10_split 83 = .ok (.invokevirtual 158, 3) := by decide +kernel
theorem dX10_split_86 : decode cX10_split 86 = .ok (.imul, 1) := by decide +kernel
theorem dX10_split_87 : decode cX10_split 87 = .ok (.iload_n 1, 1) := by decide +kernel
theorem dX10_split_88 : decode cX10_split 88 = .ok (.invokestatic 203, 3) := by decide +kernel
theorem dX10_split_91 : decode cX10_split 91 = .ok (.if_icmp .ge 8, 3) := by decide +kernel
theorem dX10_split_94 : decode cX10_split 94 = .ok (.iload 4, 2) := by decide +kernel
theorem dX10_split_96 : decode cX10_split 96 = .ok (.goto 4, 3) := by decide +kernel
theorem dX10_split_99 : decode cX10_split 99 = .ok (.iload_n 2, 1) := by decide +kernel
theorem dX10_split_100 : decode cX10_split 100 = .ok (.istore_n 2, 1) := by decide +kernel
theorem dX10_split_101 : decode cX10_split 101 = .ok (.iinc 4 1, 3) := by decide +kernel
theorem dX10_split_104 : decode cX10_split 104 = .ok (.goto (-86), 3) := by decide +kernel
theorem dX10_split_107 : decode cX10_split 107 = .ok (.iload_n 2, 1) := by decide +kernel
theorem dX10_split_108 : decode cX10_split 108 = .ok (.ireturn, 1) := by decide +kernel
def wX10_split (I : Nat → Int32) (A : Nat → Nat → Int32)  (post : Int32 → (Nat → Int32) → Prop) : Prop := (∀ I_1, I_1 = va_up I 0 0 → wX10_hitsBy I_1 A 0 (fun r7 => ∃ n, lfix (fun (r : (Int32 × Int32 × Int32) → Prop) (v4, v3, v2) => if (I_1 2) ≤ v4 then (post v2 I_1) else (vp_in v4 1440 ∧ (if (A 9 v4.toNatClampNeg) = 0 then (wX10_shownOf I_1 A v4 (fun r41 => wX10_apart (2 * r41) r7 (fun r46 => jn (fun (t : Int32) => jn (fun (t_1 : Int32) => ∀ v4_2 : Int32, v4_2 = v4 + 1 → r (v4_2, t, t_1)) (fun k_1 => jn (fun (_ : Unit) => k_1 v4) (fun k_2 => if v2 < 0 then (k_2 ()) else (jn (fun (_ : Unit) => k_1 v2) (fun k_3 => if r46 = t then (wX10_shownOf I_1 A v2 (fun r83 => wX10_apart (2 * r83) r7 (fun r88 => if r88 ≤ r46 then (k_3 ()) else (k_2 ())))) else (k_3 ())))))) (fun k => jn (fun (_ : Unit) => k r46) (fun k_4 => if v2 < 0 then (k_4 ()) else (if v3 ≤ r46 then (k v3) else (k_4 ()))))))) else (∀ v4_1 : Int32, v4_1 = v4 + 1 → r (v4_1, v3, v2))))) n (0, 0, (-1))))
abbrev rmX10_split : Room := { frames := 5, cells := 0, slots := 0, locals := 125 }
theorem wd_X10_split : Cond.instanceMethod yX10_split ∈ BW ∧ Cond.selects yX10_split.cls yX10_split yX10_split ∈ BW ∧ Cond.initialized yX10_split.cls ∈ BW ∧ Cond.code yX10_split cX10_split 6 (some .int) ∈ BW := ⟨mw_6_12, mw_6_13, mw_1_11, mw_6_14⟩
set_option maxHeartbeats 4000000 in
set_option maxRecDepth 100000 in
theorem c_X10_split {l : Launch} {D : va_G} {cy : Nat → ClassId} {ad : Nat → Nat} {Ad : Nat → Prop} (hAd : adok 16 Ad ad) (I : Nat → Int32) (A : Nat → Nat → Int32)   (post : Int32 → (Nat → Int32) → Prop) (h : wX10_split I A  post) : Met l yX10_split (.code yX10_split cX10_split 6 (some .int) :: BW) rmX10_split (va_Pc [.ref (ad 0)] (fun U => kC D cy U ∧ va_P D vwCl (wM cy ad I A) U.heap)) (qMi D cy ad Ad (fun r u => post r u.1 ∧ A = u.2)) 0 0 Ad := by
  refine startMi (by decide) (Nat.le_of_ble_eq_true rfl) (lv := [(0, .ref (ad 0))]) rfl (fun p e s m args below meth c Q ls hx hb hml hT hown hK hret hl hP hS => ?_)
  unfold wX10_split at h
  refine lv_aload_n hx hb dX10_split_0 rfl (lv_at hl 0 rfl) ?_
  refine lv_iconst (v := 0) hx hb dX10_split_1 (by decide) ?_
  refine pM_X10_thrown hAd hx hb hT hown hK.1 hP hS (hT _ mw_4_137) dX10_split_2 (fun H locs hP hS => ?_)
  obtain ⟨I_1, eI_1⟩ : ∃ z, z = va_up I 0 0 := ⟨_, rfl⟩
  rw [← eI_1] at hP
  replace h := h I_1 eI_1
  refine lv_aload_n hx hb dX10_split_5 rfl (lv_at hl 0 rfl) ?_
  refine lv_iconst (v := 0) hx hb dX10_split_6 (by decide) ?_
  refine callMi (k := 0) (As := [.int 0]) (rest := []) (n := 1) (c_X10_hitsBy hAd I_1 A 0 _ h) hx hb hT hown hK hP hS mw_5_168 wd_X10_hitsBy (by decide +kernel) ⟨rfl, rfl⟩ (by decide) rfl rfl he_X10 rfl hl.1 hml rfl (Nat.le_of_ble_eq_true rfl) dX10_split_7 ⟨Nat.zero_le _, Nat.zero_le _⟩ (fun r7 u H locs h hP hS => ?_)
  obtain ⟨Iu, Au⟩ := u
  dsimp only at h hP
  obtain ⟨h, rfl, rfl⟩ := h
  try dsimp only at h
  refine lv_istore_n (lv' := [(1, .int r7), (0, .ref (ad 0))]) hx hb dX10_split_10 rfl hl (by decide) rfl (fun ls hl => ?_)
  refine lv_iconst (v := (-1)) hx hb dX10_split_11 (by decide) ?_
  refine lv_istore_n (lv' := [(2, .int (-1)), (1, .int r7), (0, .ref (ad 0))]) hx hb dX10_split_12 rfl hl (by decide) rfl (fun ls hl => ?_)
  refine lv_iconst (v := 0) hx hb dX10_split_13 (by decide) ?_
  refine lv_istore_n (lv' := [(3, .int 0), (2, .int (-1)), (1, .int r7), (0, .ref (ad 0))]) hx hb dX10_split_14 rfl hl (by decide) rfl (fun ls hl => ?_)
  refine lv_iconst (v := 0) hx hb dX10_split_15 (by decide) ?_
  refine lv_istore (lv' := [(4, .int 0), (3, .int 0), (2, .int (-1)), (1, .int r7), (0, .ref (ad 0))]) hx hb dX10_split_16 hl (by decide) rfl (fun ls hl => ?_)
  obtain ⟨F, n, h, hF, hG⟩ := lfix_ex h
  have LP : ∀ (n : Nat) (v4 : Int32) (v3 : Int32) (v2 : Int32) (ls : Array Slot) (H : Heap) (locs : List Loc), F n (v4, v3, v2) → lv_has ls 6 [(4, .int v4), (3, .int v3), (2, .int v2), (1, .int r7), (0, .ref (ad 0))] → va_P D vwCl (wM cy ad I_1 A) H → va_S Ad s.heap H locs → W p l e rmX10_split s m args below meth c H locs 0 0 Q (F0 m 18 ls []) := by
    intro n
    induction n with
    | zero => intro v4 v3 v2 ls H locs h _ _ _; exact absurd h (hF _)
    | succ n ih =>
      intro v4 v3 v2 ls H locs h hl hP hS
      replace h := hG _ _ h
      try dsimp only at h
      refine lv_iload hx hb dX10_split_18 (lv_at hl 0 rfl) ?_
      refine lv_aload_n hx hb dX10_split_20 rfl (lv_at hl 4 rfl) ?_
      refine va_get (T := TX10) hx hb hT inlX10 hown hK.1 hP 0 he_X10 rfl 2 (by decide) (hT _ mw_4_139) (fun _ h9 => h9) rfl dX10_split_21 ?_
      refine lv_icmp_ge (tgt := 107) hx hb dX10_split_24 (by decide) (fun hc => ?_) (fun hc => ?_)
      · rw [if_pos hc] at h
        refine lv_iload_n hx hb dX10_split_107 rfl (lv_at hl 2 rfl) ?_
        exact hret _ (I_1, A) dX10_split_108 ⟨h, rfl⟩ hP hS
      · rw [if_neg hc] at h
        refine lv_aload_n hx hb dX10_split_27 rfl (lv_at hl 4 rfl) ?_
        refine va_get (T := TX10) hx hb hT inlX10 hown hK.1 hP 0 he_X10 rfl 12 (by decide) (hT _ mw_4_149) (fun _ h9 => h9) rfl dX10_split_28 ?_
        refine lv_iload hx hb dX10_split_31 (lv_at hl 0 rfl) ?_
        obtain ⟨hi, h⟩ := h
        refine lM_I hx hb hK.1 hP (by decide) rfl hi dX10_split_33 ?_
        refine lv_if_ne (tgt := 101) hx hb dX10_split_34 (by decide) (fun hc_1 => ?_) (fun hc_1 => ?_)
        · rw [if_neg hc_1] at h
          obtain ⟨v4_1, ev4_1⟩ : ∃ z : Int32, z = v4 + 1 := ⟨_, rfl⟩
          replace h := h v4_1 ev4_1
          refine lv_iinc (v := v4_1) (lv' := [(4, .int v4_1), (3, .int v3), (2, .int v2), (1, .int r7), (0, .ref (ad 0))]) hx hb dX10_split_101 hl (k := 0) rfl (by rw [ev4_1]; rfl) (by decide) rfl (fun ls hl => ?_)
          refine lv_goto (tgt := 18) hx hb dX10_split_104 (by decide) ?_
          exact ih v4_1 v3 v2 _ _ _ h (lv_sub hl [0, 1, 2, 3, 4] rfl) hP hS
        · rw [if_pos hc_1] at h
          refine lv_iconst (v := 2) hx hb dX10_split_37 (by decide) ?_
          refine lv_aload_n hx hb dX10_split_38 rfl (lv_at hl 4 rfl) ?_
          refine lv_iload hx hb dX10_split_39 (lv_at hl 0 rfl) ?_
          refine callMi (k := 0) (As := [.int v4]) (rest := [.int 2]) (n := 1) (c_X10_shownOf hAd I_1 A v4 _ h) hx hb hT hown hK hP hS mw_5_148 wd_X10_shownOf (by decide +kernel) ⟨rfl, rfl⟩ (by decide) rfl rfl he_X10 rfl hl.1 hml rfl (Nat.le_of_ble_eq_true rfl) dX10_split_41 ⟨Nat.zero_le _, Nat.zero_le _⟩ (fun r41 u H locs h hP hS => ?_)
          obtain ⟨Iu_1, Au_1⟩ := u
          dsimp only at h hP
          obtain ⟨h, rfl, rfl⟩ := h
          try dsimp only at h
          refine lv_imul hx hb dX10_split_44 ?_
          refine lv_iload_n hx hb dX10_split_45 rfl (lv_at hl 3 rfl) ?_
          refine callSMi (As := [.int (2 * r41), .int r7]) (rest := []) (n := 2) (c_X10_apart (2 * r41) r7 _ h) hx hb hT hown hP hS mw_6_15 wd_X10_apart (by decide +kernel) ⟨rfl, rfl⟩ (by decide) rfl hl.1 hml rfl (Nat.le_of_ble_eq_true rfl) dX10_split_46 ⟨Nat.zero_le _, Nat.zero_le _⟩ (fun r46 H locs h hP hS => ?_)
          try dsimp only at h
          refine lv_istore (lv' := [(5, .int r46), (4, .int v4), (3, .int v3), (2, .int v2), (1, .int r7), (0, .ref (ad 0))]) hx hb dX10_split_49 hl (by decide) rfl (fun ls hl => ?_)
          refine lv_iload_n hx hb dX10_split_51 rfl (lv_at hl 3 rfl) ?_
          obtain ⟨k, hk, h⟩ := jn_ex h
          try dsimp only at h
          have J : ∀ (t : Int32), k t → ∀ (ls : Array Slot) (H : Heap) (locs : List Loc), lv_has ls 6 [(5, .int r46), (4, .int v4), (2, .int v2), (1, .int r7), (0, .ref (ad 0))] → va_P D vwCl (wM cy ad I_1 A) H → va_S Ad s.heap H locs → W p l e rmX10_split s m args below meth c H locs 0 0 Q (F0 m 67 ls [.int t]) := by
            intro t h ls H locs hl hP hS
            replace h := hk _ h
            try dsimp only at h
            refine lv_istore_n (lv' := [(3, .int t), (5, .int r46), (4, .int v4), (2, .int v2), (1, .int r7), (0, .ref (ad 0))]) hx hb dX10_split_67 rfl hl (by decide) rfl (fun ls hl => ?_)
            refine lv_iload_n hx hb dX10_split_68 rfl (lv_at hl 3 rfl) ?_
            obtain ⟨k_1, hk_1, h⟩ := jn_ex h
            try dsimp only at h
            have J_1 : ∀ (t_1 : Int32), k_1 t_1 → ∀ (ls : Array Slot) (H : Heap) (locs : List Loc), lv_has ls 6 [(3, .int t), (4, .int v4), (1, .int r7), (0, .ref (ad 0))] → va_P D vwCl (wM cy ad I_1 A) H → va_S Ad s.heap H locs → W p l e rmX10_split s m args below meth c H locs 0 0 Q (F0 m 100 ls [.int t_1]) := by
              intro t_1 h ls H locs hl hP hS
              replace h := hk_1 _ h
              try dsimp only at h
              refine lv_istore_n (lv' := [(2, .int t_1), (3, .int t), (4, .int v4), (1, .int r7), (0, .ref (ad 0))]) hx hb dX10_split_100 rfl hl (by decide) rfl (fun ls hl => ?_)
              obtain ⟨v4_2, ev4_2⟩ : ∃ z : Int32, z = v4 + 1 := ⟨_, rfl⟩
              replace h := h v4_2 ev4_2
              refine lv_iinc (v := v4_2) (lv' := [(4, .int v4_2), (2, .int t_1), (3, .int t), (1, .int r7), (0, .ref (ad 0))]) hx hb dX10_split_101 hl (k := 2) rfl (by rw [ev4_2]; rfl) (by decide) rfl (fun ls hl => ?_)
              refine lv_goto (tgt := 18) hx hb dX10_split_104 (by decide) ?_
              exact ih v4_2 t t_1 _ _ _ h (lv_sub hl [0, 2, 1, 3, 4] rfl) hP hS
            obtain ⟨k_2, hk_2, h⟩ := jn_ex h
            try dsimp only at h
            have J_2 : k_2 () → ∀ (ls : Array Slot) (H : Heap) (locs : List Loc), lv_has ls 6 [(3, .int t), (4, .int v4), (1, .int r7), (0, .ref (ad 0))] → va_P D vwCl (wM cy ad I_1 A) H → va_S Ad s.heap H locs → W p l e rmX10_split s m args below meth c H locs 0 0 Q (F0 m 94 ls []) := by
              intro  h ls H locs hl hP hS
              replace h := hk_2 _ h
              try dsimp only at h
              refine lv_iload hx hb dX10_split_94 (lv_at hl 1 rfl) ?_
              refine lv_goto (tgt := 100) hx hb dX10_split_96 (by decide) ?_
              exact J_1 v4 h _ _ _ (lv_sub hl [0, 1, 2, 3] rfl) hP hS
            refine lv_if_lt (tgt := 94) hx hb dX10_split_69 (by decide) (fun hc_2 => ?_) (fun hc_2 => ?_)
            · rw [if_pos hc_2] at h
              exact J_2  h _ _ _ (lv_sub hl [0, 2, 4, 5] rfl) hP hS
            · rw [if_neg hc_2] at h
              refine lv_iload hx hb dX10_split_72 (lv_at hl 1 rfl) ?_
              refine lv_iload_n hx hb dX10_split_74 rfl (lv_at hl 0 rfl) ?_
              obtain ⟨k_3, hk_3, h⟩ := jn_ex h
              try dsimp only at h
              have J_3 : k_3 () → ∀ (ls : Array Slot) (H : Heap) (locs : List Loc), lv_has ls 6 [(3, .int t), (4, .int v4), (2, .int v2), (1, .int r7), (0, .ref (ad 0))] → va_P D vwCl (wM cy ad I_1 A) H → va_S Ad s.heap H locs → W p l e rmX10_split s m args below meth c H locs 0 0 Q (F0 m 99 ls []) := by
                intro  h ls H locs hl hP hS
                replace h := hk_3 _ h
                try dsimp only at h
                refine lv_iload_n hx hb dX10_split_99 rfl (lv_at hl 2 rfl) ?_
                exact J_1 v2 h _ _ _ (lv_sub hl [0, 1, 3, 4] rfl) hP hS
              refine lv_icmp_ne (tgt := 99) hx hb dX10_split_75 (by decide) (fun hc_3 => ?_) (fun hc_3 => ?_)
              · rw [if_neg hc_3] at h
                exact J_3  h _ _ _ (lv_sub hl [0, 2, 3, 4, 5] rfl) hP hS
              · rw [if_pos hc_3] at h
                refine lv_iload hx hb dX10_split_78 (lv_at hl 1 rfl) ?_
                refine lv_iconst (v := 2) hx hb dX10_split_80 (by decide) ?_
                refine lv_aload_n hx hb dX10_split_81 rfl (lv_at hl 5 rfl) ?_
                refine lv_iload_n hx hb dX10_split_82 rfl (lv_at hl 3 rfl) ?_
                refine callMi (k := 0) (As := [.int v2]) (rest := [.int 2, .int r46]) (n := 1) (c_X10_shownOf hAd I_1 A v2 _ h) hx hb hT hown hK hP hS mw_5_148 wd_X10_shownOf (by decide +kernel) ⟨rfl, rfl⟩ (by decide) rfl rfl he_X10 rfl hl.1 hml rfl (Nat.le_of_ble_eq_true rfl) dX10_split_83 ⟨Nat.zero_le _, Nat.zero_le _⟩ (fun r83 u H locs h hP hS => ?_)
                obtain ⟨Iu_2, Au_2⟩ := u
                dsimp only at h hP
                obtain ⟨h, rfl, rfl⟩ := h
                try dsimp only at h
                refine lv_imul hx hb dX10_split_86 ?_
                refine lv_iload_n hx hb dX10_split_87 rfl (lv_at hl 4 rfl) ?_
                refine callSMi (As := [.int (2 * r83), .int r7]) (rest := [.int r46]) (n := 2) (c_X10_apart (2 * r83) r7 _ h) hx hb hT hown hP hS mw_6_15 wd_X10_apart (by decide +kernel) ⟨rfl, rfl⟩ (by decide) rfl hl.1 hml rfl (Nat.le_of_ble_eq_true rfl) dX10_split_88 ⟨Nat.zero_le _, Nat.zero_le _⟩ (fun r88 H locs h hP hS => ?_)
                try dsimp only at h
                refine lv_icmp_ge (tgt := 99) hx hb dX10_split_91 (by decide) (fun hc_4 => ?_) (fun hc_4 => ?_)
                · rw [if_pos hc_4] at h
                  exact J_3  h _ _ _ (lv_sub hl [0, 2, 3, 4, 5] rfl) hP hS
                · rw [if_neg hc_4] at h
                  exact J_2  h _ _ _ (lv_sub hl [0, 2, 4, 5] rfl) hP hS
          obtain ⟨k_4, hk_4, h⟩ := jn_ex h
          try dsimp only at h
          have J_4 : k_4 () → ∀ (ls : Array Slot) (H : Heap) (locs : List Loc), lv_has ls 6 [(5, .int r46), (4, .int v4), (2, .int v2), (1, .int r7), (0, .ref (ad 0))] → va_P D vwCl (wM cy ad I_1 A) H → va_S Ad s.heap H locs → W p l e rmX10_split s m args below meth c H locs 0 0 Q (F0 m 61 ls []) := by
            intro  h ls H locs hl hP hS
            replace h := hk_4 _ h
            try dsimp only at h
            refine lv_iload hx hb dX10_split_61 (lv_at hl 0 rfl) ?_
            refine lv_goto (tgt := 67) hx hb dX10_split_63 (by decide) ?_
            exact J r46 h _ _ _ (lv_sub hl [0, 1, 2, 3, 4] rfl) hP hS
          refine lv_if_lt (tgt := 61) hx hb dX10_split_52 (by decide) (fun hc_5 => ?_) (fun hc_5 => ?_)
          · rw [if_pos hc_5] at h
            exact J_4  h _ _ _ (lv_sub hl [0, 1, 3, 4, 5] rfl) hP hS
          · rw [if_neg hc_5] at h
            refine lv_iload hx hb dX10_split_55 (lv_at hl 0 rfl) ?_
            refine lv_iload_n hx hb dX10_split_57 rfl (lv_at hl 2 rfl) ?_
            refine lv_icmp_ge (tgt := 66) hx hb dX10_split_58 (by decide) (fun hc_6 => ?_) (fun hc_6 => ?_)
            · rw [if_pos hc_6] at h
              refine lv_iload_n hx hb dX10_split_66 rfl (lv_at hl 2 rfl) ?_
              exact J v3 h _ _ _ (lv_sub hl [0, 1, 3, 4, 5] rfl) hP hS
            · rw [if_neg hc_6] at h
              exact J_4  h _ _ _ (lv_sub hl [0, 1, 3, 4, 5] rfl) hP hS
  exact LP _ 0 0 (-1) _ _ _ h (lv_sub hl [0, 1, 2, 3, 4] rfl) hP hS
theorem dX10_coverers_0 : decode cX10_coverers 0 = .ok (.iconst 0, 1) := by decide +kernel
theorem dX10_coverers_1 : decode cX10_coverers 1 = .ok (.istore_n 2, 1) := by decide +kernel
theorem dX10_coverers_2 : decode cX10_coverers 2 = .ok (.iconst 0, 1) := by decide +kernel
theorem dX10_coverers_3 : decode cX10_coverers 3 = .ok (.istore_n 3, 1) := by decide +kernel
theorem dX10_coverers_4 : decode cX10_coverers 4 = .ok (.iload_n 3, 1) := by decide +kernel
theorem dX10_coverers_5 : decode cX10_coverers 5 = .ok (.aload_n 0, 1) := by decide +kernel
theorem dX10_coverers_6 : decode cX10_coverers 6 = .ok (.getfield 67, 3) := by decide +kernel
theorem dX10_coverers_9 : decode cX10_coverers 9 = .ok (.if_icmp .ge 46, 3) := by decide +kernel
theorem dX10_coverers_12 : decode cX10_coverers 12 = .ok (.aload_n 0, 1) := by decide +kernel
theorem dX10_coverers_13 : decode cX10_coverers 13 = .ok (.getfield 13, 3) := by decide +kernel
theorem dX10_coverers_16 : decode cX10_coverers 16 = .ok (.iload_n 3, 1) := by decide +kernel
theorem dX10_coverers_17 : decode cX10_coverers 17 = .ok (.iaload, 1) := by decide +kernel
theorem dX10_coverers_18 : decode cX10_coverers 18 = .ok (.iload_n 1, 1) := by decide +kernel
theorem dX10_coverers_19 : decode cX10_coverers 19 = .ok (.if_icmp .ne 30, 3) := by decide +kernel
theorem dX10_coverers_22 : decode cX10_coverers 22 = .ok (.aload_n 0, 1) := by decide +kernel
theorem dX10_coverers_23 : decode cX10_coverers 23 = .ok (.getfield 16, 3) := by decide +kernel
theorem dX10_coverers_26 : decode cX10_coverers 26 = .ok (.iload_n 3, 1) := by decide +kernel
theorem dX10_coverers_27 : decode cX10_coverers 27 = .ok (.iaload, 1) := by decide +kernel
theorem dX10_coverers_28 : decode cX10_coverers 28 = .ok (.ifCond .ge 11, 3) := by decide +kernel
theorem dX10_coverers_31 : decode cX10_coverers 31 = .ok (.aload_n 0, 1) := by decide +kernel
theorem dX10_coverers_32 : decode cX10_coverers 32 = .ok (.iload_n 3, 1) := by decide +kernel
theorem dX10_coverers_33 : decode cX10_coverers 33 = .ok (.invokevirtual 167, 3) := by decide +kernel
theorem dX10_coverers_36 : decode cX10_coverers 36 = .ok (.ifCond .eq 13, 3) := by decide +kernel
theorem dX10_coverers_39 : decode cX10_coverers 39 = .ok (.aload_n 0, 1) := by decide +kernel
theorem dX10_coverers_40 : decode cX10_coverers 40 = .ok (.getfield 53, 3) := by decide +kernel
theorem dX10_coverers_43 : decode cX10_coverers 43 = .ok (.iload_n 2, 1) := by decide +kernel
theorem dX10_coverers_44 : decode cX10_coverers 44 = .ok (.iload_n 3, 1) := by decide +kernel
theorem dX10_coverers_45 : decode cX10_coverers 45 = .ok (.iastore, 1) := by decide +kernel
theorem dX10_coverers_46 : decode cX10_coverers 46 = .ok (.iinc 2 1, 3) := by decide +kernel
theorem dX10_coverers_49 : decode cX10_coverers 49 = .ok (.iinc 3 1, 3) := by decide +kernel
theorem dX10_coverers_52 : decode cX10_coverers 52 = .ok (.goto (-48), 3) := by decide +kernel
theorem dX10_coverers_55 : decode cX10_coverers 55 = .ok (.iload_n 2, 1) := by decide +kernel
theorem dX10_coverers_56 : decode cX10_coverers 56 = .ok (.ireturn, 1) := by decide +kernel
def wX10_coverers (I : Nat → Int32) (A : Nat → Nat → Int32) (x1 : Int32) (post : Int32 → (Nat → Nat → Int32) → Prop) : Prop := ∃ n, lfix (fun (r : (Int32 × Int32 × (Nat → Nat → Int32)) → Prop) (v3, v2, A_1) => if (I 2) ≤ v3 then (post v2 A_1) else (vp_in v3 40 ∧ (if (A_1 2 v3.toNatClampNeg) = x1 then (vp_in v3 40 ∧ (jn (fun (_ : Unit) => vp_in v2 40 ∧ (∀ A_2, A_2 = va_up A_1 15 (upd (A_1 15) v2.toNatClampNeg v3) → ∀ v2_1 : Int32, v2_1 = v2 + 1 → ∀ v3_2 : Int32, v3_2 = v3 + 1 → r (v3_2, v2_1, A_2))) (fun k => if 0 ≤ (A_1 3 v3.toNatClampNeg) then (k ()) else (wX10_isLeaf I A_1 v3 (fun r33 => if r33 = 0 then (∀ v3_3 : Int32, v3_3 = v3 + 1 → r (v3_3, v2, A_1)) else (k ())))))) else (∀ v3_1 : Int32, v3_1 = v3 + 1 → r (v3_1, v2, A_1))))) n (0, 0, A)
abbrev rmX10_coverers : Room := { frames := 1, cells := 0, slots := 0, locals := 23 }
theorem wd_X10_coverers : Cond.instanceMethod yX10_coverers ∈ BW ∧ Cond.selects yX10_coverers.cls yX10_coverers yX10_coverers ∈ BW ∧ Cond.initialized yX10_coverers.cls ∈ BW ∧ Cond.code yX10_coverers cX10_coverers 4 (some .int) ∈ BW := ⟨mw_6_24, mp_55, mw_1_11, mw_6_25⟩
set_option maxHeartbeats 4000000 in
set_option maxRecDepth 100000 in
theorem c_X10_coverers {l : Launch} {D : va_G} {cy : Nat → ClassId} {ad : Nat → Nat} {Ad : Nat → Prop} (hAd : adok 16 Ad ad) (I : Nat → Int32) (A : Nat → Nat → Int32) (x1 : Int32)  (post : Int32 → (Nat → Nat → Int32) → Prop) (h : wX10_coverers I A x1 post) : Met l yX10_coverers (.code yX10_coverers cX10_coverers 4 (some .int) :: BW) rmX10_coverers (va_Pc [.ref (ad 0), .int x1] (fun U => kC D cy U ∧ va_P D vwCl (wM cy ad I A) U.heap)) (qMi D cy ad Ad (fun r u => post r u.2 ∧ I = u.1)) 0 0 Ad := by
  refine startMi (by decide) (Nat.le_of_ble_eq_true rfl) (lv := [(0, .ref (ad 0)), (1, .int x1)]) rfl (fun p e s m args below meth c Q ls hx hb hml hT hown hK hret hl hP hS => ?_)
  unfold wX10_coverers at h
  refine lv_iconst (v := 0) hx hb dX10_coverers_0 (by decide) ?_
  refine lv_istore_n (lv' := [(2, .int 0), (0, .ref (ad 0)), (1, .int x1)]) hx hb dX10_coverers_1 rfl hl (by decide) rfl (fun ls hl => ?_)
  refine lv_iconst (v := 0) hx hb dX10_coverers_2 (by decide) ?_
  refine lv_istore_n (lv' := [(3, .int 0), (2, .int 0), (0, .ref (ad 0)), (1, .int x1)]) hx hb dX10_coverers_3 rfl hl (by decide) rfl (fun ls hl => ?_)
  obtain ⟨F, n, h, hF, hG⟩ := lfix_ex h
  have LP : ∀ (n : Nat) (v3 : Int32) (v2 : Int32) (A_1 : Nat → Nat → Int32) (ls : Array Slot) (H : Heap) (locs : List Loc), F n (v3, v2, A_1) → lv_has ls 4 [(3, .int v3), (2, .int v2), (0, .ref (ad 0)), (1, .int x1)] → va_P D vwCl (wM cy ad I A_1) H → va_S Ad s.heap H locs → W p l e rmX10_coverers s m args below meth c H locs 0 0 Q (F0 m 4 ls []) := by
    intro n
    induction n with
    | zero => intro v3 v2 A_1 ls H locs h _ _ _; exact absurd h (hF _)
    | succ n ih =>
      intro v3 v2 A_1 ls H locs h hl hP hS
      replace h := hG _ _ h
      try dsimp only at h
      refine lv_iload_n hx hb dX10_coverers_4 rfl (lv_at hl 0 rfl) ?_
      refine lv_aload_n hx hb dX10_coverers_5 rfl (lv_at hl 2 rfl) ?_
      refine va_get (T := TX10) hx hb hT inlX10 hown hK.1 hP 0 he_X10 rfl 2 (by decide) (hT _ mw_4_139) (fun _ h9 => h9) rfl dX10_coverers_6 ?_
      refine lv_icmp_ge (tgt := 55) hx hb dX10_coverers_9 (by decide) (fun hc => ?_) (fun hc => ?_)
      · rw [if_pos hc] at h
        refine lv_iload_n hx hb dX10_coverers_55 rfl (lv_at hl 1 rfl) ?_
        exact hret _ (I, A_1) dX10_coverers_56 ⟨h, rfl⟩ hP hS
      · rw [if_neg hc] at h
        refine lv_aload_n hx hb dX10_coverers_12 rfl (lv_at hl 2 rfl) ?_
        refine va_get (T := TX10) hx hb hT inlX10 hown hK.1 hP 0 he_X10 rfl 5 (by decide) (hT _ mw_4_142) (fun _ h9 => h9) rfl dX10_coverers_13 ?_
        refine lv_iload_n hx hb dX10_coverers_16 rfl (lv_at hl 0 rfl) ?_
        obtain ⟨hi, h⟩ := h
        refine lM_I hx hb hK.1 hP (by decide) rfl hi dX10_coverers_17 ?_
        refine lv_iload_n hx hb dX10_coverers_18 rfl (lv_at hl 3 rfl) ?_
        refine lv_icmp_ne (tgt := 49) hx hb dX10_coverers_19 (by decide) (fun hc_1 => ?_) (fun hc_1 => ?_)
        · rw [if_neg hc_1] at h
          obtain ⟨v3_1, ev3_1⟩ : ∃ z : Int32, z = v3 + 1 := ⟨_, rfl⟩
          replace h := h v3_1 ev3_1
          refine lv_iinc (v := v3_1) (lv' := [(3, .int v3_1), (2, .int v2), (0, .ref (ad 0)), (1, .int x1)]) hx hb dX10_coverers_49 hl (k := 0) rfl (by rw [ev3_1]; rfl) (by decide) rfl (fun ls hl => ?_)
          refine lv_goto (tgt := 4) hx hb dX10_coverers_52 (by decide) ?_
          exact ih v3_1 v2 A_1 _ _ _ h (lv_sub hl [0, 1, 2, 3] rfl) hP hS
        · rw [if_pos hc_1] at h
          refine lv_aload_n hx hb dX10_coverers_22 rfl (lv_at hl 2 rfl) ?_
          refine va_get (T := TX10) hx hb hT inlX10 hown hK.1 hP 0 he_X10 rfl 6 (by decide) (hT _ mw_4_143) (fun _ h9 => h9) rfl dX10_coverers_23 ?_
          refine lv_iload_n hx hb dX10_coverers_26 rfl (lv_at hl 0 rfl) ?_
          obtain ⟨hi_1, h⟩ := h
          refine lM_I hx hb hK.1 hP (by decide) rfl hi_1 dX10_coverers_27 ?_
          obtain ⟨k, hk, h⟩ := jn_ex h
          try dsimp only at h
          have J : k () → ∀ (ls : Array Slot) (H : Heap) (locs : List Loc), lv_has ls 4 [(3, .int v3), (2, .int v2), (0, .ref (ad 0)), (1, .int x1)] → va_P D vwCl (wM cy ad I A_1) H → va_S Ad s.heap H locs → W p l e rmX10_coverers s m args below meth c H locs 0 0 Q (F0 m 39 ls []) := by
            intro  h ls H locs hl hP hS
            replace h := hk _ h
            try dsimp only at h
            refine lv_aload_n hx hb dX10_coverers_39 rfl (lv_at hl 2 rfl) ?_
            refine va_get (T := TX10) hx hb hT inlX10 hown hK.1 hP 0 he_X10 rfl 21 (by decide) (hT _ mw_4_158) (fun _ h9 => h9) rfl dX10_coverers_40 ?_
            refine lv_iload_n hx hb dX10_coverers_43 rfl (lv_at hl 1 rfl) ?_
            refine lv_iload_n hx hb dX10_coverers_44 rfl (lv_at hl 0 rfl) ?_
            obtain ⟨hi_2, h⟩ := h
            refine sM_I hAd hx hb hK.1 hP hS (by decide) (fun _ => rfl) hi_2 dX10_coverers_45 (fun H locs hP hS => ?_)
            obtain ⟨A_2, eA_2⟩ : ∃ z, z = va_up A_1 15 (upd (A_1 15) v2.toNatClampNeg v3) := ⟨_, rfl⟩
            rw [← eA_2] at hP
            replace h := h A_2 eA_2
            obtain ⟨v2_1, ev2_1⟩ : ∃ z : Int32, z = v2 + 1 := ⟨_, rfl⟩
            replace h := h v2_1 ev2_1
            refine lv_iinc (v := v2_1) (lv' := [(2, .int v2_1), (3, .int v3), (0, .ref (ad 0)), (1, .int x1)]) hx hb dX10_coverers_46 hl (k := 1) rfl (by rw [ev2_1]; rfl) (by decide) rfl (fun ls hl => ?_)
            obtain ⟨v3_2, ev3_2⟩ : ∃ z : Int32, z = v3 + 1 := ⟨_, rfl⟩
            replace h := h v3_2 ev3_2
            refine lv_iinc (v := v3_2) (lv' := [(3, .int v3_2), (2, .int v2_1), (0, .ref (ad 0)), (1, .int x1)]) hx hb dX10_coverers_49 hl (k := 1) rfl (by rw [ev3_2]; rfl) (by decide) rfl (fun ls hl => ?_)
            refine lv_goto (tgt := 4) hx hb dX10_coverers_52 (by decide) ?_
            exact ih v3_2 v2_1 A_2 _ _ _ h (lv_sub hl [0, 1, 2, 3] rfl) hP hS
          refine lv_if_ge (tgt := 39) hx hb dX10_coverers_28 (by decide) (fun hc_2 => ?_) (fun hc_2 => ?_)
          · rw [if_pos hc_2] at h
            exact J  h _ _ _ (lv_sub hl [0, 1, 2, 3] rfl) hP hS
          · rw [if_neg hc_2] at h
            refine lv_aload_n hx hb dX10_coverers_31 rfl (lv_at hl 2 rfl) ?_
            refine lv_iload_n hx hb dX10_coverers_32 rfl (lv_at hl 0 rfl) ?_
            refine callMi (k := 0) (As := [.int v3]) (rest := []) (n := 1) (c_X10_isLeaf hAd I A_1 v3 _ h) hx hb hT hown hK hP hS mw_5_188 wd_X10_isLeaf (by decide +kernel) ⟨rfl, rfl⟩ (by decide) rfl rfl he_X10 rfl hl.1 hml rfl (Nat.le_of_ble_eq_true rfl) dX10_coverers_33 ⟨Nat.zero_le _, Nat.zero_le _⟩ (fun r33 u H locs h hP hS => ?_)
            obtain ⟨Iu, Au⟩ := u
            dsimp only at h hP
            obtain ⟨h, rfl, rfl⟩ := h
            try dsimp only at h
            refine lv_if_eq (tgt := 49) hx hb dX10_coverers_36 (by decide) (fun hc_3 => ?_) (fun hc_3 => ?_)
            · rw [if_pos hc_3] at h
              obtain ⟨v3_3, ev3_3⟩ : ∃ z : Int32, z = v3 + 1 := ⟨_, rfl⟩
              replace h := h v3_3 ev3_3
              refine lv_iinc (v := v3_3) (lv' := [(3, .int v3_3), (2, .int v2), (0, .ref (ad 0)), (1, .int x1)]) hx hb dX10_coverers_49 hl (k := 0) rfl (by rw [ev3_3]; rfl) (by decide) rfl (fun ls hl => ?_)
              refine lv_goto (tgt := 4) hx hb dX10_coverers_52 (by decide) ?_
              exact ih v3_3 v2 A_1 _ _ _ h (lv_sub hl [0, 1, 2, 3] rfl) hP hS
            · rw [if_neg hc_3] at h
              exact J  h _ _ _ (lv_sub hl [0, 1, 2, 3] rfl) hP hS
  exact LP _ 0 0 A _ _ _ h (lv_sub hl [0, 1, 2, 3] rfl) hP hS
theorem dX10_isCovered_0 : decode cX10_isCovered 0 = .ok (.iconst 1, 1) := by decide +kernel
theorem dX10_isCovered_1 : decode cX10_isCovered 1 = .ok (.istore 4, 2) := by decide +kernel
theorem dX10_isCovered_3 : decode cX10_isCovered 3 = .ok (.iconst 0, 1) := by decide +kernel
theorem dX10_isCovered_4 : decode cX10_isCovered 4 = .ok (.istore 5, 2) := by decide +kernel
theorem dX10_isCovered_6 : decode cX10_isCovered 6 = .ok (.iload 5, 2) := by decide +kernel
theorem dX10_isCovered_8 : decode cX10_isCovered 8 = .ok (.aload_n 0, 1) := by decide +kernel
theorem dX10_isCovered_9 : decode cX10_isCovered 9 = .ok (.getfield 70, 3) := by decide +kernel
theorem dX10_isCovered_12 : decode cX10_isCovered 12 = .ok (.if_icmp .ge 103, 3) := by decide +kernel
theorem dX10_isCovered_15 : decode cX10_isCovered 15 = .ok (.aload_n 0, 1) := by decide +kernel
theorem dX10_isCovered_16 : decode cX10_isCovered 16 = .ok (.iconst 0, 1) := by decide +kernel
theorem dX10_isCovered_17 : decode cX10_isCovered 17 = .ok (.iload 5, 2) := by decide +kernel
theorem dX10_isCovered_19 : decode cX10_isCovered 19 = .ok (.iconst (-1), 1) := by decide +kernel
theorem dX10_isCovered_20 : decode cX10_isCovered 20 = .ok (.invokevirtual 134, 3) := by decide +kernel
theorem dX10_isCovered_23 : decode cX10_isCovered 23 = .ok (.ifCond .eq 86, 3) := by decide +kernel
theorem dX10_isCovered_26 : decode cX10_isCovered 26 = .ok (.aload_n 0, 1) := by decide +kernel
theorem dX10_isCovered_27 : decode cX10_isCovered 27 = .ok (.iload 5, 2) := by decide +kernel
theorem dX10_isCovered_29 : decode cX10_isCovered 29 = .ok (.iload_n 1, 1) := by decide +kernel
theorem dX10_isCovered_30 : decode cX10_isCovered 30 = .ok (.invokevirtual 125, 3) := by decide +kernel
theorem dX10_isCovered_33 : decode cX10_isCovered 33 = .ok (.ifCond .ne 76, 3) := by decide +kernel
theorem dX10_isCovered_36 : decode cX10_isCovered 36 = .ok (.iconst 0, 1) := by decide +kernel
theorem dX10_isCovered_37 : decode cX10_isCovered 37 = .ok (.istore 6, 2) := by decide +kernel
theorem dX10_isCovered_39 : decode cX10_isCovered 39 = .ok (.iconst 0, 1) := by decide +kernel
theorem dX10_isCovered_40 : decode cX10_isCovered 40 = .ok (.istore 7, 2) := by decide +kernel
theorem dX10_isCovered_42 : decode cX10_isCovered 42 = .ok (.iload 7, 2) := by decide +kernel
theorem dX10_isCovered_44 : decode cX10_isCovered 44 = .ok (.iload_n 3, 1) := by decide +kernel
theorem dX10_isCovered_45 : decode cX10_isCovered 45 = .ok (.if_icmp .ge 47, 3) := by decide +kernel
theorem dX10_isCovered_48 : decode cX10_isCovered 48 = .ok (.iload 6, 2) := by decide +kernel
theorem dX10_isCovered_50 : decode cX10_isCovered 50 = .ok (.ifCond .ne 29, 3) := by decide +kernel
theorem dX10_isCovered_53 : decode cX10_isCovered 53 = .ok (.iload_n 2, 1) := by decide +kernel
theorem dX10_isCovered_54 : decode cX10_isCovered 54 = .ok (.iload 7, 2) := by decide +kernel
theorem dX10_isCovered_56 : decode cX10_isCovered 56 = .ok (.ishr, 1) := by decide +kernel
theorem dX10_isCovered_57 : decode cX10_isCovered 57 = .ok (.iconst 1, 1) := by decide +kernel
theorem dX10_isCovered_58 : decode cX10_isCovered 58 = .ok (.iand, 1) := by decide +kernel
theorem dX10_isCovered_59 : decode cX10_isCovered 59 = .ok (.iconst 1, 1) := by decide +kernel
theorem dX10_isCovered_60 : decode cX10_isCovered 60 = .ok (.if_icmp .ne 23, 3) := by decide +kernel
theorem dX10_isCovered_63 : decode cX10_isCovered 63 = .ok (.aload_n 0, 1) := by decide +kernel
theorem dX10_isCovered_64 : decode cX10_isCovered 64 = .ok (.iload 5, 2) := by decide +kernel
theorem dX10_isCovered_66 : decode cX10_isCovered 66 = .ok (.aload_n 0, 1) := by decide +kernel
theorem dX10_isCovered_67 : decode cX10_isCovered 67 = .ok (.getfield 53, 3) := by decide +kernel
theorem dX10_isCovered_70 : decode cX10_isCovered 70 = .ok (.iload 7, 2) := by decide +kernel
theorem dX10_isCovered_72 : decode cX10_isCovered 72 = .ok (.iaload, 1) := by decide +kernel
theorem dX10_isCovered_73 : decode cX10_isCovered 73 = .ok (.invokevirtual 122, 3) := by decide +kernel
theorem dX10_isCovered_76 : decode cX10_isCovered 76 = .ok (.ifCond .eq 7, 3) := by decide +kernel
theorem dX10_isCovered_79 : decode cX10_isCovered 79 = .ok (.iconst 1, 1) := by decide +kernel
theorem dX10_isCovered_80 : decode cX10_isCovered 80 = .ok (.goto 4, 3) := by decide +kernel
theorem dX10_isCovered_83 : decode cX10_isCovered 83 = .ok (.iconst 0, 1) := by decide +kernel
theorem dX10_isCovered_84 : decode cX10_isCovered 84 = .ok (.istore 6, 2) := by decide +kernel
theorem dX10_isCovered_86 : decode cX10_isCovered 86 = .ok (.iinc 7 1, 3) := by decide +kernel
theorem dX10_isCovered_89 : decode cX10_isCovered 89 = .ok (.goto (-47), 3) := by decide +kernel
theorem dX10_isCovered_92 : decode cX10_isCovered 92 = .ok (.iload 4, 2) := by decide +kernel
theorem dX10_isCovered_94 : decode cX10_isCovered 94 = .ok (.ifCond .eq 12, 3) := by decide +kernel
theorem dX10_isCovered_97 : decode cX10_isCovered 97 = .ok (.iload 6, 2) := by decide +kernel
theorem dX10_isCovered_99 : decode cX10_isCovered 99 = .ok (.ifCond .eq 7, 3) := by decide +kernel
theorem dX10_isCovered_102 : decode cX10_isCovered 102 = .ok (.iconst 1, 1) := by decide +kernel
theorem dX10_isCovered_103 : decode cX10_isCovered 103 = .ok (.goto 4, 3) := by decide +kernel
theorem dX10_isCovered_106 : decode cX10_isCovered 106 = .ok (.iconst 0, 1) := by decide +kernel
theorem dX10_isCovered_107 : decode cX10_isCovered 107 = .ok (.istore 4, 2) := by decide +kernel
theorem dX10_isCovered_109 : decode cX10_isCovered 109 = .ok (.iinc 5 1, 3) := by decide +kernel
theorem dX10_isCovered_112 : decode cX10_isCovered 112 = .ok (.goto (-106), 3) := by decide +kernel
theorem dX10_isCovered_115 : decode cX10_isCovered 115 = .ok (.iload 4, 2) := by decide +kernel
theorem dX10_isCovered_117 : decode cX10_isCovered 117 = .ok (.ireturn, 1) := by decide +kernel
def wX10_isCovered (I : Nat → Int32) (A : Nat → Nat → Int32) (x1 : Int32) (x2 : Int32) (x3 : Int32) (post : Int32 → Prop) : Prop := ∃ n, lfix (fun (r : (Int32 × Int32) → Prop) (v5, v4) => if (I 3) ≤ v5 then (zb v4 ∧ post v4) else (wX10_isNear I A 0 v5 (-1) (fun r20 => if r20 = 0 then (∀ v5_1 : Int32, v5_1 = v5 + 1 → r (v5_1, v4)) else (wX10_isMissing I A v5 x1 (fun r30 => if r30 = 0 then (∃ n_1, lfix (fun (r_1 : (Int32 × Int32) → Prop) (v7, v6) => if x3 ≤ v7 then (jn (fun (t : Int32) => ∀ v5_3 : Int32, v5_3 = v5 + 1 → r (v5_3, t)) (fun k => jn (fun (_ : Unit) => k 0) (fun k_1 => if v4 = 0 then (k_1 ()) else (if v6 = 0 then (k_1 ()) else (k 1))))) else (jn (fun (t_1 : Int32) => ∀ v7_1 : Int32, v7_1 = v7 + 1 → r_1 (v7_1, t_1)) (fun k_2 => jn (fun (_ : Unit) => k_2 1) (fun k_3 => if v6 = 0 then (jn (fun (_ : Unit) => k_2 0) (fun k_4 => if ((x2 >>> (v7 &&& 31)) &&& 1) = 1 then (vp_in v7 40 ∧ (wX10_hasIt I A v5 (A 15 v7.toNatClampNeg) (fun r73 => if r73 = 0 then (k_4 ()) else (k_3 ())))) else (k_4 ()))) else (k_3 ()))))) n_1 (0, 0)) else (∀ v5_2 : Int32, v5_2 = v5 + 1 → r (v5_2, v4))))))) n (0, 1)
abbrev rmX10_isCovered : Room := { frames := 3, cells := 0, slots := 0, locals := 80 }
theorem wd_X10_isCovered : Cond.instanceMethod yX10_isCovered ∈ BW ∧ Cond.selects yX10_isCovered.cls yX10_isCovered yX10_isCovered ∈ BW ∧ Cond.initialized yX10_isCovered.cls ∈ BW ∧ Cond.code yX10_isCovered cX10_isCovered 8 (some .boolean) ∈ BW := ⟨mw_6_38, mp_57, mw_1_11, mw_6_39⟩
set_option maxHeartbeats 4000000 in
set_option maxRecDepth 100000 in
theorem c_X10_isCovered {l : Launch} {D : va_G} {cy : Nat → ClassId} {ad : Nat → Nat} {Ad : Nat → Prop} (hAd : adok 16 Ad ad) (I : Nat → Int32) (A : Nat → Nat → Int32) (x1 : Int32) (x2 : Int32) (x3 : Int32)  (post : Int32 → Prop) (h : wX10_isCovered I A x1 x2 x3 post) : Met l yX10_isCovered (.code yX10_isCovered cX10_isCovered 8 (some .boolean) :: BW) rmX10_isCovered (va_Pc [.ref (ad 0), .int x1, .int x2, .int x3] (fun U => kC D cy U ∧ va_P D vwCl (wM cy ad I A) U.heap)) (qMi D cy ad Ad (fun r u => post r  ∧ I = u.1 ∧ A = u.2)) 0 0 Ad := by
  refine startMz (by decide) (Nat.le_of_ble_eq_true rfl) (lv := [(0, .ref (ad 0)), (1, .int x1), (2, .int x2), (3, .int x3)]) rfl (fun p e s m args below meth c Q ls hx hb hml hT hown hK hret hl hP hS => ?_)
  unfold wX10_isCovered at h
  refine lv_iconst (v := 1) hx hb dX10_isCovered_0 (by decide) ?_
  refine lv_istore (lv' := [(4, .int 1), (0, .ref (ad 0)), (1, .int x1), (2, .int x2), (3, .int x3)]) hx hb dX10_isCovered_1 hl (by decide) rfl (fun ls hl => ?_)
  refine lv_iconst (v := 0) hx hb dX10_isCovered_3 (by decide) ?_
  refine lv_istore (lv' := [(5, .int 0), (4, .int 1), (0, .ref (ad 0)), (1, .int x1), (2, .int x2), (3, .int x3)]) hx hb dX10_isCovered_4 hl (by decide) rfl (fun ls hl => ?_)
  obtain ⟨F, n, h, hF, hG⟩ := lfix_ex h
  have LP : ∀ (n : Nat) (v5 : Int32) (v4 : Int32) (ls : Array Slot) (H : Heap) (locs : List Loc), F n (v5, v4) → lv_has ls 8 [(5, .int v5), (4, .int v4), (0, .ref (ad 0)), (1, .int x1), (2, .int x2), (3, .int x3)] → va_P D vwCl (wM cy ad I A) H → va_S Ad s.heap H locs → W p l e rmX10_isCovered s m args below meth c H locs 0 0 Q (F0 m 6 ls []) := by
    intro n
    induction n with
    | zero => intro v5 v4 ls H locs h _ _ _; exact absurd h (hF _)
    | succ n ih =>
      intro v5 v4 ls H locs h hl hP hS
      replace h := hG _ _ h
      try dsimp only at h
      refine lv_iload hx hb dX10_isCovered_6 (lv_at hl 0 rfl) ?_
      refine lv_aload_n hx hb dX10_isCovered_8 rfl (lv_at hl 2 rfl) ?_
      refine va_get (T := TX10) hx hb hT inlX10 hown hK.1 hP 0 he_X10 rfl 3 (by decide) (hT _ mw_4_140) (fun _ h9 => h9) rfl dX10_isCovered_9 ?_
      refine lv_icmp_ge (tgt := 115) hx hb dX10_isCovered_12 (by decide) (fun hc => ?_) (fun hc => ?_)
      · rw [if_pos hc] at h
        refine lv_iload hx hb dX10_isCovered_115 (lv_at hl 1 rfl) ?_
        obtain ⟨hz, h⟩ := h
        exact hret _ (I, A) hz dX10_isCovered_117 ⟨h, rfl, rfl⟩ hP hS
      · rw [if_neg hc] at h
        refine lv_aload_n hx hb dX10_isCovered_15 rfl (lv_at hl 2 rfl) ?_
        refine lv_iconst (v := 0) hx hb dX10_isCovered_16 (by decide) ?_
        refine lv_iload hx hb dX10_isCovered_17 (lv_at hl 0 rfl) ?_
        refine lv_iconst (v := (-1)) hx hb dX10_isCovered_19 (by decide) ?_
        refine callMi (k := 0) (As := [.int 0, .int v5, .int (-1)]) (rest := []) (n := 3) (c_X10_isNear hAd I A 0 v5 (-1) _ h) hx hb hT hown hK hP hS mw_5_92 wd_X10_isNear (by decide +kernel) ⟨rfl, rfl⟩ (by decide) rfl rfl he_X10 rfl hl.1 hml rfl (Nat.le_of_ble_eq_true rfl) dX10_isCovered_20 ⟨Nat.zero_le _, Nat.zero_le _⟩ (fun r20 u H locs h hP hS => ?_)
        obtain ⟨Iu, Au⟩ := u
        dsimp only at h hP
        obtain ⟨h, rfl, rfl⟩ := h
        try dsimp only at h
        refine lv_if_eq (tgt := 109) hx hb dX10_isCovered_23 (by decide) (fun hc_1 => ?_) (fun hc_1 => ?_)
        · rw [if_pos hc_1] at h
          obtain ⟨v5_1, ev5_1⟩ : ∃ z : Int32, z = v5 + 1 := ⟨_, rfl⟩
          replace h := h v5_1 ev5_1
          refine lv_iinc (v := v5_1) (lv' := [(5, .int v5_1), (4, .int v4), (0, .ref (ad 0)), (1, .int x1), (2, .int x2), (3, .int x3)]) hx hb dX10_isCovered_109 hl (k := 0) rfl (by rw [ev5_1]; rfl) (by decide) rfl (fun ls hl => ?_)
          refine lv_goto (tgt := 6) hx hb dX10_isCovered_112 (by decide) ?_
          exact ih v5_1 v4 _ _ _ h (lv_sub hl [0, 1, 2, 3, 4, 5] rfl) hP hS
        · rw [if_neg hc_1] at h
          refine lv_aload_n hx hb dX10_isCovered_26 rfl (lv_at hl 2 rfl) ?_
          refine lv_iload hx hb dX10_isCovered_27 (lv_at hl 0 rfl) ?_
          refine lv_iload_n hx hb dX10_isCovered_29 rfl (lv_at hl 3 rfl) ?_
          refine callMi (k := 0) (As := [.int v5, .int x1]) (rest := []) (n := 2) (c_X10_isMissing hAd I A v5 x1 _ h) hx hb hT hown hK hP hS mw_5_104 wd_X10_isMissing (by decide +kernel) ⟨rfl, rfl⟩ (by decide) rfl rfl he_X10 rfl hl.1 hml rfl (Nat.le_of_ble_eq_true rfl) dX10_isCovered_30 ⟨Nat.zero_le _, Nat.zero_le _⟩ (fun r30 u H locs h hP hS => ?_)
          obtain ⟨Iu_1, Au_1⟩ := u
          dsimp only at h hP
          obtain ⟨h, rfl, rfl⟩ := h
          try dsimp only at h
          refine lv_if_ne (tgt := 109) hx hb dX10_isCovered_33 (by decide) (fun hc_2 => ?_) (fun hc_2 => ?_)
          · rw [if_neg hc_2] at h
            obtain ⟨v5_2, ev5_2⟩ : ∃ z : Int32, z = v5 + 1 := ⟨_, rfl⟩
            replace h := h v5_2 ev5_2
            refine lv_iinc (v := v5_2) (lv' := [(5, .int v5_2), (4, .int v4), (0, .ref (ad 0)), (1, .int x1), (2, .int x2), (3, .int x3)]) hx hb dX10_isCovered_109 hl (k := 0) rfl (by rw [ev5_2]; rfl) (by decide) rfl (fun ls hl => ?_)
            refine lv_goto (tgt := 6) hx hb dX10_isCovered_112 (by decide) ?_
            exact ih v5_2 v4 _ _ _ h (lv_sub hl [0, 1, 2, 3, 4, 5] rfl) hP hS
          · rw [if_pos hc_2] at h
            refine lv_iconst (v := 0) hx hb dX10_isCovered_36 (by decide) ?_
            refine lv_istore (lv' := [(6, .int 0), (5, .int v5), (4, .int v4), (0, .ref (ad 0)), (1, .int x1), (2, .int x2), (3, .int x3)]) hx hb dX10_isCovered_37 hl (by decide) rfl (fun ls hl => ?_)
            refine lv_iconst (v := 0) hx hb dX10_isCovered_39 (by decide) ?_
            refine lv_istore (lv' := [(7, .int 0), (6, .int 0), (5, .int v5), (4, .int v4), (0, .ref (ad 0)), (1, .int x1), (2, .int x2), (3, .int x3)]) hx hb dX10_isCovered_40 hl (by decide) rfl (fun ls hl => ?_)
            obtain ⟨F_1, n_1, h, hF_1, hG_1⟩ := lfix_ex h
            have LP_1 : ∀ (n_1 : Nat) (v7 : Int32) (v6 : Int32) (ls : Array Slot) (H : Heap) (locs : List Loc), F_1 n_1 (v7, v6) → lv_has ls 8 [(7, .int v7), (6, .int v6), (5, .int v5), (4, .int v4), (0, .ref (ad 0)), (1, .int x1), (2, .int x2), (3, .int x3)] → va_P D vwCl (wM cy ad I A) H → va_S Ad s.heap H locs → W p l e rmX10_isCovered s m args below meth c H locs 0 0 Q (F0 m 42 ls []) := by
              intro n_1
              induction n_1 with
              | zero => intro v7 v6 ls H locs h _ _ _; exact absurd h (hF_1 _)
              | succ n_1 ih_1 =>
                intro v7 v6 ls H locs h hl hP hS
                replace h := hG_1 _ _ h
                try dsimp only at h
                refine lv_iload hx hb dX10_isCovered_42 (lv_at hl 0 rfl) ?_
                refine lv_iload_n hx hb dX10_isCovered_44 rfl (lv_at hl 7 rfl) ?_
                refine lv_icmp_ge (tgt := 92) hx hb dX10_isCovered_45 (by decide) (fun hc_3 => ?_) (fun hc_3 => ?_)
                · rw [if_pos hc_3] at h
                  refine lv_iload hx hb dX10_isCovered_92 (lv_at hl 3 rfl) ?_
                  obtain ⟨k, hk, h⟩ := jn_ex h
                  try dsimp only at h
                  have J : ∀ (t : Int32), k t → ∀ (ls : Array Slot) (H : Heap) (locs : List Loc), lv_has ls 8 [(5, .int v5), (0, .ref (ad 0)), (1, .int x1), (2, .int x2), (3, .int x3)] → va_P D vwCl (wM cy ad I A) H → va_S Ad s.heap H locs → W p l e rmX10_isCovered s m args below meth c H locs 0 0 Q (F0 m 107 ls [.int t]) := by
                    intro t h ls H locs hl hP hS
                    replace h := hk _ h
                    try dsimp only at h
                    refine lv_istore (lv' := [(4, .int t), (5, .int v5), (0, .ref (ad 0)), (1, .int x1), (2, .int x2), (3, .int x3)]) hx hb dX10_isCovered_107 hl (by decide) rfl (fun ls hl => ?_)
                    obtain ⟨v5_3, ev5_3⟩ : ∃ z : Int32, z = v5 + 1 := ⟨_, rfl⟩
                    replace h := h v5_3 ev5_3
                    refine lv_iinc (v := v5_3) (lv' := [(5, .int v5_3), (4, .int t), (0, .ref (ad 0)), (1, .int x1), (2, .int x2), (3, .int x3)]) hx hb dX10_isCovered_109 hl (k := 1) rfl (by rw [ev5_3]; rfl) (by decide) rfl (fun ls hl => ?_)
                    refine lv_goto (tgt := 6) hx hb dX10_isCovered_112 (by decide) ?_
                    exact ih v5_3 t _ _ _ h (lv_sub hl [0, 1, 2, 3, 4, 5] rfl) hP hS
                  obtain ⟨k_1, hk_1, h⟩ := jn_ex h
                  try dsimp only at h
                  have J_1 : k_1 () → ∀ (ls : Array Slot) (H : Heap) (locs : List Loc), lv_has ls 8 [(5, .int v5), (0, .ref (ad 0)), (1, .int x1), (2, .int x2), (3, .int x3)] → va_P D vwCl (wM cy ad I A) H → va_S Ad s.heap H locs → W p l e rmX10_isCovered s m args below meth c H locs 0 0 Q (F0 m 106 ls []) := by
                    intro  h ls H locs hl hP hS
                    replace h := hk_1 _ h
                    try dsimp only at h
                    refine lv_iconst (v := 0) hx hb dX10_isCovered_106 (by decide) ?_
                    exact J 0 h _ _ _ (lv_sub hl [0, 1, 2, 3, 4] rfl) hP hS
                  refine lv_if_eq (tgt := 106) hx hb dX10_isCovered_94 (by decide) (fun hc_4 => ?_) (fun hc_4 => ?_)
                  · rw [if_pos hc_4] at h
                    exact J_1  h _ _ _ (lv_sub hl [2, 4, 5, 6, 7] rfl) hP hS
                  · rw [if_neg hc_4] at h
                    refine lv_iload hx hb dX10_isCovered_97 (lv_at hl 1 rfl) ?_
                    refine lv_if_eq (tgt := 106) hx hb dX10_isCovered_99 (by decide) (fun hc_5 => ?_) (fun hc_5 => ?_)
                    · rw [if_pos hc_5] at h
                      exact J_1  h _ _ _ (lv_sub hl [2, 4, 5, 6, 7] rfl) hP hS
                    · rw [if_neg hc_5] at h
                      refine lv_iconst (v := 1) hx hb dX10_isCovered_102 (by decide) ?_
                      refine lv_goto (tgt := 107) hx hb dX10_isCovered_103 (by decide) ?_
                      exact J 1 h _ _ _ (lv_sub hl [2, 4, 5, 6, 7] rfl) hP hS
                · rw [if_neg hc_3] at h
                  refine lv_iload hx hb dX10_isCovered_48 (lv_at hl 1 rfl) ?_
                  obtain ⟨k_2, hk_2, h⟩ := jn_ex h
                  try dsimp only at h
                  have J_2 : ∀ (t_1 : Int32), k_2 t_1 → ∀ (ls : Array Slot) (H : Heap) (locs : List Loc), lv_has ls 8 [(7, .int v7), (5, .int v5), (4, .int v4), (0, .ref (ad 0)), (1, .int x1), (2, .int x2), (3, .int x3)] → va_P D vwCl (wM cy ad I A) H → va_S Ad s.heap H locs → W p l e rmX10_isCovered s m args below meth c H locs 0 0 Q (F0 m 84 ls [.int t_1]) := by
                    intro t_1 h ls H locs hl hP hS
                    replace h := hk_2 _ h
                    try dsimp only at h
                    refine lv_istore (lv' := [(6, .int t_1), (7, .int v7), (5, .int v5), (4, .int v4), (0, .ref (ad 0)), (1, .int x1), (2, .int x2), (3, .int x3)]) hx hb dX10_isCovered_84 hl (by decide) rfl (fun ls hl => ?_)
                    obtain ⟨v7_1, ev7_1⟩ : ∃ z : Int32, z = v7 + 1 := ⟨_, rfl⟩
                    replace h := h v7_1 ev7_1
                    refine lv_iinc (v := v7_1) (lv' := [(7, .int v7_1), (6, .int t_1), (5, .int v5), (4, .int v4), (0, .ref (ad 0)), (1, .int x1), (2, .int x2), (3, .int x3)]) hx hb dX10_isCovered_86 hl (k := 1) rfl (by rw [ev7_1]; rfl) (by decide) rfl (fun ls hl => ?_)
                    refine lv_goto (tgt := 42) hx hb dX10_isCovered_89 (by decide) ?_
                    exact ih_1 v7_1 t_1 _ _ _ h (lv_sub hl [0, 1, 2, 3, 4, 5, 6, 7] rfl) hP hS
                  obtain ⟨k_3, hk_3, h⟩ := jn_ex h
                  try dsimp only at h
                  have J_3 : k_3 () → ∀ (ls : Array Slot) (H : Heap) (locs : List Loc), lv_has ls 8 [(7, .int v7), (5, .int v5), (4, .int v4), (0, .ref (ad 0)), (1, .int x1), (2, .int x2), (3, .int x3)] → va_P D vwCl (wM cy ad I A) H → va_S Ad s.heap H locs → W p l e rmX10_isCovered s m args below meth c H locs 0 0 Q (F0 m 79 ls []) := by
                    intro  h ls H locs hl hP hS
                    replace h := hk_3 _ h
                    try dsimp only at h
                    refine lv_iconst (v := 1) hx hb dX10_isCovered_79 (by decide) ?_
                    refine lv_goto (tgt := 84) hx hb dX10_isCovered_80 (by decide) ?_
                    exact J_2 1 h _ _ _ (lv_sub hl [0, 1, 2, 3, 4, 5, 6] rfl) hP hS
                  refine lv_if_ne (tgt := 79) hx hb dX10_isCovered_50 (by decide) (fun hc_6 => ?_) (fun hc_6 => ?_)
                  · rw [if_neg hc_6] at h
                    exact J_3  h _ _ _ (lv_sub hl [0, 2, 3, 4, 5, 6, 7] rfl) hP hS
                  · rw [if_pos hc_6] at h
                    refine lv_iload_n hx hb dX10_isCovered_53 rfl (lv_at hl 6 rfl) ?_
                    refine lv_iload hx hb dX10_isCovered_54 (lv_at hl 0 rfl) ?_
                    refine lv_ishr hx hb dX10_isCovered_56 ?_
                    refine lv_iconst (v := 1) hx hb dX10_isCovered_57 (by decide) ?_
                    refine lv_iand hx hb dX10_isCovered_58 ?_
                    refine lv_iconst (v := 1) hx hb dX10_isCovered_59 (by decide) ?_
                    obtain ⟨k_4, hk_4, h⟩ := jn_ex h
                    try dsimp only at h
                    have J_4 : k_4 () → ∀ (ls : Array Slot) (H : Heap) (locs : List Loc), lv_has ls 8 [(7, .int v7), (5, .int v5), (4, .int v4), (0, .ref (ad 0)), (1, .int x1), (2, .int x2), (3, .int x3)] → va_P D vwCl (wM cy ad I A) H → va_S Ad s.heap H locs → W p l e rmX10_isCovered s m args below meth c H locs 0 0 Q (F0 m 83 ls []) := by
                      intro  h ls H locs hl hP hS
                      replace h := hk_4 _ h
                      try dsimp only at h
                      refine lv_iconst (v := 0) hx hb dX10_isCovered_83 (by decide) ?_
                      exact J_2 0 h _ _ _ (lv_sub hl [0, 1, 2, 3, 4, 5, 6] rfl) hP hS
                    refine lv_icmp_ne (tgt := 83) hx hb dX10_isCovered_60 (by decide) (fun hc_7 => ?_) (fun hc_7 => ?_)
                    · rw [if_neg hc_7] at h
                      exact J_4  h _ _ _ (lv_sub hl [0, 2, 3, 4, 5, 6, 7] rfl) hP hS
                    · rw [if_pos hc_7] at h
                      refine lv_aload_n hx hb dX10_isCovered_63 rfl (lv_at hl 4 rfl) ?_
                      refine lv_iload hx hb dX10_isCovered_64 (lv_at hl 2 rfl) ?_
                      refine lv_aload_n hx hb dX10_isCovered_66 rfl (lv_at hl 4 rfl) ?_
                      refine va_get (T := TX10) hx hb hT inlX10 hown hK.1 hP 0 he_X10 rfl 21 (by decide) (hT _ mw_4_158) (fun _ h9 => h9) rfl dX10_isCovered_67 ?_
                      refine lv_iload hx hb dX10_isCovered_70 (lv_at hl 0 rfl) ?_
                      obtain ⟨hi, h⟩ := h
                      refine lM_I hx hb hK.1 hP (by decide) rfl hi dX10_isCovered_72 ?_
                      refine callMi (k := 0) (As := [.int v5, .int (A 15 v7.toNatClampNeg)]) (rest := []) (n := 2) (c_X10_hasIt hAd I A v5 (A 15 v7.toNatClampNeg) _ h) hx hb hT hown hK hP hS mw_5_100 wd_X10_hasIt (by decide +kernel) ⟨rfl, rfl⟩ (by decide) rfl rfl he_X10 rfl hl.1 hml rfl (Nat.le_of_ble_eq_true rfl) dX10_isCovered_73 ⟨Nat.zero_le _, Nat.zero_le _⟩ (fun r73 u H locs h hP hS => ?_)
                      obtain ⟨Iu_2, Au_2⟩ := u
                      dsimp only at h hP
                      obtain ⟨h, rfl, rfl⟩ := h
                      try dsimp only at h
                      refine lv_if_eq (tgt := 83) hx hb dX10_isCovered_76 (by decide) (fun hc_8 => ?_) (fun hc_8 => ?_)
                      · rw [if_pos hc_8] at h
                        exact J_4  h _ _ _ (lv_sub hl [0, 2, 3, 4, 5, 6, 7] rfl) hP hS
                      · rw [if_neg hc_8] at h
                        exact J_3  h _ _ _ (lv_sub hl [0, 2, 3, 4, 5, 6, 7] rfl) hP hS
            exact LP_1 _ 0 0 _ _ _ h (lv_sub hl [0, 1, 2, 3, 4, 5, 6, 7] rfl) hP hS
  exact LP _ 0 1 _ _ _ h (lv_sub hl [0, 1, 2, 3, 4, 5] rfl) hP hS
theorem dX10_bestCover_0 : decode cX10_bestCover 0 = .ok (.iconst (-1), 1) := by decide +kernel
theorem dX10_bestCover_1 : decode cX10_bestCover 1 = .ok (.istore_n 3, 1) := by decide +kernel
theorem dX10_bestCover_2 : decode cX10_bestCover 2 = .ok (.iconst 0, 1) := by decide +kernel
theorem dX10_bestCover_3 : decode cX10_bestCover 3 = .ok (.istore 4, 2) := by decide +kernel
theorem dX10_bestCover_5 : decode cX10_bestCover 5 = .ok (.iload 4, 2) := by decide +kernel
theorem dX10_bestCover_7 : decode cX10_bestCover 7 = .ok (.iconst 1, 1) := by decide +kernel
theorem dX10_bestCover_8 : decode cX10_bestCover 8 = .ok (.iload_n 2, 1) := by decide +kernel
theorem dX10_bestCover_9 : decode cX10_bestCover 9 = .ok (.ishl, 1) := by decide +kernel
theorem dX10_bestCover_10 : decode cX10_bestCover 10 = .ok (.if_icmp .ge 72, 3) := by decide +kernel
theorem dX10_bestCover_13 : decode cX10_bestCover 13 = .ok (.iload_n 3, 1) := by decide +kernel
theorem dX10_bestCover_14 : decode cX10_bestCover 14 = .ok (.ifCond .lt 36, 3) := by decide +kernel
theorem dX10_bestCover_17 : decode cX10_bestCover 17 = .ok (.iload 4, 2) := by decide +kernel
theorem dX10_bestCover_19 : decode cX10_bestCover 19 = .ok (.invokestatic 206, 3) := by decide +kernel
theorem dX10_bestCover_22 : decode cX10_bestCover 22 = .ok (.iload_n 3, 1) := by decide +kernel
theorem dX10_bestCover_23 : decode cX10_bestCover 23 = .ok (.invokestatic 206, 3) := by decide +kernel
theorem dX10_bestCover_26 : decode cX10_bestCover 26 = .ok (.if_icmp .lt 24, 3) := by decide +kernel
theorem dX10_bestCover_29 : decode cX10_bestCover 29 = .ok (.iload 4, 2) := by decide +kernel
theorem dX10_bestCover_31 : decode cX10_bestCover 31 = .ok (.invokestatic 206, 3) := by decide +kernel
theorem dX10_bestCover_34 : decode cX10_bestCover 34 = .ok (.iload_n 3, 1) := by decide +kernel
theorem dX10_bestCover_35 : decode cX10_bestCover 35 = .ok (.invokestatic 206, 3) := by decide +kernel
theorem dX10_bestCover_38 : decode cX10_bestCover 38 = .ok (.if_icmp .ne 16, 3) := by decide +kernel
theorem dX10_bestCover_41 : decode cX10_bestCover 41 = .ok (.iload 4, 2) := by decide +kernel
theorem dX10_bestCover_43 : decode cX10_bestCover 43 = .ok (.iload_n 3, 1) := by decide +kernel
theorem dX10_bestCover_44 : decode cX10_bestCover 44 = .ok (.invokestatic 209, 3) := by decide +kernel
theorem dX10_bestCover_47 : decode cX10_bestCover 47 = .ok (.ifCond .eq 7, 3) := by decide +kernel
theorem dX10_bestCover_50 : decode cX10_bestCover 50 = .ok (.iconst 1, 1) := by decide +kernel
theorem dX10_bestCover_51 : decode cX10_bestCover 51 = .ok (.goto 4, 3) := by decide +kernel
theorem dX10_bestCover_54 : decode cX10_bestCover 54 = .ok (.iconst 0, 1) := by decide +kernel
theorem dX10_bestCover_55 : decode cX10_bestCover 55 = .ok (.istore 5, 2) := by decide +kernel
theorem dX10_bestCover_57 : decode cX10_bestCover 57 = .ok (.iload 5, 2) := by decide +kernel
theorem dX10_bestCover_59 : decode cX10_bestCover 59 = .ok (.ifCond .eq 17, 3) := by decide +kernel
theorem dX10_bestCover_62 : decode cX10_bestCover 62 = .ok (.aload_n 0, 1) := by decide +kernel
theorem dX10_bestCover_63 : decode cX10_bestCover 63 = .ok (.iload_n 1, 1) := by decide +kernel
theorem dX10_bestCover_64 : decode cX10_bestCover 64 = .ok (.iload 4, 2) := by decide +kernel
theorem dX10_bestCover_66 : decode cX10_bestCover 66 = .ok (.iload_n 2, 1) := by decide +kernel
theorem dX10_bestCover_67 : decode cX10_bestCover 67 = .ok (.invokevirtual 212, 3) := by decide +kernel
theorem dX10_bestCover_70 : decode cX10_bestCover 70 = .ok (.ifCond .eq 6, 3) := by decide +kernel
theorem dX10_bestCover_73 : decode cX10_bestCover 73 = .ok (.iload 4, 2) := by decide +kernel
theorem dX10_bestCover_75 : decode cX10_bestCover 75 = .ok (.istore_n 3, 1) := by decide +kernel
theorem dX10_bestCover_76 : decode cX10_bestCover 76 = .ok (.iinc 4 1, 3) := by decide +kernel
theorem dX10_bestCover_79 : decode cX10_bestCover 79 = .ok (.goto (-74), 3) := by decide +kernel
theorem dX10_bestCover_82 : decode cX10_bestCover 82 = .ok (.iload_n 3, 1) := by decide +kernel
theorem dX10_bestCover_83 : decode cX10_bestCover 83 = .ok (.ireturn, 1) := by decide +kernel
def wX10_bestCover (I : Nat → Int32) (A : Nat → Nat → Int32) (x1 : Int32) (x2 : Int32) (post : Int32 → Prop) : Prop := ∃ n, lfix (fun (r : (Int32 × Int32) → Prop) (v4, v3) => if (1 <<< (x2 &&& 31)) ≤ v4 then (post v3) else (jn (fun (t : Int32) => if t = 0 then (∀ v4_1 : Int32, v4_1 = v4 + 1 → r (v4_1, v3)) else (wX10_isCovered I A x1 v4 x2 (fun r67 => if r67 = 0 then (∀ v4_2 : Int32, v4_2 = v4 + 1 → r (v4_2, v3)) else (∀ v4_3 : Int32, v4_3 = v4 + 1 → r (v4_3, v4))))) (fun k => jn (fun (_ : Unit) => k 1) (fun k_1 => if v3 < 0 then (k_1 ()) else (wX10_manyOf v4 (fun r19 => wX10_manyOf v3 (fun r23 => if r19 < r23 then (k_1 ()) else (wX10_manyOf v4 (fun r31 => wX10_manyOf v3 (fun r35 => jn (fun (_ : Unit) => k 0) (fun k_2 => if r31 = r35 then (wX10_isFirst v4 v3 (fun r44 => if r44 = 0 then (k_2 ()) else (k_1 ()))) else (k_2 ())))))))))))) n (0, (-1))
abbrev rmX10_bestCover : Room := { frames := 4, cells := 0, slots := 0, locals := 107 }
theorem wd_X10_bestCover : Cond.instanceMethod yX10_bestCover ∈ BW ∧ Cond.selects yX10_bestCover.cls yX10_bestCover yX10_bestCover ∈ BW ∧ Cond.initialized yX10_bestCover.cls ∈ BW ∧ Cond.code yX10_bestCover cX10_bestCover 6 (some .int) ∈ BW := ⟨mw_6_28, mp_56, mw_1_11, mw_6_29⟩
set_option maxHeartbeats 4000000 in
set_option maxRecDepth 100000 in
theorem c_X10_bestCover {l : Launch} {D : va_G} {cy : Nat → ClassId} {ad : Nat → Nat} {Ad : Nat → Prop} (hAd : adok 16 Ad ad) (I : Nat → Int32) (A : Nat → Nat → Int32) (x1 : Int32) (x2 : Int32)  (post : Int32 → Prop) (h : wX10_bestCover I A x1 x2 post) : Met l yX10_bestCover (.code yX10_bestCover cX10_bestCover 6 (some .int) :: BW) rmX10_bestCover (va_Pc [.ref (ad 0), .int x1, .int x2] (fun U => kC D cy U ∧ va_P D vwCl (wM cy ad I A) U.heap)) (qMi D cy ad Ad (fun r u => post r  ∧ I = u.1 ∧ A = u.2)) 0 0 Ad := by
  refine startMi (by decide) (Nat.le_of_ble_eq_true rfl) (lv := [(0, .ref (ad 0)), (1, .int x1), (2, .int x2)]) rfl (fun p e s m args below meth c Q ls hx hb hml hT hown hK hret hl hP hS => ?_)
  unfold wX10_bestCover at h
  refine lv_iconst (v := (-1)) hx hb dX10_bestCover_0 (by decide) ?_
  refine lv_istore_n (lv' := [(3, .int (-1)), (0, .ref (ad 0)), (1, .int x1), (2, .int x2)]) hx hb dX10_bestCover_1 rfl hl (by decide) rfl (fun ls hl => ?_)
  refine lv_iconst (v := 0) hx hb dX10_bestCover_2 (by decide) ?_
  refine lv_istore (lv' := [(4, .int 0), (3, .int (-1)), (0, .ref (ad 0)), (1, .int x1), (2, .int x2)]) hx hb dX10_bestCover_3 hl (by decide) rfl (fun ls hl => ?_)
  obtain ⟨F, n, h, hF, hG⟩ := lfix_ex h
  have LP : ∀ (n : Nat) (v4 : Int32) (v3 : Int32) (ls : Array Slot) (H : Heap) (locs : List Loc), F n (v4, v3) → lv_has ls 6 [(4, .int v4), (3, .int v3), (0, .ref (ad 0)), (1, .int x1), (2, .int x2)] → va_P D vwCl (wM cy ad I A) H → va_S Ad s.heap H locs → W p l e rmX10_bestCover s m args below meth c H locs 0 0 Q (F0 m 5 ls []) := by
    intro n
    induction n with
    | zero => intro v4 v3 ls H locs h _ _ _; exact absurd h (hF _)
    | succ n ih =>
      intro v4 v3 ls H locs h hl hP hS
      replace h := hG _ _ h
      try dsimp only at h
      refine lv_iload hx hb dX10_bestCover_5 (lv_at hl 0 rfl) ?_
      refine lv_iconst (v := 1) hx hb dX10_bestCover_7 (by decide) ?_
      refine lv_iload_n hx hb dX10_bestCover_8 rfl (lv_at hl 4 rfl) ?_
      refine lv_ishl hx hb dX10_bestCover_9 ?_
      refine lv_icmp_ge (tgt := 82) hx hb dX10_bestCover_10 (by decide) (fun hc => ?_) (fun hc => ?_)
      · rw [if_pos hc] at h
        refine lv_iload_n hx hb dX10_bestCover_82 rfl (lv_at hl 1 rfl) ?_
        exact hret _ (I, A) dX10_bestCover_83 ⟨h, rfl, rfl⟩ hP hS
      · rw [if_neg hc] at h
        refine lv_iload_n hx hb dX10_bestCover_13 rfl (lv_at hl 1 rfl) ?_
        obtain ⟨k, hk, h⟩ := jn_ex h
        try dsimp only at h
        have J : ∀ (t : Int32), k t → ∀ (ls : Array Slot) (H : Heap) (locs : List Loc), lv_has ls 6 [(4, .int v4), (3, .int v3), (0, .ref (ad 0)), (1, .int x1), (2, .int x2)] → va_P D vwCl (wM cy ad I A) H → va_S Ad s.heap H locs → W p l e rmX10_bestCover s m args below meth c H locs 0 0 Q (F0 m 55 ls [.int t]) := by
          intro t h ls H locs hl hP hS
          replace h := hk _ h
          try dsimp only at h
          refine lv_istore (lv' := [(5, .int t), (4, .int v4), (3, .int v3), (0, .ref (ad 0)), (1, .int x1), (2, .int x2)]) hx hb dX10_bestCover_55 hl (by decide) rfl (fun ls hl => ?_)
          refine lv_iload hx hb dX10_bestCover_57 (lv_at hl 0 rfl) ?_
          refine lv_if_eq (tgt := 76) hx hb dX10_bestCover_59 (by decide) (fun hc_1 => ?_) (fun hc_1 => ?_)
          · rw [if_pos hc_1] at h
            obtain ⟨v4_1, ev4_1⟩ : ∃ z : Int32, z = v4 + 1 := ⟨_, rfl⟩
            replace h := h v4_1 ev4_1
            refine lv_iinc (v := v4_1) (lv' := [(4, .int v4_1), (5, .int t), (3, .int v3), (0, .ref (ad 0)), (1, .int x1), (2, .int x2)]) hx hb dX10_bestCover_76 hl (k := 1) rfl (by rw [ev4_1]; rfl) (by decide) rfl (fun ls hl => ?_)
            refine lv_goto (tgt := 5) hx hb dX10_bestCover_79 (by decide) ?_
            exact ih v4_1 v3 _ _ _ h (lv_sub hl [0, 2, 3, 4, 5] rfl) hP hS
          · rw [if_neg hc_1] at h
            refine lv_aload_n hx hb dX10_bestCover_62 rfl (lv_at hl 3 rfl) ?_
            refine lv_iload_n hx hb dX10_bestCover_63 rfl (lv_at hl 4 rfl) ?_
            refine lv_iload hx hb dX10_bestCover_64 (lv_at hl 1 rfl) ?_
            refine lv_iload_n hx hb dX10_bestCover_66 rfl (lv_at hl 5 rfl) ?_
            refine callMi (k := 0) (As := [.int x1, .int v4, .int x2]) (rest := []) (n := 3) (c_X10_isCovered hAd I A x1 v4 x2 _ h) hx hb hT hown hK hP hS mw_6_36 wd_X10_isCovered (by decide +kernel) ⟨rfl, rfl⟩ (by decide) rfl rfl he_X10 rfl hl.1 hml rfl (Nat.le_of_ble_eq_true rfl) dX10_bestCover_67 ⟨Nat.zero_le _, Nat.zero_le _⟩ (fun r67 u H locs h hP hS => ?_)
            obtain ⟨Iu, Au⟩ := u
            dsimp only at h hP
            obtain ⟨h, rfl, rfl⟩ := h
            try dsimp only at h
            refine lv_if_eq (tgt := 76) hx hb dX10_bestCover_70 (by decide) (fun hc_2 => ?_) (fun hc_2 => ?_)
            · rw [if_pos hc_2] at h
              obtain ⟨v4_2, ev4_2⟩ : ∃ z : Int32, z = v4 + 1 := ⟨_, rfl⟩
              replace h := h v4_2 ev4_2
              refine lv_iinc (v := v4_2) (lv' := [(4, .int v4_2), (5, .int t), (3, .int v3), (0, .ref (ad 0)), (1, .int x1), (2, .int x2)]) hx hb dX10_bestCover_76 hl (k := 1) rfl (by rw [ev4_2]; rfl) (by decide) rfl (fun ls hl => ?_)
              refine lv_goto (tgt := 5) hx hb dX10_bestCover_79 (by decide) ?_
              exact ih v4_2 v3 _ _ _ h (lv_sub hl [0, 2, 3, 4, 5] rfl) hP hS
            · rw [if_neg hc_2] at h
              refine lv_iload hx hb dX10_bestCover_73 (lv_at hl 1 rfl) ?_
              refine lv_istore_n (lv' := [(3, .int v4), (5, .int t), (4, .int v4), (0, .ref (ad 0)), (1, .int x1), (2, .int x2)]) hx hb dX10_bestCover_75 rfl hl (by decide) rfl (fun ls hl => ?_)
              obtain ⟨v4_3, ev4_3⟩ : ∃ z : Int32, z = v4 + 1 := ⟨_, rfl⟩
              replace h := h v4_3 ev4_3
              refine lv_iinc (v := v4_3) (lv' := [(4, .int v4_3), (3, .int v4), (5, .int t), (0, .ref (ad 0)), (1, .int x1), (2, .int x2)]) hx hb dX10_bestCover_76 hl (k := 2) rfl (by rw [ev4_3]; rfl) (by decide) rfl (fun ls hl => ?_)
              refine lv_goto (tgt := 5) hx hb dX10_bestCover_79 (by decide) ?_
              exact ih v4_3 v4 _ _ _ h (lv_sub hl [0, 1, 3, 4, 5] rfl) hP hS
        obtain ⟨k_1, hk_1, h⟩ := jn_ex h
        try dsimp only at h
        have J_1 : k_1 () → ∀ (ls : Array Slot) (H : Heap) (locs : List Loc), lv_has ls 6 [(4, .int v4), (3, .int v3), (0, .ref (ad 0)), (1, .int x1), (2, .int x2)] → va_P D vwCl (wM cy ad I A) H → va_S Ad s.heap H locs → W p l e rmX10_bestCover s m args below meth c H locs 0 0 Q (F0 m 50 ls []) := by
          intro  h ls H locs hl hP hS
          replace h := hk_1 _ h
          try dsimp only at h
          refine lv_iconst (v := 1) hx hb dX10_bestCover_50 (by decide) ?_
          refine lv_goto (tgt := 55) hx hb dX10_bestCover_51 (by decide) ?_
          exact J 1 h _ _ _ (lv_sub hl [0, 1, 2, 3, 4] rfl) hP hS
        refine lv_if_lt (tgt := 50) hx hb dX10_bestCover_14 (by decide) (fun hc_3 => ?_) (fun hc_3 => ?_)
        · rw [if_pos hc_3] at h
          exact J_1  h _ _ _ (lv_sub hl [0, 1, 2, 3, 4] rfl) hP hS
        · rw [if_neg hc_3] at h
          refine lv_iload hx hb dX10_bestCover_17 (lv_at hl 0 rfl) ?_
          refine callSMi (As := [.int v4]) (rest := []) (n := 1) (c_X10_manyOf v4 _ h) hx hb hT hown hP hS mw_6_30 wd_X10_manyOf (by decide +kernel) ⟨rfl, rfl⟩ (by decide) rfl hl.1 hml rfl (Nat.le_of_ble_eq_true rfl) dX10_bestCover_19 ⟨Nat.zero_le _, Nat.zero_le _⟩ (fun r19 H locs h hP hS => ?_)
          try dsimp only at h
          refine lv_iload_n hx hb dX10_bestCover_22 rfl (lv_at hl 1 rfl) ?_
          refine callSMi (As := [.int v3]) (rest := [.int r19]) (n := 1) (c_X10_manyOf v3 _ h) hx hb hT hown hP hS mw_6_30 wd_X10_manyOf (by decide +kernel) ⟨rfl, rfl⟩ (by decide) rfl hl.1 hml rfl (Nat.le_of_ble_eq_true rfl) dX10_bestCover_23 ⟨Nat.zero_le _, Nat.zero_le _⟩ (fun r23 H locs h hP hS => ?_)
          try dsimp only at h
          refine lv_icmp_lt (tgt := 50) hx hb dX10_bestCover_26 (by decide) (fun hc_4 => ?_) (fun hc_4 => ?_)
          · rw [if_pos hc_4] at h
            exact J_1  h _ _ _ (lv_sub hl [0, 1, 2, 3, 4] rfl) hP hS
          · rw [if_neg hc_4] at h
            refine lv_iload hx hb dX10_bestCover_29 (lv_at hl 0 rfl) ?_
            refine callSMi (As := [.int v4]) (rest := []) (n := 1) (c_X10_manyOf v4 _ h) hx hb hT hown hP hS mw_6_30 wd_X10_manyOf (by decide +kernel) ⟨rfl, rfl⟩ (by decide) rfl hl.1 hml rfl (Nat.le_of_ble_eq_true rfl) dX10_bestCover_31 ⟨Nat.zero_le _, Nat.zero_le _⟩ (fun r31 H locs h hP hS => ?_)
            try dsimp only at h
            refine lv_iload_n hx hb dX10_bestCover_34 rfl (lv_at hl 1 rfl) ?_
            refine callSMi (As := [.int v3]) (rest := [.int r31]) (n := 1) (c_X10_manyOf v3 _ h) hx hb hT hown hP hS mw_6_30 wd_X10_manyOf (by decide +kernel) ⟨rfl, rfl⟩ (by decide) rfl hl.1 hml rfl (Nat.le_of_ble_eq_true rfl) dX10_bestCover_35 ⟨Nat.zero_le _, Nat.zero_le _⟩ (fun r35 H locs h hP hS => ?_)
            try dsimp only at h
            obtain ⟨k_2, hk_2, h⟩ := jn_ex h
            try dsimp only at h
            have J_2 : k_2 () → ∀ (ls : Array Slot) (H : Heap) (locs : List Loc), lv_has ls 6 [(4, .int v4), (3, .int v3), (0, .ref (ad 0)), (1, .int x1), (2, .int x2)] → va_P D vwCl (wM cy ad I A) H → va_S Ad s.heap H locs → W p l e rmX10_bestCover s m args below meth c H locs 0 0 Q (F0 m 54 ls []) := by
              intro  h ls H locs hl hP hS
              replace h := hk_2 _ h
              try dsimp only at h
              refine lv_iconst (v := 0) hx hb dX10_bestCover_54 (by decide) ?_
              exact J 0 h _ _ _ (lv_sub hl [0, 1, 2, 3, 4] rfl) hP hS
            refine lv_icmp_ne (tgt := 54) hx hb dX10_bestCover_38 (by decide) (fun hc_5 => ?_) (fun hc_5 => ?_)
            · rw [if_neg hc_5] at h
              exact J_2  h _ _ _ (lv_sub hl [0, 1, 2, 3, 4] rfl) hP hS
            · rw [if_pos hc_5] at h
              refine lv_iload hx hb dX10_bestCover_41 (lv_at hl 0 rfl) ?_
              refine lv_iload_n hx hb dX10_bestCover_43 rfl (lv_at hl 1 rfl) ?_
              refine callSMi (As := [.int v4, .int v3]) (rest := []) (n := 2) (c_X10_isFirst v4 v3 _ h) hx hb hT hown hP hS mw_6_33 wd_X10_isFirst (by decide +kernel) ⟨rfl, rfl⟩ (by decide) rfl hl.1 hml rfl (Nat.le_of_ble_eq_true rfl) dX10_bestCover_44 ⟨Nat.zero_le _, Nat.zero_le _⟩ (fun r44 H locs h hP hS => ?_)
              try dsimp only at h
              refine lv_if_eq (tgt := 54) hx hb dX10_bestCover_47 (by decide) (fun hc_6 => ?_) (fun hc_6 => ?_)
              · rw [if_pos hc_6] at h
                exact J_2  h _ _ _ (lv_sub hl [0, 1, 2, 3, 4] rfl) hP hS
              · rw [if_neg hc_6] at h
                exact J_1  h _ _ _ (lv_sub hl [0, 1, 2, 3, 4] rfl) hP hS
  exact LP _ 0 (-1) _ _ _ h (lv_sub hl [0, 1, 2, 3, 4] rfl) hP hS
theorem dX10_cover_0 : decode cX10_cover 0 = .ok (.aload_n 0, 1) := by decide +kernel
theorem dX10_cover_1 : decode cX10_cover 1 = .ok (.iconst 0, 1) := by decide +kernel
theorem dX10_cover_2 : decode cX10_cover 2 = .ok (.putfield 56, 3) := by decide +kernel
theorem dX10_cover_5 : decode cX10_cover 5 = .ok (.aload_n 0, 1) := by decide +kernel
theorem dX10_cover_6 : decode cX10_cover 6 = .ok (.iload_n 1, 1) := by decide +kernel
theorem dX10_cover_7 : decode cX10_cover 7 = .ok (.invokevirtual 80, 3) := by decide +kernel
theorem dX10_cover_10 : decode cX10_cover 10 = .ok (.ifCond .eq 11, 3) := by decide +kernel
theorem dX10_cover_13 : decode cX10_cover 13 = .ok (.aload_n 0, 1) := by decide +kernel
theorem dX10_cover_14 : decode cX10_cover 14 = .ok (.iload_n 1, 1) := by decide +kernel
theorem dX10_cover_15 : decode cX10_cover 15 = .ok (.invokevirtual 215, 3) := by decide +kernel
theorem dX10_cover_18 : decode cX10_cover 18 = .ok (.goto 5, 3) := by decide +kernel
theorem dX10_cover_21 : decode cX10_cover 21 = .ok (.bipush 13, 2) := by decide +kernel
theorem dX10_cover_23 : decode cX10_cover 23 = .ok (.istore_n 3, 1) := by decide +kernel
theorem dX10_cover_24 : decode cX10_cover 24 = .ok (.iload_n 3, 1) := by decide +kernel
theorem dX10_cover_25 : decode cX10_cover 25 = .ok (.bipush 12, 2) := by decide +kernel
theorem dX10_cover_27 : decode cX10_cover 27 = .ok (.if_icmp .gt 8, 3) := by decide +kernel
theorem dX10_cover_30 : decode cX10_cover 30 = .ok (.iload_n 2, 1) := by decide +kernel
theorem dX10_cover_31 : decode cX10_cover 31 = .ok (.iconst (-1), 1) := by decide +kernel
theorem dX10_cover_32 : decode cX10_cover 32 = .ok (.if_icmp .ge 7, 3) := by decide +kernel
theorem dX10_cover_35 : decode cX10_cover 35 = .ok (.iconst (-1), 1) := by decide +kernel
theorem dX10_cover_36 : decode cX10_cover 36 = .ok (.goto 9, 3) := by decide +kernel
theorem dX10_cover_39 : decode cX10_cover 39 = .ok (.aload_n 0, 1) := by decide +kernel
theorem dX10_cover_40 : decode cX10_cover 40 = .ok (.iload_n 1, 1) := by decide +kernel
theorem dX10_cover_41 : decode cX10_cover 41 = .ok (.iload_n 3, 1) := by decide +kernel
theorem dX10_cover_42 : decode cX10_cover 42 = .ok (.invokevirtual 218, 3) := by decide +kernel
theorem dX10_cover_45 : decode cX10_cover 45 = .ok (.istore 4, 2) := by decide +kernel
theorem dX10_cover_47 : decode cX10_cover 47 = .ok (.iload 4, 2) := by decide +kernel
theorem dX10_cover_49 : decode cX10_cover 49 = .ok (.ifCond .lt 12, 3) := by decide +kernel
theorem dX10_cover_52 : decode cX10_cover 52 = .ok (.iload_n 2, 1) := by decide +kernel
theorem dX10_cover_53 : decode cX10_cover 53 = .ok (.iload 4, 2) := by decide +kernel
theorem dX10_cover_55 : decode cX10_cover 55 = .ok (.invokestatic 206, 3) := by decide +kernel
theorem dX10_cover_58 : decode cX10_cover 58 = .ok (.if_icmp .lt 5, 3) := by decide +kernel
theorem dX10_cover_61 : decode cX10_cover 61 = .ok (.iconst (-1), 1) := by decide +kernel
theorem dX10_cover_62 : decode cX10_cover 62 = .ok (.ireturn, 1) := by decide +kernel
theorem dX10_cover_63 : decode cX10_cover 63 = .ok (.iload_n 2, 1) := by decide +kernel
theorem dX10_cover_64 : decode cX10_cover 64 = .ok (.iconst (-1), 1) := by decide +kernel
theorem dX10_cover_65 : decode cX10_cover 65 = .ok (.if_icmp .ne 9, 3) := by decide +kernel
theorem dX10_cover_68 : decode cX10_cover 68 = .ok (.iload 4, 2) := by decide +kernel
theorem dX10_cover_70 : decode cX10_cover 70 = .ok (.invokestatic 206, 3) := by decide +kernel
theorem dX10_cover_73 : decode cX10_cover 73 = .ok (.ireturn, 1) := by decide +kernel
theorem dX10_cover_74 : decode cX10_cover 74 = .ok (.iconst 0, 1) := by decide +kernel
theorem dX10_cover_75 : decode cX10_cover 75 = .ok (.istore 5, 2) := by decide +kernel
theorem dX10_cover_77 : decode cX10_cover 77 = .ok (.iconst 0, 1) := by decide +kernel
theorem dX10_cover_78 : decode cX10_cover 78 = .ok (.istore 6, 2) := by decide +kernel
theorem dX10_cover_80 : decode cX10_cover 80 = .ok (.iload 6, 2) := by decide +kernel
theorem dX10_cover_82 : decode cX10_cover 82 = .ok (.iload_n 3, 1) := by decide +kernel
theorem dX10_cover_83 : decode cX10_cover 83 = .ok (.if_icmp .ge 37, 3) := by decide +kernel
theorem dX10_cover_86 : decode cX10_cover 86 = .ok (.iload 4, 2) := by decide +kernel
theorem dX10_cover_88 : decode cX10_cover 88 = .ok (.iload 6, 2) := by decide +kernel
theorem dX10_cover_90 : decode cX10_cover 90 = .ok (.ishr, 1) := by decide +kernel
theorem dX10_cover_91 : decode cX10_cover 91 = .ok (.iconst 1, 1) := by decide +kernel
theorem dX10_cover_92 : decode cX10_cover 92 = .ok (.iand, 1) := by decide +kernel
theorem dX10_cover_93 : decode cX10_cover 93 = .ok (.iconst 1, 1) := by decide +kernel
theorem dX10_cover_94 : decode cX10_cover 94 = .ok (.if_icmp .ne 20, 3) := by decide +kernel
theorem dX10_cover_97 : decode cX10_cover 97 = .ok (.iload 5, 2) := by decide +kernel
theorem dX10_cover_99 : decode cX10_cover 99 = .ok (.iload_n 2, 1) := by decide +kernel
theorem dX10_cover_100 : decode cX10_cover 100 = .ok (.if_icmp .ne 11, 3) := by decide +kernel
theorem dX10_cover_103 : decode cX10_cover 103 = .ok (.aload_n 0, 1) := by decide +kernel
theorem dX10_cover_104 : decode cX10_cover 104 = .ok (.getfield 53, 3) := by decide +kernel
theorem dX10_cover_107 : decode cX10_cover 107 = .ok (.iload 6, 2) := by decide +kernel
theorem dX10_cover_109 : decode cX10_cover 109 = .ok (.iaload, 1) := by decide +kernel
theorem dX10_cover_110 : decode cX10_cover 110 = .ok (.ireturn, 1) := by decide +kernel
theorem dX10_cover_111 : decode cX10_cover 111 = .ok (.iinc 5 1, 3) := by decide +kernel
theorem dX10_cover_114 : decode cX10_cover 114 = .ok (.iinc 6 1, 3) := by decide +kernel
theorem dX10_cover_117 : decode cX10_cover 117 = .ok (.goto (-37), 3) := by decide +kernel
theorem dX10_cover_120 : decode cX10_cover 120 = .ok (.iconst (-1), 1) := by decide +kernel
theorem dX10_cover_121 : decode cX10_cover 121 = .ok (.ireturn, 1) := by decide +kernel
def wX10_cover (I : Nat → Int32) (A : Nat → Nat → Int32) (x1 : Int32) (x2 : Int32) (post : Int32 → (Nat → Int32) → (Nat → Nat → Int32) → Prop) : Prop := (∀ I_1, I_1 = va_up I 0 0 → wX10_isTree I_1 A x1 (fun r7 => jn (fun (z : Int32 × (Nat → Nat → Int32)) => match z with | (t, A_1) => jn (fun (t_1 : Int32) => if t_1 < 0 then (post (-1) I_1 A_1) else (wX10_manyOf t_1 (fun r55 => if x2 < r55 then (if x2 = (-1) then (wX10_manyOf t_1 (fun r70 => post r70 I_1 A_1)) else (∃ n, lfix (fun (r : (Int32 × Int32) → Prop) (v6, v5) => if t ≤ v6 then (post (-1) I_1 A_1) else (if ((t_1 >>> (v6 &&& 31)) &&& 1) = 1 then (if v5 = x2 then (vp_in v6 40 ∧ (post (A_1 15 v6.toNatClampNeg) I_1 A_1)) else (∀ v5_1 : Int32, v5_1 = v5 + 1 → ∀ v6_2 : Int32, v6_2 = v6 + 1 → r (v6_2, v5_1))) else (∀ v6_1 : Int32, v6_1 = v6 + 1 → r (v6_1, v5)))) n (0, 0))) else (post (-1) I_1 A_1)))) (fun k_1 => jn (fun (_ : Unit) => k_1 (-1)) (fun k_2 => if 12 < t then (k_2 ()) else (if (-1) ≤ x2 then (wX10_bestCover I_1 A_1 x1 t (fun r42 => k_1 r42)) else (k_2 ()))))) (fun k => if r7 = 0 then (k (13, A)) else (wX10_coverers I_1 A x1 (fun r15 A_2 => k (r15, A_2))))))
abbrev rmX10_cover : Room := { frames := 5, cells := 0, slots := 0, locals := 132 }
theorem wd_X10_cover : Cond.instanceMethod yX10_cover ∈ BW ∧ Cond.selects yX10_cover.cls yX10_cover yX10_cover ∈ BW ∧ Cond.initialized yX10_cover.cls ∈ BW ∧ Cond.code yX10_cover cX10_cover 7 (some .int) ∈ BW := ⟨mw_6_19, mw_6_20, mw_1_11, mw_6_21⟩
set_option maxHeartbeats 4000000 in
set_option maxRecDepth 100000 in
theorem c_X10_cover {l : Launch} {D : va_G} {cy : Nat → ClassId} {ad : Nat → Nat} {Ad : Nat → Prop} (hAd : adok 16 Ad ad) (I : Nat → Int32) (A : Nat → Nat → Int32) (x1 : Int32) (x2 : Int32)  (post : Int32 → (Nat → Int32) → (Nat → Nat → Int32) → Prop) (h : wX10_cover I A x1 x2 post) : Met l yX10_cover (.code yX10_cover cX10_cover 7 (some .int) :: BW) rmX10_cover (va_Pc [.ref (ad 0), .int x1, .int x2] (fun U => kC D cy U ∧ va_P D vwCl (wM cy ad I A) U.heap)) (qMi D cy ad Ad (fun r u => post r u.1 u.2)) 0 0 Ad := by
  refine startMi (by decide) (Nat.le_of_ble_eq_true rfl) (lv := [(0, .ref (ad 0)), (1, .int x1), (2, .int x2)]) rfl (fun p e s m args below meth c Q ls hx hb hml hT hown hK hret hl hP hS => ?_)
  unfold wX10_cover at h
  refine lv_aload_n hx hb dX10_cover_0 rfl (lv_at hl 0 rfl) ?_
  refine lv_iconst (v := 0) hx hb dX10_cover_1 (by decide) ?_
  refine pM_X10_thrown hAd hx hb hT hown hK.1 hP hS (hT _ mw_4_137) dX10_cover_2 (fun H locs hP hS => ?_)
  obtain ⟨I_1, eI_1⟩ : ∃ z, z = va_up I 0 0 := ⟨_, rfl⟩
  rw [← eI_1] at hP
  replace h := h I_1 eI_1
  refine lv_aload_n hx hb dX10_cover_5 rfl (lv_at hl 0 rfl) ?_
  refine lv_iload_n hx hb dX10_cover_6 rfl (lv_at hl 1 rfl) ?_
  refine callMi (k := 0) (As := [.int x1]) (rest := []) (n := 1) (c_X10_isTree hAd I_1 A x1 _ h) hx hb hT hown hK hP hS mw_4_220 wd_X10_isTree (by decide +kernel) ⟨rfl, rfl⟩ (by decide) rfl rfl he_X10 rfl hl.1 hml rfl (Nat.le_of_ble_eq_true rfl) dX10_cover_7 ⟨Nat.zero_le _, Nat.zero_le _⟩ (fun r7 u H locs h hP hS => ?_)
  obtain ⟨Iu, Au⟩ := u
  dsimp only at h hP
  obtain ⟨h, rfl, rfl⟩ := h
  try dsimp only at h
  obtain ⟨k, hk, h⟩ := jn_ex h
  try dsimp only at h
  have J : ∀ (t : Int32) (A_1 : Nat → Nat → Int32), k (t, A_1) → ∀ (ls : Array Slot) (H : Heap) (locs : List Loc), lv_has ls 7 [(0, .ref (ad 0)), (1, .int x1), (2, .int x2)] → va_P D vwCl (wM cy ad I_1 A_1) H → va_S Ad s.heap H locs → W p l e rmX10_cover s m args below meth c H locs 0 0 Q (F0 m 23 ls [.int t]) := by
    intro t A_1 h ls H locs hl hP hS
    replace h := hk _ h
    try dsimp only at h
    refine lv_istore_n (lv' := [(3, .int t), (0, .ref (ad 0)), (1, .int x1), (2, .int x2)]) hx hb dX10_cover_23 rfl hl (by decide) rfl (fun ls hl => ?_)
    refine lv_iload_n hx hb dX10_cover_24 rfl (lv_at hl 0 rfl) ?_
    refine lv_bipush (v := 12) hx hb dX10_cover_25 (by decide) ?_
    obtain ⟨k_1, hk_1, h⟩ := jn_ex h
    try dsimp only at h
    have J_1 : ∀ (t_1 : Int32), k_1 t_1 → ∀ (ls : Array Slot) (H : Heap) (locs : List Loc), lv_has ls 7 [(3, .int t), (0, .ref (ad 0)), (2, .int x2)] → va_P D vwCl (wM cy ad I_1 A_1) H → va_S Ad s.heap H locs → W p l e rmX10_cover s m args below meth c H locs 0 0 Q (F0 m 45 ls [.int t_1]) := by
      intro t_1 h ls H locs hl hP hS
      replace h := hk_1 _ h
      try dsimp only at h
      refine lv_istore (lv' := [(4, .int t_1), (3, .int t), (0, .ref (ad 0)), (2, .int x2)]) hx hb dX10_cover_45 hl (by decide) rfl (fun ls hl => ?_)
      refine lv_iload hx hb dX10_cover_47 (lv_at hl 0 rfl) ?_
      refine lv_if_lt (tgt := 61) hx hb dX10_cover_49 (by decide) (fun hc => ?_) (fun hc => ?_)
      · rw [if_pos hc] at h
        refine lv_iconst (v := (-1)) hx hb dX10_cover_61 (by decide) ?_
        exact hret _ (I_1, A_1) dX10_cover_62 h hP hS
      · rw [if_neg hc] at h
        refine lv_iload_n hx hb dX10_cover_52 rfl (lv_at hl 3 rfl) ?_
        refine lv_iload hx hb dX10_cover_53 (lv_at hl 0 rfl) ?_
        refine callSMi (As := [.int t_1]) (rest := [.int x2]) (n := 1) (c_X10_manyOf t_1 _ h) hx hb hT hown hP hS mw_6_30 wd_X10_manyOf (by decide +kernel) ⟨rfl, rfl⟩ (by decide) rfl hl.1 hml rfl (Nat.le_of_ble_eq_true rfl) dX10_cover_55 ⟨Nat.zero_le _, Nat.zero_le _⟩ (fun r55 H locs h hP hS => ?_)
        try dsimp only at h
        refine lv_icmp_lt (tgt := 63) hx hb dX10_cover_58 (by decide) (fun hc_1 => ?_) (fun hc_1 => ?_)
        · rw [if_pos hc_1] at h
          refine lv_iload_n hx hb dX10_cover_63 rfl (lv_at hl 3 rfl) ?_
          refine lv_iconst (v := (-1)) hx hb dX10_cover_64 (by decide) ?_
          refine lv_icmp_ne (tgt := 74) hx hb dX10_cover_65 (by decide) (fun hc_2 => ?_) (fun hc_2 => ?_)
          · rw [if_neg hc_2] at h
            refine lv_iconst (v := 0) hx hb dX10_cover_74 (by decide) ?_
            refine lv_istore (lv' := [(5, .int 0), (4, .int t_1), (3, .int t), (0, .ref (ad 0)), (2, .int x2)]) hx hb dX10_cover_75 hl (by decide) rfl (fun ls hl => ?_)
            refine lv_iconst (v := 0) hx hb dX10_cover_77 (by decide) ?_
            refine lv_istore (lv' := [(6, .int 0), (5, .int 0), (4, .int t_1), (3, .int t), (0, .ref (ad 0)), (2, .int x2)]) hx hb dX10_cover_78 hl (by decide) rfl (fun ls hl => ?_)
            obtain ⟨F, n, h, hF, hG⟩ := lfix_ex h
            have LP : ∀ (n : Nat) (v6 : Int32) (v5 : Int32) (ls : Array Slot) (H : Heap) (locs : List Loc), F n (v6, v5) → lv_has ls 7 [(6, .int v6), (5, .int v5), (4, .int t_1), (3, .int t), (0, .ref (ad 0)), (2, .int x2)] → va_P D vwCl (wM cy ad I_1 A_1) H → va_S Ad s.heap H locs → W p l e rmX10_cover s m args below meth c H locs 0 0 Q (F0 m 80 ls []) := by
              intro n
              induction n with
              | zero => intro v6 v5 ls H locs h _ _ _; exact absurd h (hF _)
              | succ n ih =>
                intro v6 v5 ls H locs h hl hP hS
                replace h := hG _ _ h
                try dsimp only at h
                refine lv_iload hx hb dX10_cover_80 (lv_at hl 0 rfl) ?_
                refine lv_iload_n hx hb dX10_cover_82 rfl (lv_at hl 3 rfl) ?_
                refine lv_icmp_ge (tgt := 120) hx hb dX10_cover_83 (by decide) (fun hc_3 => ?_) (fun hc_3 => ?_)
                · rw [if_pos hc_3] at h
                  refine lv_iconst (v := (-1)) hx hb dX10_cover_120 (by decide) ?_
                  exact hret _ (I_1, A_1) dX10_cover_121 h hP hS
                · rw [if_neg hc_3] at h
                  refine lv_iload hx hb dX10_cover_86 (lv_at hl 2 rfl) ?_
                  refine lv_iload hx hb dX10_cover_88 (lv_at hl 0 rfl) ?_
                  refine lv_ishr hx hb dX10_cover_90 ?_
                  refine lv_iconst (v := 1) hx hb dX10_cover_91 (by decide) ?_
                  refine lv_iand hx hb dX10_cover_92 ?_
                  refine lv_iconst (v := 1) hx hb dX10_cover_93 (by decide) ?_
                  refine lv_icmp_ne (tgt := 114) hx hb dX10_cover_94 (by decide) (fun hc_4 => ?_) (fun hc_4 => ?_)
                  · rw [if_neg hc_4] at h
                    obtain ⟨v6_1, ev6_1⟩ : ∃ z : Int32, z = v6 + 1 := ⟨_, rfl⟩
                    replace h := h v6_1 ev6_1
                    refine lv_iinc (v := v6_1) (lv' := [(6, .int v6_1), (5, .int v5), (4, .int t_1), (3, .int t), (0, .ref (ad 0)), (2, .int x2)]) hx hb dX10_cover_114 hl (k := 0) rfl (by rw [ev6_1]; rfl) (by decide) rfl (fun ls hl => ?_)
                    refine lv_goto (tgt := 80) hx hb dX10_cover_117 (by decide) ?_
                    exact ih v6_1 v5 _ _ _ h (lv_sub hl [0, 1, 2, 3, 4, 5] rfl) hP hS
                  · rw [if_pos hc_4] at h
                    refine lv_iload hx hb dX10_cover_97 (lv_at hl 1 rfl) ?_
                    refine lv_iload_n hx hb dX10_cover_99 rfl (lv_at hl 5 rfl) ?_
                    refine lv_icmp_ne (tgt := 111) hx hb dX10_cover_100 (by decide) (fun hc_5 => ?_) (fun hc_5 => ?_)
                    · rw [if_neg hc_5] at h
                      obtain ⟨v5_1, ev5_1⟩ : ∃ z : Int32, z = v5 + 1 := ⟨_, rfl⟩
                      replace h := h v5_1 ev5_1
                      refine lv_iinc (v := v5_1) (lv' := [(5, .int v5_1), (6, .int v6), (4, .int t_1), (3, .int t), (0, .ref (ad 0)), (2, .int x2)]) hx hb dX10_cover_111 hl (k := 1) rfl (by rw [ev5_1]; rfl) (by decide) rfl (fun ls hl => ?_)
                      obtain ⟨v6_2, ev6_2⟩ : ∃ z : Int32, z = v6 + 1 := ⟨_, rfl⟩
                      replace h := h v6_2 ev6_2
                      refine lv_iinc (v := v6_2) (lv' := [(6, .int v6_2), (5, .int v5_1), (4, .int t_1), (3, .int t), (0, .ref (ad 0)), (2, .int x2)]) hx hb dX10_cover_114 hl (k := 1) rfl (by rw [ev6_2]; rfl) (by decide) rfl (fun ls hl => ?_)
                      refine lv_goto (tgt := 80) hx hb dX10_cover_117 (by decide) ?_
                      exact ih v6_2 v5_1 _ _ _ h (lv_sub hl [0, 1, 2, 3, 4, 5] rfl) hP hS
                    · rw [if_pos hc_5] at h
                      refine lv_aload_n hx hb dX10_cover_103 rfl (lv_at hl 4 rfl) ?_
                      refine va_get (T := TX10) hx hb hT inlX10 hown hK.1 hP 0 he_X10 rfl 21 (by decide) (hT _ mw_4_158) (fun _ h9 => h9) rfl dX10_cover_104 ?_
                      refine lv_iload hx hb dX10_cover_107 (lv_at hl 0 rfl) ?_
                      obtain ⟨hi, h⟩ := h
                      refine lM_I hx hb hK.1 hP (by decide) rfl hi dX10_cover_109 ?_
                      exact hret _ (I_1, A_1) dX10_cover_110 h hP hS
            exact LP _ 0 0 _ _ _ h (lv_sub hl [0, 1, 2, 3, 4, 5] rfl) hP hS
          · rw [if_pos hc_2] at h
            refine lv_iload hx hb dX10_cover_68 (lv_at hl 0 rfl) ?_
            refine callSMi (As := [.int t_1]) (rest := []) (n := 1) (c_X10_manyOf t_1 _ h) hx hb hT hown hP hS mw_6_30 wd_X10_manyOf (by decide +kernel) ⟨rfl, rfl⟩ (by decide) rfl hl.1 hml rfl (Nat.le_of_ble_eq_true rfl) dX10_cover_70 ⟨Nat.zero_le _, Nat.zero_le _⟩ (fun r70 H locs h hP hS => ?_)
            try dsimp only at h
            exact hret _ (I_1, A_1) dX10_cover_73 h hP hS
        · rw [if_neg hc_1] at h
          refine lv_iconst (v := (-1)) hx hb dX10_cover_61 (by decide) ?_
          exact hret _ (I_1, A_1) dX10_cover_62 h hP hS
    obtain ⟨k_2, hk_2, h⟩ := jn_ex h
    try dsimp only at h
    have J_2 : k_2 () → ∀ (ls : Array Slot) (H : Heap) (locs : List Loc), lv_has ls 7 [(3, .int t), (0, .ref (ad 0)), (2, .int x2)] → va_P D vwCl (wM cy ad I_1 A_1) H → va_S Ad s.heap H locs → W p l e rmX10_cover s m args below meth c H locs 0 0 Q (F0 m 35 ls []) := by
      intro  h ls H locs hl hP hS
      replace h := hk_2 _ h
      try dsimp only at h
      refine lv_iconst (v := (-1)) hx hb dX10_cover_35 (by decide) ?_
      refine lv_goto (tgt := 45) hx hb dX10_cover_36 (by decide) ?_
      exact J_1 (-1) h _ _ _ (lv_sub hl [0, 1, 2] rfl) hP hS
    refine lv_icmp_gt (tgt := 35) hx hb dX10_cover_27 (by decide) (fun hc_6 => ?_) (fun hc_6 => ?_)
    · rw [if_pos hc_6] at h
      exact J_2  h _ _ _ (lv_sub hl [0, 1, 3] rfl) hP hS
    · rw [if_neg hc_6] at h
      refine lv_iload_n hx hb dX10_cover_30 rfl (lv_at hl 3 rfl) ?_
      refine lv_iconst (v := (-1)) hx hb dX10_cover_31 (by decide) ?_
      refine lv_icmp_ge (tgt := 39) hx hb dX10_cover_32 (by decide) (fun hc_7 => ?_) (fun hc_7 => ?_)
      · rw [if_pos hc_7] at h
        refine lv_aload_n hx hb dX10_cover_39 rfl (lv_at hl 1 rfl) ?_
        refine lv_iload_n hx hb dX10_cover_40 rfl (lv_at hl 2 rfl) ?_
        refine lv_iload_n hx hb dX10_cover_41 rfl (lv_at hl 0 rfl) ?_
        refine callMi (k := 0) (As := [.int x1, .int t]) (rest := []) (n := 2) (c_X10_bestCover hAd I_1 A_1 x1 t _ h) hx hb hT hown hK hP hS mw_6_26 wd_X10_bestCover (by decide +kernel) ⟨rfl, rfl⟩ (by decide) rfl rfl he_X10 rfl hl.1 hml rfl (Nat.le_of_ble_eq_true rfl) dX10_cover_42 ⟨Nat.zero_le _, Nat.zero_le _⟩ (fun r42 u H locs h hP hS => ?_)
        obtain ⟨Iu_1, Au_1⟩ := u
        dsimp only at h hP
        obtain ⟨h, rfl, rfl⟩ := h
        try dsimp only at h
        exact J_1 r42 h _ _ _ (lv_sub hl [0, 1, 3] rfl) hP hS
      · rw [if_neg hc_7] at h
        exact J_2  h _ _ _ (lv_sub hl [0, 1, 3] rfl) hP hS
  refine lv_if_eq (tgt := 21) hx hb dX10_cover_10 (by decide) (fun hc_8 => ?_) (fun hc_8 => ?_)
  · rw [if_pos hc_8] at h
    refine lv_bipush (v := 13) hx hb dX10_cover_21 (by decide) ?_
    exact J 13 A h _ _ _ (lv_sub hl [0, 1, 2] rfl) hP hS
  · rw [if_neg hc_8] at h
    refine lv_aload_n hx hb dX10_cover_13 rfl (lv_at hl 0 rfl) ?_
    refine lv_iload_n hx hb dX10_cover_14 rfl (lv_at hl 1 rfl) ?_
    refine callMi (k := 0) (As := [.int x1]) (rest := []) (n := 1) (c_X10_coverers hAd I_1 A x1 _ h) hx hb hT hown hK hP hS mw_6_22 wd_X10_coverers (by decide +kernel) ⟨rfl, rfl⟩ (by decide) rfl rfl he_X10 rfl hl.1 hml rfl (Nat.le_of_ble_eq_true rfl) dX10_cover_15 ⟨Nat.zero_le _, Nat.zero_le _⟩ (fun r15 u H locs h hP hS => ?_)
    obtain ⟨Iu_2, A_2⟩ := u
    dsimp only at h hP
    obtain ⟨h, rfl⟩ := h
    try dsimp only at h
    refine lv_goto (tgt := 23) hx hb dX10_cover_18 (by decide) ?_
    exact J r15 A_2 h _ _ _ (lv_sub hl [0, 1, 2] rfl) hP hS
theorem dX10_both_0 : decode cX10_both 0 = .ok (.aload_n 0, 1) := by decide +kernel
theorem dX10_both_1 : decode cX10_both 1 = .ok (.iconst 0, 1) := by decide +kernel
theorem dX10_both_2 : decode cX10_both 2 = .ok (.putfield 56, 3) := by decide +kernel
theorem dX10_both_5 : decode cX10_both 5 = .ok (.aload_n 0, 1) := by decide +kernel
theorem dX10_both_6 : decode cX10_both 6 = .ok (.iload_n 1, 1) := by decide +kernel
theorem dX10_both_7 : decode cX10_both 7 = .ok (.invokevirtual 77, 3) := by decide +kernel
theorem dX10_both_10 : decode cX10_both 10 = .ok (.ifCond .eq 11, 3) := by decide +kernel
theorem dX10_both_13 : decode cX10_both 13 = .ok (.aload_n 0, 1) := by decide +kernel
theorem dX10_both_14 : decode cX10_both 14 = .ok (.iload_n 2, 1) := by decide +kernel
theorem dX10_both_15 : decode cX10_both 15 = .ok (.invokevirtual 77, 3) := by decide +kernel
theorem dX10_both_18 : decode cX10_both 18 = .ok (.ifCond .ne 5, 3) := by decide +kernel
theorem dX10_both_21 : decode cX10_both 21 = .ok (.iconst (-1), 1) := by decide +kernel
theorem dX10_both_22 : decode cX10_both 22 = .ok (.ireturn, 1) := by decide +kernel
theorem dX10_both_23 : decode cX10_both 23 = .ok (.iconst 0, 1) := by decide +kernel
theorem dX10_both_24 : decode cX10_both 24 = .ok (.istore_n 3, 1) := by decide +kernel
theorem dX10_both_25 : decode cX10_both 25 = .ok (.iconst 0, 1) := by decide +kernel
theorem dX10_both_26 : decode cX10_both 26 = .ok (.istore 4, 2) := by decide +kernel
theorem dX10_both_28 : decode cX10_both 28 = .ok (.iload 4, 2) := by decide +kernel
theorem dX10_both_30 : decode cX10_both 30 = .ok (.aload_n 0, 1) := by decide +kernel
theorem dX10_both_31 : decode cX10_both 31 = .ok (.getfield 70, 3) := by decide +kernel
theorem dX10_both_34 : decode cX10_both 34 = .ok (.if_icmp .ge 48, 3) := by decide +kernel
theorem dX10_both_37 : decode cX10_both 37 = .ok (.iload_n 3, 1) := by decide +kernel
theorem dX10_both_38 : decode cX10_both 38 = .ok (.aload_n 0, 1) := by decide +kernel
theorem dX10_both_39 : decode cX10_both 39 = .ok (.iconst 0, 1) := by decide +kernel
theorem dX10_both_40 : decode cX10_both 40 = .ok (.iload 4, 2) := by decide +kernel
theorem dX10_both_42 : decode cX10_both 42 = .ok (.iconst (-1), 1) := by decide +kernel
theorem dX10_both_43 : decode cX10_both 43 = .ok (.invokevirtual 134, 3) := by decide +kernel
theorem dX10_both_46 : decode cX10_both 46 = .ok (.ifCond .eq 27, 3) := by decide +kernel
theorem dX10_both_49 : decode cX10_both 49 = .ok (.aload_n 0, 1) := by decide +kernel
theorem dX10_both_50 : decode cX10_both 50 = .ok (.iload 4, 2) := by decide +kernel
theorem dX10_both_52 : decode cX10_both 52 = .ok (.iload_n 1, 1) := by decide +kernel
theorem dX10_both_53 : decode cX10_both 53 = .ok (.invokevirtual 122, 3) := by decide +kernel
theorem dX10_both_56 : decode cX10_both 56 = .ok (.ifCond .eq 17, 3) := by decide +kernel
theorem dX10_both_59 : decode cX10_both 59 = .ok (.aload_n 0, 1) := by decide +kernel
theorem dX10_both_60 : decode cX10_both 60 = .ok (.iload 4, 2) := by decide +kernel
theorem dX10_both_62 : decode cX10_both 62 = .ok (.iload_n 2, 1) := by decide +kernel
theorem dX10_both_63 : decode cX10_both 63 = .ok (.invokevirtual 122, 3) := by decide +kernel
theorem dX10_both_66 : decode cX10_both 66 = .ok (.ifCond .eq 7, 3) := by decide +kernel
theorem dX10_both_69 : decode cX10_both 69 = .ok (.iconst 1, 1) := by decide +kernel
theorem dX10_both_70 : decode cX10_both 70 = .ok (.goto 4, 3) := by decide +kernel
theorem dX10_both_73 : decode cX10_both 73 = .ok (.iconst 0, 1) := by decide +kernel
theorem dX10_both_74 : decode cX10_both 74 = .ok (.iadd, 1) := by decide +kernel
theorem dX10_both_75 : decode cX10_both 75 = .ok (.istore_n 3, 1) := by decide +kernel
theorem dX10_both_76 : decode cX10_both 76 = .ok (.iinc 4 1, 3) := by decide +kernel
theorem dX10_both_79 : decode cX10_both 79 = .ok (.goto (-51), 3) := by decide +kernel
theorem dX10_both_82 : decode cX10_both 82 = .ok (.iload_n 3, 1) := by decide +kernel
theorem dX10_both_83 : decode cX10_both 83 = .ok (.ireturn, 1) := by decide +kernel
def wX10_both (I : Nat → Int32) (A : Nat → Nat → Int32) (x1 : Int32) (x2 : Int32) (post : Int32 → (Nat → Int32) → Prop) : Prop := (∀ I_1, I_1 = va_up I 0 0 → wX10_isCategory I_1 A x1 (fun r7 => if r7 = 0 then (post (-1) I_1) else (wX10_isCategory I_1 A x2 (fun r15 => if r15 = 0 then (post (-1) I_1) else (∃ n, lfix (fun (r : (Int32 × Int32) → Prop) (v4, v3) => if (I_1 3) ≤ v4 then (post v3 I_1) else (wX10_isNear I_1 A 0 v4 (-1) (fun r43 => jn (fun (t : Int32) => ∀ v3_1 : Int32, v3_1 = v3 + t → ∀ v4_1 : Int32, v4_1 = v4 + 1 → r (v4_1, v3_1)) (fun k => jn (fun (_ : Unit) => k 0) (fun k_1 => if r43 = 0 then (k_1 ()) else (wX10_hasIt I_1 A v4 x1 (fun r53 => if r53 = 0 then (k_1 ()) else (wX10_hasIt I_1 A v4 x2 (fun r63 => if r63 = 0 then (k_1 ()) else (k 1)))))))))) n (0, 0))))))
abbrev rmX10_both : Room := { frames := 3, cells := 0, slots := 0, locals := 80 }
theorem wd_X10_both : Cond.instanceMethod yX10_both ∈ BW ∧ Cond.selects yX10_both.cls yX10_both yX10_both ∈ BW ∧ Cond.initialized yX10_both.cls ∈ BW ∧ Cond.code yX10_both cX10_both 5 (some .int) ∈ BW := ⟨mw_6_41, mw_6_42, mw_1_11, mw_6_43⟩
set_option maxHeartbeats 4000000 in
set_option maxRecDepth 100000 in
theorem c_X10_both {l : Launch} {D : va_G} {cy : Nat → ClassId} {ad : Nat → Nat} {Ad : Nat → Prop} (hAd : adok 16 Ad ad) (I : Nat → Int32) (A : Nat → Nat → Int32) (x1 : Int32) (x2 : Int32)  (post : Int32 → (Nat → Int32) → Prop) (h : wX10_both I A x1 x2 post) : Met l yX10_both (.code yX10_both cX10_both 5 (some .int) :: BW) rmX10_both (va_Pc [.ref (ad 0), .int x1, .int x2] (fun U => kC D cy U ∧ va_P D vwCl (wM cy ad I A) U.heap)) (qMi D cy ad Ad (fun r u => post r u.1 ∧ A = u.2)) 0 0 Ad := by
  refine startMi (by decide) (Nat.le_of_ble_eq_true rfl) (lv := [(0, .ref (ad 0)), (1, .int x1), (2, .int x2)]) rfl (fun p e s m args below meth c Q ls hx hb hml hT hown hK hret hl hP hS => ?_)
  unfold wX10_both at h
  refine lv_aload_n hx hb dX10_both_0 rfl (lv_at hl 0 rfl) ?_
  refine lv_iconst (v := 0) hx hb dX10_both_1 (by decide) ?_
  refine pM_X10_thrown hAd hx hb hT hown hK.1 hP hS (hT _ mw_4_137) dX10_both_2 (fun H locs hP hS => ?_)
  obtain ⟨I_1, eI_1⟩ : ∃ z, z = va_up I 0 0 := ⟨_, rfl⟩
  rw [← eI_1] at hP
  replace h := h I_1 eI_1
  refine lv_aload_n hx hb dX10_both_5 rfl (lv_at hl 0 rfl) ?_
  refine lv_iload_n hx hb dX10_both_6 rfl (lv_at hl 1 rfl) ?_
  refine callMi (k := 0) (As := [.int x1]) (rest := []) (n := 1) (c_X10_isCategory hAd I_1 A x1 _ h) hx hb hT hown hK hP hS mw_4_232 wd_X10_isCategory (by decide +kernel) ⟨rfl, rfl⟩ (by decide) rfl rfl he_X10 rfl hl.1 hml rfl (Nat.le_of_ble_eq_true rfl) dX10_both_7 ⟨Nat.zero_le _, Nat.zero_le _⟩ (fun r7 u H locs h hP hS => ?_)
  obtain ⟨Iu, Au⟩ := u
  dsimp only at h hP
  obtain ⟨h, rfl, rfl⟩ := h
  try dsimp only at h
  refine lv_if_eq (tgt := 21) hx hb dX10_both_10 (by decide) (fun hc => ?_) (fun hc => ?_)
  · rw [if_pos hc] at h
    refine lv_iconst (v := (-1)) hx hb dX10_both_21 (by decide) ?_
    exact hret _ (I_1, A) dX10_both_22 ⟨h, rfl⟩ hP hS
  · rw [if_neg hc] at h
    refine lv_aload_n hx hb dX10_both_13 rfl (lv_at hl 0 rfl) ?_
    refine lv_iload_n hx hb dX10_both_14 rfl (lv_at hl 2 rfl) ?_
    refine callMi (k := 0) (As := [.int x2]) (rest := []) (n := 1) (c_X10_isCategory hAd I_1 A x2 _ h) hx hb hT hown hK hP hS mw_4_232 wd_X10_isCategory (by decide +kernel) ⟨rfl, rfl⟩ (by decide) rfl rfl he_X10 rfl hl.1 hml rfl (Nat.le_of_ble_eq_true rfl) dX10_both_15 ⟨Nat.zero_le _, Nat.zero_le _⟩ (fun r15 u H locs h hP hS => ?_)
    obtain ⟨Iu_1, Au_1⟩ := u
    dsimp only at h hP
    obtain ⟨h, rfl, rfl⟩ := h
    try dsimp only at h
    refine lv_if_ne (tgt := 23) hx hb dX10_both_18 (by decide) (fun hc_1 => ?_) (fun hc_1 => ?_)
    · rw [if_neg hc_1] at h
      refine lv_iconst (v := 0) hx hb dX10_both_23 (by decide) ?_
      refine lv_istore_n (lv' := [(3, .int 0), (0, .ref (ad 0)), (1, .int x1), (2, .int x2)]) hx hb dX10_both_24 rfl hl (by decide) rfl (fun ls hl => ?_)
      refine lv_iconst (v := 0) hx hb dX10_both_25 (by decide) ?_
      refine lv_istore (lv' := [(4, .int 0), (3, .int 0), (0, .ref (ad 0)), (1, .int x1), (2, .int x2)]) hx hb dX10_both_26 hl (by decide) rfl (fun ls hl => ?_)
      obtain ⟨F, n, h, hF, hG⟩ := lfix_ex h
      have LP : ∀ (n : Nat) (v4 : Int32) (v3 : Int32) (ls : Array Slot) (H : Heap) (locs : List Loc), F n (v4, v3) → lv_has ls 5 [(4, .int v4), (3, .int v3), (0, .ref (ad 0)), (1, .int x1), (2, .int x2)] → va_P D vwCl (wM cy ad I_1 A) H → va_S Ad s.heap H locs → W p l e rmX10_both s m args below meth c H locs 0 0 Q (F0 m 28 ls []) := by
        intro n
        induction n with
        | zero => intro v4 v3 ls H locs h _ _ _; exact absurd h (hF _)
        | succ n ih =>
          intro v4 v3 ls H locs h hl hP hS
          replace h := hG _ _ h
          try dsimp only at h
          refine lv_iload hx hb dX10_both_28 (lv_at hl 0 rfl) ?_
          refine lv_aload_n hx hb dX10_both_30 rfl (lv_at hl 2 rfl) ?_
          refine va_get (T := TX10) hx hb hT inlX10 hown hK.1 hP 0 he_X10 rfl 3 (by decide) (hT _ mw_4_140) (fun _ h9 => h9) rfl dX10_both_31 ?_
          refine lv_icmp_ge (tgt := 82) hx hb dX10_both_34 (by decide) (fun hc_2 => ?_) (fun hc_2 => ?_)
          · rw [if_pos hc_2] at h
            refine lv_iload_n hx hb dX10_both_82 rfl (lv_at hl 1 rfl) ?_
            exact hret _ (I_1, A) dX10_both_83 ⟨h, rfl⟩ hP hS
          · rw [if_neg hc_2] at h
            refine lv_iload_n hx hb dX10_both_37 rfl (lv_at hl 1 rfl) ?_
            refine lv_aload_n hx hb dX10_both_38 rfl (lv_at hl 2 rfl) ?_
            refine lv_iconst (v := 0) hx hb dX10_both_39 (by decide) ?_
            refine lv_iload hx hb dX10_both_40 (lv_at hl 0 rfl) ?_
            refine lv_iconst (v := (-1)) hx hb dX10_both_42 (by decide) ?_
            refine callMi (k := 0) (As := [.int 0, .int v4, .int (-1)]) (rest := [.int v3]) (n := 3) (c_X10_isNear hAd I_1 A 0 v4 (-1) _ h) hx hb hT hown hK hP hS mw_5_92 wd_X10_isNear (by decide +kernel) ⟨rfl, rfl⟩ (by decide) rfl rfl he_X10 rfl hl.1 hml rfl (Nat.le_of_ble_eq_true rfl) dX10_both_43 ⟨Nat.zero_le _, Nat.zero_le _⟩ (fun r43 u H locs h hP hS => ?_)
            obtain ⟨Iu_2, Au_2⟩ := u
            dsimp only at h hP
            obtain ⟨h, rfl, rfl⟩ := h
            try dsimp only at h
            obtain ⟨k, hk, h⟩ := jn_ex h
            try dsimp only at h
            have J : ∀ (t : Int32), k t → ∀ (ls : Array Slot) (H : Heap) (locs : List Loc), lv_has ls 5 [(4, .int v4), (0, .ref (ad 0)), (1, .int x1), (2, .int x2)] → va_P D vwCl (wM cy ad I_1 A) H → va_S Ad s.heap H locs → W p l e rmX10_both s m args below meth c H locs 0 0 Q (F0 m 74 ls [.int t, .int v3]) := by
              intro t h ls H locs hl hP hS
              replace h := hk _ h
              try dsimp only at h
              refine lv_iadd hx hb dX10_both_74 ?_
              refine lv_topi (fun v3_1 ev3_1 => ?_)
              replace h := h v3_1 ev3_1
              refine lv_istore_n (lv' := [(3, .int v3_1), (4, .int v4), (0, .ref (ad 0)), (1, .int x1), (2, .int x2)]) hx hb dX10_both_75 rfl hl (by decide) rfl (fun ls hl => ?_)
              obtain ⟨v4_1, ev4_1⟩ : ∃ z : Int32, z = v4 + 1 := ⟨_, rfl⟩
              replace h := h v4_1 ev4_1
              refine lv_iinc (v := v4_1) (lv' := [(4, .int v4_1), (3, .int v3_1), (0, .ref (ad 0)), (1, .int x1), (2, .int x2)]) hx hb dX10_both_76 hl (k := 1) rfl (by rw [ev4_1]; rfl) (by decide) rfl (fun ls hl => ?_)
              refine lv_goto (tgt := 28) hx hb dX10_both_79 (by decide) ?_
              exact ih v4_1 v3_1 _ _ _ h (lv_sub hl [0, 1, 2, 3, 4] rfl) hP hS
            obtain ⟨k_1, hk_1, h⟩ := jn_ex h
            try dsimp only at h
            have J_1 : k_1 () → ∀ (ls : Array Slot) (H : Heap) (locs : List Loc), lv_has ls 5 [(4, .int v4), (0, .ref (ad 0)), (1, .int x1), (2, .int x2)] → va_P D vwCl (wM cy ad I_1 A) H → va_S Ad s.heap H locs → W p l e rmX10_both s m args below meth c H locs 0 0 Q (F0 m 73 ls [.int v3]) := by
              intro  h ls H locs hl hP hS
              replace h := hk_1 _ h
              try dsimp only at h
              refine lv_iconst (v := 0) hx hb dX10_both_73 (by decide) ?_
              exact J 0 h _ _ _ (lv_sub hl [0, 1, 2, 3] rfl) hP hS
            refine lv_if_eq (tgt := 73) hx hb dX10_both_46 (by decide) (fun hc_3 => ?_) (fun hc_3 => ?_)
            · rw [if_pos hc_3] at h
              exact J_1  h _ _ _ (lv_sub hl [0, 2, 3, 4] rfl) hP hS
            · rw [if_neg hc_3] at h
              refine lv_aload_n hx hb dX10_both_49 rfl (lv_at hl 2 rfl) ?_
              refine lv_iload hx hb dX10_both_50 (lv_at hl 0 rfl) ?_
              refine lv_iload_n hx hb dX10_both_52 rfl (lv_at hl 3 rfl) ?_
              refine callMi (k := 0) (As := [.int v4, .int x1]) (rest := [.int v3]) (n := 2) (c_X10_hasIt hAd I_1 A v4 x1 _ h) hx hb hT hown hK hP hS mw_5_100 wd_X10_hasIt (by decide +kernel) ⟨rfl, rfl⟩ (by decide) rfl rfl he_X10 rfl hl.1 hml rfl (Nat.le_of_ble_eq_true rfl) dX10_both_53 ⟨Nat.zero_le _, Nat.zero_le _⟩ (fun r53 u H locs h hP hS => ?_)
              obtain ⟨Iu_3, Au_3⟩ := u
              dsimp only at h hP
              obtain ⟨h, rfl, rfl⟩ := h
              try dsimp only at h
              refine lv_if_eq (tgt := 73) hx hb dX10_both_56 (by decide) (fun hc_4 => ?_) (fun hc_4 => ?_)
              · rw [if_pos hc_4] at h
                exact J_1  h _ _ _ (lv_sub hl [0, 2, 3, 4] rfl) hP hS
              · rw [if_neg hc_4] at h
                refine lv_aload_n hx hb dX10_both_59 rfl (lv_at hl 2 rfl) ?_
                refine lv_iload hx hb dX10_both_60 (lv_at hl 0 rfl) ?_
                refine lv_iload_n hx hb dX10_both_62 rfl (lv_at hl 4 rfl) ?_
                refine callMi (k := 0) (As := [.int v4, .int x2]) (rest := [.int v3]) (n := 2) (c_X10_hasIt hAd I_1 A v4 x2 _ h) hx hb hT hown hK hP hS mw_5_100 wd_X10_hasIt (by decide +kernel) ⟨rfl, rfl⟩ (by decide) rfl rfl he_X10 rfl hl.1 hml rfl (Nat.le_of_ble_eq_true rfl) dX10_both_63 ⟨Nat.zero_le _, Nat.zero_le _⟩ (fun r63 u H locs h hP hS => ?_)
                obtain ⟨Iu_4, Au_4⟩ := u
                dsimp only at h hP
                obtain ⟨h, rfl, rfl⟩ := h
                try dsimp only at h
                refine lv_if_eq (tgt := 73) hx hb dX10_both_66 (by decide) (fun hc_5 => ?_) (fun hc_5 => ?_)
                · rw [if_pos hc_5] at h
                  exact J_1  h _ _ _ (lv_sub hl [0, 2, 3, 4] rfl) hP hS
                · rw [if_neg hc_5] at h
                  refine lv_iconst (v := 1) hx hb dX10_both_69 (by decide) ?_
                  refine lv_goto (tgt := 74) hx hb dX10_both_70 (by decide) ?_
                  exact J 1 h _ _ _ (lv_sub hl [0, 2, 3, 4] rfl) hP hS
      exact LP _ 0 0 _ _ _ h (lv_sub hl [0, 1, 2, 3, 4] rfl) hP hS
    · rw [if_pos hc_1] at h
      refine lv_iconst (v := (-1)) hx hb dX10_both_21 (by decide) ?_
      exact hret _ (I_1, A) dX10_both_22 ⟨h, rfl⟩ hP hS
theorem dX10_alikeOf_0 : decode cX10_alikeOf 0 = .ok (.iconst 0, 1) := by decide +kernel
theorem dX10_alikeOf_1 : decode cX10_alikeOf 1 = .ok (.istore_n 3, 1) := by decide +kernel
theorem dX10_alikeOf_2 : decode cX10_alikeOf 2 = .ok (.iconst 0, 1) := by decide +kernel
theorem dX10_alikeOf_3 : decode cX10_alikeOf 3 = .ok (.istore 4, 2) := by decide +kernel
theorem dX10_alikeOf_5 : decode cX10_alikeOf 5 = .ok (.iload 4, 2) := by decide +kernel
theorem dX10_alikeOf_7 : decode cX10_alikeOf 7 = .ok (.aload_n 0, 1) := by decide +kernel
theorem dX10_alikeOf_8 : decode cX10_alikeOf 8 = .ok (.getfield 67, 3) := by decide +kernel
theorem dX10_alikeOf_11 : decode cX10_alikeOf 11 = .ok (.if_icmp .ge 37, 3) := by decide +kernel
theorem dX10_alikeOf_14 : decode cX10_alikeOf 14 = .ok (.iload_n 3, 1) := by decide +kernel
theorem dX10_alikeOf_15 : decode cX10_alikeOf 15 = .ok (.aload_n 0, 1) := by decide +kernel
theorem dX10_alikeOf_16 : decode cX10_alikeOf 16 = .ok (.iload_n 1, 1) := by decide +kernel
theorem dX10_alikeOf_17 : decode cX10_alikeOf 17 = .ok (.iload 4, 2) := by decide +kernel
theorem dX10_alikeOf_19 : decode cX10_alikeOf 19 = .ok (.invokevirtual 122, 3) := by decide +kernel
theorem dX10_alikeOf_22 : decode cX10_alikeOf 22 = .ok (.ifCond .eq 17, 3) := by decide +kernel
theorem dX10_alikeOf_25 : decode cX10_alikeOf 25 = .ok (.aload_n 0, 1) := by decide +kernel
theorem dX10_alikeOf_26 : decode cX10_alikeOf 26 = .ok (.iload_n 2, 1) := by decide +kernel
theorem dX10_alikeOf_27 : decode cX10_alikeOf 27 = .ok (.iload 4, 2) := by decide +kernel
theorem dX10_alikeOf_29 : decode cX10_alikeOf 29 = .ok (.invokevirtual 122, 3) := by decide +kernel
theorem dX10_alikeOf_32 : decode cX10_alikeOf 32 = .ok (.ifCond .eq 7, 3) := by decide +kernel
theorem dX10_alikeOf_35 : decode cX10_alikeOf 35 = .ok (.iconst 1, 1) := by decide +kernel
theorem dX10_alikeOf_36 : decode cX10_alikeOf 36 = .ok (.goto 4, 3) := by decide +kernel
theorem dX10_alikeOf_39 : decode cX10_alikeOf 39 = .ok (.iconst 0, 1) := by decide +kernel
theorem dX10_alikeOf_40 : decode cX10_alikeOf 40 = .ok (.iadd, 1) := by decide +kernel
theorem dX10_alikeOf_41 : decode cX10_alikeOf 41 = .ok (.istore_n 3, 1) := by decide +kernel
theorem dX10_alikeOf_42 : decode cX10_alikeOf 42 = .ok (.iinc 4 1, 3) := by decide +kernel
theorem dX10_alikeOf_45 : decode cX10_alikeOf 45 = .ok (.goto (-40), 3) := by decide +kernel
theorem dX10_alikeOf_48 : decode cX10_alikeOf 48 = .ok (.iload_n 3, 1) := by decide +kernel
theorem dX10_alikeOf_49 : decode cX10_alikeOf 49 = .ok (.ireturn, 1) := by decide +kernel
def wX10_alikeOf (I : Nat → Int32) (A : Nat → Nat → Int32) (x1 : Int32) (x2 : Int32) (post : Int32 → Prop) : Prop := ∃ n, lfix (fun (r : (Int32 × Int32) → Prop) (v4, v3) => if (I 2) ≤ v4 then (post v3) else (wX10_hasIt I A x1 v4 (fun r19 => jn (fun (t : Int32) => ∀ v3_1 : Int32, v3_1 = v3 + t → ∀ v4_1 : Int32, v4_1 = v4 + 1 → r (v4_1, v3_1)) (fun k => jn (fun (_ : Unit) => k 0) (fun k_1 => if r19 = 0 then (k_1 ()) else (wX10_hasIt I A x2 v4 (fun r29 => if r29 = 0 then (k_1 ()) else (k 1)))))))) n (0, 0)
abbrev rmX10_alikeOf : Room := { frames := 1, cells := 0, slots := 0, locals := 22 }
theorem wd_X10_alikeOf : Cond.instanceMethod yX10_alikeOf ∈ BW ∧ Cond.selects yX10_alikeOf.cls yX10_alikeOf yX10_alikeOf ∈ BW ∧ Cond.initialized yX10_alikeOf.cls ∈ BW ∧ Cond.code yX10_alikeOf cX10_alikeOf 5 (some .int) ∈ BW := ⟨mw_6_50, mp_58, mw_1_11, mw_6_51⟩
set_option maxHeartbeats 4000000 in
set_option maxRecDepth 100000 in
theorem c_X10_alikeOf {l : Launch} {D : va_G} {cy : Nat → ClassId} {ad : Nat → Nat} {Ad : Nat → Prop} (hAd : adok 16 Ad ad) (I : Nat → Int32) (A : Nat → Nat → Int32) (x1 : Int32) (x2 : Int32)  (post : Int32 → Prop) (h : wX10_alikeOf I A x1 x2 post) : Met l yX10_alikeOf (.code yX10_alikeOf cX10_alikeOf 5 (some .int) :: BW) rmX10_alikeOf (va_Pc [.ref (ad 0), .int x1, .int x2] (fun U => kC D cy U ∧ va_P D vwCl (wM cy ad I A) U.heap)) (qMi D cy ad Ad (fun r u => post r  ∧ I = u.1 ∧ A = u.2)) 0 0 Ad := by
  refine startMi (by decide) (Nat.le_of_ble_eq_true rfl) (lv := [(0, .ref (ad 0)), (1, .int x1), (2, .int x2)]) rfl (fun p e s m args below meth c Q ls hx hb hml hT hown hK hret hl hP hS => ?_)
  unfold wX10_alikeOf at h
  refine lv_iconst (v := 0) hx hb dX10_alikeOf_0 (by decide) ?_
  refine lv_istore_n (lv' := [(3, .int 0), (0, .ref (ad 0)), (1, .int x1), (2, .int x2)]) hx hb dX10_alikeOf_1 rfl hl (by decide) rfl (fun ls hl => ?_)
  refine lv_iconst (v := 0) hx hb dX10_alikeOf_2 (by decide) ?_
  refine lv_istore (lv' := [(4, .int 0), (3, .int 0), (0, .ref (ad 0)), (1, .int x1), (2, .int x2)]) hx hb dX10_alikeOf_3 hl (by decide) rfl (fun ls hl => ?_)
  obtain ⟨F, n, h, hF, hG⟩ := lfix_ex h
  have LP : ∀ (n : Nat) (v4 : Int32) (v3 : Int32) (ls : Array Slot) (H : Heap) (locs : List Loc), F n (v4, v3) → lv_has ls 5 [(4, .int v4), (3, .int v3), (0, .ref (ad 0)), (1, .int x1), (2, .int x2)] → va_P D vwCl (wM cy ad I A) H → va_S Ad s.heap H locs → W p l e rmX10_alikeOf s m args below meth c H locs 0 0 Q (F0 m 5 ls []) := by
    intro n
    induction n with
    | zero => intro v4 v3 ls H locs h _ _ _; exact absurd h (hF _)
    | succ n ih =>
      intro v4 v3 ls H locs h hl hP hS
      replace h := hG _ _ h
      try dsimp only at h
      refine lv_iload hx hb dX10_alikeOf_5 (lv_at hl 0 rfl) ?_
      refine lv_aload_n hx hb dX10_alikeOf_7 rfl (lv_at hl 2 rfl) ?_
      refine va_get (T := TX10) hx hb hT inlX10 hown hK.1 hP 0 he_X10 rfl 2 (by decide) (hT _ mw_4_139) (fun _ h9 => h9) rfl dX10_alikeOf_8 ?_
      refine lv_icmp_ge (tgt := 48) hx hb dX10_alikeOf_11 (by decide) (fun hc => ?_) (fun hc => ?_)
      · rw [if_pos hc] at h
        refine lv_iload_n hx hb dX10_alikeOf_48 rfl (lv_at hl 1 rfl) ?_
        exact hret _ (I, A) dX10_alikeOf_49 ⟨h, rfl, rfl⟩ hP hS
      · rw [if_neg hc] at h
        refine lv_iload_n hx hb dX10_alikeOf_14 rfl (lv_at hl 1 rfl) ?_
        refine lv_aload_n hx hb dX10_alikeOf_15 rfl (lv_at hl 2 rfl) ?_
        refine lv_iload_n hx hb dX10_alikeOf_16 rfl (lv_at hl 3 rfl) ?_
        refine lv_iload hx hb dX10_alikeOf_17 (lv_at hl 0 rfl) ?_
        refine callMi (k := 0) (As := [.int x1, .int v4]) (rest := [.int v3]) (n := 2) (c_X10_hasIt hAd I A x1 v4 _ h) hx hb hT hown hK hP hS mw_5_100 wd_X10_hasIt (by decide +kernel) ⟨rfl, rfl⟩ (by decide) rfl rfl he_X10 rfl hl.1 hml rfl (Nat.le_of_ble_eq_true rfl) dX10_alikeOf_19 ⟨Nat.zero_le _, Nat.zero_le _⟩ (fun r19 u H locs h hP hS => ?_)
        obtain ⟨Iu, Au⟩ := u
        dsimp only at h hP
        obtain ⟨h, rfl, rfl⟩ := h
        try dsimp only at h
        obtain ⟨k, hk, h⟩ := jn_ex h
        try dsimp only at h
        have J : ∀ (t : Int32), k t → ∀ (ls : Array Slot) (H : Heap) (locs : List Loc), lv_has ls 5 [(4, .int v4), (0, .ref (ad 0)), (1, .int x1), (2, .int x2)] → va_P D vwCl (wM cy ad I A) H → va_S Ad s.heap H locs → W p l e rmX10_alikeOf s m args below meth c H locs 0 0 Q (F0 m 40 ls [.int t, .int v3]) := by
          intro t h ls H locs hl hP hS
          replace h := hk _ h
          try dsimp only at h
          refine lv_iadd hx hb dX10_alikeOf_40 ?_
          refine lv_topi (fun v3_1 ev3_1 => ?_)
          replace h := h v3_1 ev3_1
          refine lv_istore_n (lv' := [(3, .int v3_1), (4, .int v4), (0, .ref (ad 0)), (1, .int x1), (2, .int x2)]) hx hb dX10_alikeOf_41 rfl hl (by decide) rfl (fun ls hl => ?_)
          obtain ⟨v4_1, ev4_1⟩ : ∃ z : Int32, z = v4 + 1 := ⟨_, rfl⟩
          replace h := h v4_1 ev4_1
          refine lv_iinc (v := v4_1) (lv' := [(4, .int v4_1), (3, .int v3_1), (0, .ref (ad 0)), (1, .int x1), (2, .int x2)]) hx hb dX10_alikeOf_42 hl (k := 1) rfl (by rw [ev4_1]; rfl) (by decide) rfl (fun ls hl => ?_)
          refine lv_goto (tgt := 5) hx hb dX10_alikeOf_45 (by decide) ?_
          exact ih v4_1 v3_1 _ _ _ h (lv_sub hl [0, 1, 2, 3, 4] rfl) hP hS
        obtain ⟨k_1, hk_1, h⟩ := jn_ex h
        try dsimp only at h
        have J_1 : k_1 () → ∀ (ls : Array Slot) (H : Heap) (locs : List Loc), lv_has ls 5 [(4, .int v4), (0, .ref (ad 0)), (1, .int x1), (2, .int x2)] → va_P D vwCl (wM cy ad I A) H → va_S Ad s.heap H locs → W p l e rmX10_alikeOf s m args below meth c H locs 0 0 Q (F0 m 39 ls [.int v3]) := by
          intro  h ls H locs hl hP hS
          replace h := hk_1 _ h
          try dsimp only at h
          refine lv_iconst (v := 0) hx hb dX10_alikeOf_39 (by decide) ?_
          exact J 0 h _ _ _ (lv_sub hl [0, 1, 2, 3] rfl) hP hS
        refine lv_if_eq (tgt := 39) hx hb dX10_alikeOf_22 (by decide) (fun hc_1 => ?_) (fun hc_1 => ?_)
        · rw [if_pos hc_1] at h
          exact J_1  h _ _ _ (lv_sub hl [0, 2, 3, 4] rfl) hP hS
        · rw [if_neg hc_1] at h
          refine lv_aload_n hx hb dX10_alikeOf_25 rfl (lv_at hl 2 rfl) ?_
          refine lv_iload_n hx hb dX10_alikeOf_26 rfl (lv_at hl 4 rfl) ?_
          refine lv_iload hx hb dX10_alikeOf_27 (lv_at hl 0 rfl) ?_
          refine callMi (k := 0) (As := [.int x2, .int v4]) (rest := [.int v3]) (n := 2) (c_X10_hasIt hAd I A x2 v4 _ h) hx hb hT hown hK hP hS mw_5_100 wd_X10_hasIt (by decide +kernel) ⟨rfl, rfl⟩ (by decide) rfl rfl he_X10 rfl hl.1 hml rfl (Nat.le_of_ble_eq_true rfl) dX10_alikeOf_29 ⟨Nat.zero_le _, Nat.zero_le _⟩ (fun r29 u H locs h hP hS => ?_)
          obtain ⟨Iu_1, Au_1⟩ := u
          dsimp only at h hP
          obtain ⟨h, rfl, rfl⟩ := h
          try dsimp only at h
          refine lv_if_eq (tgt := 39) hx hb dX10_alikeOf_32 (by decide) (fun hc_2 => ?_) (fun hc_2 => ?_)
          · rw [if_pos hc_2] at h
            exact J_1  h _ _ _ (lv_sub hl [0, 2, 3, 4] rfl) hP hS
          · rw [if_neg hc_2] at h
            refine lv_iconst (v := 1) hx hb dX10_alikeOf_35 (by decide) ?_
            refine lv_goto (tgt := 40) hx hb dX10_alikeOf_36 (by decide) ?_
            exact J 1 h _ _ _ (lv_sub hl [0, 2, 3, 4] rfl) hP hS
  exact LP _ 0 0 _ _ _ h (lv_sub hl [0, 1, 2, 3, 4] rfl) hP hS
theorem dX10_alike_0 : decode cX10_alike 0 = .ok (.aload_n 0, 1) := by decide +kernel
theorem dX10_alike_1 : decode cX10_alike 1 = .ok (.iconst 0, 1) := by decide +kernel
theorem dX10_alike_2 : decode cX10_alike 2 = .ok (.putfield 56, 3) := by decide +kernel
theorem dX10_alike_5 : decode cX10_alike 5 = .ok (.aload_n 0, 1) := by decide +kernel
theorem dX10_alike_6 : decode cX10_alike 6 = .ok (.iload_n 1, 1) := by decide +kernel
theorem dX10_alike_7 : decode cX10_alike 7 = .ok (.invokevirtual 97, 3) := by decide +kernel
theorem dX10_alike_10 : decode cX10_alike 10 = .ok (.ifCond .eq 25, 3) := by decide +kernel
theorem dX10_alike_13 : decode cX10_alike 13 = .ok (.aload_n 0, 1) := by decide +kernel
theorem dX10_alike_14 : decode cX10_alike 14 = .ok (.iload_n 2, 1) := by decide +kernel
theorem dX10_alike_15 : decode cX10_alike 15 = .ok (.invokevirtual 97, 3) := by decide +kernel
theorem dX10_alike_18 : decode cX10_alike 18 = .ok (.ifCond .eq 17, 3) := by decide +kernel
theorem dX10_alike_21 : decode cX10_alike 21 = .ok (.iload_n 1, 1) := by decide +kernel
theorem dX10_alike_22 : decode cX10_alike 22 = .ok (.iload_n 2, 1) := by decide +kernel
theorem dX10_alike_23 : decode cX10_alike 23 = .ok (.if_icmp .eq 12, 3) := by decide +kernel
theorem dX10_alike_26 : decode cX10_alike 26 = .ok (.aload_n 0, 1) := by decide +kernel
theorem dX10_alike_27 : decode cX10_alike 27 = .ok (.iload_n 1, 1) := by decide +kernel
theorem dX10_alike_28 : decode cX10_alike 28 = .ok (.iload_n 2, 1) := by decide +kernel
theorem dX10_alike_29 : decode cX10_alike 29 = .ok (.invokevirtual 221, 3) := by decide +kernel
theorem dX10_alike_32 : decode cX10_alike 32 = .ok (.goto 4, 3) := by decide +kernel
theorem dX10_alike_35 : decode cX10_alike 35 = .ok (.iconst (-1), 1) := by decide +kernel
theorem dX10_alike_36 : decode cX10_alike 36 = .ok (.ireturn, 1) := by decide +kernel
def wX10_alike (I : Nat → Int32) (A : Nat → Nat → Int32) (x1 : Int32) (x2 : Int32) (post : Int32 → (Nat → Int32) → Prop) : Prop := (∀ I_1, I_1 = va_up I 0 0 → wX10_isThere I_1 A x1 (fun r7 => if r7 = 0 then (post (-1) I_1) else (wX10_isThere I_1 A x2 (fun r15 => if r15 = 0 then (post (-1) I_1) else (if x1 = x2 then (post (-1) I_1) else (wX10_alikeOf I_1 A x1 x2 (fun r29 => post r29 I_1)))))))
abbrev rmX10_alike : Room := { frames := 2, cells := 0, slots := 0, locals := 46 }
theorem wd_X10_alike : Cond.instanceMethod yX10_alike ∈ BW ∧ Cond.selects yX10_alike.cls yX10_alike yX10_alike ∈ BW ∧ Cond.initialized yX10_alike.cls ∈ BW ∧ Cond.code yX10_alike cX10_alike 3 (some .int) ∈ BW := ⟨mw_6_45, mw_6_46, mw_1_11, mw_6_47⟩
set_option maxHeartbeats 4000000 in
set_option maxRecDepth 100000 in
theorem c_X10_alike {l : Launch} {D : va_G} {cy : Nat → ClassId} {ad : Nat → Nat} {Ad : Nat → Prop} (hAd : adok 16 Ad ad) (I : Nat → Int32) (A : Nat → Nat → Int32) (x1 : Int32) (x2 : Int32)  (post : Int32 → (Nat → Int32) → Prop) (h : wX10_alike I A x1 x2 post) : Met l yX10_alike (.code yX10_alike cX10_alike 3 (some .int) :: BW) rmX10_alike (va_Pc [.ref (ad 0), .int x1, .int x2] (fun U => kC D cy U ∧ va_P D vwCl (wM cy ad I A) U.heap)) (qMi D cy ad Ad (fun r u => post r u.1 ∧ A = u.2)) 0 0 Ad := by
  refine startMi (by decide) (Nat.le_of_ble_eq_true rfl) (lv := [(0, .ref (ad 0)), (1, .int x1), (2, .int x2)]) rfl (fun p e s m args below meth c Q ls hx hb hml hT hown hK hret hl hP hS => ?_)
  unfold wX10_alike at h
  refine lv_aload_n hx hb dX10_alike_0 rfl (lv_at hl 0 rfl) ?_
  refine lv_iconst (v := 0) hx hb dX10_alike_1 (by decide) ?_
  refine pM_X10_thrown hAd hx hb hT hown hK.1 hP hS (hT _ mw_4_137) dX10_alike_2 (fun H locs hP hS => ?_)
  obtain ⟨I_1, eI_1⟩ : ∃ z, z = va_up I 0 0 := ⟨_, rfl⟩
  rw [← eI_1] at hP
  replace h := h I_1 eI_1
  refine lv_aload_n hx hb dX10_alike_5 rfl (lv_at hl 0 rfl) ?_
  refine lv_iload_n hx hb dX10_alike_6 rfl (lv_at hl 1 rfl) ?_
  refine callMi (k := 0) (As := [.int x1]) (rest := []) (n := 1) (c_X10_isThere hAd I_1 A x1 _ h) hx hb hT hown hK hP hS mw_5_20 wd_X10_isThere (by decide +kernel) ⟨rfl, rfl⟩ (by decide) rfl rfl he_X10 rfl hl.1 hml rfl (Nat.le_of_ble_eq_true rfl) dX10_alike_7 ⟨Nat.zero_le _, Nat.zero_le _⟩ (fun r7 u H locs h hP hS => ?_)
  obtain ⟨Iu, Au⟩ := u
  dsimp only at h hP
  obtain ⟨h, rfl, rfl⟩ := h
  try dsimp only at h
  refine lv_if_eq (tgt := 35) hx hb dX10_alike_10 (by decide) (fun hc => ?_) (fun hc => ?_)
  · rw [if_pos hc] at h
    refine lv_iconst (v := (-1)) hx hb dX10_alike_35 (by decide) ?_
    exact hret _ (I_1, A) dX10_alike_36 ⟨h, rfl⟩ hP hS
  · rw [if_neg hc] at h
    refine lv_aload_n hx hb dX10_alike_13 rfl (lv_at hl 0 rfl) ?_
    refine lv_iload_n hx hb dX10_alike_14 rfl (lv_at hl 2 rfl) ?_
    refine callMi (k := 0) (As := [.int x2]) (rest := []) (n := 1) (c_X10_isThere hAd I_1 A x2 _ h) hx hb hT hown hK hP hS mw_5_20 wd_X10_isThere (by decide +kernel) ⟨rfl, rfl⟩ (by decide) rfl rfl he_X10 rfl hl.1 hml rfl (Nat.le_of_ble_eq_true rfl) dX10_alike_15 ⟨Nat.zero_le _, Nat.zero_le _⟩ (fun r15 u H locs h hP hS => ?_)
    obtain ⟨Iu_1, Au_1⟩ := u
    dsimp only at h hP
    obtain ⟨h, rfl, rfl⟩ := h
    try dsimp only at h
    refine lv_if_eq (tgt := 35) hx hb dX10_alike_18 (by decide) (fun hc_1 => ?_) (fun hc_1 => ?_)
    · rw [if_pos hc_1] at h
      refine lv_iconst (v := (-1)) hx hb dX10_alike_35 (by decide) ?_
      exact hret _ (I_1, A) dX10_alike_36 ⟨h, rfl⟩ hP hS
    · rw [if_neg hc_1] at h
      refine lv_iload_n hx hb dX10_alike_21 rfl (lv_at hl 1 rfl) ?_
      refine lv_iload_n hx hb dX10_alike_22 rfl (lv_at hl 2 rfl) ?_
      refine lv_icmp_eq (tgt := 35) hx hb dX10_alike_23 (by decide) (fun hc_2 => ?_) (fun hc_2 => ?_)
      · rw [if_pos hc_2] at h
        refine lv_iconst (v := (-1)) hx hb dX10_alike_35 (by decide) ?_
        exact hret _ (I_1, A) dX10_alike_36 ⟨h, rfl⟩ hP hS
      · rw [if_neg hc_2] at h
        refine lv_aload_n hx hb dX10_alike_26 rfl (lv_at hl 0 rfl) ?_
        refine lv_iload_n hx hb dX10_alike_27 rfl (lv_at hl 1 rfl) ?_
        refine lv_iload_n hx hb dX10_alike_28 rfl (lv_at hl 2 rfl) ?_
        refine callMi (k := 0) (As := [.int x1, .int x2]) (rest := []) (n := 2) (c_X10_alikeOf hAd I_1 A x1 x2 _ h) hx hb hT hown hK hP hS mw_6_48 wd_X10_alikeOf (by decide +kernel) ⟨rfl, rfl⟩ (by decide) rfl rfl he_X10 rfl hl.1 hml rfl (Nat.le_of_ble_eq_true rfl) dX10_alike_29 ⟨Nat.zero_le _, Nat.zero_le _⟩ (fun r29 u H locs h hP hS => ?_)
        obtain ⟨Iu_2, Au_2⟩ := u
        dsimp only at h hP
        obtain ⟨h, rfl, rfl⟩ := h
        try dsimp only at h
        refine lv_goto (tgt := 36) hx hb dX10_alike_32 (by decide) ?_
        exact hret _ (I_1, A) dX10_alike_36 ⟨h, rfl⟩ hP hS
theorem dX10_nearest_0 : decode cX10_nearest 0 = .ok (.aload_n 0, 1) := by decide +kernel
theorem dX10_nearest_1 : decode cX10_nearest 1 = .ok (.iconst 0, 1) := by decide +kernel
theorem dX10_nearest_2 : decode cX10_nearest 2 = .ok (.putfield 56, 3) := by decide +kernel
theorem dX10_nearest_5 : decode cX10_nearest 5 = .ok (.aload_n 0, 1) := by decide +kernel
theorem dX10_nearest_6 : decode cX10_nearest 6 = .ok (.iload_n 1, 1) := by decide +kernel
theorem dX10_nearest_7 : decode cX10_nearest 7 = .ok (.invokevirtual 97, 3) := by decide +kernel
theorem dX10_nearest_10 : decode cX10_nearest 10 = .ok (.ifCond .ne 5, 3) := by decide +kernel
theorem dX10_nearest_13 : decode cX10_nearest 13 = .ok (.iconst (-1), 1) := by decide +kernel
theorem dX10_nearest_14 : decode cX10_nearest 14 = .ok (.ireturn, 1) := by decide +kernel
theorem dX10_nearest_15 : decode cX10_nearest 15 = .ok (.aload_n 0, 1) := by decide +kernel
theorem dX10_nearest_16 : decode cX10_nearest 16 = .ok (.invokevirtual 143, 3) := by decide +kernel
theorem dX10_nearest_19 : decode cX10_nearest 19 = .ok (.iconst (-1), 1) := by decide +kernel
theorem dX10_nearest_20 : decode cX10_nearest 20 = .ok (.istore_n 2, 1) := by decide +kernel
theorem dX10_nearest_21 : decode cX10_nearest 21 = .ok (.iconst 0, 1) := by decide +kernel
theorem dX10_nearest_22 : decode cX10_nearest 22 = .ok (.istore_n 3, 1) := by decide +kernel
theorem dX10_nearest_23 : decode cX10_nearest 23 = .ok (.iload_n 3, 1) := by decide +kernel
theorem dX10_nearest_24 : decode cX10_nearest 24 = .ok (.aload_n 0, 1) := by decide +kernel
theorem dX10_nearest_25 : decode cX10_nearest 25 = .ok (.getfield 137, 3) := by decide +kernel
theorem dX10_nearest_28 : decode cX10_nearest 28 = .ok (.if_icmp .ge 50, 3) := by decide +kernel
theorem dX10_nearest_31 : decode cX10_nearest 31 = .ok (.aload_n 0, 1) := by decide +kernel
theorem dX10_nearest_32 : decode cX10_nearest 32 = .ok (.getfield 41, 3) := by decide +kernel
theorem dX10_nearest_35 : decode cX10_nearest 35 = .ok (.iload_n 3, 1) := by decide +kernel
theorem dX10_nearest_36 : decode cX10_nearest 36 = .ok (.iaload, 1) := by decide +kernel
theorem dX10_nearest_37 : decode cX10_nearest 37 = .ok (.istore 4, 2) := by decide +kernel
theorem dX10_nearest_39 : decode cX10_nearest 39 = .ok (.iload 4, 2) := by decide +kernel
theorem dX10_nearest_41 : decode cX10_nearest 41 = .ok (.iload_n 1, 1) := by decide +kernel
theorem dX10_nearest_42 : decode cX10_nearest 42 = .ok (.if_icmp .eq 28, 3) := by decide +kernel
theorem dX10_nearest_45 : decode cX10_nearest 45 = .ok (.iload_n 2, 1) := by decide +kernel
theorem dX10_nearest_46 : decode cX10_nearest 46 = .ok (.ifCond .lt 19, 3) := by decide +kernel
theorem dX10_nearest_49 : decode cX10_nearest 49 = .ok (.aload_n 0, 1) := by decide +kernel
theorem dX10_nearest_50 : decode cX10_nearest 50 = .ok (.iload_n 1, 1) := by decide +kernel
theorem dX10_nearest_51 : decode cX10_nearest 51 = .ok (.iload 4, 2) := by decide +kernel
theorem dX10_nearest_53 : decode cX10_nearest 53 = .ok (.invokevirtual 221, 3) := by decide +kernel
theorem dX10_nearest_56 : decode cX10_nearest 56 = .ok (.aload_n 0, 1) := by decide +kernel
theorem dX10_nearest_57 : decode cX10_nearest 57 = .ok (.iload_n 1, 1) := by decide +kernel
theorem dX10_nearest_58 : decode cX10_nearest 58 = .ok (.iload_n 2, 1) := by decide +kernel
theorem dX10_nearest_59 : decode cX10_nearest 59 = .ok (.invokevirtual 221, 3) := by decide +kernel
theorem dX10_nearest_62 : decode cX10_nearest 62 = .ok (.if_icmp .le 8, 3) := by decide +kernel
theorem dX10_nearest_65 : decode cX10_nearest 65 = .ok (.iload 4, 2) := by decide +kernel
theorem dX10_nearest_67 : decode cX10_nearest 67 = .ok (.goto 4, 3) := by decide +kernel
theorem dX10_nearest_70 : decode cX10_nearest 70 = .ok (.iload_n 2, 1) := by decide +kernel
theorem dX10_nearest_71 : decode cX10_nearest 71 = .ok (.istore_n 2, 1) := by decide +kernel
theorem dX10_nearest_72 : decode cX10_nearest 72 = .ok (.iinc 3 1, 3) := by decide +kernel
theorem dX10_nearest_75 : decode cX10_nearest 75 = .ok (.goto (-52), 3) := by decide +kernel
theorem dX10_nearest_78 : decode cX10_nearest 78 = .ok (.iload_n 2, 1) := by decide +kernel
theorem dX10_nearest_79 : decode cX10_nearest 79 = .ok (.ireturn, 1) := by decide +kernel
def wX10_nearest (I : Nat → Int32) (A : Nat → Nat → Int32) (x1 : Int32) (post : Int32 → (Nat → Int32) → (Nat → Nat → Int32) → Prop) : Prop := (∀ I_1, I_1 = va_up I 0 0 → wX10_isThere I_1 A x1 (fun r7 => if r7 = 0 then (post (-1) I_1 A) else (wX10_orders I_1 A  (fun I_2 A_1 => ∃ n, lfix (fun (r : (Int32 × Int32) → Prop) (v3, v2) => if (I_2 5) ≤ v3 then (post v2 I_2 A_1) else (vp_in v3 40 ∧ (∀ v4 : Int32, v4 = A_1 11 v3.toNatClampNeg → jn (fun (t : Int32) => ∀ v3_1 : Int32, v3_1 = v3 + 1 → r (v3_1, t)) (fun k => jn (fun (_ : Unit) => k v2) (fun k_1 => if v4 = x1 then (k_1 ()) else (jn (fun (_ : Unit) => k v4) (fun k_2 => if v2 < 0 then (k_2 ()) else (wX10_alikeOf I_2 A_1 x1 v4 (fun r53 => wX10_alikeOf I_2 A_1 x1 v2 (fun r59 => if r53 ≤ r59 then (k_1 ()) else (k_2 ()))))))))))) n (0, (-1))))))
abbrev rmX10_nearest : Room := { frames := 2, cells := 0, slots := 0, locals := 46 }
theorem wd_X10_nearest : Cond.instanceMethod yX10_nearest ∈ BW ∧ Cond.selects yX10_nearest.cls yX10_nearest yX10_nearest ∈ BW ∧ Cond.initialized yX10_nearest.cls ∈ BW ∧ Cond.code yX10_nearest cX10_nearest 5 (some .int) ∈ BW := ⟨mw_6_53, mw_6_54, mw_1_11, mw_6_55⟩
set_option maxHeartbeats 4000000 in
set_option maxRecDepth 100000 in
theorem c_X10_nearest {l : Launch} {D : va_G} {cy : Nat → ClassId} {ad : Nat → Nat} {Ad : Nat → Prop} (hAd : adok 16 Ad ad) (I : Nat → Int32) (A : Nat → Nat → Int32) (x1 : Int32)  (post : Int32 → (Nat → Int32) → (Nat → Nat → Int32) → Prop) (h : wX10_nearest I A x1 post) : Met l yX10_nearest (.code yX10_nearest cX10_nearest 5 (some .int) :: BW) rmX10_nearest (va_Pc [.ref (ad 0), .int x1] (fun U => kC D cy U ∧ va_P D vwCl (wM cy ad I A) U.heap)) (qMi D cy ad Ad (fun r u => post r u.1 u.2)) 0 0 Ad := by
  refine startMi (by decide) (Nat.le_of_ble_eq_true rfl) (lv := [(0, .ref (ad 0)), (1, .int x1)]) rfl (fun p e s m args below meth c Q ls hx hb hml hT hown hK hret hl hP hS => ?_)
  unfold wX10_nearest at h
  refine lv_aload_n hx hb dX10_nearest_0 rfl (lv_at hl 0 rfl) ?_
  refine lv_iconst (v := 0) hx hb dX10_nearest_1 (by decide) ?_
  refine pM_X10_thrown hAd hx hb hT hown hK.1 hP hS (hT _ mw_4_137) dX10_nearest_2 (fun H locs hP hS => ?_)
  obtain ⟨I_1, eI_1⟩ : ∃ z, z = va_up I 0 0 := ⟨_, rfl⟩
  rw [← eI_1] at hP
  replace h := h I_1 eI_1
  refine lv_aload_n hx hb dX10_nearest_5 rfl (lv_at hl 0 rfl) ?_
  refine lv_iload_n hx hb dX10_nearest_6 rfl (lv_at hl 1 rfl) ?_
  refine callMi (k := 0) (As := [.int x1]) (rest := []) (n := 1) (c_X10_isThere hAd I_1 A x1 _ h) hx hb hT hown hK hP hS mw_5_20 wd_X10_isThere (by decide +kernel) ⟨rfl, rfl⟩ (by decide) rfl rfl he_X10 rfl hl.1 hml rfl (Nat.le_of_ble_eq_true rfl) dX10_nearest_7 ⟨Nat.zero_le _, Nat.zero_le _⟩ (fun r7 u H locs h hP hS => ?_)
  obtain ⟨Iu, Au⟩ := u
  dsimp only at h hP
  obtain ⟨h, rfl, rfl⟩ := h
  try dsimp only at h
  refine lv_if_ne (tgt := 15) hx hb dX10_nearest_10 (by decide) (fun hc => ?_) (fun hc => ?_)
  · rw [if_neg hc] at h
    refine lv_aload_n hx hb dX10_nearest_15 rfl (lv_at hl 0 rfl) ?_
    refine callMv (k := 0) (As := []) (rest := []) (n := 0) (c_X10_orders hAd I_1 A  _ h) hx hb hT hown hK hP hS mw_5_120 wd_X10_orders (by decide +kernel) ⟨rfl, rfl⟩ (by decide) rfl rfl he_X10 rfl hl.1 hml rfl (Nat.le_of_ble_eq_true rfl) dX10_nearest_16 ⟨Nat.zero_le _, Nat.zero_le _⟩ (fun u H locs h hP hS => ?_)
    obtain ⟨I_2, A_1⟩ := u
    dsimp only at h hP
    refine lv_iconst (v := (-1)) hx hb dX10_nearest_19 (by decide) ?_
    refine lv_istore_n (lv' := [(2, .int (-1)), (0, .ref (ad 0)), (1, .int x1)]) hx hb dX10_nearest_20 rfl hl (by decide) rfl (fun ls hl => ?_)
    refine lv_iconst (v := 0) hx hb dX10_nearest_21 (by decide) ?_
    refine lv_istore_n (lv' := [(3, .int 0), (2, .int (-1)), (0, .ref (ad 0)), (1, .int x1)]) hx hb dX10_nearest_22 rfl hl (by decide) rfl (fun ls hl => ?_)
    obtain ⟨F, n, h, hF, hG⟩ := lfix_ex h
    have LP : ∀ (n : Nat) (v3 : Int32) (v2 : Int32) (ls : Array Slot) (H : Heap) (locs : List Loc), F n (v3, v2) → lv_has ls 5 [(3, .int v3), (2, .int v2), (0, .ref (ad 0)), (1, .int x1)] → va_P D vwCl (wM cy ad I_2 A_1) H → va_S Ad s.heap H locs → W p l e rmX10_nearest s m args below meth c H locs 0 0 Q (F0 m 23 ls []) := by
      intro n
      induction n with
      | zero => intro v3 v2 ls H locs h _ _ _; exact absurd h (hF _)
      | succ n ih =>
        intro v3 v2 ls H locs h hl hP hS
        replace h := hG _ _ h
        try dsimp only at h
        refine lv_iload_n hx hb dX10_nearest_23 rfl (lv_at hl 0 rfl) ?_
        refine lv_aload_n hx hb dX10_nearest_24 rfl (lv_at hl 2 rfl) ?_
        refine va_get (T := TX10) hx hb hT inlX10 hown hK.1 hP 0 he_X10 rfl 16 (by decide) (hT _ mw_4_153) (fun _ h9 => h9) rfl dX10_nearest_25 ?_
        refine lv_icmp_ge (tgt := 78) hx hb dX10_nearest_28 (by decide) (fun hc_1 => ?_) (fun hc_1 => ?_)
        · rw [if_pos hc_1] at h
          refine lv_iload_n hx hb dX10_nearest_78 rfl (lv_at hl 1 rfl) ?_
          exact hret _ (I_2, A_1) dX10_nearest_79 h hP hS
        · rw [if_neg hc_1] at h
          refine lv_aload_n hx hb dX10_nearest_31 rfl (lv_at hl 2 rfl) ?_
          refine va_get (T := TX10) hx hb hT inlX10 hown hK.1 hP 0 he_X10 rfl 15 (by decide) (hT _ mw_4_152) (fun _ h9 => h9) rfl dX10_nearest_32 ?_
          refine lv_iload_n hx hb dX10_nearest_35 rfl (lv_at hl 0 rfl) ?_
          obtain ⟨hi, h⟩ := h
          refine lM_I hx hb hK.1 hP (by decide) rfl hi dX10_nearest_36 ?_
          refine lv_topi (fun v4 ev4 => ?_)
          replace h := h v4 ev4
          refine lv_istore (lv' := [(4, .int v4), (3, .int v3), (2, .int v2), (0, .ref (ad 0)), (1, .int x1)]) hx hb dX10_nearest_37 hl (by decide) rfl (fun ls hl => ?_)
          refine lv_iload hx hb dX10_nearest_39 (lv_at hl 0 rfl) ?_
          refine lv_iload_n hx hb dX10_nearest_41 rfl (lv_at hl 4 rfl) ?_
          obtain ⟨k, hk, h⟩ := jn_ex h
          try dsimp only at h
          have J : ∀ (t : Int32), k t → ∀ (ls : Array Slot) (H : Heap) (locs : List Loc), lv_has ls 5 [(3, .int v3), (0, .ref (ad 0)), (1, .int x1)] → va_P D vwCl (wM cy ad I_2 A_1) H → va_S Ad s.heap H locs → W p l e rmX10_nearest s m args below meth c H locs 0 0 Q (F0 m 71 ls [.int t]) := by
            intro t h ls H locs hl hP hS
            replace h := hk _ h
            try dsimp only at h
            refine lv_istore_n (lv' := [(2, .int t), (3, .int v3), (0, .ref (ad 0)), (1, .int x1)]) hx hb dX10_nearest_71 rfl hl (by decide) rfl (fun ls hl => ?_)
            obtain ⟨v3_1, ev3_1⟩ : ∃ z : Int32, z = v3 + 1 := ⟨_, rfl⟩
            replace h := h v3_1 ev3_1
            refine lv_iinc (v := v3_1) (lv' := [(3, .int v3_1), (2, .int t), (0, .ref (ad 0)), (1, .int x1)]) hx hb dX10_nearest_72 hl (k := 1) rfl (by rw [ev3_1]; rfl) (by decide) rfl (fun ls hl => ?_)
            refine lv_goto (tgt := 23) hx hb dX10_nearest_75 (by decide) ?_
            exact ih v3_1 t _ _ _ h (lv_sub hl [0, 1, 2, 3] rfl) hP hS
          obtain ⟨k_1, hk_1, h⟩ := jn_ex h
          try dsimp only at h
          have J_1 : k_1 () → ∀ (ls : Array Slot) (H : Heap) (locs : List Loc), lv_has ls 5 [(3, .int v3), (2, .int v2), (0, .ref (ad 0)), (1, .int x1)] → va_P D vwCl (wM cy ad I_2 A_1) H → va_S Ad s.heap H locs → W p l e rmX10_nearest s m args below meth c H locs 0 0 Q (F0 m 70 ls []) := by
            intro  h ls H locs hl hP hS
            replace h := hk_1 _ h
            try dsimp only at h
            refine lv_iload_n hx hb dX10_nearest_70 rfl (lv_at hl 1 rfl) ?_
            exact J v2 h _ _ _ (lv_sub hl [0, 2, 3] rfl) hP hS
          refine lv_icmp_eq (tgt := 70) hx hb dX10_nearest_42 (by decide) (fun hc_2 => ?_) (fun hc_2 => ?_)
          · rw [if_pos hc_2] at h
            exact J_1  h _ _ _ (lv_sub hl [1, 2, 3, 4] rfl) hP hS
          · rw [if_neg hc_2] at h
            refine lv_iload_n hx hb dX10_nearest_45 rfl (lv_at hl 2 rfl) ?_
            obtain ⟨k_2, hk_2, h⟩ := jn_ex h
            try dsimp only at h
            have J_2 : k_2 () → ∀ (ls : Array Slot) (H : Heap) (locs : List Loc), lv_has ls 5 [(4, .int v4), (3, .int v3), (0, .ref (ad 0)), (1, .int x1)] → va_P D vwCl (wM cy ad I_2 A_1) H → va_S Ad s.heap H locs → W p l e rmX10_nearest s m args below meth c H locs 0 0 Q (F0 m 65 ls []) := by
              intro  h ls H locs hl hP hS
              replace h := hk_2 _ h
              try dsimp only at h
              refine lv_iload hx hb dX10_nearest_65 (lv_at hl 0 rfl) ?_
              refine lv_goto (tgt := 71) hx hb dX10_nearest_67 (by decide) ?_
              exact J v4 h _ _ _ (lv_sub hl [1, 2, 3] rfl) hP hS
            refine lv_if_lt (tgt := 65) hx hb dX10_nearest_46 (by decide) (fun hc_3 => ?_) (fun hc_3 => ?_)
            · rw [if_pos hc_3] at h
              exact J_2  h _ _ _ (lv_sub hl [0, 1, 3, 4] rfl) hP hS
            · rw [if_neg hc_3] at h
              refine lv_aload_n hx hb dX10_nearest_49 rfl (lv_at hl 3 rfl) ?_
              refine lv_iload_n hx hb dX10_nearest_50 rfl (lv_at hl 4 rfl) ?_
              refine lv_iload hx hb dX10_nearest_51 (lv_at hl 0 rfl) ?_
              refine callMi (k := 0) (As := [.int x1, .int v4]) (rest := []) (n := 2) (c_X10_alikeOf hAd I_2 A_1 x1 v4 _ h) hx hb hT hown hK hP hS mw_6_48 wd_X10_alikeOf (by decide +kernel) ⟨rfl, rfl⟩ (by decide) rfl rfl he_X10 rfl hl.1 hml rfl (Nat.le_of_ble_eq_true rfl) dX10_nearest_53 ⟨Nat.zero_le _, Nat.zero_le _⟩ (fun r53 u H locs h hP hS => ?_)
              obtain ⟨Iu_1, Au_1⟩ := u
              dsimp only at h hP
              obtain ⟨h, rfl, rfl⟩ := h
              try dsimp only at h
              refine lv_aload_n hx hb dX10_nearest_56 rfl (lv_at hl 3 rfl) ?_
              refine lv_iload_n hx hb dX10_nearest_57 rfl (lv_at hl 4 rfl) ?_
              refine lv_iload_n hx hb dX10_nearest_58 rfl (lv_at hl 2 rfl) ?_
              refine callMi (k := 0) (As := [.int x1, .int v2]) (rest := [.int r53]) (n := 2) (c_X10_alikeOf hAd I_2 A_1 x1 v2 _ h) hx hb hT hown hK hP hS mw_6_48 wd_X10_alikeOf (by decide +kernel) ⟨rfl, rfl⟩ (by decide) rfl rfl he_X10 rfl hl.1 hml rfl (Nat.le_of_ble_eq_true rfl) dX10_nearest_59 ⟨Nat.zero_le _, Nat.zero_le _⟩ (fun r59 u H locs h hP hS => ?_)
              obtain ⟨Iu_2, Au_2⟩ := u
              dsimp only at h hP
              obtain ⟨h, rfl, rfl⟩ := h
              try dsimp only at h
              refine lv_icmp_le (tgt := 70) hx hb dX10_nearest_62 (by decide) (fun hc_4 => ?_) (fun hc_4 => ?_)
              · rw [if_pos hc_4] at h
                exact J_1  h _ _ _ (lv_sub hl [1, 2, 3, 4] rfl) hP hS
              · rw [if_neg hc_4] at h
                exact J_2  h _ _ _ (lv_sub hl [0, 1, 3, 4] rfl) hP hS
    exact LP _ 0 (-1) _ _ _ h (lv_sub hl [0, 1, 2, 3] rfl) hP hS
  · rw [if_pos hc] at h
    refine lv_iconst (v := (-1)) hx hb dX10_nearest_13 (by decide) ?_
    exact hret _ (I_1, A) dX10_nearest_14 h hP hS
theorem dX10_miss_0 : decode cX10_miss 0 = .ok (.aload_n 0, 1) := by decide +kernel
theorem dX10_miss_1 : decode cX10_miss 1 = .ok (.iconst 0, 1) := by decide +kernel
theorem dX10_miss_2 : decode cX10_miss 2 = .ok (.putfield 56, 3) := by decide +kernel
theorem dX10_miss_5 : decode cX10_miss 5 = .ok (.iload_n 1, 1) := by decide +kernel
theorem dX10_miss_6 : decode cX10_miss 6 = .ok (.iconst 0, 1) := by decide +kernel
theorem dX10_miss_7 : decode cX10_miss 7 = .ok (.iconst 5, 1) := by decide +kernel
theorem dX10_miss_8 : decode cX10_miss 8 = .ok (.invokestatic 73, 3) := by decide +kernel
theorem dX10_miss_11 : decode cX10_miss 11 = .ok (.ifCond .ne 5, 3) := by decide +kernel
theorem dX10_miss_14 : decode cX10_miss 14 = .ok (.iconst (-1), 1) := by decide +kernel
theorem dX10_miss_15 : decode cX10_miss 15 = .ok (.ireturn, 1) := by decide +kernel
theorem dX10_miss_16 : decode cX10_miss 16 = .ok (.iconst 0, 1) := by decide +kernel
theorem dX10_miss_17 : decode cX10_miss 17 = .ok (.istore_n 2, 1) := by decide +kernel
theorem dX10_miss_18 : decode cX10_miss 18 = .ok (.iconst 0, 1) := by decide +kernel
theorem dX10_miss_19 : decode cX10_miss 19 = .ok (.istore_n 3, 1) := by decide +kernel
theorem dX10_miss_20 : decode cX10_miss 20 = .ok (.iload_n 3, 1) := by decide +kernel
theorem dX10_miss_21 : decode cX10_miss 21 = .ok (.aload_n 0, 1) := by decide +kernel
theorem dX10_miss_22 : decode cX10_miss 22 = .ok (.getfield 70, 3) := by decide +kernel
theorem dX10_miss_25 : decode cX10_miss 25 = .ok (.if_icmp .ge 74, 3) := by decide +kernel
theorem dX10_miss_28 : decode cX10_miss 28 = .ok (.iconst 0, 1) := by decide +kernel
theorem dX10_miss_29 : decode cX10_miss 29 = .ok (.istore 4, 2) := by decide +kernel
theorem dX10_miss_31 : decode cX10_miss 31 = .ok (.iconst 0, 1) := by decide +kernel
theorem dX10_miss_32 : decode cX10_miss 32 = .ok (.istore 5, 2) := by decide +kernel
theorem dX10_miss_34 : decode cX10_miss 34 = .ok (.iload 5, 2) := by decide +kernel
theorem dX10_miss_36 : decode cX10_miss 36 = .ok (.aload_n 0, 1) := by decide +kernel
theorem dX10_miss_37 : decode cX10_miss 37 = .ok (.getfield 60, 3) := by decide +kernel
theorem dX10_miss_40 : decode cX10_miss 40 = .ok (.if_icmp .ge 30, 3) := by decide +kernel
theorem dX10_miss_43 : decode cX10_miss 43 = .ok (.iload 4, 2) := by decide +kernel
theorem dX10_miss_45 : decode cX10_miss 45 = .ok (.aload_n 0, 1) := by decide +kernel
theorem dX10_miss_46 : decode cX10_miss 46 = .ok (.iconst 0, 1) := by decide +kernel
theorem dX10_miss_47 : decode cX10_miss 47 = .ok (.iload_n 3, 1) := by decide +kernel
theorem dX10_miss_48 : decode cX10_miss 48 = .ok (.iload 5, 2) := by decide +kernel
theorem dX10_miss_50 : decode cX10_miss 50 = .ok (.invokevirtual 131, 3) := by decide +kernel
theorem dX10_miss_53 : decode cX10_miss 53 = .ok (.ifCond .eq 7, 3) := by decide +kernel
theorem dX10_miss_56 : decode cX10_miss 56 = .ok (.iconst 0, 1) := by decide +kernel
theorem dX10_miss_57 : decode cX10_miss 57 = .ok (.goto 4, 3) := by decide +kernel
theorem dX10_miss_60 : decode cX10_miss 60 = .ok (.iconst 1, 1) := by decide +kernel
theorem dX10_miss_61 : decode cX10_miss 61 = .ok (.iadd, 1) := by decide +kernel
theorem dX10_miss_62 : decode cX10_miss 62 = .ok (.istore 4, 2) := by decide +kernel
theorem dX10_miss_64 : decode cX10_miss 64 = .ok (.iinc 5 1, 3) := by decide +kernel
theorem dX10_miss_67 : decode cX10_miss 67 = .ok (.goto (-33), 3) := by decide +kernel
theorem dX10_miss_70 : decode cX10_miss 70 = .ok (.iload_n 2, 1) := by decide +kernel
theorem dX10_miss_71 : decode cX10_miss 71 = .ok (.aload_n 0, 1) := by decide +kernel
theorem dX10_miss_72 : decode cX10_miss 72 = .ok (.getfield 22, 3) := by decide +kernel
theorem dX10_miss_75 : decode cX10_miss 75 = .ok (.iload_n 3, 1) := by decide +kernel
theorem dX10_miss_76 : decode cX10_miss 76 = .ok (.baload, 1) := by decide +kernel
theorem dX10_miss_77 : decode cX10_miss 77 = .ok (.ifCond .eq 13, 3) := by decide +kernel
theorem dX10_miss_80 : decode cX10_miss 80 = .ok (.iload 4, 2) := by decide +kernel
theorem dX10_miss_82 : decode cX10_miss 82 = .ok (.iload_n 1, 1) := by decide +kernel
theorem dX10_miss_83 : decode cX10_miss 83 = .ok (.if_icmp .ne 7, 3) := by decide +kernel
theorem dX10_miss_86 : decode cX10_miss 86 = .ok (.iconst 1, 1) := by decide +kernel
theorem dX10_miss_87 : decode cX10_miss 87 = .ok (.goto 4, 3) := by decide +kernel
theorem dX10_miss_90 : decode cX10_miss 90 = .ok (.iconst 0, 1) := by decide +kernel
theorem dX10_miss_91 : decode cX10_miss 91 = .ok (.iadd, 1) := by decide +kernel
theorem dX10_miss_92 : decode cX10_miss 92 = .ok (.istore_n 2, 1) := by decide +kernel
theorem dX10_miss_93 : decode cX10_miss 93 = .ok (.iinc 3 1, 3) := by decide +kernel
theorem dX10_miss_96 : decode cX10_miss 96 = .ok (.goto (-76), 3) := by decide +kernel
theorem dX10_miss_99 : decode cX10_miss 99 = .ok (.iload_n 2, 1) := by decide +kernel
theorem dX10_miss_100 : decode cX10_miss 100 = .ok (.ireturn, 1) := by decide +kernel
def wX10_miss (I : Nat → Int32) (A : Nat → Nat → Int32) (x1 : Int32) (post : Int32 → (Nat → Int32) → Prop) : Prop := (∀ I_1, I_1 = va_up I 0 0 → wX10_within x1 0 5 (fun r8 => if r8 = 0 then (post (-1) I_1) else (∃ n, lfix (fun (r : (Int32 × Int32) → Prop) (v3, v2) => if (I_1 3) ≤ v3 then (post v2 I_1) else (∃ n_1, lfix (fun (r_1 : (Int32 × Int32) → Prop) (v5, v4) => if (I_1 1) ≤ v5 then (vp_in v3 40 ∧ (jn (fun (t : Int32) => ∀ v2_1 : Int32, v2_1 = v2 + t → ∀ v3_1 : Int32, v3_1 = v3 + 1 → r (v3_1, v2_1)) (fun k => jn (fun (_ : Unit) => k 0) (fun k_1 => if (A 5 v3.toNatClampNeg) = 0 then (k_1 ()) else (if v4 = x1 then (k 1) else (k_1 ())))))) else (wX10_passes I_1 A 0 v3 v5 (fun r50 => jn (fun (t_1 : Int32) => ∀ v4_1 : Int32, v4_1 = v4 + t_1 → ∀ v5_1 : Int32, v5_1 = v5 + 1 → r_1 (v5_1, v4_1)) (fun k_2 => if r50 = 0 then (k_2 1) else (k_2 0))))) n_1 (0, 0))) n (0, 0))))
abbrev rmX10_miss : Room := { frames := 2, cells := 0, slots := 0, locals := 55 }
theorem wd_X10_miss : Cond.instanceMethod yX10_miss ∈ BW ∧ Cond.selects yX10_miss.cls yX10_miss yX10_miss ∈ BW ∧ Cond.initialized yX10_miss.cls ∈ BW ∧ Cond.code yX10_miss cX10_miss 6 (some .int) ∈ BW := ⟨mw_6_57, mw_6_58, mw_1_11, mw_6_59⟩
set_option maxHeartbeats 4000000 in
set_option maxRecDepth 100000 in
theorem c_X10_miss {l : Launch} {D : va_G} {cy : Nat → ClassId} {ad : Nat → Nat} {Ad : Nat → Prop} (hAd : adok 16 Ad ad) (I : Nat → Int32) (A : Nat → Nat → Int32) (x1 : Int32)  (post : Int32 → (Nat → Int32) → Prop) (h : wX10_miss I A x1 post) : Met l yX10_miss (.code yX10_miss cX10_miss 6 (some .int) :: BW) rmX10_miss (va_Pc [.ref (ad 0), .int x1] (fun U => kC D cy U ∧ va_P D vwCl (wM cy ad I A) U.heap)) (qMi D cy ad Ad (fun r u => post r u.1 ∧ A = u.2)) 0 0 Ad := by
  refine startMi (by decide) (Nat.le_of_ble_eq_true rfl) (lv := [(0, .ref (ad 0)), (1, .int x1)]) rfl (fun p e s m args below meth c Q ls hx hb hml hT hown hK hret hl hP hS => ?_)
  unfold wX10_miss at h
  refine lv_aload_n hx hb dX10_miss_0 rfl (lv_at hl 0 rfl) ?_
  refine lv_iconst (v := 0) hx hb dX10_miss_1 (by decide) ?_
  refine pM_X10_thrown hAd hx hb hT hown hK.1 hP hS (hT _ mw_4_137) dX10_miss_2 (fun H locs hP hS => ?_)
  obtain ⟨I_1, eI_1⟩ : ∃ z, z = va_up I 0 0 := ⟨_, rfl⟩
  rw [← eI_1] at hP
  replace h := h I_1 eI_1
  refine lv_iload_n hx hb dX10_miss_5 rfl (lv_at hl 1 rfl) ?_
  refine lv_iconst (v := 0) hx hb dX10_miss_6 (by decide) ?_
  refine lv_iconst (v := 5) hx hb dX10_miss_7 (by decide) ?_
  refine callSMi (As := [.int x1, .int 0, .int 5]) (rest := []) (n := 3) (c_X10_within x1 0 5 _ h) hx hb hT hown hP hS mw_4_213 wd_X10_within (by decide +kernel) ⟨rfl, rfl⟩ (by decide) rfl hl.1 hml rfl (Nat.le_of_ble_eq_true rfl) dX10_miss_8 ⟨Nat.zero_le _, Nat.zero_le _⟩ (fun r8 H locs h hP hS => ?_)
  try dsimp only at h
  refine lv_if_ne (tgt := 16) hx hb dX10_miss_11 (by decide) (fun hc => ?_) (fun hc => ?_)
  · rw [if_neg hc] at h
    refine lv_iconst (v := 0) hx hb dX10_miss_16 (by decide) ?_
    refine lv_istore_n (lv' := [(2, .int 0), (0, .ref (ad 0)), (1, .int x1)]) hx hb dX10_miss_17 rfl hl (by decide) rfl (fun ls hl => ?_)
    refine lv_iconst (v := 0) hx hb dX10_miss_18 (by decide) ?_
    refine lv_istore_n (lv' := [(3, .int 0), (2, .int 0), (0, .ref (ad 0)), (1, .int x1)]) hx hb dX10_miss_19 rfl hl (by decide) rfl (fun ls hl => ?_)
    obtain ⟨F, n, h, hF, hG⟩ := lfix_ex h
    have LP : ∀ (n : Nat) (v3 : Int32) (v2 : Int32) (ls : Array Slot) (H : Heap) (locs : List Loc), F n (v3, v2) → lv_has ls 6 [(3, .int v3), (2, .int v2), (0, .ref (ad 0)), (1, .int x1)] → va_P D vwCl (wM cy ad I_1 A) H → va_S Ad s.heap H locs → W p l e rmX10_miss s m args below meth c H locs 0 0 Q (F0 m 20 ls []) := by
      intro n
      induction n with
      | zero => intro v3 v2 ls H locs h _ _ _; exact absurd h (hF _)
      | succ n ih =>
        intro v3 v2 ls H locs h hl hP hS
        replace h := hG _ _ h
        try dsimp only at h
        refine lv_iload_n hx hb dX10_miss_20 rfl (lv_at hl 0 rfl) ?_
        refine lv_aload_n hx hb dX10_miss_21 rfl (lv_at hl 2 rfl) ?_
        refine va_get (T := TX10) hx hb hT inlX10 hown hK.1 hP 0 he_X10 rfl 3 (by decide) (hT _ mw_4_140) (fun _ h9 => h9) rfl dX10_miss_22 ?_
        refine lv_icmp_ge (tgt := 99) hx hb dX10_miss_25 (by decide) (fun hc_1 => ?_) (fun hc_1 => ?_)
        · rw [if_pos hc_1] at h
          refine lv_iload_n hx hb dX10_miss_99 rfl (lv_at hl 1 rfl) ?_
          exact hret _ (I_1, A) dX10_miss_100 ⟨h, rfl⟩ hP hS
        · rw [if_neg hc_1] at h
          refine lv_iconst (v := 0) hx hb dX10_miss_28 (by decide) ?_
          refine lv_istore (lv' := [(4, .int 0), (3, .int v3), (2, .int v2), (0, .ref (ad 0)), (1, .int x1)]) hx hb dX10_miss_29 hl (by decide) rfl (fun ls hl => ?_)
          refine lv_iconst (v := 0) hx hb dX10_miss_31 (by decide) ?_
          refine lv_istore (lv' := [(5, .int 0), (4, .int 0), (3, .int v3), (2, .int v2), (0, .ref (ad 0)), (1, .int x1)]) hx hb dX10_miss_32 hl (by decide) rfl (fun ls hl => ?_)
          obtain ⟨F_1, n_1, h, hF_1, hG_1⟩ := lfix_ex h
          have LP_1 : ∀ (n_1 : Nat) (v5 : Int32) (v4 : Int32) (ls : Array Slot) (H : Heap) (locs : List Loc), F_1 n_1 (v5, v4) → lv_has ls 6 [(5, .int v5), (4, .int v4), (3, .int v3), (2, .int v2), (0, .ref (ad 0)), (1, .int x1)] → va_P D vwCl (wM cy ad I_1 A) H → va_S Ad s.heap H locs → W p l e rmX10_miss s m args below meth c H locs 0 0 Q (F0 m 34 ls []) := by
            intro n_1
            induction n_1 with
            | zero => intro v5 v4 ls H locs h _ _ _; exact absurd h (hF_1 _)
            | succ n_1 ih_1 =>
              intro v5 v4 ls H locs h hl hP hS
              replace h := hG_1 _ _ h
              try dsimp only at h
              refine lv_iload hx hb dX10_miss_34 (lv_at hl 0 rfl) ?_
              refine lv_aload_n hx hb dX10_miss_36 rfl (lv_at hl 4 rfl) ?_
              refine va_get (T := TX10) hx hb hT inlX10 hown hK.1 hP 0 he_X10 rfl 1 (by decide) (hT _ mw_4_138) (fun _ h9 => h9) rfl dX10_miss_37 ?_
              refine lv_icmp_ge (tgt := 70) hx hb dX10_miss_40 (by decide) (fun hc_2 => ?_) (fun hc_2 => ?_)
              · rw [if_pos hc_2] at h
                refine lv_iload_n hx hb dX10_miss_70 rfl (lv_at hl 3 rfl) ?_
                refine lv_aload_n hx hb dX10_miss_71 rfl (lv_at hl 4 rfl) ?_
                refine va_get (T := TX10) hx hb hT inlX10 hown hK.1 hP 0 he_X10 rfl 8 (by decide) (hT _ mw_4_145) (fun _ h9 => h9) rfl dX10_miss_72 ?_
                refine lv_iload_n hx hb dX10_miss_75 rfl (lv_at hl 2 rfl) ?_
                obtain ⟨hi, h⟩ := h
                refine lM_Z hx hb hK.1 hP (by decide) rfl hi dX10_miss_76 ?_
                obtain ⟨k, hk, h⟩ := jn_ex h
                try dsimp only at h
                have J : ∀ (t : Int32), k t → ∀ (ls : Array Slot) (H : Heap) (locs : List Loc), lv_has ls 6 [(3, .int v3), (0, .ref (ad 0)), (1, .int x1)] → va_P D vwCl (wM cy ad I_1 A) H → va_S Ad s.heap H locs → W p l e rmX10_miss s m args below meth c H locs 0 0 Q (F0 m 91 ls [.int t, .int v2]) := by
                  intro t h ls H locs hl hP hS
                  replace h := hk _ h
                  try dsimp only at h
                  refine lv_iadd hx hb dX10_miss_91 ?_
                  refine lv_topi (fun v2_1 ev2_1 => ?_)
                  replace h := h v2_1 ev2_1
                  refine lv_istore_n (lv' := [(2, .int v2_1), (3, .int v3), (0, .ref (ad 0)), (1, .int x1)]) hx hb dX10_miss_92 rfl hl (by decide) rfl (fun ls hl => ?_)
                  obtain ⟨v3_1, ev3_1⟩ : ∃ z : Int32, z = v3 + 1 := ⟨_, rfl⟩
                  replace h := h v3_1 ev3_1
                  refine lv_iinc (v := v3_1) (lv' := [(3, .int v3_1), (2, .int v2_1), (0, .ref (ad 0)), (1, .int x1)]) hx hb dX10_miss_93 hl (k := 1) rfl (by rw [ev3_1]; rfl) (by decide) rfl (fun ls hl => ?_)
                  refine lv_goto (tgt := 20) hx hb dX10_miss_96 (by decide) ?_
                  exact ih v3_1 v2_1 _ _ _ h (lv_sub hl [0, 1, 2, 3] rfl) hP hS
                obtain ⟨k_1, hk_1, h⟩ := jn_ex h
                try dsimp only at h
                have J_1 : k_1 () → ∀ (ls : Array Slot) (H : Heap) (locs : List Loc), lv_has ls 6 [(3, .int v3), (0, .ref (ad 0)), (1, .int x1)] → va_P D vwCl (wM cy ad I_1 A) H → va_S Ad s.heap H locs → W p l e rmX10_miss s m args below meth c H locs 0 0 Q (F0 m 90 ls [.int v2]) := by
                  intro  h ls H locs hl hP hS
                  replace h := hk_1 _ h
                  try dsimp only at h
                  refine lv_iconst (v := 0) hx hb dX10_miss_90 (by decide) ?_
                  exact J 0 h _ _ _ (lv_sub hl [0, 1, 2] rfl) hP hS
                refine lv_if_eq (tgt := 90) hx hb dX10_miss_77 (by decide) (fun hc_3 => ?_) (fun hc_3 => ?_)
                · rw [if_pos hc_3] at h
                  exact J_1  h _ _ _ (lv_sub hl [2, 4, 5] rfl) hP hS
                · rw [if_neg hc_3] at h
                  refine lv_iload hx hb dX10_miss_80 (lv_at hl 1 rfl) ?_
                  refine lv_iload_n hx hb dX10_miss_82 rfl (lv_at hl 5 rfl) ?_
                  refine lv_icmp_ne (tgt := 90) hx hb dX10_miss_83 (by decide) (fun hc_4 => ?_) (fun hc_4 => ?_)
                  · rw [if_neg hc_4] at h
                    exact J_1  h _ _ _ (lv_sub hl [2, 4, 5] rfl) hP hS
                  · rw [if_pos hc_4] at h
                    refine lv_iconst (v := 1) hx hb dX10_miss_86 (by decide) ?_
                    refine lv_goto (tgt := 91) hx hb dX10_miss_87 (by decide) ?_
                    exact J 1 h _ _ _ (lv_sub hl [2, 4, 5] rfl) hP hS
              · rw [if_neg hc_2] at h
                refine lv_iload hx hb dX10_miss_43 (lv_at hl 1 rfl) ?_
                refine lv_aload_n hx hb dX10_miss_45 rfl (lv_at hl 4 rfl) ?_
                refine lv_iconst (v := 0) hx hb dX10_miss_46 (by decide) ?_
                refine lv_iload_n hx hb dX10_miss_47 rfl (lv_at hl 2 rfl) ?_
                refine lv_iload hx hb dX10_miss_48 (lv_at hl 0 rfl) ?_
                refine callMi (k := 0) (As := [.int 0, .int v3, .int v5]) (rest := [.int v4]) (n := 3) (c_X10_passes hAd I_1 A 0 v3 v5 _ h) hx hb hT hown hK hP hS mw_5_96 wd_X10_passes (by decide +kernel) ⟨rfl, rfl⟩ (by decide) rfl rfl he_X10 rfl hl.1 hml rfl (Nat.le_of_ble_eq_true rfl) dX10_miss_50 ⟨Nat.zero_le _, Nat.zero_le _⟩ (fun r50 u H locs h hP hS => ?_)
                obtain ⟨Iu, Au⟩ := u
                dsimp only at h hP
                obtain ⟨h, rfl, rfl⟩ := h
                try dsimp only at h
                obtain ⟨k_2, hk_2, h⟩ := jn_ex h
                try dsimp only at h
                have J_2 : ∀ (t_1 : Int32), k_2 t_1 → ∀ (ls : Array Slot) (H : Heap) (locs : List Loc), lv_has ls 6 [(5, .int v5), (3, .int v3), (2, .int v2), (0, .ref (ad 0)), (1, .int x1)] → va_P D vwCl (wM cy ad I_1 A) H → va_S Ad s.heap H locs → W p l e rmX10_miss s m args below meth c H locs 0 0 Q (F0 m 61 ls [.int t_1, .int v4]) := by
                  intro t_1 h ls H locs hl hP hS
                  replace h := hk_2 _ h
                  try dsimp only at h
                  refine lv_iadd hx hb dX10_miss_61 ?_
                  refine lv_topi (fun v4_1 ev4_1 => ?_)
                  replace h := h v4_1 ev4_1
                  refine lv_istore (lv' := [(4, .int v4_1), (5, .int v5), (3, .int v3), (2, .int v2), (0, .ref (ad 0)), (1, .int x1)]) hx hb dX10_miss_62 hl (by decide) rfl (fun ls hl => ?_)
                  obtain ⟨v5_1, ev5_1⟩ : ∃ z : Int32, z = v5 + 1 := ⟨_, rfl⟩
                  replace h := h v5_1 ev5_1
                  refine lv_iinc (v := v5_1) (lv' := [(5, .int v5_1), (4, .int v4_1), (3, .int v3), (2, .int v2), (0, .ref (ad 0)), (1, .int x1)]) hx hb dX10_miss_64 hl (k := 1) rfl (by rw [ev5_1]; rfl) (by decide) rfl (fun ls hl => ?_)
                  refine lv_goto (tgt := 34) hx hb dX10_miss_67 (by decide) ?_
                  exact ih_1 v5_1 v4_1 _ _ _ h (lv_sub hl [0, 1, 2, 3, 4, 5] rfl) hP hS
                refine lv_if_eq (tgt := 60) hx hb dX10_miss_53 (by decide) (fun hc_5 => ?_) (fun hc_5 => ?_)
                · rw [if_pos hc_5] at h
                  refine lv_iconst (v := 1) hx hb dX10_miss_60 (by decide) ?_
                  exact J_2 1 h _ _ _ (lv_sub hl [0, 2, 3, 4, 5] rfl) hP hS
                · rw [if_neg hc_5] at h
                  refine lv_iconst (v := 0) hx hb dX10_miss_56 (by decide) ?_
                  refine lv_goto (tgt := 61) hx hb dX10_miss_57 (by decide) ?_
                  exact J_2 0 h _ _ _ (lv_sub hl [0, 2, 3, 4, 5] rfl) hP hS
          exact LP_1 _ 0 0 _ _ _ h (lv_sub hl [0, 1, 2, 3, 4, 5] rfl) hP hS
    exact LP _ 0 0 _ _ _ h (lv_sub hl [0, 1, 2, 3] rfl) hP hS
  · rw [if_pos hc] at h
    refine lv_iconst (v := (-1)) hx hb dX10_miss_14 (by decide) ?_
    exact hret _ (I_1, A) dX10_miss_15 ⟨h, rfl⟩ hP hS
theorem dX10_most_0 : decode cX10_most 0 = .ok (.aload_n 0, 1) := by decide +kernel
theorem dX10_most_1 : decode cX10_most 1 = .ok (.iconst 0, 1) := by decide +kernel
theorem dX10_most_2 : decode cX10_most 2 = .ok (.putfield 56, 3) := by decide +kernel
theorem dX10_most_5 : decode cX10_most 5 = .ok (.aload_n 0, 1) := by decide +kernel
theorem dX10_most_6 : decode cX10_most 6 = .ok (.invokevirtual 143, 3) := by decide +kernel
theorem dX10_most_9 : decode cX10_most 9 = .ok (.iconst (-1), 1) := by decide +kernel
theorem dX10_most_10 : decode cX10_most 10 = .ok (.istore_n 1, 1) := by decide +kernel
theorem dX10_most_11 : decode cX10_most 11 = .ok (.iconst 0, 1) := by decide +kernel
theorem dX10_most_12 : decode cX10_most 12 = .ok (.istore_n 2, 1) := by decide +kernel
theorem dX10_most_13 : decode cX10_most 13 = .ok (.iload_n 2, 1) := by decide +kernel
theorem dX10_most_14 : decode cX10_most 14 = .ok (.aload_n 0, 1) := by decide +kernel
theorem dX10_most_15 : decode cX10_most 15 = .ok (.getfield 137, 3) := by decide +kernel
theorem dX10_most_18 : decode cX10_most 18 = .ok (.if_icmp .ge 51, 3) := by decide +kernel
theorem dX10_most_21 : decode cX10_most 21 = .ok (.aload_n 0, 1) := by decide +kernel
theorem dX10_most_22 : decode cX10_most 22 = .ok (.getfield 41, 3) := by decide +kernel
theorem dX10_most_25 : decode cX10_most 25 = .ok (.iload_n 2, 1) := by decide +kernel
theorem dX10_most_26 : decode cX10_most 26 = .ok (.iaload, 1) := by decide +kernel
theorem dX10_most_27 : decode cX10_most 27 = .ok (.istore_n 3, 1) := by decide +kernel
theorem dX10_most_28 : decode cX10_most 28 = .ok (.aload_n 0, 1) := by decide +kernel
theorem dX10_most_29 : decode cX10_most 29 = .ok (.iconst 0, 1) := by decide +kernel
theorem dX10_most_30 : decode cX10_most 30 = .ok (.iload_n 3, 1) := by decide +kernel
theorem dX10_most_31 : decode cX10_most 31 = .ok (.iconst (-1), 1) := by decide +kernel
theorem dX10_most_32 : decode cX10_most 32 = .ok (.invokevirtual 134, 3) := by decide +kernel
theorem dX10_most_35 : decode cX10_most 35 = .ok (.ifCond .eq 26, 3) := by decide +kernel
theorem dX10_most_38 : decode cX10_most 38 = .ok (.iload_n 1, 1) := by decide +kernel
theorem dX10_most_39 : decode cX10_most 39 = .ok (.ifCond .lt 18, 3) := by decide +kernel
theorem dX10_most_42 : decode cX10_most 42 = .ok (.aload_n 0, 1) := by decide +kernel
theorem dX10_most_43 : decode cX10_most 43 = .ok (.iload_n 3, 1) := by decide +kernel
theorem dX10_most_44 : decode cX10_most 44 = .ok (.iload_n 3, 1) := by decide +kernel
theorem dX10_most_45 : decode cX10_most 45 = .ok (.invokevirtual 221, 3) := by decide +kernel
theorem dX10_most_48 : decode cX10_most 48 = .ok (.aload_n 0, 1) := by decide +kernel
theorem dX10_most_49 : decode cX10_most 49 = .ok (.iload_n 1, 1) := by decide +kernel
theorem dX10_most_50 : decode cX10_most 50 = .ok (.iload_n 1, 1) := by decide +kernel
theorem dX10_most_51 : decode cX10_most 51 = .ok (.invokevirtual 221, 3) := by decide +kernel
theorem dX10_most_54 : decode cX10_most 54 = .ok (.if_icmp .le 7, 3) := by decide +kernel
theorem dX10_most_57 : decode cX10_most 57 = .ok (.iload_n 3, 1) := by decide +kernel
theorem dX10_most_58 : decode cX10_most 58 = .ok (.goto 4, 3) := by decide +kernel
theorem dX10_most_61 : decode cX10_most 61 = .ok (.iload_n 1, 1) := by decide +kernel
theorem dX10_most_62 : decode cX10_most 62 = .ok (.istore_n 1, 1) := by decide +kernel
theorem dX10_most_63 : decode cX10_most 63 = .ok (.iinc 2 1, 3) := by decide +kernel
theorem dX10_most_66 : decode cX10_most 66 = .ok (.goto (-53), 3) := by decide +kernel
theorem dX10_most_69 : decode cX10_most 69 = .ok (.iload_n 1, 1) := by decide +kernel
theorem dX10_most_70 : decode cX10_most 70 = .ok (.ireturn, 1) := by decide +kernel
def wX10_most (I : Nat → Int32) (A : Nat → Nat → Int32)  (post : Int32 → (Nat → Int32) → (Nat → Nat → Int32) → Prop) : Prop := (∀ I_1, I_1 = va_up I 0 0 → wX10_orders I_1 A  (fun I_2 A_1 => ∃ n, lfix (fun (r : (Int32 × Int32) → Prop) (v2, v1) => if (I_2 5) ≤ v2 then (post v1 I_2 A_1) else (vp_in v2 40 ∧ (∀ v3 : Int32, v3 = A_1 11 v2.toNatClampNeg → wX10_isNear I_2 A_1 0 v3 (-1) (fun r32 => jn (fun (t : Int32) => ∀ v2_1 : Int32, v2_1 = v2 + 1 → r (v2_1, t)) (fun k => jn (fun (_ : Unit) => k v1) (fun k_1 => if r32 = 0 then (k_1 ()) else (jn (fun (_ : Unit) => k v3) (fun k_2 => if v1 < 0 then (k_2 ()) else (wX10_alikeOf I_2 A_1 v3 v3 (fun r45 => wX10_alikeOf I_2 A_1 v1 v1 (fun r51 => if r45 ≤ r51 then (k_1 ()) else (k_2 ())))))))))))) n (0, (-1))))
abbrev rmX10_most : Room := { frames := 3, cells := 0, slots := 0, locals := 80 }
theorem wd_X10_most : Cond.instanceMethod yX10_most ∈ BW ∧ Cond.selects yX10_most.cls yX10_most yX10_most ∈ BW ∧ Cond.initialized yX10_most.cls ∈ BW ∧ Cond.code yX10_most cX10_most 4 (some .int) ∈ BW := ⟨mw_6_61, mw_6_62, mw_1_11, mw_6_63⟩
set_option maxHeartbeats 4000000 in
set_option maxRecDepth 100000 in
theorem c_X10_most {l : Launch} {D : va_G} {cy : Nat → ClassId} {ad : Nat → Nat} {Ad : Nat → Prop} (hAd : adok 16 Ad ad) (I : Nat → Int32) (A : Nat → Nat → Int32)   (post : Int32 → (Nat → Int32) → (Nat → Nat → Int32) → Prop) (h : wX10_most I A  post) : Met l yX10_most (.code yX10_most cX10_most 4 (some .int) :: BW) rmX10_most (va_Pc [.ref (ad 0)] (fun U => kC D cy U ∧ va_P D vwCl (wM cy ad I A) U.heap)) (qMi D cy ad Ad (fun r u => post r u.1 u.2)) 0 0 Ad := by
  refine startMi (by decide) (Nat.le_of_ble_eq_true rfl) (lv := [(0, .ref (ad 0))]) rfl (fun p e s m args below meth c Q ls hx hb hml hT hown hK hret hl hP hS => ?_)
  unfold wX10_most at h
  refine lv_aload_n hx hb dX10_most_0 rfl (lv_at hl 0 rfl) ?_
  refine lv_iconst (v := 0) hx hb dX10_most_1 (by decide) ?_
  refine pM_X10_thrown hAd hx hb hT hown hK.1 hP hS (hT _ mw_4_137) dX10_most_2 (fun H locs hP hS => ?_)
  obtain ⟨I_1, eI_1⟩ : ∃ z, z = va_up I 0 0 := ⟨_, rfl⟩
  rw [← eI_1] at hP
  replace h := h I_1 eI_1
  refine lv_aload_n hx hb dX10_most_5 rfl (lv_at hl 0 rfl) ?_
  refine callMv (k := 0) (As := []) (rest := []) (n := 0) (c_X10_orders hAd I_1 A  _ h) hx hb hT hown hK hP hS mw_5_120 wd_X10_orders (by decide +kernel) ⟨rfl, rfl⟩ (by decide) rfl rfl he_X10 rfl hl.1 hml rfl (Nat.le_of_ble_eq_true rfl) dX10_most_6 ⟨Nat.zero_le _, Nat.zero_le _⟩ (fun u H locs h hP hS => ?_)
  obtain ⟨I_2, A_1⟩ := u
  dsimp only at h hP
  refine lv_iconst (v := (-1)) hx hb dX10_most_9 (by decide) ?_
  refine lv_istore_n (lv' := [(1, .int (-1)), (0, .ref (ad 0))]) hx hb dX10_most_10 rfl hl (by decide) rfl (fun ls hl => ?_)
  refine lv_iconst (v := 0) hx hb dX10_most_11 (by decide) ?_
  refine lv_istore_n (lv' := [(2, .int 0), (1, .int (-1)), (0, .ref (ad 0))]) hx hb dX10_most_12 rfl hl (by decide) rfl (fun ls hl => ?_)
  obtain ⟨F, n, h, hF, hG⟩ := lfix_ex h
  have LP : ∀ (n : Nat) (v2 : Int32) (v1 : Int32) (ls : Array Slot) (H : Heap) (locs : List Loc), F n (v2, v1) → lv_has ls 4 [(2, .int v2), (1, .int v1), (0, .ref (ad 0))] → va_P D vwCl (wM cy ad I_2 A_1) H → va_S Ad s.heap H locs → W p l e rmX10_most s m args below meth c H locs 0 0 Q (F0 m 13 ls []) := by
    intro n
    induction n with
    | zero => intro v2 v1 ls H locs h _ _ _; exact absurd h (hF _)
    | succ n ih =>
      intro v2 v1 ls H locs h hl hP hS
      replace h := hG _ _ h
      try dsimp only at h
      refine lv_iload_n hx hb dX10_most_13 rfl (lv_at hl 0 rfl) ?_
      refine lv_aload_n hx hb dX10_most_14 rfl (lv_at hl 2 rfl) ?_
      refine va_get (T := TX10) hx hb hT inlX10 hown hK.1 hP 0 he_X10 rfl 16 (by decide) (hT _ mw_4_153) (fun _ h9 => h9) rfl dX10_most_15 ?_
      refine lv_icmp_ge (tgt := 69) hx hb dX10_most_18 (by decide) (fun hc => ?_) (fun hc => ?_)
      · rw [if_pos hc] at h
        refine lv_iload_n hx hb dX10_most_69 rfl (lv_at hl 1 rfl) ?_
        exact hret _ (I_2, A_1) dX10_most_70 h hP hS
      · rw [if_neg hc] at h
        refine lv_aload_n hx hb dX10_most_21 rfl (lv_at hl 2 rfl) ?_
        refine va_get (T := TX10) hx hb hT inlX10 hown hK.1 hP 0 he_X10 rfl 15 (by decide) (hT _ mw_4_152) (fun _ h9 => h9) rfl dX10_most_22 ?_
        refine lv_iload_n hx hb dX10_most_25 rfl (lv_at hl 0 rfl) ?_
        obtain ⟨hi, h⟩ := h
        refine lM_I hx hb hK.1 hP (by decide) rfl hi dX10_most_26 ?_
        refine lv_topi (fun v3 ev3 => ?_)
        replace h := h v3 ev3
        refine lv_istore_n (lv' := [(3, .int v3), (2, .int v2), (1, .int v1), (0, .ref (ad 0))]) hx hb dX10_most_27 rfl hl (by decide) rfl (fun ls hl => ?_)
        refine lv_aload_n hx hb dX10_most_28 rfl (lv_at hl 3 rfl) ?_
        refine lv_iconst (v := 0) hx hb dX10_most_29 (by decide) ?_
        refine lv_iload_n hx hb dX10_most_30 rfl (lv_at hl 0 rfl) ?_
        refine lv_iconst (v := (-1)) hx hb dX10_most_31 (by decide) ?_
        refine callMi (k := 0) (As := [.int 0, .int v3, .int (-1)]) (rest := []) (n := 3) (c_X10_isNear hAd I_2 A_1 0 v3 (-1) _ h) hx hb hT hown hK hP hS mw_5_92 wd_X10_isNear (by decide +kernel) ⟨rfl, rfl⟩ (by decide) rfl rfl he_X10 rfl hl.1 hml rfl (Nat.le_of_ble_eq_true rfl) dX10_most_32 ⟨Nat.zero_le _, Nat.zero_le _⟩ (fun r32 u H locs h hP hS => ?_)
        obtain ⟨Iu, Au⟩ := u
        dsimp only at h hP
        obtain ⟨h, rfl, rfl⟩ := h
        try dsimp only at h
        obtain ⟨k, hk, h⟩ := jn_ex h
        try dsimp only at h
        have J : ∀ (t : Int32), k t → ∀ (ls : Array Slot) (H : Heap) (locs : List Loc), lv_has ls 4 [(2, .int v2), (0, .ref (ad 0))] → va_P D vwCl (wM cy ad I_2 A_1) H → va_S Ad s.heap H locs → W p l e rmX10_most s m args below meth c H locs 0 0 Q (F0 m 62 ls [.int t]) := by
          intro t h ls H locs hl hP hS
          replace h := hk _ h
          try dsimp only at h
          refine lv_istore_n (lv' := [(1, .int t), (2, .int v2), (0, .ref (ad 0))]) hx hb dX10_most_62 rfl hl (by decide) rfl (fun ls hl => ?_)
          obtain ⟨v2_1, ev2_1⟩ : ∃ z : Int32, z = v2 + 1 := ⟨_, rfl⟩
          replace h := h v2_1 ev2_1
          refine lv_iinc (v := v2_1) (lv' := [(2, .int v2_1), (1, .int t), (0, .ref (ad 0))]) hx hb dX10_most_63 hl (k := 1) rfl (by rw [ev2_1]; rfl) (by decide) rfl (fun ls hl => ?_)
          refine lv_goto (tgt := 13) hx hb dX10_most_66 (by decide) ?_
          exact ih v2_1 t _ _ _ h (lv_sub hl [0, 1, 2] rfl) hP hS
        obtain ⟨k_1, hk_1, h⟩ := jn_ex h
        try dsimp only at h
        have J_1 : k_1 () → ∀ (ls : Array Slot) (H : Heap) (locs : List Loc), lv_has ls 4 [(2, .int v2), (1, .int v1), (0, .ref (ad 0))] → va_P D vwCl (wM cy ad I_2 A_1) H → va_S Ad s.heap H locs → W p l e rmX10_most s m args below meth c H locs 0 0 Q (F0 m 61 ls []) := by
          intro  h ls H locs hl hP hS
          replace h := hk_1 _ h
          try dsimp only at h
          refine lv_iload_n hx hb dX10_most_61 rfl (lv_at hl 1 rfl) ?_
          exact J v1 h _ _ _ (lv_sub hl [0, 2] rfl) hP hS
        refine lv_if_eq (tgt := 61) hx hb dX10_most_35 (by decide) (fun hc_1 => ?_) (fun hc_1 => ?_)
        · rw [if_pos hc_1] at h
          exact J_1  h _ _ _ (lv_sub hl [1, 2, 3] rfl) hP hS
        · rw [if_neg hc_1] at h
          refine lv_iload_n hx hb dX10_most_38 rfl (lv_at hl 2 rfl) ?_
          obtain ⟨k_2, hk_2, h⟩ := jn_ex h
          try dsimp only at h
          have J_2 : k_2 () → ∀ (ls : Array Slot) (H : Heap) (locs : List Loc), lv_has ls 4 [(3, .int v3), (2, .int v2), (0, .ref (ad 0))] → va_P D vwCl (wM cy ad I_2 A_1) H → va_S Ad s.heap H locs → W p l e rmX10_most s m args below meth c H locs 0 0 Q (F0 m 57 ls []) := by
            intro  h ls H locs hl hP hS
            replace h := hk_2 _ h
            try dsimp only at h
            refine lv_iload_n hx hb dX10_most_57 rfl (lv_at hl 0 rfl) ?_
            refine lv_goto (tgt := 62) hx hb dX10_most_58 (by decide) ?_
            exact J v3 h _ _ _ (lv_sub hl [1, 2] rfl) hP hS
          refine lv_if_lt (tgt := 57) hx hb dX10_most_39 (by decide) (fun hc_2 => ?_) (fun hc_2 => ?_)
          · rw [if_pos hc_2] at h
            exact J_2  h _ _ _ (lv_sub hl [0, 1, 3] rfl) hP hS
          · rw [if_neg hc_2] at h
            refine lv_aload_n hx hb dX10_most_42 rfl (lv_at hl 3 rfl) ?_
            refine lv_iload_n hx hb dX10_most_43 rfl (lv_at hl 0 rfl) ?_
            refine lv_iload_n hx hb dX10_most_44 rfl (lv_at hl 0 rfl) ?_
            refine callMi (k := 0) (As := [.int v3, .int v3]) (rest := []) (n := 2) (c_X10_alikeOf hAd I_2 A_1 v3 v3 _ h) hx hb hT hown hK hP hS mw_6_48 wd_X10_alikeOf (by decide +kernel) ⟨rfl, rfl⟩ (by decide) rfl rfl he_X10 rfl hl.1 hml rfl (Nat.le_of_ble_eq_true rfl) dX10_most_45 ⟨Nat.zero_le _, Nat.zero_le _⟩ (fun r45 u H locs h hP hS => ?_)
            obtain ⟨Iu_1, Au_1⟩ := u
            dsimp only at h hP
            obtain ⟨h, rfl, rfl⟩ := h
            try dsimp only at h
            refine lv_aload_n hx hb dX10_most_48 rfl (lv_at hl 3 rfl) ?_
            refine lv_iload_n hx hb dX10_most_49 rfl (lv_at hl 2 rfl) ?_
            refine lv_iload_n hx hb dX10_most_50 rfl (lv_at hl 2 rfl) ?_
            refine callMi (k := 0) (As := [.int v1, .int v1]) (rest := [.int r45]) (n := 2) (c_X10_alikeOf hAd I_2 A_1 v1 v1 _ h) hx hb hT hown hK hP hS mw_6_48 wd_X10_alikeOf (by decide +kernel) ⟨rfl, rfl⟩ (by decide) rfl rfl he_X10 rfl hl.1 hml rfl (Nat.le_of_ble_eq_true rfl) dX10_most_51 ⟨Nat.zero_le _, Nat.zero_le _⟩ (fun r51 u H locs h hP hS => ?_)
            obtain ⟨Iu_2, Au_2⟩ := u
            dsimp only at h hP
            obtain ⟨h, rfl, rfl⟩ := h
            try dsimp only at h
            refine lv_icmp_le (tgt := 61) hx hb dX10_most_54 (by decide) (fun hc_3 => ?_) (fun hc_3 => ?_)
            · rw [if_pos hc_3] at h
              exact J_1  h _ _ _ (lv_sub hl [1, 2, 3] rfl) hP hS
            · rw [if_neg hc_3] at h
              exact J_2  h _ _ _ (lv_sub hl [0, 1, 3] rfl) hP hS
  exact LP _ 0 (-1) _ _ _ h (lv_sub hl [0, 1, 2] rfl) hP hS
theorem dX10_numberedAt_0 : decode cX10_numberedAt 0 = .ok (.iconst 0, 1) := by decide +kernel
theorem dX10_numberedAt_1 : decode cX10_numberedAt 1 = .ok (.istore_n 2, 1) := by decide +kernel
theorem dX10_numberedAt_2 : decode cX10_numberedAt 2 = .ok (.aload_n 0, 1) := by decide +kernel
theorem dX10_numberedAt_3 : decode cX10_numberedAt 3 = .ok (.getfield 44, 3) := by decide +kernel
theorem dX10_numberedAt_6 : decode cX10_numberedAt 6 = .ok (.iconst 0, 1) := by decide +kernel
theorem dX10_numberedAt_7 : decode cX10_numberedAt 7 = .ok (.iaload, 1) := by decide +kernel
theorem dX10_numberedAt_8 : decode cX10_numberedAt 8 = .ok (.istore_n 3, 1) := by decide +kernel
theorem dX10_numberedAt_9 : decode cX10_numberedAt 9 = .ok (.iload_n 3, 1) := by decide +kernel
theorem dX10_numberedAt_10 : decode cX10_numberedAt 10 = .ok (.iload_n 1, 1) := by decide +kernel
theorem dX10_numberedAt_11 : decode cX10_numberedAt 11 = .ok (.if_icmp .gt 18, 3) := by decide +kernel
theorem dX10_numberedAt_14 : decode cX10_numberedAt 14 = .ok (.iinc 2 1, 3) := by decide +kernel
theorem dX10_numberedAt_17 : decode cX10_numberedAt 17 = .ok (.iload_n 3, 1) := by decide +kernel
theorem dX10_numberedAt_18 : decode cX10_numberedAt 18 = .ok (.aload_n 0, 1) := by decide +kernel
theorem dX10_numberedAt_19 : decode cX10_numberedAt 19 = .ok (.getfield 44, 3) := by decide +kernel
theorem dX10_numberedAt_22 : decode cX10_numberedAt 22 = .ok (.iload_n 2, 1) := by decide +kernel
theorem dX10_numberedAt_23 : decode cX10_numberedAt 23 = .ok (.iaload, 1) := by decide +kernel
theorem dX10_numberedAt_24 : decode cX10_numberedAt 24 = .ok (.iadd, 1) := by decide +kernel
theorem dX10_numberedAt_25 : decode cX10_numberedAt 25 = .ok (.istore_n 3, 1) := by decide +kernel
theorem dX10_numberedAt_26 : decode cX10_numberedAt 26 = .ok (.goto (-17), 3) := by decide +kernel
theorem dX10_numberedAt_29 : decode cX10_numberedAt 29 = .ok (.iload_n 2, 1) := by decide +kernel
theorem dX10_numberedAt_30 : decode cX10_numberedAt 30 = .ok (.sipush (-999), 3) := by decide +kernel
theorem dX10_numberedAt_33 : decode cX10_numberedAt 33 = .ok (.iadd, 1) := by decide +kernel
theorem dX10_numberedAt_34 : decode cX10_numberedAt 34 = .ok (.ireturn, 1) := by decide +kernel
def wX10_numberedAt (I : Nat → Int32) (A : Nat → Nat → Int32) (x1 : Int32) (post : Int32 → Prop) : Prop := vp_in 0 1999 ∧ (∀ v3 : Int32, v3 = A 12 (0 : Int32).toNatClampNeg → ∃ n, lfix (fun (r : (Int32 × Int32) → Prop) (v3_1, v2) => if x1 < v3_1 then (post (v2 + (-999))) else (∀ v2_1 : Int32, v2_1 = v2 + 1 → vp_in v2_1 1999 ∧ (∀ v3_2 : Int32, v3_2 = v3_1 + (A 12 v2_1.toNatClampNeg) → r (v3_2, v2_1)))) n (v3, 0))
abbrev rmX10_numberedAt : Room := { frames := 0, cells := 0, slots := 0, locals := 0 }
theorem wd_X10_numberedAt : Cond.instanceMethod yX10_numberedAt ∈ BW ∧ Cond.selects yX10_numberedAt.cls yX10_numberedAt yX10_numberedAt ∈ BW ∧ Cond.initialized yX10_numberedAt.cls ∈ BW ∧ Cond.code yX10_numberedAt cX10_numberedAt 4 (some .int) ∈ BW := ⟨mw_6_70, mp_59, mw_1_11, mw_6_71⟩
set_option maxHeartbeats 4000000 in
set_option maxRecDepth 100000 in
theorem c_X10_numberedAt {l : Launch} {D : va_G} {cy : Nat → ClassId} {ad : Nat → Nat} {Ad : Nat → Prop} (hAd : adok 16 Ad ad) (I : Nat → Int32) (A : Nat → Nat → Int32) (x1 : Int32)  (post : Int32 → Prop) (h : wX10_numberedAt I A x1 post) : Met l yX10_numberedAt (.code yX10_numberedAt cX10_numberedAt 4 (some .int) :: BW) rmX10_numberedAt (va_Pc [.ref (ad 0), .int x1] (fun U => kC D cy U ∧ va_P D vwCl (wM cy ad I A) U.heap)) (qMi D cy ad Ad (fun r u => post r  ∧ I = u.1 ∧ A = u.2)) 0 0 Ad := by
  refine startMi (by decide) (Nat.le_of_ble_eq_true rfl) (lv := [(0, .ref (ad 0)), (1, .int x1)]) rfl (fun p e s m args below meth c Q ls hx hb hml hT hown hK hret hl hP hS => ?_)
  unfold wX10_numberedAt at h
  refine lv_iconst (v := 0) hx hb dX10_numberedAt_0 (by decide) ?_
  refine lv_istore_n (lv' := [(2, .int 0), (0, .ref (ad 0)), (1, .int x1)]) hx hb dX10_numberedAt_1 rfl hl (by decide) rfl (fun ls hl => ?_)
  refine lv_aload_n hx hb dX10_numberedAt_2 rfl (lv_at hl 1 rfl) ?_
  refine va_get (T := TX10) hx hb hT inlX10 hown hK.1 hP 0 he_X10 rfl 17 (by decide) (hT _ mw_4_154) (fun _ h9 => h9) rfl dX10_numberedAt_3 ?_
  refine lv_iconst (v := 0) hx hb dX10_numberedAt_6 (by decide) ?_
  obtain ⟨hi, h⟩ := h
  refine lM_I hx hb hK.1 hP (by decide) rfl hi dX10_numberedAt_7 ?_
  refine lv_topi (fun v3 ev3 => ?_)
  replace h := h v3 ev3
  refine lv_istore_n (lv' := [(3, .int v3), (2, .int 0), (0, .ref (ad 0)), (1, .int x1)]) hx hb dX10_numberedAt_8 rfl hl (by decide) rfl (fun ls hl => ?_)
  obtain ⟨F, n, h, hF, hG⟩ := lfix_ex h
  have LP : ∀ (n : Nat) (v3_1 : Int32) (v2 : Int32) (ls : Array Slot) (H : Heap) (locs : List Loc), F n (v3_1, v2) → lv_has ls 4 [(3, .int v3_1), (2, .int v2), (0, .ref (ad 0)), (1, .int x1)] → va_P D vwCl (wM cy ad I A) H → va_S Ad s.heap H locs → W p l e rmX10_numberedAt s m args below meth c H locs 0 0 Q (F0 m 9 ls []) := by
    intro n
    induction n with
    | zero => intro v3_1 v2 ls H locs h _ _ _; exact absurd h (hF _)
    | succ n ih =>
      intro v3_1 v2 ls H locs h hl hP hS
      replace h := hG _ _ h
      try dsimp only at h
      refine lv_iload_n hx hb dX10_numberedAt_9 rfl (lv_at hl 0 rfl) ?_
      refine lv_iload_n hx hb dX10_numberedAt_10 rfl (lv_at hl 3 rfl) ?_
      refine lv_icmp_gt (tgt := 29) hx hb dX10_numberedAt_11 (by decide) (fun hc => ?_) (fun hc => ?_)
      · rw [if_pos hc] at h
        refine lv_iload_n hx hb dX10_numberedAt_29 rfl (lv_at hl 1 rfl) ?_
        refine lv_sipush (v := (-999)) hx hb dX10_numberedAt_30 (by decide) ?_
        refine lv_iadd hx hb dX10_numberedAt_33 ?_
        exact hret _ (I, A) dX10_numberedAt_34 ⟨h, rfl, rfl⟩ hP hS
      · rw [if_neg hc] at h
        obtain ⟨v2_1, ev2_1⟩ : ∃ z : Int32, z = v2 + 1 := ⟨_, rfl⟩
        replace h := h v2_1 ev2_1
        refine lv_iinc (v := v2_1) (lv' := [(2, .int v2_1), (3, .int v3_1), (0, .ref (ad 0)), (1, .int x1)]) hx hb dX10_numberedAt_14 hl (k := 1) rfl (by rw [ev2_1]; rfl) (by decide) rfl (fun ls hl => ?_)
        refine lv_iload_n hx hb dX10_numberedAt_17 rfl (lv_at hl 1 rfl) ?_
        refine lv_aload_n hx hb dX10_numberedAt_18 rfl (lv_at hl 2 rfl) ?_
        refine va_get (T := TX10) hx hb hT inlX10 hown hK.1 hP 0 he_X10 rfl 17 (by decide) (hT _ mw_4_154) (fun _ h9 => h9) rfl dX10_numberedAt_19 ?_
        refine lv_iload_n hx hb dX10_numberedAt_22 rfl (lv_at hl 0 rfl) ?_
        obtain ⟨hi_1, h⟩ := h
        refine lM_I hx hb hK.1 hP (by decide) rfl hi_1 dX10_numberedAt_23 ?_
        refine lv_iadd hx hb dX10_numberedAt_24 ?_
        refine lv_topi (fun v3_2 ev3_2 => ?_)
        replace h := h v3_2 ev3_2
        refine lv_istore_n (lv' := [(3, .int v3_2), (2, .int v2_1), (0, .ref (ad 0)), (1, .int x1)]) hx hb dX10_numberedAt_25 rfl hl (by decide) rfl (fun ls hl => ?_)
        refine lv_goto (tgt := 9) hx hb dX10_numberedAt_26 (by decide) ?_
        exact ih v3_2 v2_1 _ _ _ h (lv_sub hl [0, 1, 2, 3] rfl) hP hS
  exact LP _ v3 0 _ _ _ h (lv_sub hl [0, 1, 2, 3] rfl) hP hS
theorem dX10_middle_0 : decode cX10_middle 0 = .ok (.aload_n 0, 1) := by decide +kernel
theorem dX10_middle_1 : decode cX10_middle 1 = .ok (.iconst 0, 1) := by decide +kernel
theorem dX10_middle_2 : decode cX10_middle 2 = .ok (.putfield 56, 3) := by decide +kernel
theorem dX10_middle_5 : decode cX10_middle 5 = .ok (.aload_n 0, 1) := by decide +kernel
theorem dX10_middle_6 : decode cX10_middle 6 = .ok (.iconst 0, 1) := by decide +kernel
theorem dX10_middle_7 : decode cX10_middle 7 = .ok (.putfield 170, 3) := by decide +kernel
theorem dX10_middle_10 : decode cX10_middle 10 = .ok (.aload_n 0, 1) := by decide +kernel
theorem dX10_middle_11 : decode cX10_middle 11 = .ok (.iload_n 1, 1) := by decide +kernel
theorem dX10_middle_12 : decode cX10_middle 12 = .ok (.invokevirtual 100, 3) := by decide +kernel
theorem dX10_middle_15 : decode cX10_middle 15 = .ok (.ifCond .eq 9, 3) := by decide +kernel
theorem dX10_middle_18 : decode cX10_middle 18 = .ok (.aload_n 0, 1) := by decide +kernel
theorem dX10_middle_19 : decode cX10_middle 19 = .ok (.iload_n 1, 1) := by decide +kernel
theorem dX10_middle_20 : decode cX10_middle 20 = .ok (.iconst (-1), 1) := by decide +kernel
theorem dX10_middle_21 : decode cX10_middle 21 = .ok (.invokevirtual 173, 3) := by decide +kernel
theorem dX10_middle_24 : decode cX10_middle 24 = .ok (.aload_n 0, 1) := by decide +kernel
theorem dX10_middle_25 : decode cX10_middle 25 = .ok (.aload_n 0, 1) := by decide +kernel
theorem dX10_middle_26 : decode cX10_middle 26 = .ok (.getfield 170, 3) := by decide +kernel
theorem dX10_middle_29 : decode cX10_middle 29 = .ok (.ifCond .eq 12, 3) := by decide +kernel
theorem dX10_middle_32 : decode cX10_middle 32 = .ok (.iload_n 2, 1) := by decide +kernel
theorem dX10_middle_33 : decode cX10_middle 33 = .ok (.iconst 0, 1) := by decide +kernel
theorem dX10_middle_34 : decode cX10_middle 34 = .ok (.iconst 1, 1) := by decide +kernel
theorem dX10_middle_35 : decode cX10_middle 35 = .ok (.invokestatic 73, 3) := by decide +kernel
theorem dX10_middle_38 : decode cX10_middle 38 = .ok (.ifCond .ne 7, 3) := by decide +kernel
theorem dX10_middle_41 : decode cX10_middle 41 = .ok (.iconst 1, 1) := by decide +kernel
theorem dX10_middle_42 : decode cX10_middle 42 = .ok (.goto 4, 3) := by decide +kernel
theorem dX10_middle_45 : decode cX10_middle 45 = .ok (.iconst 0, 1) := by decide +kernel
theorem dX10_middle_46 : decode cX10_middle 46 = .ok (.putfield 56, 3) := by decide +kernel
theorem dX10_middle_49 : decode cX10_middle 49 = .ok (.aload_n 0, 1) := by decide +kernel
theorem dX10_middle_50 : decode cX10_middle 50 = .ok (.getfield 56, 3) := by decide +kernel
theorem dX10_middle_53 : decode cX10_middle 53 = .ok (.ifCond .le 5, 3) := by decide +kernel
theorem dX10_middle_56 : decode cX10_middle 56 = .ok (.iconst 0, 1) := by decide +kernel
theorem dX10_middle_57 : decode cX10_middle 57 = .ok (.ireturn, 1) := by decide +kernel
theorem dX10_middle_58 : decode cX10_middle 58 = .ok (.aload_n 0, 1) := by decide +kernel
theorem dX10_middle_59 : decode cX10_middle 59 = .ok (.iload_n 2, 1) := by decide +kernel
theorem dX10_middle_60 : decode cX10_middle 60 = .ok (.ifCond .ne 14, 3) := by decide +kernel
theorem dX10_middle_63 : decode cX10_middle 63 = .ok (.aload_n 0, 1) := by decide +kernel
theorem dX10_middle_64 : decode cX10_middle 64 = .ok (.getfield 170, 3) := by decide +kernel
theorem dX10_middle_67 : decode cX10_middle 67 = .ok (.iconst 1, 1) := by decide +kernel
theorem dX10_middle_68 : decode cX10_middle 68 = .ok (.isub, 1) := by decide +kernel
theorem dX10_middle_69 : decode cX10_middle 69 = .ok (.iconst 2, 1) := by decide +kernel
theorem dX10_middle_70 : decode cX10_middle 70 = .ok (.idiv, 1) := by decide +kernel
theorem dX10_middle_71 : decode cX10_middle 71 = .ok (.goto 4, 3) := by decide +kernel
theorem dX10_middle_74 : decode cX10_middle 74 = .ok (.iconst 0, 1) := by decide +kernel
theorem dX10_middle_75 : decode cX10_middle 75 = .ok (.invokevirtual 224, 3) := by decide +kernel
theorem dX10_middle_78 : decode cX10_middle 78 = .ok (.istore_n 3, 1) := by decide +kernel
theorem dX10_middle_79 : decode cX10_middle 79 = .ok (.iload_n 2, 1) := by decide +kernel
theorem dX10_middle_80 : decode cX10_middle 80 = .ok (.ifCond .ne 7, 3) := by decide +kernel
theorem dX10_middle_83 : decode cX10_middle 83 = .ok (.iload_n 3, 1) := by decide +kernel
theorem dX10_middle_84 : decode cX10_middle 84 = .ok (.goto 15, 3) := by decide +kernel
theorem dX10_middle_87 : decode cX10_middle 87 = .ok (.aload_n 0, 1) := by decide +kernel
theorem dX10_middle_88 : decode cX10_middle 88 = .ok (.aload_n 0, 1) := by decide +kernel
theorem dX10_middle_89 : decode cX10_middle 89 = .ok (.getfield 170, 3) := by decide +kernel
theorem dX10_middle_92 : decode cX10_middle 92 = .ok (.iconst 1, 1) := by decide +kernel
theorem dX10_middle_93 : decode cX10_middle 93 = .ok (.isub, 1) := by decide +kernel
theorem dX10_middle_94 : decode cX10_middle 94 = .ok (.invokevirtual 224, 3) := by decide +kernel
theorem dX10_middle_97 : decode cX10_middle 97 = .ok (.iload_n 3, 1) := by decide +kernel
theorem dX10_middle_98 : decode cX10_middle 98 = .ok (.isub, 1) := by decide +kernel
theorem dX10_middle_99 : decode cX10_middle 99 = .ok (.ireturn, 1) := by decide +kernel
def wX10_middle (I : Nat → Int32) (A : Nat → Nat → Int32) (x1 : Int32) (x2 : Int32) (post : Int32 → (Nat → Int32) → (Nat → Nat → Int32) → Prop) : Prop := (∀ I_1, I_1 = va_up I 0 0 → (∀ I_2, I_2 = va_up I_1 6 0 → wX10_isNumber I_2 A x1 (fun r12 => jn (fun (z : (Nat → Int32) × (Nat → Nat → Int32)) => match z with | (I_3, A_1) => jn (fun (t : Int32) => (∀ I_4, I_4 = va_up I_3 0 t → if (I_4 0) ≤ 0 then (jn (fun (t_1 : Int32) => wX10_numberedAt I_4 A_1 t_1 (fun r75 => if x2 = 0 then (post r75 I_4 A_1) else (wX10_numberedAt I_4 A_1 ((I_4 6) - 1) (fun r94 => post (r94 - r75) I_4 A_1)))) (fun k_2 => if x2 = 0 then (¬ (2 : Int32) = 0 ∧ (k_2 (((I_4 6) - 1) / 2))) else (k_2 0))) else (post 0 I_4 A_1))) (fun k_1 => jn (fun (_ : Unit) => k_1 1) (fun k_3 => if (I_3 6) = 0 then (k_3 ()) else (wX10_within x2 0 1 (fun r35 => if r35 = 0 then (k_3 ()) else (k_1 0)))))) (fun k => if r12 = 0 then (k (I_2, A)) else (wX10_numbersOf I_2 A x1 (-1) (fun I_5 A_2 => k (I_5, A_2)))))))
abbrev rmX10_middle : Room := { frames := 4, cells := 0, slots := 0, locals := 103 }
theorem wd_X10_middle : Cond.instanceMethod yX10_middle ∈ BW ∧ Cond.selects yX10_middle.cls yX10_middle yX10_middle ∈ BW ∧ Cond.initialized yX10_middle.cls ∈ BW ∧ Cond.code yX10_middle cX10_middle 4 (some .int) ∈ BW := ⟨mw_6_65, mw_6_66, mw_1_11, mw_6_67⟩
set_option maxHeartbeats 4000000 in
set_option maxRecDepth 100000 in
theorem c_X10_middle {l : Launch} {D : va_G} {cy : Nat → ClassId} {ad : Nat → Nat} {Ad : Nat → Prop} (hAd : adok 16 Ad ad) (I : Nat → Int32) (A : Nat → Nat → Int32) (x1 : Int32) (x2 : Int32)  (post : Int32 → (Nat → Int32) → (Nat → Nat → Int32) → Prop) (h : wX10_middle I A x1 x2 post) : Met l yX10_middle (.code yX10_middle cX10_middle 4 (some .int) :: BW) rmX10_middle (va_Pc [.ref (ad 0), .int x1, .int x2] (fun U => kC D cy U ∧ va_P D vwCl (wM cy ad I A) U.heap)) (qMi D cy ad Ad (fun r u => post r u.1 u.2)) 0 0 Ad := by
  refine startMi (by decide) (Nat.le_of_ble_eq_true rfl) (lv := [(0, .ref (ad 0)), (1, .int x1), (2, .int x2)]) rfl (fun p e s m args below meth c Q ls hx hb hml hT hown hK hret hl hP hS => ?_)
  unfold wX10_middle at h
  refine lv_aload_n hx hb dX10_middle_0 rfl (lv_at hl 0 rfl) ?_
  refine lv_iconst (v := 0) hx hb dX10_middle_1 (by decide) ?_
  refine pM_X10_thrown hAd hx hb hT hown hK.1 hP hS (hT _ mw_4_137) dX10_middle_2 (fun H locs hP hS => ?_)
  obtain ⟨I_1, eI_1⟩ : ∃ z, z = va_up I 0 0 := ⟨_, rfl⟩
  rw [← eI_1] at hP
  replace h := h I_1 eI_1
  refine lv_aload_n hx hb dX10_middle_5 rfl (lv_at hl 0 rfl) ?_
  refine lv_iconst (v := 0) hx hb dX10_middle_6 (by decide) ?_
  refine pM_X10_numbered hAd hx hb hT hown hK.1 hP hS (hT _ mw_4_155) dX10_middle_7 (fun H locs hP hS => ?_)
  obtain ⟨I_2, eI_2⟩ : ∃ z, z = va_up I_1 6 0 := ⟨_, rfl⟩
  rw [← eI_2] at hP
  replace h := h I_2 eI_2
  refine lv_aload_n hx hb dX10_middle_10 rfl (lv_at hl 0 rfl) ?_
  refine lv_iload_n hx hb dX10_middle_11 rfl (lv_at hl 1 rfl) ?_
  refine callMi (k := 0) (As := [.int x1]) (rest := []) (n := 1) (c_X10_isNumber hAd I_2 A x1 _ h) hx hb hT hown hK hP hS mw_5_28 wd_X10_isNumber (by decide +kernel) ⟨rfl, rfl⟩ (by decide) rfl rfl he_X10 rfl hl.1 hml rfl (Nat.le_of_ble_eq_true rfl) dX10_middle_12 ⟨Nat.zero_le _, Nat.zero_le _⟩ (fun r12 u H locs h hP hS => ?_)
  obtain ⟨Iu, Au⟩ := u
  dsimp only at h hP
  obtain ⟨h, rfl, rfl⟩ := h
  try dsimp only at h
  obtain ⟨k, hk, h⟩ := jn_ex h
  try dsimp only at h
  have J : ∀ (I_3 : Nat → Int32) (A_1 : Nat → Nat → Int32), k (I_3, A_1) → ∀ (ls : Array Slot) (H : Heap) (locs : List Loc), lv_has ls 4 [(0, .ref (ad 0)), (2, .int x2)] → va_P D vwCl (wM cy ad I_3 A_1) H → va_S Ad s.heap H locs → W p l e rmX10_middle s m args below meth c H locs 0 0 Q (F0 m 24 ls []) := by
    intro I_3 A_1 h ls H locs hl hP hS
    replace h := hk _ h
    try dsimp only at h
    refine lv_aload_n hx hb dX10_middle_24 rfl (lv_at hl 0 rfl) ?_
    refine lv_aload_n hx hb dX10_middle_25 rfl (lv_at hl 0 rfl) ?_
    refine va_get (T := TX10) hx hb hT inlX10 hown hK.1 hP 0 he_X10 rfl 18 (by decide) (hT _ mw_4_155) (fun _ h9 => h9) rfl dX10_middle_26 ?_
    obtain ⟨k_1, hk_1, h⟩ := jn_ex h
    try dsimp only at h
    have J_1 : ∀ (t : Int32), k_1 t → ∀ (ls : Array Slot) (H : Heap) (locs : List Loc), lv_has ls 4 [(0, .ref (ad 0)), (2, .int x2)] → va_P D vwCl (wM cy ad I_3 A_1) H → va_S Ad s.heap H locs → W p l e rmX10_middle s m args below meth c H locs 0 0 Q (F0 m 46 ls [.int t, .ref (ad 0)]) := by
      intro t h ls H locs hl hP hS
      replace h := hk_1 _ h
      try dsimp only at h
      refine pM_X10_thrown hAd hx hb hT hown hK.1 hP hS (hT _ mw_4_137) dX10_middle_46 (fun H locs hP hS => ?_)
      obtain ⟨I_4, eI_4⟩ : ∃ z, z = va_up I_3 0 t := ⟨_, rfl⟩
      rw [← eI_4] at hP
      replace h := h I_4 eI_4
      refine lv_aload_n hx hb dX10_middle_49 rfl (lv_at hl 0 rfl) ?_
      refine va_get (T := TX10) hx hb hT inlX10 hown hK.1 hP 0 he_X10 rfl 0 (by decide) (hT _ mw_4_137) (fun _ h9 => h9) rfl dX10_middle_50 ?_
      refine lv_if_le (tgt := 58) hx hb dX10_middle_53 (by decide) (fun hc => ?_) (fun hc => ?_)
      · rw [if_pos hc] at h
        refine lv_aload_n hx hb dX10_middle_58 rfl (lv_at hl 0 rfl) ?_
        refine lv_iload_n hx hb dX10_middle_59 rfl (lv_at hl 1 rfl) ?_
        obtain ⟨k_2, hk_2, h⟩ := jn_ex h
        try dsimp only at h
        have J_2 : ∀ (t_1 : Int32), k_2 t_1 → ∀ (ls : Array Slot) (H : Heap) (locs : List Loc), lv_has ls 4 [(0, .ref (ad 0)), (2, .int x2)] → va_P D vwCl (wM cy ad I_4 A_1) H → va_S Ad s.heap H locs → W p l e rmX10_middle s m args below meth c H locs 0 0 Q (F0 m 75 ls [.int t_1, .ref (ad 0)]) := by
          intro t_1 h ls H locs hl hP hS
          replace h := hk_2 _ h
          try dsimp only at h
          refine callMi (k := 0) (As := [.int t_1]) (rest := []) (n := 1) (c_X10_numberedAt hAd I_4 A_1 t_1 _ h) hx hb hT hown hK hP hS mw_6_68 wd_X10_numberedAt (by decide +kernel) ⟨rfl, rfl⟩ (by decide) rfl rfl he_X10 rfl hl.1 hml rfl (Nat.le_of_ble_eq_true rfl) dX10_middle_75 ⟨Nat.zero_le _, Nat.zero_le _⟩ (fun r75 u H locs h hP hS => ?_)
          obtain ⟨Iu_1, Au_1⟩ := u
          dsimp only at h hP
          obtain ⟨h, rfl, rfl⟩ := h
          try dsimp only at h
          refine lv_istore_n (lv' := [(3, .int r75), (0, .ref (ad 0)), (2, .int x2)]) hx hb dX10_middle_78 rfl hl (by decide) rfl (fun ls hl => ?_)
          refine lv_iload_n hx hb dX10_middle_79 rfl (lv_at hl 2 rfl) ?_
          refine lv_if_ne (tgt := 87) hx hb dX10_middle_80 (by decide) (fun hc_1 => ?_) (fun hc_1 => ?_)
          · rw [if_neg hc_1] at h
            refine lv_aload_n hx hb dX10_middle_87 rfl (lv_at hl 1 rfl) ?_
            refine lv_aload_n hx hb dX10_middle_88 rfl (lv_at hl 1 rfl) ?_
            refine va_get (T := TX10) hx hb hT inlX10 hown hK.1 hP 0 he_X10 rfl 18 (by decide) (hT _ mw_4_155) (fun _ h9 => h9) rfl dX10_middle_89 ?_
            refine lv_iconst (v := 1) hx hb dX10_middle_92 (by decide) ?_
            refine lv_isub hx hb dX10_middle_93 ?_
            refine callMi (k := 0) (As := [.int ((I_4 6) - 1)]) (rest := []) (n := 1) (c_X10_numberedAt hAd I_4 A_1 ((I_4 6) - 1) _ h) hx hb hT hown hK hP hS mw_6_68 wd_X10_numberedAt (by decide +kernel) ⟨rfl, rfl⟩ (by decide) rfl rfl he_X10 rfl hl.1 hml rfl (Nat.le_of_ble_eq_true rfl) dX10_middle_94 ⟨Nat.zero_le _, Nat.zero_le _⟩ (fun r94 u H locs h hP hS => ?_)
            obtain ⟨Iu_2, Au_2⟩ := u
            dsimp only at h hP
            obtain ⟨h, rfl, rfl⟩ := h
            try dsimp only at h
            refine lv_iload_n hx hb dX10_middle_97 rfl (lv_at hl 0 rfl) ?_
            refine lv_isub hx hb dX10_middle_98 ?_
            exact hret _ (I_4, A_1) dX10_middle_99 h hP hS
          · rw [if_pos hc_1] at h
            refine lv_iload_n hx hb dX10_middle_83 rfl (lv_at hl 0 rfl) ?_
            refine lv_goto (tgt := 99) hx hb dX10_middle_84 (by decide) ?_
            exact hret _ (I_4, A_1) dX10_middle_99 h hP hS
        refine lv_if_ne (tgt := 74) hx hb dX10_middle_60 (by decide) (fun hc_2 => ?_) (fun hc_2 => ?_)
        · rw [if_neg hc_2] at h
          refine lv_iconst (v := 0) hx hb dX10_middle_74 (by decide) ?_
          exact J_2 0 h _ _ _ (lv_sub hl [0, 1] rfl) hP hS
        · rw [if_pos hc_2] at h
          refine lv_aload_n hx hb dX10_middle_63 rfl (lv_at hl 0 rfl) ?_
          refine va_get (T := TX10) hx hb hT inlX10 hown hK.1 hP 0 he_X10 rfl 18 (by decide) (hT _ mw_4_155) (fun _ h9 => h9) rfl dX10_middle_64 ?_
          refine lv_iconst (v := 1) hx hb dX10_middle_67 (by decide) ?_
          refine lv_isub hx hb dX10_middle_68 ?_
          refine lv_iconst (v := 2) hx hb dX10_middle_69 (by decide) ?_
          obtain ⟨hn, h⟩ := h
          refine lv_idiv hx hb dX10_middle_70 hn ?_
          refine lv_goto (tgt := 75) hx hb dX10_middle_71 (by decide) ?_
          exact J_2 (((I_4 6) - 1) / 2) h _ _ _ (lv_sub hl [0, 1] rfl) hP hS
      · rw [if_neg hc] at h
        refine lv_iconst (v := 0) hx hb dX10_middle_56 (by decide) ?_
        exact hret _ (I_4, A_1) dX10_middle_57 h hP hS
    obtain ⟨k_3, hk_3, h⟩ := jn_ex h
    try dsimp only at h
    have J_3 : k_3 () → ∀ (ls : Array Slot) (H : Heap) (locs : List Loc), lv_has ls 4 [(0, .ref (ad 0)), (2, .int x2)] → va_P D vwCl (wM cy ad I_3 A_1) H → va_S Ad s.heap H locs → W p l e rmX10_middle s m args below meth c H locs 0 0 Q (F0 m 41 ls [.ref (ad 0)]) := by
      intro  h ls H locs hl hP hS
      replace h := hk_3 _ h
      try dsimp only at h
      refine lv_iconst (v := 1) hx hb dX10_middle_41 (by decide) ?_
      refine lv_goto (tgt := 46) hx hb dX10_middle_42 (by decide) ?_
      exact J_1 1 h _ _ _ (lv_sub hl [0, 1] rfl) hP hS
    refine lv_if_eq (tgt := 41) hx hb dX10_middle_29 (by decide) (fun hc_3 => ?_) (fun hc_3 => ?_)
    · rw [if_pos hc_3] at h
      exact J_3  h _ _ _ (lv_sub hl [0, 1] rfl) hP hS
    · rw [if_neg hc_3] at h
      refine lv_iload_n hx hb dX10_middle_32 rfl (lv_at hl 1 rfl) ?_
      refine lv_iconst (v := 0) hx hb dX10_middle_33 (by decide) ?_
      refine lv_iconst (v := 1) hx hb dX10_middle_34 (by decide) ?_
      refine callSMi (As := [.int x2, .int 0, .int 1]) (rest := [.ref (ad 0)]) (n := 3) (c_X10_within x2 0 1 _ h) hx hb hT hown hP hS mw_4_213 wd_X10_within (by decide +kernel) ⟨rfl, rfl⟩ (by decide) rfl hl.1 hml rfl (Nat.le_of_ble_eq_true rfl) dX10_middle_35 ⟨Nat.zero_le _, Nat.zero_le _⟩ (fun r35 H locs h hP hS => ?_)
      try dsimp only at h
      refine lv_if_ne (tgt := 45) hx hb dX10_middle_38 (by decide) (fun hc_4 => ?_) (fun hc_4 => ?_)
      · rw [if_neg hc_4] at h
        refine lv_iconst (v := 0) hx hb dX10_middle_45 (by decide) ?_
        exact J_1 0 h _ _ _ (lv_sub hl [0, 1] rfl) hP hS
      · rw [if_pos hc_4] at h
        exact J_3  h _ _ _ (lv_sub hl [0, 1] rfl) hP hS
  refine lv_if_eq (tgt := 24) hx hb dX10_middle_15 (by decide) (fun hc_5 => ?_) (fun hc_5 => ?_)
  · rw [if_pos hc_5] at h
    exact J I_2 A h _ _ _ (lv_sub hl [0, 2] rfl) hP hS
  · rw [if_neg hc_5] at h
    refine lv_aload_n hx hb dX10_middle_18 rfl (lv_at hl 0 rfl) ?_
    refine lv_iload_n hx hb dX10_middle_19 rfl (lv_at hl 1 rfl) ?_
    refine lv_iconst (v := (-1)) hx hb dX10_middle_20 (by decide) ?_
    refine callMv (k := 0) (As := [.int x1, .int (-1)]) (rest := []) (n := 2) (c_X10_numbersOf hAd I_2 A x1 (-1) _ h) hx hb hT hown hK hP hS mw_5_204 wd_X10_numbersOf (by decide +kernel) ⟨rfl, rfl⟩ (by decide) rfl rfl he_X10 rfl hl.1 hml rfl (Nat.le_of_ble_eq_true rfl) dX10_middle_21 ⟨Nat.zero_le _, Nat.zero_le _⟩ (fun u H locs h hP hS => ?_)
    obtain ⟨I_5, A_2⟩ := u
    dsimp only at h hP
    exact J I_5 A_2 h _ _ _ (lv_sub hl [0, 2] rfl) hP hS
