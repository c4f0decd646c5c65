theorem dX10_count_0 : decode cX10_count 0 = .ok (.aload_n 0, 1) := by decide +kernel
theorem dX10_count_1 : decode cX10_count 1 = .ok (.iconst 0, 1) := by decide +kernel
theorem dX10_count_2 : decode cX10_count 2 = .ok (.putfield 56, 3) := by decide +kernel
theorem dX10_count_5 : decode cX10_count 5 = .ok (.iconst 0, 1) := by decide +kernel
theorem dX10_count_6 : decode cX10_count 6 = .ok (.istore_n 2, 1) := by decide +kernel
theorem dX10_count_7 : decode cX10_count 7 = .ok (.iload_n 1, 1) := by decide +kernel
theorem dX10_count_8 : decode cX10_count 8 = .ok (.tableswitch 181 0 8 #[52, 57, 62, 67, 76, 82, 109, 139, 176], 52) := by decide +kernel
theorem dX10_count_60 : decode cX10_count 60 = .ok (.aload_n 0, 1) := by decide +kernel
theorem dX10_count_61 : decode cX10_count 61 = .ok (.getfield 60, 3) := by decide +kernel
theorem dX10_count_64 : decode cX10_count 64 = .ok (.ireturn, 1) := by decide +kernel
theorem dX10_count_65 : decode cX10_count 65 = .ok (.aload_n 0, 1) := by decide +kernel
theorem dX10_count_66 : decode cX10_count 66 = .ok (.getfield 67, 3) := by decide +kernel
theorem dX10_count_69 : decode cX10_count 69 = .ok (.ireturn, 1) := by decide +kernel
theorem dX10_count_70 : decode cX10_count 70 = .ok (.aload_n 0, 1) := by decide +kernel
theorem dX10_count_71 : decode cX10_count 71 = .ok (.getfield 70, 3) := by decide +kernel
theorem dX10_count_74 : decode cX10_count 74 = .ok (.ireturn, 1) := by decide +kernel
theorem dX10_count_75 : decode cX10_count 75 = .ok (.aload_n 0, 1) := by decide +kernel
theorem dX10_count_76 : decode cX10_count 76 = .ok (.invokevirtual 143, 3) := by decide +kernel
theorem dX10_count_79 : decode cX10_count 79 = .ok (.aload_n 0, 1) := by decide +kernel
theorem dX10_count_80 : decode cX10_count 80 = .ok (.getfield 137, 3) := by decide +kernel
theorem dX10_count_83 : decode cX10_count 83 = .ok (.ireturn, 1) := by decide +kernel
theorem dX10_count_84 : decode cX10_count 84 = .ok (.aload_n 0, 1) := by decide +kernel
theorem dX10_count_85 : decode cX10_count 85 = .ok (.iconst 0, 1) := by decide +kernel
theorem dX10_count_86 : decode cX10_count 86 = .ok (.invokevirtual 161, 3) := by decide +kernel
theorem dX10_count_89 : decode cX10_count 89 = .ok (.ireturn, 1) := by decide +kernel
theorem dX10_count_90 : decode cX10_count 90 = .ok (.iconst 0, 1) := by decide +kernel
theorem dX10_count_91 : decode cX10_count 91 = .ok (.istore_n 3, 1) := by decide +kernel
theorem dX10_count_92 : decode cX10_count 92 = .ok (.iload_n 3, 1) := by decide +kernel
theorem dX10_count_93 : decode cX10_count 93 = .ok (.aload_n 0, 1) := by decide +kernel
theorem dX10_count_94 : decode cX10_count 94 = .ok (.getfield 67, 3) := by decide +kernel
theorem dX10_count_97 : decode cX10_count 97 = .ok (.if_icmp .ge 18, 3) := by decide +kernel
theorem dX10_count_100 : decode cX10_count 100 = .ok (.iload_n 2, 1) := by decide +kernel
theorem dX10_count_101 : decode cX10_count 101 = .ok (.aload_n 0, 1) := by decide +kernel
theorem dX10_count_102 : decode cX10_count 102 = .ok (.getfield 35, 3) := by decide +kernel
theorem dX10_count_105 : decode cX10_count 105 = .ok (.iload_n 3, 1) := by decide +kernel
theorem dX10_count_106 : decode cX10_count 106 = .ok (.iaload, 1) := by decide +kernel
theorem dX10_count_107 : decode cX10_count 107 = .ok (.iadd, 1) := by decide +kernel
theorem dX10_count_108 : decode cX10_count 108 = .ok (.istore_n 2, 1) := by decide +kernel
theorem dX10_count_109 : decode cX10_count 109 = .ok (.iinc 3 1, 3) := by decide +kernel
theorem dX10_count_112 : decode cX10_count 112 = .ok (.goto (-20), 3) := by decide +kernel
theorem dX10_count_115 : decode cX10_count 115 = .ok (.iload_n 2, 1) := by decide +kernel
theorem dX10_count_116 : decode cX10_count 116 = .ok (.ireturn, 1) := by decide +kernel
theorem dX10_count_117 : decode cX10_count 117 = .ok (.iconst 0, 1) := by decide +kernel
theorem dX10_count_118 : decode cX10_count 118 = .ok (.istore_n 3, 1) := by decide +kernel
theorem dX10_count_119 : decode cX10_count 119 = .ok (.iload_n 3, 1) := by decide +kernel
theorem dX10_count_120 : decode cX10_count 120 = .ok (.aload_n 0, 1) := by decide +kernel
theorem dX10_count_121 : decode cX10_count 121 = .ok (.getfield 60, 3) := by decide +kernel
theorem dX10_count_124 : decode cX10_count 124 = .ok (.if_icmp .ge 21, 3) := by decide +kernel
theorem dX10_count_127 : decode cX10_count 127 = .ok (.iload_n 2, 1) := by decide +kernel
theorem dX10_count_128 : decode cX10_count 128 = .ok (.aload_n 0, 1) := by decide +kernel
theorem dX10_count_129 : decode cX10_count 129 = .ok (.getfield 35, 3) := by decide +kernel
theorem dX10_count_132 : decode cX10_count 132 = .ok (.bipush 45, 2) := by decide +kernel
theorem dX10_count_134 : decode cX10_count 134 = .ok (.iload_n 3, 1) := by decide +kernel
theorem dX10_count_135 : decode cX10_count 135 = .ok (.iadd, 1) := by decide +kernel
theorem dX10_count_136 : decode cX10_count 136 = .ok (.iaload, 1) := by decide +kernel
theorem dX10_count_137 : decode cX10_count 137 = .ok (.iadd, 1) := by decide +kernel
theorem dX10_count_138 : decode cX10_count 138 = .ok (.istore_n 2, 1) := by decide +kernel
theorem dX10_count_139 : decode cX10_count 139 = .ok (.iinc 3 1, 3) := by decide +kernel
theorem dX10_count_142 : decode cX10_count 142 = .ok (.goto (-23), 3) := by decide +kernel
theorem dX10_count_145 : decode cX10_count 145 = .ok (.iload_n 2, 1) := by decide +kernel
theorem dX10_count_146 : decode cX10_count 146 = .ok (.ireturn, 1) := by decide +kernel
theorem dX10_count_147 : decode cX10_count 147 = .ok (.iconst 0, 1) := by decide +kernel
theorem dX10_count_148 : decode cX10_count 148 = .ok (.istore_n 3, 1) := by decide +kernel
theorem dX10_count_149 : decode cX10_count 149 = .ok (.iload_n 3, 1) := by decide +kernel
theorem dX10_count_150 : decode cX10_count 150 = .ok (.aload_n 0, 1) := by decide +kernel
theorem dX10_count_151 : decode cX10_count 151 = .ok (.getfield 60, 3) := by decide +kernel
theorem dX10_count_154 : decode cX10_count 154 = .ok (.if_icmp .ge 28, 3) := by decide +kernel
theorem dX10_count_157 : decode cX10_count 157 = .ok (.iload_n 2, 1) := by decide +kernel
theorem dX10_count_158 : decode cX10_count 158 = .ok (.aload_n 0, 1) := by decide +kernel
theorem dX10_count_159 : decode cX10_count 159 = .ok (.iconst 0, 1) := by decide +kernel
theorem dX10_count_160 : decode cX10_count 160 = .ok (.iload_n 3, 1) := by decide +kernel
theorem dX10_count_161 : decode cX10_count 161 = .ok (.invokevirtual 116, 3) := by decide +kernel
theorem dX10_count_164 : decode cX10_count 164 = .ok (.ifCond .eq 7, 3) := by decide +kernel
theorem dX10_count_167 : decode cX10_count 167 = .ok (.iconst 0, 1) := by decide +kernel
theorem dX10_count_168 : decode cX10_count 168 = .ok (.goto 6, 3) := by decide +kernel
theorem dX10_count_171 : decode cX10_count 171 = .ok (.iconst 1, 1) := by decide +kernel
theorem dX10_count_172 : decode cX10_count 172 = .ok (.iload_n 3, 1) := by decide +kernel
theorem dX10_count_173 : decode cX10_count 173 = .ok (.ishl, 1) := by decide +kernel
theorem dX10_count_174 : decode cX10_count 174 = .ok (.ior, 1) := by decide +kernel
theorem dX10_count_175 : decode cX10_count 175 = .ok (.istore_n 2, 1) := by decide +kernel
theorem dX10_count_176 : decode cX10_count 176 = .ok (.iinc 3 1, 3) := by decide +kernel
theorem dX10_count_179 : decode cX10_count 179 = .ok (.goto (-30), 3) := by decide +kernel
theorem dX10_count_182 : decode cX10_count 182 = .ok (.iload_n 2, 1) := by decide +kernel
theorem dX10_count_183 : decode cX10_count 183 = .ok (.ireturn, 1) := by decide +kernel
theorem dX10_count_184 : decode cX10_count 184 = .ok (.aload_n 0, 1) := by decide +kernel
theorem dX10_count_185 : decode cX10_count 185 = .ok (.getfield 106, 3) := by decide +kernel
theorem dX10_count_188 : decode cX10_count 188 = .ok (.ireturn, 1) := by decide +kernel
theorem dX10_count_189 : decode cX10_count 189 = .ok (.iconst (-1), 1) := by decide +kernel
theorem dX10_count_190 : decode cX10_count 190 = .ok (.ireturn, 1) := by decide +kernel
def wX10_count (I : Nat → Int32) (A : Nat → Nat → Int32) (x1 : Int32) (post : Int32 → (Nat → Int32) → (Nat → Nat → Int32) → Prop) : Prop := (∀ I_1, I_1 = va_up I 0 0 → if x1 = 0 then (post (I_1 1) I_1 A) else (if x1 = 1 then (post (I_1 2) I_1 A) else (if x1 = 2 then (post (I_1 3) I_1 A) else (if x1 = 3 then (wX10_orders I_1 A  (fun I_2 A_1 => post (I_2 5) I_2 A_1)) else (if x1 = 4 then (wX10_hitsBy I_1 A 0 (fun r86 => post r86 I_1 A)) else (if x1 = 5 then (∃ n, lfix (fun (r : (Int32 × Int32) → Prop) (v3, v2) => if (I_1 2) ≤ v3 then (post v2 I_1 A) else (vp_in v3 1440 ∧ (∀ v2_1 : Int32, v2_1 = v2 + (A 9 v3.toNatClampNeg) → ∀ v3_1 : Int32, v3_1 = v3 + 1 → r (v3_1, v2_1)))) n (0, 0)) else (if x1 = 6 then (∃ n_1, lfix (fun (r_1 : (Int32 × Int32) → Prop) (v3_2, v2_2) => if (I_1 1) ≤ v3_2 then (post v2_2 I_1 A) else (vp_in (45 + v3_2) 1440 ∧ (∀ v2_3 : Int32, v2_3 = v2_2 + (A 9 (45 + v3_2).toNatClampNeg) → ∀ v3_3 : Int32, v3_3 = v3_2 + 1 → r_1 (v3_3, v2_3)))) n_1 (0, 0)) else (if x1 = 7 then (∃ n_2, lfix (fun (r_2 : (Int32 × Int32) → Prop) (v3_4, v2_4) => if (I_1 1) ≤ v3_4 then (post v2_4 I_1 A) else (wX10_isOpen I_1 A 0 v3_4 (fun r161 => jn (fun (t : Int32) => ∀ v2_5 : Int32, v2_5 = v2_4 ||| t → ∀ v3_5 : Int32, v3_5 = v3_4 + 1 → r_2 (v3_5, v2_5)) (fun k => if r161 = 0 then (k (1 <<< (v3_4 &&& 31))) else (k 0))))) n_2 (0, 0)) else (if x1 = 8 then (post (I_1 4) I_1 A) else (post (-1) I_1 A))))))))))
abbrev rmX10_count : Room := { frames := 4, cells := 0, slots := 0, locals := 103 }
theorem wd_X10_count : Cond.instanceMethod yX10_count ∈ BW ∧ Cond.selects yX10_count.cls yX10_count yX10_count ∈ BW ∧ Cond.initialized yX10_count.cls ∈ BW ∧ Cond.code yX10_count cX10_count 4 (some .int) ∈ BW := ⟨mw_6_73, mw_6_74, mw_1_11, mw_6_75⟩
set_option maxHeartbeats 4000000 in
set_option maxRecDepth 100000 in
theorem c_X10_count {l : Launch} {D : va_G} {cy : Nat → ClassId} {ad : Nat → Nat} {Ad : Nat → Prop} (hAd : adok 16 Ad ad) (I : Nat → Int32) (A : Nat → Nat → Int32) (x1 : Int32)  (post : Int32 → (Nat → Int32) → (Nat → Nat → Int32) → Prop) (h : wX10_count I A x1 post) : Met l yX10_count (.code yX10_count cX10_count 4 (some .int) :: BW) rmX10_count (va_Pc [.ref (ad 0), .int x1] (fun U => kC D cy U ∧ va_P D vwCl (wM cy ad I A) U.heap)) (qMi D cy ad Ad (fun r u => post r u.1 u.2)) 0 0 Ad := by
  refine startMi (by decide) (Nat.le_of_ble_eq_true rfl) (lv := [(0, .ref (ad 0)), (1, .int x1)]) rfl (fun p e s m args below meth c Q ls hx hb hml hT hown hK hret hl hP hS => ?_)
  unfold wX10_count at h
  refine lv_aload_n hx hb dX10_count_0 rfl (lv_at hl 0 rfl) ?_
  refine lv_iconst (v := 0) hx hb dX10_count_1 (by decide) ?_
  refine pM_X10_thrown hAd hx hb hT hown hK.1 hP hS (hT _ mw_4_137) dX10_count_2 (fun H locs hP hS => ?_)
  obtain ⟨I_1, eI_1⟩ : ∃ z, z = va_up I 0 0 := ⟨_, rfl⟩
  rw [← eI_1] at hP
  replace h := h I_1 eI_1
  refine lv_iconst (v := 0) hx hb dX10_count_5 (by decide) ?_
  refine lv_istore_n (lv' := [(2, .int 0), (0, .ref (ad 0)), (1, .int x1)]) hx hb dX10_count_6 rfl hl (by decide) rfl (fun ls hl => ?_)
  refine lv_iload_n hx hb dX10_count_7 rfl (lv_at hl 2 rfl) ?_
  by_cases hc_4 : x1 = 0
  · rw [if_pos hc_4] at h
    refine lv_tableIn (tgt := 60) hx hb dX10_count_8 (by rw [hc_4]; decide) (by rw [hc_4]; decide) (by rw [hc_4]; rfl) (by decide) ?_
    refine lv_aload_n hx hb dX10_count_60 rfl (lv_at hl 1 rfl) ?_
    refine va_get (T := TX10) hx hb hT inlX10 hown hK.1 hP 0 he_X10 rfl 1 (by decide) (hT _ mw_4_138) (fun _ h9 => h9) rfl dX10_count_61 ?_
    exact hret _ (I_1, A) dX10_count_64 h hP hS
  rw [if_neg hc_4] at h
  by_cases hc_5 : x1 = 1
  · rw [if_pos hc_5] at h
    refine lv_tableIn (tgt := 65) hx hb dX10_count_8 (by rw [hc_5]; decide) (by rw [hc_5]; decide) (by rw [hc_5]; rfl) (by decide) ?_
    refine lv_aload_n hx hb dX10_count_65 rfl (lv_at hl 1 rfl) ?_
    refine va_get (T := TX10) hx hb hT inlX10 hown hK.1 hP 0 he_X10 rfl 2 (by decide) (hT _ mw_4_139) (fun _ h9 => h9) rfl dX10_count_66 ?_
    exact hret _ (I_1, A) dX10_count_69 h hP hS
  rw [if_neg hc_5] at h
  by_cases hc_6 : x1 = 2
  · rw [if_pos hc_6] at h
    refine lv_tableIn (tgt := 70) hx hb dX10_count_8 (by rw [hc_6]; decide) (by rw [hc_6]; decide) (by rw [hc_6]; rfl) (by decide) ?_
    refine lv_aload_n hx hb dX10_count_70 rfl (lv_at hl 1 rfl) ?_
    refine va_get (T := TX10) hx hb hT inlX10 hown hK.1 hP 0 he_X10 rfl 3 (by decide) (hT _ mw_4_140) (fun _ h9 => h9) rfl dX10_count_71 ?_
    exact hret _ (I_1, A) dX10_count_74 h hP hS
  rw [if_neg hc_6] at h
  by_cases hc_7 : x1 = 3
  · rw [if_pos hc_7] at h
    refine lv_tableIn (tgt := 75) hx hb dX10_count_8 (by rw [hc_7]; decide) (by rw [hc_7]; decide) (by rw [hc_7]; rfl) (by decide) ?_
    refine lv_aload_n hx hb dX10_count_75 rfl (lv_at hl 1 rfl) ?_
    refine callMv (k := 0) (As := []) (rest := []) (n := 0) (c_X10_orders hAd I_1 A  _ h) hx hb hT hown hK hP hS mw_5_120 wd_X10_orders (by decide +kernel) ⟨rfl, rfl⟩ (by decide) rfl rfl he_X10 rfl hl.1 hml rfl (Nat.le_of_ble_eq_true rfl) dX10_count_76 ⟨Nat.zero_le _, Nat.zero_le _⟩ (fun u H locs h hP hS => ?_)
    obtain ⟨I_2, A_1⟩ := u
    dsimp only at h hP
    refine lv_aload_n hx hb dX10_count_79 rfl (lv_at hl 1 rfl) ?_
    refine va_get (T := TX10) hx hb hT inlX10 hown hK.1 hP 0 he_X10 rfl 16 (by decide) (hT _ mw_4_153) (fun _ h9 => h9) rfl dX10_count_80 ?_
    exact hret _ (I_2, A_1) dX10_count_83 h hP hS
  rw [if_neg hc_7] at h
  by_cases hc_8 : x1 = 4
  · rw [if_pos hc_8] at h
    refine lv_tableIn (tgt := 84) hx hb dX10_count_8 (by rw [hc_8]; decide) (by rw [hc_8]; decide) (by rw [hc_8]; rfl) (by decide) ?_
    refine lv_aload_n hx hb dX10_count_84 rfl (lv_at hl 1 rfl) ?_
    refine lv_iconst (v := 0) hx hb dX10_count_85 (by decide) ?_
    refine callMi (k := 0) (As := [.int 0]) (rest := []) (n := 1) (c_X10_hitsBy hAd I_1 A 0 _ h) hx hb hT hown hK hP hS mw_5_168 wd_X10_hitsBy (by decide +kernel) ⟨rfl, rfl⟩ (by decide) rfl rfl he_X10 rfl hl.1 hml rfl (Nat.le_of_ble_eq_true rfl) dX10_count_86 ⟨Nat.zero_le _, Nat.zero_le _⟩ (fun r86 u H locs h hP hS => ?_)
    obtain ⟨Iu, Au⟩ := u
    dsimp only at h hP
    obtain ⟨h, rfl, rfl⟩ := h
    try dsimp only at h
    exact hret _ (I_1, A) dX10_count_89 h hP hS
  rw [if_neg hc_8] at h
  by_cases hc_9 : x1 = 5
  · rw [if_pos hc_9] at h
    refine lv_tableIn (tgt := 90) hx hb dX10_count_8 (by rw [hc_9]; decide) (by rw [hc_9]; decide) (by rw [hc_9]; rfl) (by decide) ?_
    refine lv_iconst (v := 0) hx hb dX10_count_90 (by decide) ?_
    refine lv_istore_n (lv' := [(3, .int 0), (2, .int 0), (0, .ref (ad 0)), (1, .int x1)]) hx hb dX10_count_91 rfl hl (by decide) rfl (fun ls hl => ?_)
    obtain ⟨F, n, h, hF, hG⟩ := lfix_ex h
    have LP : ∀ (n : Nat) (v3 : Int32) (v2 : Int32) (ls : Array Slot) (H : Heap) (locs : List Loc), F n (v3, v2) → lv_has ls 4 [(3, .int v3), (2, .int v2), (0, .ref (ad 0))] → va_P D vwCl (wM cy ad I_1 A) H → va_S Ad s.heap H locs → W p l e rmX10_count s m args below meth c H locs 0 0 Q (F0 m 92 ls []) := by
      intro n
      induction n with
      | zero => intro v3 v2 ls H locs h _ _ _; exact absurd h (hF _)
      | succ n ih =>
        intro v3 v2 ls H locs h hl hP hS
        replace h := hG _ _ h
        try dsimp only at h
        refine lv_iload_n hx hb dX10_count_92 rfl (lv_at hl 0 rfl) ?_
        refine lv_aload_n hx hb dX10_count_93 rfl (lv_at hl 2 rfl) ?_
        refine va_get (T := TX10) hx hb hT inlX10 hown hK.1 hP 0 he_X10 rfl 2 (by decide) (hT _ mw_4_139) (fun _ h9 => h9) rfl dX10_count_94 ?_
        refine lv_icmp_ge (tgt := 115) hx hb dX10_count_97 (by decide) (fun hc => ?_) (fun hc => ?_)
        · rw [if_pos hc] at h
          refine lv_iload_n hx hb dX10_count_115 rfl (lv_at hl 1 rfl) ?_
          exact hret _ (I_1, A) dX10_count_116 h hP hS
        · rw [if_neg hc] at h
          refine lv_iload_n hx hb dX10_count_100 rfl (lv_at hl 1 rfl) ?_
          refine lv_aload_n hx hb dX10_count_101 rfl (lv_at hl 2 rfl) ?_
          refine va_get (T := TX10) hx hb hT inlX10 hown hK.1 hP 0 he_X10 rfl 12 (by decide) (hT _ mw_4_149) (fun _ h9 => h9) rfl dX10_count_102 ?_
          refine lv_iload_n hx hb dX10_count_105 rfl (lv_at hl 0 rfl) ?_
          obtain ⟨hi, h⟩ := h
          refine lM_I hx hb hK.1 hP (by decide) rfl hi dX10_count_106 ?_
          refine lv_iadd hx hb dX10_count_107 ?_
          refine lv_topi (fun v2_1 ev2_1 => ?_)
          replace h := h v2_1 ev2_1
          refine lv_istore_n (lv' := [(2, .int v2_1), (3, .int v3), (0, .ref (ad 0))]) hx hb dX10_count_108 rfl hl (by decide) rfl (fun ls hl => ?_)
          obtain ⟨v3_1, ev3_1⟩ : ∃ z : Int32, z = v3 + 1 := ⟨_, rfl⟩
          replace h := h v3_1 ev3_1
          refine lv_iinc (v := v3_1) (lv' := [(3, .int v3_1), (2, .int v2_1), (0, .ref (ad 0))]) hx hb dX10_count_109 hl (k := 1) rfl (by rw [ev3_1]; rfl) (by decide) rfl (fun ls hl => ?_)
          refine lv_goto (tgt := 92) hx hb dX10_count_112 (by decide) ?_
          exact ih v3_1 v2_1 _ _ _ h (lv_sub hl [0, 1, 2] rfl) hP hS
    exact LP _ 0 0 _ _ _ h (lv_sub hl [0, 1, 2] rfl) hP hS
  rw [if_neg hc_9] at h
  by_cases hc_10 : x1 = 6
  · rw [if_pos hc_10] at h
    refine lv_tableIn (tgt := 117) hx hb dX10_count_8 (by rw [hc_10]; decide) (by rw [hc_10]; decide) (by rw [hc_10]; rfl) (by decide) ?_
    refine lv_iconst (v := 0) hx hb dX10_count_117 (by decide) ?_
    refine lv_istore_n (lv' := [(3, .int 0), (2, .int 0), (0, .ref (ad 0)), (1, .int x1)]) hx hb dX10_count_118 rfl hl (by decide) rfl (fun ls hl => ?_)
    obtain ⟨F_1, n_1, h, hF_1, hG_1⟩ := lfix_ex h
    have LP_1 : ∀ (n_1 : Nat) (v3_2 : Int32) (v2_2 : Int32) (ls : Array Slot) (H : Heap) (locs : List Loc), F_1 n_1 (v3_2, v2_2) → lv_has ls 4 [(3, .int v3_2), (2, .int v2_2), (0, .ref (ad 0))] → va_P D vwCl (wM cy ad I_1 A) H → va_S Ad s.heap H locs → W p l e rmX10_count s m args below meth c H locs 0 0 Q (F0 m 119 ls []) := by
      intro n_1
      induction n_1 with
      | zero => intro v3_2 v2_2 ls H locs h _ _ _; exact absurd h (hF_1 _)
      | succ n_1 ih_1 =>
        intro v3_2 v2_2 ls H locs h hl hP hS
        replace h := hG_1 _ _ h
        try dsimp only at h
        refine lv_iload_n hx hb dX10_count_119 rfl (lv_at hl 0 rfl) ?_
        refine lv_aload_n hx hb dX10_count_120 rfl (lv_at hl 2 rfl) ?_
        refine va_get (T := TX10) hx hb hT inlX10 hown hK.1 hP 0 he_X10 rfl 1 (by decide) (hT _ mw_4_138) (fun _ h9 => h9) rfl dX10_count_121 ?_
        refine lv_icmp_ge (tgt := 145) hx hb dX10_count_124 (by decide) (fun hc_1 => ?_) (fun hc_1 => ?_)
        · rw [if_pos hc_1] at h
          refine lv_iload_n hx hb dX10_count_145 rfl (lv_at hl 1 rfl) ?_
          exact hret _ (I_1, A) dX10_count_146 h hP hS
        · rw [if_neg hc_1] at h
          refine lv_iload_n hx hb dX10_count_127 rfl (lv_at hl 1 rfl) ?_
          refine lv_aload_n hx hb dX10_count_128 rfl (lv_at hl 2 rfl) ?_
          refine va_get (T := TX10) hx hb hT inlX10 hown hK.1 hP 0 he_X10 rfl 12 (by decide) (hT _ mw_4_149) (fun _ h9 => h9) rfl dX10_count_129 ?_
          refine lv_bipush (v := 45) hx hb dX10_count_132 (by decide) ?_
          refine lv_iload_n hx hb dX10_count_134 rfl (lv_at hl 0 rfl) ?_
          refine lv_iadd hx hb dX10_count_135 ?_
          obtain ⟨hi_1, h⟩ := h
          refine lM_I hx hb hK.1 hP (by decide) rfl hi_1 dX10_count_136 ?_
          refine lv_iadd hx hb dX10_count_137 ?_
          refine lv_topi (fun v2_3 ev2_3 => ?_)
          replace h := h v2_3 ev2_3
          refine lv_istore_n (lv' := [(2, .int v2_3), (3, .int v3_2), (0, .ref (ad 0))]) hx hb dX10_count_138 rfl hl (by decide) rfl (fun ls hl => ?_)
          obtain ⟨v3_3, ev3_3⟩ : ∃ z : Int32, z = v3_2 + 1 := ⟨_, rfl⟩
          replace h := h v3_3 ev3_3
          refine lv_iinc (v := v3_3) (lv' := [(3, .int v3_3), (2, .int v2_3), (0, .ref (ad 0))]) hx hb dX10_count_139 hl (k := 1) rfl (by rw [ev3_3]; rfl) (by decide) rfl (fun ls hl => ?_)
          refine lv_goto (tgt := 119) hx hb dX10_count_142 (by decide) ?_
          exact ih_1 v3_3 v2_3 _ _ _ h (lv_sub hl [0, 1, 2] rfl) hP hS
    exact LP_1 _ 0 0 _ _ _ h (lv_sub hl [0, 1, 2] rfl) hP hS
  rw [if_neg hc_10] at h
  by_cases hc_11 : x1 = 7
  · rw [if_pos hc_11] at h
    refine lv_tableIn (tgt := 147) hx hb dX10_count_8 (by rw [hc_11]; decide) (by rw [hc_11]; decide) (by rw [hc_11]; rfl) (by decide) ?_
    refine lv_iconst (v := 0) hx hb dX10_count_147 (by decide) ?_
    refine lv_istore_n (lv' := [(3, .int 0), (2, .int 0), (0, .ref (ad 0)), (1, .int x1)]) hx hb dX10_count_148 rfl hl (by decide) rfl (fun ls hl => ?_)
    obtain ⟨F_2, n_2, h, hF_2, hG_2⟩ := lfix_ex h
    have LP_2 : ∀ (n_2 : Nat) (v3_4 : Int32) (v2_4 : Int32) (ls : Array Slot) (H : Heap) (locs : List Loc), F_2 n_2 (v3_4, v2_4) → lv_has ls 4 [(3, .int v3_4), (2, .int v2_4), (0, .ref (ad 0))] → va_P D vwCl (wM cy ad I_1 A) H → va_S Ad s.heap H locs → W p l e rmX10_count s m args below meth c H locs 0 0 Q (F0 m 149 ls []) := by
      intro n_2
      induction n_2 with
      | zero => intro v3_4 v2_4 ls H locs h _ _ _; exact absurd h (hF_2 _)
      | succ n_2 ih_2 =>
        intro v3_4 v2_4 ls H locs h hl hP hS
        replace h := hG_2 _ _ h
        try dsimp only at h
        refine lv_iload_n hx hb dX10_count_149 rfl (lv_at hl 0 rfl) ?_
        refine lv_aload_n hx hb dX10_count_150 rfl (lv_at hl 2 rfl) ?_
        refine va_get (T := TX10) hx hb hT inlX10 hown hK.1 hP 0 he_X10 rfl 1 (by decide) (hT _ mw_4_138) (fun _ h9 => h9) rfl dX10_count_151 ?_
        refine lv_icmp_ge (tgt := 182) hx hb dX10_count_154 (by decide) (fun hc_2 => ?_) (fun hc_2 => ?_)
        · rw [if_pos hc_2] at h
          refine lv_iload_n hx hb dX10_count_182 rfl (lv_at hl 1 rfl) ?_
          exact hret _ (I_1, A) dX10_count_183 h hP hS
        · rw [if_neg hc_2] at h
          refine lv_iload_n hx hb dX10_count_157 rfl (lv_at hl 1 rfl) ?_
          refine lv_aload_n hx hb dX10_count_158 rfl (lv_at hl 2 rfl) ?_
          refine lv_iconst (v := 0) hx hb dX10_count_159 (by decide) ?_
          refine lv_iload_n hx hb dX10_count_160 rfl (lv_at hl 0 rfl) ?_
          refine callMi (k := 0) (As := [.int 0, .int v3_4]) (rest := [.int v2_4]) (n := 2) (c_X10_isOpen hAd I_1 A 0 v3_4 _ h) hx hb hT hown hK hP hS mw_5_72 wd_X10_isOpen (by decide +kernel) ⟨rfl, rfl⟩ (by decide) rfl rfl he_X10 rfl hl.1 hml rfl (Nat.le_of_ble_eq_true rfl) dX10_count_161 ⟨Nat.zero_le _, Nat.zero_le _⟩ (fun r161 u H locs h hP hS => ?_)
          obtain ⟨Iu_1, Au_1⟩ := u
          dsimp only at h hP
          obtain ⟨h, rfl, rfl⟩ := h
          try dsimp only at h
          obtain ⟨k, hk, h⟩ := jn_ex h
          try dsimp only at h
          have J : ∀ (t : Int32), k t → ∀ (ls : Array Slot) (H : Heap) (locs : List Loc), lv_has ls 4 [(3, .int v3_4), (0, .ref (ad 0))] → va_P D vwCl (wM cy ad I_1 A) H → va_S Ad s.heap H locs → W p l e rmX10_count s m args below meth c H locs 0 0 Q (F0 m 174 ls [.int t, .int v2_4]) := by
            intro t h ls H locs hl hP hS
            replace h := hk _ h
            try dsimp only at h
            refine lv_ior hx hb dX10_count_174 ?_
            refine lv_topi (fun v2_5 ev2_5 => ?_)
            replace h := h v2_5 ev2_5
            refine lv_istore_n (lv' := [(2, .int v2_5), (3, .int v3_4), (0, .ref (ad 0))]) hx hb dX10_count_175 rfl hl (by decide) rfl (fun ls hl => ?_)
            obtain ⟨v3_5, ev3_5⟩ : ∃ z : Int32, z = v3_4 + 1 := ⟨_, rfl⟩
            replace h := h v3_5 ev3_5
            refine lv_iinc (v := v3_5) (lv' := [(3, .int v3_5), (2, .int v2_5), (0, .ref (ad 0))]) hx hb dX10_count_176 hl (k := 1) rfl (by rw [ev3_5]; rfl) (by decide) rfl (fun ls hl => ?_)
            refine lv_goto (tgt := 149) hx hb dX10_count_179 (by decide) ?_
            exact ih_2 v3_5 v2_5 _ _ _ h (lv_sub hl [0, 1, 2] rfl) hP hS
          refine lv_if_eq (tgt := 171) hx hb dX10_count_164 (by decide) (fun hc_3 => ?_) (fun hc_3 => ?_)
          · rw [if_pos hc_3] at h
            refine lv_iconst (v := 1) hx hb dX10_count_171 (by decide) ?_
            refine lv_iload_n hx hb dX10_count_172 rfl (lv_at hl 0 rfl) ?_
            refine lv_ishl hx hb dX10_count_173 ?_
            exact J (1 <<< (v3_4 &&& 31)) h _ _ _ (lv_sub hl [0, 2] rfl) hP hS
          · rw [if_neg hc_3] at h
            refine lv_iconst (v := 0) hx hb dX10_count_167 (by decide) ?_
            refine lv_goto (tgt := 174) hx hb dX10_count_168 (by decide) ?_
            exact J 0 h _ _ _ (lv_sub hl [0, 2] rfl) hP hS
    exact LP_2 _ 0 0 _ _ _ h (lv_sub hl [0, 1, 2] rfl) hP hS
  rw [if_neg hc_11] at h
  by_cases hc_12 : x1 = 8
  · rw [if_pos hc_12] at h
    refine lv_tableIn (tgt := 184) hx hb dX10_count_8 (by rw [hc_12]; decide) (by rw [hc_12]; decide) (by rw [hc_12]; rfl) (by decide) ?_
    refine lv_aload_n hx hb dX10_count_184 rfl (lv_at hl 1 rfl) ?_
    refine va_get (T := TX10) hx hb hT inlX10 hown hK.1 hP 0 he_X10 rfl 13 (by decide) (hT _ mw_4_150) (fun _ h9 => h9) rfl dX10_count_185 ?_
    exact hret _ (I_1, A) dX10_count_188 h hP hS
  rw [if_neg hc_12] at h
  refine lv_tableOut (tgt := 189) hx hb dX10_count_8 (sw_out_8 hc_4 hc_5 hc_6 hc_7 hc_8 hc_9 hc_10 hc_11 hc_12) (by decide) ?_
  refine lv_iconst (v := (-1)) hx hb dX10_count_189 (by decide) ?_
  exact hret _ (I_1, A) dX10_count_190 h hP hS
