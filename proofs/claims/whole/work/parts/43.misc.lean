section
variable {S : SS} {J : Nat → Int32} {E : Nat → Nat → Int32} {I : Nat → Int32} {L : Nat → Int64} {A : Nat → Nat → Int32} {B : Nat → Nat → Int64}
theorem t_miss (hC : RC S I L A B) (hM : RM S J E) (hW : wf S) (x : Int32) {K : Int32 → Int32 → (Nat → Int32) → Prop} (hK : ∀ r J', RM S J' E → K r r J') : wX9_miss I L A B x (fun r => wX10_miss J E x (fun r' J' => K r r' J')) := by
  obtain ⟨hF, hD, hX, hT, hP⟩ := hC
  have hn := hW.1
  have hle := nT_le hW
  have hM := RM_t hM 0
  have hin := hW.2.2.2.2.2.2.2.1
  have hw := hW.2.2.2.2.2.2.2.2.2.2.1
  unfold wX9_miss wX10_miss
  by_cases h0 : x < 0
  · rw [if_pos h0]
    rintro _ rfl
    simp (disch := omega) only [m_within, h0, zcmp, zari, z00, zm1, le_n, lt_n, eq_n, n_add, n_mul, n_c, n_in, true_and, and_true, if_true, if_false, bi_0, bi_1, ite_true, ite_false, Bool.true_eq_false, Bool.false_eq_true]
    exact hK _ _ hM
  rw [if_neg h0]
  by_cases h5 : x ≤ 5
  · rw [if_pos h5]
    obtain ⟨w, hw5, rfl⟩ := nI_of2 (n := 5) (by decide) h0 h5
    let q : Nat → Bool := fun d => nA S - fb_ct (fun a => pas S (se S) d a) (nA S) == w
    refine lfix_for (nT S) (fun k (y : Int32) => (nI k, y)) (fun k y => y = nI (fb_ct (fun j => q (od S j)) k)) 0 _ (Nat.zero_le _) rfl ?_ ?_
    · rintro r k _ hk rfl hr
      have h1 := hin k hk
      have hr := hr _ rfl
      rw [fb_ct_succ] at hr
      dsimp only
      simp (disch := omega) only [zcmp, zari, z00, zm1, le_n, lt_n, eq_n, n_add, n_mul, n_c, n_in, true_and, and_true, if_true, if_false, bi_0, bi_1, ite_true, ite_false, Bool.true_eq_false, Bool.false_eq_true, hD.2.2.1, show ¬ nT S ≤ k by omega, hD.2.2.2.1 k hk]
      refine c_passedBy hX hP hW (by omega) h1.2 ?_
      obtain ⟨m, m1, m2, m3⟩ := pb_n (p := fun a => pas S (se S) (od S k) a) (n := nA S) (by omega)
      have hc := fb_ct_le (fun a => pas S (se S) (od S k) a) (nA S)
      rw [m2, bs_cnt32 m1, m3, hX.1]
      simp (disch := omega) only [zsub, zcmp, zari, z00, zm1, le_n, lt_n, eq_n, n_add, n_mul, n_c, n_in, true_and, and_true, if_true, if_false, bi_0, bi_1, ite_true, ite_false, Bool.true_eq_false, Bool.false_eq_true]
      by_cases e : nA S - fb_ct (fun a => pas S (se S) (od S k) a) (nA S) = w
      · simp only [e, if_true]
        simp only [q, e, beq_self_eq_true, if_true] at hr
        rintro _ rfl _ rfl
        exact hr
      · simp only [e, if_false]
        simp only [q, bqf e, Bool.false_eq_true, if_false] at hr
        rintro _ rfl
        exact hr
    · rintro r _ rfl
      dsimp only
      simp (disch := omega) only [zcmp, zari, z00, zm1, le_n, lt_n, eq_n, n_add, n_mul, n_c, n_in, true_and, and_true, if_true, if_false, bi_0, bi_1, ite_true, ite_false, Bool.true_eq_false, Bool.false_eq_true, hD.2.2.1, Nat.le_refl]
      rintro _ rfl
      simp (disch := omega) only [m_within, zcmp, zari, z00, zm1, le_n, lt_n, eq_n, n_add, n_mul, n_c, n_in, true_and, and_true, if_true, if_false, bi_0, bi_1, ite_true, ite_false, Bool.true_eq_false, Bool.false_eq_true, show ¬ w < 0 by omega, show ¬ 5 < w by omega]
      rw [← ct_od hW q]
      refine lfix_for (nD S) (fun k (y : Int32) => (nI k, y)) (fun k y => y = nI (fb_ct (fun e => th S e && q e) k)) 0 _ (Nat.zero_le _) rfl ?_ ?_
      · rintro r k _ hk rfl hr
        have hr := hr _ rfl
        rw [fb_ct_succ] at hr
        dsimp only
        simp (disch := omega) only [zcmp, zari, z00, zm1, le_n, lt_n, eq_n, n_add, n_mul, n_c, n_in, true_and, and_true, if_true, if_false, bi_0, bi_1, ite_true, ite_false, Bool.true_eq_false, Bool.false_eq_true, hM.1.2.2.1, show ¬ nD S ≤ k by omega]
        refine lfix_for (nA S) (fun j (y : Int32) => (nI j, y)) (fun j y => y = nI (fb_ct (fun a => !pas S (se S) k a) j)) 0 _ (Nat.zero_le _) rfl ?_ ?_
        · rintro r1 j _ hj rfl hr1
          have hr1 := hr1 _ rfl
          rw [fb_ct_succ] at hr1
          dsimp only
          simp (disch := omega) only [zcmp, zari, z00, zm1, le_n, lt_n, eq_n, n_add, n_mul, n_c, n_in, true_and, and_true, if_true, if_false, bi_0, bi_1, ite_true, ite_false, Bool.true_eq_false, Bool.false_eq_true, hM.1.1, show ¬ nA S ≤ j by omega]
          refine m_passes (b := 0) hM hW hM.2.2.2.2.2.2.2.2.2.2.1 hw.2.2.2 (by omega) (by omega) hj ?_
          simp (disch := omega) only [jn, zcmp, zari, z00, zm1, le_n, lt_n, eq_n, n_add, n_mul, n_c, n_in, true_and, and_true, if_true, if_false, bi_0, bi_1, ite_true, ite_false, Bool.true_eq_false, Bool.false_eq_true]
          cases e : pas S (se S) k j <;> simp only [e, Bool.not_false, Bool.not_true, if_true, if_false, Bool.true_eq_false, Bool.false_eq_true] at hr1 ⊢ <;> (rintro _ rfl _ rfl; exact hr1)
        · rintro r1 _ rfl
          dsimp only
          have hc := fb_ct_not (fun a => pas S (se S) k a) (nA S)
          have hc2 : fb_ct (fun a => !pas S (se S) k a) (nA S) = nA S - fb_ct (fun a => pas S (se S) k a) (nA S) := by omega
          rw [hc2]
          simp (disch := omega) only [jn, zcmp, zari, z00, zm1, le_n, lt_n, eq_n, n_add, n_mul, n_c, n_in, true_and, and_true, if_true, if_false, bi_0, bi_1, ite_true, ite_false, Bool.true_eq_false, Bool.false_eq_true, hM.1.1, Nat.le_refl, hM.2.2.2.2.2.1 k (by omega)]
          cases e : th S k with
          | false =>
            simp only [e, Bool.false_and, if_true, if_false, Bool.false_eq_true] at hr ⊢
            rintro _ rfl _ rfl; exact hr
          | true =>
            simp only [e, Bool.true_and, Bool.true_eq_false, if_false] at hr ⊢
            by_cases e2 : nA S - fb_ct (fun a => pas S (se S) k a) (nA S) = w
            · simp only [e2, if_true]
              simp only [q, e2, beq_self_eq_true, if_true] at hr
              rintro _ rfl _ rfl
              exact hr
            · simp only [e2, if_false]
              simp only [q, bqf e2, Bool.false_eq_true, if_false] at hr
              rintro _ rfl _ rfl
              exact hr
      · rintro r _ rfl
        dsimp only
        simp (disch := omega) only [zcmp, zari, z00, zm1, le_n, lt_n, eq_n, n_add, n_mul, n_c, n_in, true_and, and_true, if_true, if_false, bi_0, bi_1, ite_true, ite_false, Bool.true_eq_false, Bool.false_eq_true, hM.1.2.2.1, Nat.le_refl]
        exact hK _ _ hM
  · rw [if_neg h5]
    rintro _ rfl
    simp (disch := omega) only [m_within, h0, n_gt (x := 5), h5, not_false_eq_true, zcmp, zari, z00, zm1, le_n, lt_n, eq_n, n_add, n_mul, n_c, n_in, true_and, and_true, if_true, if_false, bi_0, bi_1, ite_true, ite_false, Bool.true_eq_false, Bool.false_eq_true]
    exact hK _ _ hM
theorem within_d (hM : RM S J E) (hW : wf S) (x : Int32) (post : Int32 → Prop) : (ou x (nD S) → wX10_within x 0 ((J 3) - 1) post = post 0) ∧ ∀ d, d < nD S → x = nI d → wX10_within x 0 ((J 3) - 1) post = post 1 := by
  have hn := hW.1
  have e : (nI (nD S) - 1).toInt = (nD S : Int) - 1 := by
    have := pk_sub_toInt (a := nD S) (b := 1) (by omega) (by omega)
    exact this
  rw [hM.1.2.2.1]
  constructor
  · intro h
    rw [m_within]
    rcases h with h | h
    · rw [if_pos h]
    · by_cases h0 : x < 0
      · rw [if_pos h0]
      · rw [if_neg h0, if_pos]
        rw [lt_i, e]
        rw [le_i, nI_toInt (by omega)] at h
        omega
  · rintro d hd rfl
    rw [m_within, if_neg (nI_pos (by omega)), if_neg]
    rw [lt_i, e, nI_toInt (by omega)]
    omega
theorem m_placeOf (hM : RM S J E) (hW : wf S) {d : Nat} (hd : d < nD S) {post : Int32 → (Nat → Int32) → (Nat → Nat → Int32) → Prop} (h : ∀ J' E', RM S J' E' → post (uI (ff (fun k => od S k == d) (nT S))) J' E') : wX10_placeOf J E (nI d) post := by
  have hn := hW.1
  have hle := nT_le hW
  have hin := hW.2.2.2.2.2.2.2.1
  unfold wX10_placeOf
  refine m_orders hM hW (fun J1 E1 hM1 h5 h11 _ => ?_)
  refine lfix_for (nT S) (fun k (y : Option Nat) => (nI k, uI y)) (fun k y => y = ff (fun k => od S k == d) k) 0 none (Nat.zero_le _) rfl ?_ ?_
  · rintro r k _ hk rfl hr
    have h1 := hin k hk
    have hr := hr _ rfl
    dsimp only
    simp (disch := omega) only [zcmp, zari, z00, zm1, le_n, lt_n, eq_n, n_add, n_mul, n_c, n_in, true_and, and_true, if_true, if_false, bi_0, bi_1, ite_true, ite_false, Bool.true_eq_false, Bool.false_eq_true, jn, h5, show ¬ nT S ≤ k by omega, h11 k hk]
    by_cases e : od S k = d
    · simp only [e, if_true]
      have : ff (fun k => od S k == d) k = none := by
        cases e2 : ff (fun k => od S k == d) k with
        | none => rfl
        | some j =>
          exfalso
          have : ∀ n j, ff (fun k => od S k == d) n = some j → j < n ∧ od S j = d := by
            intro n
            induction n with
            | zero => intro j h; cases h
            | succ n ih =>
              intro j h
              rw [ff] at h
              split at h
              · rename_i e9; cases h; have := ih _ e9; exact ⟨by omega, this.2⟩
              · split at h
                · rename_i e9; cases h; exact ⟨by omega, by simpa using e9⟩
                · cases h
          obtain ⟨q1, q2⟩ := this k j e2
          have := od_inj hW (show j < nT S by omega) hk (by rw [q2, e])
          omega
      have h9 : ff (fun k => od S k == d) (k + 1) = some k := by rw [ff, this]; simp [e]
      rw [h9] at hr
      rintro _ rfl
      exact hr
    · simp only [e, if_false]
      rintro _ rfl
      have h9 : ff (fun k => od S k == d) (k + 1) = ff (fun k => od S k == d) k := by
        rw [ff]
        cases ff (fun k => od S k == d) k with
        | none => simp [e]
        | some j => rfl
      rw [h9] at hr
      exact hr
  · rintro r _ rfl
    dsimp only
    simp (disch := omega) only [zcmp, zari, z00, zm1, le_n, lt_n, eq_n, n_add, n_mul, n_c, n_in, true_and, and_true, if_true, if_false, bi_0, bi_1, ite_true, ite_false, Bool.true_eq_false, Bool.false_eq_true, h5, Nat.le_refl]
    exact h _ _ hM1
theorem c_placeOf (hD : RD S I L A) (hW : wf S) {d : Nat} (hd : d < nD S) {post : Int32 → Prop} (h : post (uI (ff (fun k => od S k == d) (nT S)))) : wX3_placeOf I L A B 7 (nI d) post := by
  have hn := hW.1
  have hle := nT_le hW
  have hin := hW.2.2.2.2.2.2.2.1
  unfold wX3_placeOf
  refine lfix_for (nT S) (fun k (_ : Unit) => nI k) (fun k _ => ff (fun k => od S k == d) k = none) 0 () (Nat.zero_le _) rfl ?_ ?_
  · rintro r k _ hk hf hr
    have h1 := hin k hk
    simp (disch := omega) only [zcmp, zari, z00, zm1, le_n, lt_n, eq_n, n_add, n_mul, n_c, n_in, true_and, and_true, if_true, if_false, bi_0, bi_1, ite_true, ite_false, Bool.true_eq_false, Bool.false_eq_true, hD.2.2.1, show ¬ nT S ≤ k by omega, hD.2.2.2.1 k hk]
    by_cases e : od S k = d
    · simp only [e, if_true]
      rw [ff_mono (k := k + 1) (j := k) (by rw [ff, hf]; simp [e]) _ (by omega)] at h
      exact h
    · simp only [e, if_false]
      rintro _ rfl
      exact hr () (by rw [ff, hf]; simp [e])
  · rintro r _ hf
    simp (disch := omega) only [zcmp, zari, z00, zm1, le_n, lt_n, eq_n, n_add, n_mul, n_c, n_in, true_and, and_true, if_true, if_false, bi_0, bi_1, ite_true, ite_false, Bool.true_eq_false, Bool.false_eq_true, hD.2.2.1, Nat.le_refl]
    rw [hf] at h
    exact h
theorem t_doc (hC : RC S I L A B) (hM : RM S J E) (hW : wf S) (x y : Int32) {K : Int32 → Int32 → (Nat → Int32) → (Nat → Nat → Int32) → Prop} (hK : ∀ r J' E', RM S J' E' → K r r J' E') : wX9_doc I L A B x y (fun r => wX10_doc J E x y (fun r' J' E' => K r r' J' E')) := by
  obtain ⟨hF, hD, hX, hT, hP⟩ := hC
  have hn := hW.1
  have hM := RM_t hM 0
  unfold wX9_doc wX10_doc
  rcases ix x (n := nD S) (by omega) with h | ⟨d, hd, rfl⟩
  · rw [c_knD_o hD h]
    simp only [z00, if_true]
    rintro _ rfl
    rw [(within_d hM hW x _).1 h]
    simp only [z00, if_true]
    exact hK _ _ _ hM
  · rw [c_knD hD hW hd]
    simp only [z00, if_false]
    rw [c_isThere hD hW hd]
    have mm : ∀ {P : Int32 → Prop}, P 1 → wX10_within (nI d) 0 ((va_up J 0 0) 3 - 1) P := fun {P} h => by rw [(within_d hM hW (nI d) P).2 d hd rfl]; exact h
    by_cases y0 : y = 0
    · simp only [eq_true y0, if_true]
      simp (disch := omega) only [zcmp, zari, z00, zm1, le_n, lt_n, eq_n, n_add, n_mul, n_c, n_in, true_and, and_true, if_true, if_false, bi_0, bi_1, ite_true, ite_false, Bool.true_eq_false, Bool.false_eq_true, hD.2.2.2.2 d hd]
      rintro _ rfl
      refine mm ?_
      simp (disch := omega) only [zcmp, zari, z00, zm1, le_n, lt_n, eq_n, n_add, n_mul, n_c, n_in, true_and, and_true, if_true, if_false, bi_0, bi_1, ite_true, ite_false, Bool.true_eq_false, Bool.false_eq_true, hM.2.2.2.2.1 d hd]
      exact hK _ _ _ hM
    simp only [y0, if_false]
    by_cases y1 : y = 1
    · simp only [eq_true y1, if_true]
      simp (disch := omega) only [zcmp, zari, z00, zm1, le_n, lt_n, eq_n, n_add, n_mul, n_c, n_in, true_and, and_true, if_true, if_false, bi_0, bi_1, ite_true, ite_false, Bool.true_eq_false, Bool.false_eq_true]
      cases e : th S d with
      | false =>
        simp only [if_true]
        rintro _ rfl
        refine mm ?_
        simp (disch := omega) only [zcmp, zari, z00, zm1, le_n, lt_n, eq_n, n_add, n_mul, n_c, n_in, true_and, and_true, if_true, if_false, bi_0, bi_1, ite_true, ite_false, Bool.true_eq_false, Bool.false_eq_true, hM.2.2.2.2.2.1 d (by omega), e]
        exact hK _ _ _ hM
      | true =>
        simp only [Bool.true_eq_false, if_false]
        rintro _ rfl
        refine mm ?_
        simp (disch := omega) only [zcmp, zari, z00, zm1, le_n, lt_n, eq_n, n_add, n_mul, n_c, n_in, true_and, and_true, if_true, if_false, bi_0, bi_1, ite_true, ite_false, Bool.true_eq_false, Bool.false_eq_true, hM.2.2.2.2.2.1 d (by omega), e]
        exact hK _ _ _ hM
    simp only [y1, if_false]
    by_cases y2 : y = 2
    · simp only [eq_true y2, if_true]
      refine c_hits hD hX hP hW (fun m hm => ?_)
      simp (disch := omega) only [zcmp, zari, z00, zm1, le_n, lt_n, eq_n, n_add, n_mul, n_c, n_in, true_and, and_true, if_true, if_false, bi_0, bi_1, ite_true, ite_false, Bool.true_eq_false, Bool.false_eq_true, bs_in m (show d < 64 by omega), hm d (by omega)]
      have fin : ∀ {K2 : Int32 → (Nat → Int32) → (Nat → Nat → Int32) → Prop}, (∀ J' E', RM S J' E' → K2 (bi (nea S (se S) d 9)) J' E') → wX10_isNear (va_up J 0 0) E 0 (nI d) (-1) (fun r82 => if r82 = 0 then (K2 0 (va_up J 0 0) E) else (K2 1 (va_up J 0 0) E)) := by
        intro K2 h2
        rw [← enc_9]
        refine m_near0 hM hW (by omega) _ ?_
        simp (disch := omega) only [zcmp, zari, z00, zm1, le_n, lt_n, eq_n, n_add, n_mul, n_c, n_in, true_and, and_true, if_true, if_false, bi_0, bi_1, ite_true, ite_false, Bool.true_eq_false, Bool.false_eq_true]
        have := h2 _ _ hM
        cases e : nea S (se S) d 9 <;> simp [e, bi] at this ⊢ <;> exact this
      cases e : nea S (se S) d 9 with
      | false =>
        simp only [if_true]
        rintro _ rfl
        refine mm ?_
        simp (disch := omega) only [zcmp, zari, z00, zm1, le_n, lt_n, eq_n, n_add, n_mul, n_c, n_in, true_and, and_true, if_true, if_false, bi_0, bi_1, ite_true, ite_false, Bool.true_eq_false, Bool.false_eq_true]
        exact fin (fun J' E' h => by rw [e]; exact hK _ _ _ h)
      | true =>
        simp only [Bool.true_eq_false, if_false]
        rintro _ rfl
        refine mm ?_
        simp (disch := omega) only [zcmp, zari, z00, zm1, le_n, lt_n, eq_n, n_add, n_mul, n_c, n_in, true_and, and_true, if_true, if_false, bi_0, bi_1, ite_true, ite_false, Bool.true_eq_false, Bool.false_eq_true]
        exact fin (fun J' E' h => by rw [e]; exact hK _ _ _ h)
    simp only [y2, if_false]
    by_cases y3 : y = 3
    · simp only [eq_true y3, if_true]
      simp (disch := omega) only [zcmp, zari, z00, zm1, le_n, lt_n, eq_n, n_add, n_mul, n_c, n_in, true_and, and_true, if_true, if_false, bi_0, bi_1, ite_true, ite_false, Bool.true_eq_false, Bool.false_eq_true]
      cases e : th S d with
      | false =>
        simp only [if_true]
        rintro _ rfl
        refine mm ?_
        simp (disch := omega) only [zcmp, zari, z00, zm1, le_n, lt_n, eq_n, n_add, n_mul, n_c, n_in, true_and, and_true, if_true, if_false, bi_0, bi_1, ite_true, ite_false, Bool.true_eq_false, Bool.false_eq_true, hM.2.2.2.2.2.1 d (by omega), e]
        exact hK _ _ _ hM
      | true =>
        simp only [Bool.true_eq_false, if_false]
        refine c_passedBy hX hP hW (by omega) e ?_
        rintro _ rfl
        refine mm ?_
        simp (disch := omega) only [zcmp, zari, z00, zm1, le_n, lt_n, eq_n, n_add, n_mul, n_c, n_in, true_and, and_true, if_true, if_false, bi_0, bi_1, ite_true, ite_false, Bool.true_eq_false, Bool.false_eq_true, hM.2.2.2.2.2.1 d (by omega), e]
        exact m_passedBy hM hW (by omega) (hK _ _ _ hM)
    simp only [y3, if_false]
    by_cases y4 : y = 4
    · simp only [eq_true y4, if_true]
      refine c_placeOf hD hW hd ?_
      rintro _ rfl
      refine mm ?_
      simp (disch := omega) only [zcmp, zari, z00, zm1, le_n, lt_n, eq_n, n_add, n_mul, n_c, n_in, true_and, and_true, if_true, if_false, bi_0, bi_1, ite_true, ite_false, Bool.true_eq_false, Bool.false_eq_true]
      exact m_placeOf hM hW hd (fun J' E' h => hK _ _ _ h)
    simp only [y4, if_false]
    rintro _ rfl
    refine mm ?_
    simp (disch := omega) only [zcmp, zari, z00, zm1, le_n, lt_n, eq_n, n_add, n_mul, n_c, n_in, true_and, and_true, if_true, if_false, bi_0, bi_1, ite_true, ite_false, Bool.true_eq_false, Bool.false_eq_true]
    exact hK _ _ _ hM
end
