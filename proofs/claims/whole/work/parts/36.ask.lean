section
variable {S : SS} {J : Nat → Int32} {E : Nat → Nat → Int32} {I : Nat → Int32} {L : Nat → Int64} {A : Nat → Nat → Int32} {B : Nat → Nat → Int64}
theorem RM_J (hM : RM S J E) {J' : Nat → Int32} (h : ∀ k, 1 ≤ k → k ≤ 4 → J' k = J k) : RM S J' E := by
  unfold RM at hM ⊢
  rw [h 1 (by omega) (by omega), h 2 (by omega) (by omega), h 3 (by omega) (by omega), h 4 (by omega) (by omega)]
  exact hM
theorem RM_t (hM : RM S J E) (v : Int32) : RM S (va_up J 0 v) E := RM_J hM (fun k h1 _ => up_n _ _ (by omega))
theorem rSl_to {sl : Sl} {b : Nat} {f g : Nat → Int32} (hl : ∀ a, (sl.2.2 a).length ≤ 3) (h : rSl sl b f) (hg : ∀ i, b ≤ i → i < b + 80 → g i = f i) : rSl sl b g := by
  refine ⟨fun c hc => ?_, fun a ha => ?_, fun a ha => ?_, fun a ha j hj => ?_⟩
  · rw [hg _ (by omega) (by omega)]; exact h.1 c hc
  · rw [hg _ (by omega) (by omega)]; exact h.2.1 a ha
  · rw [hg _ (by omega) (by omega)]; exact h.2.2.1 a ha
  · have := hl a
    rw [hg _ (by omega) (by omega), hg _ (by omega) (by omega)]
    exact h.2.2.2 a ha j hj
theorem RM_E (hW : wf S) (hM : RM S J E) {E' : Nat → Nat → Int32} (h : ∀ k, 1 ≤ k → k ≤ 10 → k ≠ 9 → E' k = E k) (h9 : ∀ i, i < 1360 → E' 9 i = E 9 i) : RM S J E' := by
  have hw := hW.2.2.2.2.2.2.2.2.2.2
  unfold RM at hM ⊢
  rw [h 1 (by omega) (by omega) (by omega), h 2 (by omega) (by omega) (by omega), h 3 (by omega) (by omega) (by omega), h 4 (by omega) (by omega) (by omega), h 5 (by omega) (by omega) (by omega), h 6 (by omega) (by omega) (by omega), h 7 (by omega) (by omega) (by omega), h 8 (by omega) (by omega) (by omega), h 10 (by omega) (by omega) (by omega)]
  obtain ⟨g1, g2, g3, g4, g5, g6, g7, g8, g9, g10, g11, g12⟩ := hM
  refine ⟨g1, g2, g3, g4, g5, g6, g7, g8, g9, g10, rSl_to hw.1.2.2.2 g11 (fun i h1 h2 => h9 i (by omega)), fun k sl hk => ?_⟩
  have hk2 : k < (hi S).length := (List.getElem?_eq_some_iff.mp hk).1
  exact rSl_to (hw.2.1 sl (List.mem_of_getElem? hk)).2.2.2 (g12 k sl hk) (fun i h1 h2 => h9 i (by have := hw.2.2; omega))
theorem RM_9 (hW : wf S) (hM : RM S J E) {f : Nat → Int32} (h9 : ∀ i, i < 1360 → f i = E 9 i) : RM S J (va_up E 9 f) := RM_E hW hM (fun k _ _ h => up_n _ _ h) (fun i hi => by rw [up_s]; exact h9 i hi)
-- the reference: counts
theorem m_lifted (hM : RM S J E) (hW : wf S) {x : Nat} (hx : x < nA S) (post : Int32 → Prop) : wX10_lifted J E (nI x) post = post (enc (lft S x)) := by
  have hn := hW.1
  have hk2 := hW.2.1 x hx
  unfold wX10_lifted lft
  simp (disch := omega) only [zcmp, zari, z00, zm1, le_n, lt_n, eq_n, n_add, n_mul, n_c, n_in, true_and, and_true, if_true, if_false, bi_0, bi_1, ite_true, ite_false, Bool.true_eq_false, Bool.false_eq_true, hM.2.1 x hx]
  by_cases e : kd S x = 1
  · simp only [e, if_true]; rw [enc_9]
  · simp only [e, if_false]; rw [enc_in (by omega)]
theorem m_near0 (hM : RM S J E) (hW : wf S) {d : Nat} (hd : d < 40) (t : Nat) {post : Int32 → Prop} (h : post (bi (nea S (se S) d t))) : wX10_isNear J E 0 (nI d) (enc t) post := m_isNear hM hW (b := 0) hM.2.2.2.2.2.2.2.2.2.2.1 hW.2.2.2.2.2.2.2.2.2.2.1.2.2.2 (by omega) hd t h
theorem m_counts (hM : RM S J E) (hW : wf S) {d c : Nat} (hd : d < 40) (hc : c < nC S) {post : Int32 → Prop} (h : post (bi (cou S d c))) : wX10_counts J E (nI d) (nI c) post := by
  have hn := hW.1
  have ha := (hW.2.2.1 c hc).1
  unfold wX10_counts
  simp (disch := omega) only [zcmp, zari, z00, zm1, le_n, lt_n, eq_n, n_add, n_mul, n_c, n_in, true_and, and_true, if_true, if_false, bi_0, bi_1, ite_true, ite_false, Bool.true_eq_false, Bool.false_eq_true, hM.2.2.1 c hc]
  rw [m_lifted hM hW ha]
  refine m_near0 hM hW hd _ ?_
  simp (disch := omega) only [zcmp, zari, z00, zm1, le_n, lt_n, eq_n, n_add, n_mul, n_c, n_in, true_and, and_true, if_true, if_false, bi_0, bi_1, ite_true, ite_false, Bool.true_eq_false, Bool.false_eq_true]
  unfold cou at h
  cases e : nea S (se S) d (lft S (ax S c)) with
  | false => rw [e] at h; simpa [bi] using h
  | true =>
    rw [e] at h
    simp only [Bool.true_eq_false, if_false]
    refine m_hasIt hM hd (by omega) ?_
    simp (disch := omega) only [zcmp, zari, z00, zm1, le_n, lt_n, eq_n, n_add, n_mul, n_c, n_in, true_and, and_true, if_true, if_false, bi_0, bi_1, ite_true, ite_false, Bool.true_eq_false, Bool.false_eq_true]
    cases e2 : has S d c <;> simp [e2, bi] at h ⊢ <;> exact h
theorem m_shownOf (hM : RM S J E) (hW : wf S) {c : Nat} (hc : c < nC S) {post : Int32 → Prop} (h : post (nI (shw S c))) : wX10_shownOf J E (nI c) post := by
  have hn := hW.1
  unfold wX10_shownOf
  refine lfix_for (nD S) (fun k (y : Int32) => (nI k, y)) (fun k y => y = nI (fb_ct (fun d => cou S d c) k)) 0 _ (Nat.zero_le _) rfl ?_ ?_
  · rintro r k _ hk rfl hr
    have hr := hr _ rfl
    dsimp only
    rw [fb_ct_succ] at hr
    simp (disch := omega) only [zcmp, zari, z00, zm1, le_n, lt_n, eq_n, n_add, n_mul, n_c, n_in, true_and, and_true, if_true, if_false, bi_0, bi_1, ite_true, ite_false, Bool.true_eq_false, Bool.false_eq_true, hM.1.2.2.1, show ¬ nD S ≤ k by omega]
    refine m_counts hM hW (by omega) hc ?_
    simp (disch := omega) only [jn, zcmp, zari, z00, zm1, le_n, lt_n, eq_n, n_add, n_mul, n_c, n_in, true_and, and_true, if_true, if_false, bi_0, bi_1, ite_true, ite_false, Bool.true_eq_false, Bool.false_eq_true]
    cases e : cou S k c <;> simp only [e, if_true, if_false, Bool.true_eq_false] at hr ⊢ <;> (rintro _ rfl _ rfl; exact hr)
  · rintro r _ rfl
    dsimp only
    simp (disch := omega) only [zcmp, zari, z00, zm1, le_n, lt_n, eq_n, n_add, n_mul, n_c, n_in, true_and, and_true, if_true, if_false, bi_0, bi_1, ite_true, ite_false, Bool.true_eq_false, Bool.false_eq_true, hM.1.2.2.1, Nat.le_refl]
    exact h
theorem m_within (x : Int32) (a b : Int32) (post : Int32 → Prop) : wX10_within x a b post = if x < a then post 0 else if b < x then post 0 else post 1 := rfl
theorem n_gt {x y : Int32} : (x < y) = ¬ (y ≤ x) := by rw [lt_i, le_i]; exact propext (by omega)
-- near, shown, shownMissing, both, has
theorem t_near (hC : RC S I L A B) (hM : RM S J E) (hW : wf S) (x : Int32) {K : Int32 → Int32 → (Nat → Int32) → Prop} (hK : ∀ r J', RM S J' E → K r r J') : wX9_near I L A B x (fun r => wX10_near J E x (fun r' J' => K r r' J')) := by
  obtain ⟨hF, hD, hX, hT, hP⟩ := hC
  have hn := hW.1
  have hM := RM_t hM 0
  unfold wX9_near wX10_near
  rcases ix x (n := nA S) (by omega) with h | ⟨a, ha, rfl⟩
  · rw [c_knA_o hX h]
    simp only [if_true]
    rintro _ rfl
    rw [m_isAxis_o hM h]
    simp only [if_true]
    exact hK _ _ hM
  · rw [c_knA hX hW ha]
    simp (disch := omega) only [zcmp, zari, z00, zm1, le_n, lt_n, eq_n, n_add, n_mul, n_c, n_in, true_and, and_true, if_true, if_false, bi_0, bi_1, ite_true, ite_false, Bool.true_eq_false, Bool.false_eq_true]
    refine c_lift1 hD hX hP hW ha (fun m hm => ?_)
    rw [bm_ct hm (n := nD S) (fun i hi => nea_out hW _ _ i hi) (by omega)]
    rintro _ rfl
    rw [m_isAxis hM hW ha]
    simp (disch := omega) only [zcmp, zari, z00, zm1, le_n, lt_n, eq_n, n_add, n_mul, n_c, n_in, true_and, and_true, if_true, if_false, bi_0, bi_1, ite_true, ite_false, Bool.true_eq_false, Bool.false_eq_true]
    refine lfix_for (nD S) (fun k (y : Int32) => (nI k, y)) (fun k y => y = nI (fb_ct (fun d => nea S (se S) d a) k)) 0 _ (Nat.zero_le _) rfl ?_ ?_
    · rintro r k _ hk rfl hr
      have hr := hr _ rfl
      dsimp only
      rw [fb_ct_succ] at hr
      simp (disch := omega) only [zcmp, zari, z00, zm1, le_n, lt_n, eq_n, n_add, n_mul, n_c, n_in, true_and, and_true, if_true, if_false, bi_0, bi_1, ite_true, ite_false, Bool.true_eq_false, Bool.false_eq_true, hM.1.2.2.1, show ¬ nD S ≤ k by omega]
      rw [← enc_in (show a < 5 by omega)]
      refine m_near0 hM hW (by omega) a ?_
      simp (disch := omega) only [jn, zcmp, zari, z00, zm1, le_n, lt_n, eq_n, n_add, n_mul, n_c, n_in, true_and, and_true, if_true, if_false, bi_0, bi_1, ite_true, ite_false, Bool.true_eq_false, Bool.false_eq_true]
      cases e : nea S (se S) k a <;> simp only [e, if_true, if_false, Bool.true_eq_false] at hr ⊢ <;> (rintro _ rfl _ rfl; exact hr)
    · rintro r _ rfl
      dsimp only
      simp (disch := omega) only [zcmp, zari, z00, zm1, le_n, lt_n, eq_n, n_add, n_mul, n_c, n_in, true_and, and_true, if_true, if_false, bi_0, bi_1, ite_true, ite_false, Bool.true_eq_false, Bool.false_eq_true, hM.1.2.2.1, Nat.le_refl]
      exact hK _ _ hM
theorem t_shown (hC : RC S I L A B) (hM : RM S J E) (hW : wf S) (x : Int32) {K : Int32 → Int32 → (Nat → Int32) → Prop} (hK : ∀ r J', RM S J' E → K r r J') : wX9_shown I L A B x (fun r => wX10_shown J E x (fun r' J' => K r r' J')) := by
  obtain ⟨hF, hD, hX, hT, hP⟩ := hC
  have hn := hW.1
  have hM := RM_t hM 0
  unfold wX9_shown wX10_shown
  rcases ix x (n := nC S) (by omega) with h | ⟨a, ha, rfl⟩
  · rw [c_knC_o hF h]
    simp only [if_true]
    rintro _ rfl
    rw [m_isCat_o hM h]
    simp only [if_true]
    exact hK _ _ hM
  · rw [c_knC hF hW ha]
    simp (disch := omega) only [zcmp, zari, z00, zm1, le_n, lt_n, eq_n, n_add, n_mul, n_c, n_in, true_and, and_true, if_true, if_false, bi_0, bi_1, ite_true, ite_false, Bool.true_eq_false, Bool.false_eq_true]
    refine c_showing hF hD hX hP hW ha ?_
    rintro _ rfl
    rw [m_isCat hM hW ha]
    simp (disch := omega) only [zcmp, zari, z00, zm1, le_n, lt_n, eq_n, n_add, n_mul, n_c, n_in, true_and, and_true, if_true, if_false, bi_0, bi_1, ite_true, ite_false, Bool.true_eq_false, Bool.false_eq_true]
    refine m_shownOf hM hW ha ?_
    exact hK _ _ hM
theorem t_shownMissing (hC : RC S I L A B) (hM : RM S J E) (hW : wf S) (x : Int32) {K : Int32 → Int32 → (Nat → Int32) → Prop} (hK : ∀ r J', RM S J' E → K r r J') : wX9_shownMissing I L A B x (fun r => wX10_shownMissing J E x (fun r' J' => K r r' J')) := by
  obtain ⟨hF, hD, hX, hT, hP⟩ := hC
  have hn := hW.1
  have hM := RM_t hM 0
  unfold wX9_shownMissing wX10_shownMissing
  rcases ix x (n := nA S) (by omega) with h | ⟨a, ha, rfl⟩
  · rw [c_knA_o hX h]
    simp only [if_true]
    rintro _ rfl
    rw [m_isAxis_o hM h]
    simp only [if_true]
    exact hK _ _ hM
  · rw [c_knA hX hW ha]
    simp (disch := omega) only [zcmp, zari, z00, zm1, le_n, lt_n, eq_n, n_add, n_mul, n_c, n_in, true_and, and_true, if_true, if_false, bi_0, bi_1, ite_true, ite_false, Bool.true_eq_false, Bool.false_eq_true]
    refine c_audience hD hX hP hW ha (fun m hm => ?_)
    refine c_absentOn hF hD hX hW ha (fun m2 hm2 => ?_)
    have hb : bm (m &&& m2) (fun d => nea S (se S) d (lft S a) && mis S d a) := bm_to (bm_and hm hm2) (fun i _ => by unfold nea; cases th S i <;> simp)
    rw [bm_ct hb (n := nD S) (fun i hi => by rw [nea_out hW _ _ i hi]; rfl) (by omega)]
    rintro _ rfl
    rw [m_isAxis hM hW ha]
    simp (disch := omega) only [zcmp, zari, z00, zm1, le_n, lt_n, eq_n, n_add, n_mul, n_c, n_in, true_and, and_true, if_true, if_false, bi_0, bi_1, ite_true, ite_false, Bool.true_eq_false, Bool.false_eq_true]
    refine lfix_for (nD S) (fun k (y : Int32) => (nI k, y)) (fun k y => y = nI (fb_ct (fun d => nea S (se S) d (lft S a) && mis S d a) k)) 0 _ (Nat.zero_le _) rfl ?_ ?_
    · rintro r k _ hk rfl hr
      have hr := hr _ rfl
      dsimp only
      rw [fb_ct_succ] at hr
      simp (disch := omega) only [zcmp, zari, z00, zm1, le_n, lt_n, eq_n, n_add, n_mul, n_c, n_in, true_and, and_true, if_true, if_false, bi_0, bi_1, ite_true, ite_false, Bool.true_eq_false, Bool.false_eq_true, hM.1.2.2.1, show ¬ nD S ≤ k by omega]
      rw [m_lifted hM hW ha]
      refine m_near0 hM hW (by omega) _ ?_
      simp (disch := omega) only [jn, zcmp, zari, z00, zm1, le_n, lt_n, eq_n, n_add, n_mul, n_c, n_in, true_and, and_true, if_true, if_false, bi_0, bi_1, ite_true, ite_false, Bool.true_eq_false, Bool.false_eq_true]
      cases e : nea S (se S) k (lft S a) with
      | false =>
        simp only [e, Bool.false_and, if_true, if_false, Bool.false_eq_true] at hr ⊢
        rintro _ rfl _ rfl; exact hr
      | true =>
        simp only [e, Bool.true_and, Bool.true_eq_false, if_false] at hr ⊢
        refine m_isMissing hM hW (by omega) ha ?_
        simp (disch := omega) only [zcmp, zari, z00, zm1, le_n, lt_n, eq_n, n_add, n_mul, n_c, n_in, true_and, and_true, if_true, if_false, bi_0, bi_1, ite_true, ite_false, Bool.true_eq_false, Bool.false_eq_true]
        cases e2 : mis S k a <;> simp only [e2, if_true, if_false, Bool.true_eq_false, Bool.false_eq_true] at hr ⊢ <;> (rintro _ rfl _ rfl; exact hr)
    · rintro r _ rfl
      dsimp only
      simp (disch := omega) only [zcmp, zari, z00, zm1, le_n, lt_n, eq_n, n_add, n_mul, n_c, n_in, true_and, and_true, if_true, if_false, bi_0, bi_1, ite_true, ite_false, Bool.true_eq_false, Bool.false_eq_true, hM.1.2.2.1, Nat.le_refl]
      exact hK _ _ hM
theorem t_both (hC : RC S I L A B) (hM : RM S J E) (hW : wf S) (x y : Int32) {K : Int32 → Int32 → (Nat → Int32) → Prop} (hK : ∀ r J', RM S J' E → K r r J') : wX9_both I L A B x y (fun r => wX10_both J E x y (fun r' J' => K r r' J')) := by
  obtain ⟨hF, hD, hX, hT, hP⟩ := hC
  have hn := hW.1
  have hM := RM_t hM 0
  unfold wX9_both wX10_both
  rcases ix x (n := nC S) (by omega) with h | ⟨a, ha, rfl⟩
  · rw [c_knC_o hF h]
    simp only [if_true]
    rintro _ rfl
    rw [m_isCat_o hM h]
    simp only [if_true]
    exact hK _ _ hM
  · rw [c_knC hF hW ha]
    simp (disch := omega) only [zcmp, zari, z00, zm1, le_n, lt_n, eq_n, n_add, n_mul, n_c, n_in, true_and, and_true, if_true, if_false, bi_0, bi_1, ite_true, ite_false, Bool.true_eq_false, Bool.false_eq_true]
    rcases ix y (n := nC S) (by omega) with h | ⟨b, hb, rfl⟩
    · rw [c_knC_o hF h]
      simp only [if_true]
      rintro _ rfl
      rw [m_isCat hM hW ha]
      simp (disch := omega) only [zcmp, zari, z00, zm1, le_n, lt_n, eq_n, n_add, n_mul, n_c, n_in, true_and, and_true, if_true, if_false, bi_0, bi_1, ite_true, ite_false, Bool.true_eq_false, Bool.false_eq_true]
      rw [m_isCat_o hM h]
      simp only [if_true]
      exact hK _ _ hM
    · rw [c_knC hF hW hb]
      simp (disch := omega) only [zcmp, zari, z00, zm1, le_n, lt_n, eq_n, n_add, n_mul, n_c, n_in, true_and, and_true, if_true, if_false, bi_0, bi_1, ite_true, ite_false, Bool.true_eq_false, Bool.false_eq_true]
      refine c_hits hD hX hP hW (fun m hm => ?_)
      rw [bm_ct (bm_and (bm_and hm (hF.2.2.2.2.2.1 a ha)) (hF.2.2.2.2.2.1 b hb)) (n := nD S) (fun i hi => by rw [nea_out hW _ _ i hi]; rfl) (by omega)]
      rintro _ rfl
      rw [m_isCat hM hW ha]
      simp (disch := omega) only [zcmp, zari, z00, zm1, le_n, lt_n, eq_n, n_add, n_mul, n_c, n_in, true_and, and_true, if_true, if_false, bi_0, bi_1, ite_true, ite_false, Bool.true_eq_false, Bool.false_eq_true]
      rw [m_isCat hM hW hb]
      simp (disch := omega) only [zcmp, zari, z00, zm1, le_n, lt_n, eq_n, n_add, n_mul, n_c, n_in, true_and, and_true, if_true, if_false, bi_0, bi_1, ite_true, ite_false, Bool.true_eq_false, Bool.false_eq_true]
      refine lfix_for (nD S) (fun k (y : Int32) => (nI k, y)) (fun k y => y = nI (fb_ct (fun d => nea S (se S) d 9 && has S d a && has S d b) k)) 0 _ (Nat.zero_le _) rfl ?_ ?_
      · rintro r k _ hk rfl hr
        have hr := hr _ rfl
        dsimp only
        rw [fb_ct_succ] at hr
        simp (disch := omega) only [zcmp, zari, z00, zm1, le_n, lt_n, eq_n, n_add, n_mul, n_c, n_in, true_and, and_true, if_true, if_false, bi_0, bi_1, ite_true, ite_false, Bool.true_eq_false, Bool.false_eq_true, hM.1.2.2.1, show ¬ nD S ≤ k by omega]
        rw [← enc_9]
        refine m_near0 hM hW (by omega) _ ?_
        simp (disch := omega) only [jn, zcmp, zari, z00, zm1, le_n, lt_n, eq_n, n_add, n_mul, n_c, n_in, true_and, and_true, if_true, if_false, bi_0, bi_1, ite_true, ite_false, Bool.true_eq_false, Bool.false_eq_true]
        cases e : nea S (se S) k 9 with
        | false =>
          simp only [e, Bool.false_and, if_true, if_false, Bool.false_eq_true] at hr ⊢
          rintro _ rfl _ rfl; exact hr
        | true =>
          simp only [e, Bool.true_and, Bool.true_eq_false, if_false] at hr ⊢
          refine m_hasIt hM (by omega) (by omega) ?_
          simp (disch := omega) only [zcmp, zari, z00, zm1, le_n, lt_n, eq_n, n_add, n_mul, n_c, n_in, true_and, and_true, if_true, if_false, bi_0, bi_1, ite_true, ite_false, Bool.true_eq_false, Bool.false_eq_true]
          cases e2 : has S k a with
          | false =>
            simp only [e2, Bool.false_and, if_true, if_false, Bool.false_eq_true] at hr ⊢
            rintro _ rfl _ rfl; exact hr
          | true =>
            simp only [e2, Bool.true_and, Bool.true_eq_false, if_false] at hr ⊢
            refine m_hasIt hM (by omega) (by omega) ?_
            simp (disch := omega) only [zcmp, zari, z00, zm1, le_n, lt_n, eq_n, n_add, n_mul, n_c, n_in, true_and, and_true, if_true, if_false, bi_0, bi_1, ite_true, ite_false, Bool.true_eq_false, Bool.false_eq_true]
            cases e3 : has S k b <;> simp only [e3, if_true, if_false, Bool.true_eq_false, Bool.false_eq_true] at hr ⊢ <;> (rintro _ rfl _ rfl; exact hr)
      · rintro r _ rfl
        dsimp only
        simp (disch := omega) only [zcmp, zari, z00, zm1, le_n, lt_n, eq_n, n_add, n_mul, n_c, n_in, true_and, and_true, if_true, if_false, bi_0, bi_1, ite_true, ite_false, Bool.true_eq_false, Bool.false_eq_true, hM.1.2.2.1, Nat.le_refl]
        exact hK _ _ hM
theorem t_has (hC : RC S I L A B) (hM : RM S J E) (hW : wf S) (x y : Int32) {K : Int32 → Int32 → (Nat → Int32) → Prop} (hK : ∀ r J', RM S J' E → K r r J') : wX9_has I L A B x y (fun r => wX10_has J E x y (fun r' J' => K r r' J')) := by
  obtain ⟨hF, hD, hX, hT, hP⟩ := hC
  have hn := hW.1
  have hM := RM_t hM 0
  unfold wX9_has wX10_has
  rcases ix x (n := nD S) (by omega) with h | ⟨d, hd, rfl⟩
  · rw [c_isThere_o hD h]
    simp only [if_true]
    rintro _ rfl
    rw [m_isThere_o hM h]
    simp only [if_true]
    exact hK _ _ hM
  · rw [c_isThere hD hW hd]
    simp (disch := omega) only [zcmp, zari, z00, zm1, le_n, lt_n, eq_n, n_add, n_mul, n_c, n_in, true_and, and_true, if_true, if_false, bi_0, bi_1, ite_true, ite_false, Bool.true_eq_false, Bool.false_eq_true]
    cases e : th S d with
    | false =>
      simp only [if_true]
      rintro _ rfl
      rw [m_isThere hM hW hd, e]
      simp (disch := omega) only [zcmp, zari, z00, zm1, le_n, lt_n, eq_n, n_add, n_mul, n_c, n_in, true_and, and_true, if_true, if_false, bi_0, bi_1, ite_true, ite_false, Bool.true_eq_false, Bool.false_eq_true]
      exact hK _ _ hM
    | true =>
      simp only [Bool.true_eq_false, if_false]
      rcases ix y (n := nC S) (by omega) with h | ⟨c, hc, rfl⟩
      · rw [c_knC_o hF h]
        simp only [if_true]
        rintro _ rfl
        rw [m_isThere hM hW hd, e]
        simp (disch := omega) only [zcmp, zari, z00, zm1, le_n, lt_n, eq_n, n_add, n_mul, n_c, n_in, true_and, and_true, if_true, if_false, bi_0, bi_1, ite_true, ite_false, Bool.true_eq_false, Bool.false_eq_true]
        rw [m_isCat_o hM h]
        simp only [if_true]
        exact hK _ _ hM
      · rw [c_knC hF hW hc]
        simp (disch := omega) only [zcmp, zari, z00, zm1, le_n, lt_n, eq_n, n_add, n_mul, n_c, n_in, true_and, and_true, if_true, if_false, bi_0, bi_1, ite_true, ite_false, Bool.true_eq_false, Bool.false_eq_true, bs_in _ (show d < 64 by omega), hF.2.2.2.2.2.1 c hc d (by omega)]
        have hm : ∀ {r0 : Int32} {K' : Int32 → (Nat → Int32) → Prop}, (∀ J', RM S J' E → K' (bi (has S d c)) J') → ∀ I_1, I_1 = va_up J 0 0 → wX10_isThere I_1 E (nI d) (fun r7 => if r7 = 0 then (K' 0 I_1) else (wX10_isCategory I_1 E (nI c) (fun r15 => if r15 = 0 then (K' 0 I_1) else (wX10_hasIt I_1 E (nI d) (nI c) (fun r24 => if r24 = 0 then (K' 0 I_1) else (K' 1 I_1)))))) := by
          intro r0 K' hk
          rintro _ rfl
          rw [m_isThere hM hW hd, e]
          simp (disch := omega) only [zcmp, zari, z00, zm1, le_n, lt_n, eq_n, n_add, n_mul, n_c, n_in, true_and, and_true, if_true, if_false, bi_0, bi_1, ite_true, ite_false, Bool.true_eq_false, Bool.false_eq_true]
          rw [m_isCat hM hW hc]
          simp (disch := omega) only [zcmp, zari, z00, zm1, le_n, lt_n, eq_n, n_add, n_mul, n_c, n_in, true_and, and_true, if_true, if_false, bi_0, bi_1, ite_true, ite_false, Bool.true_eq_false, Bool.false_eq_true]
          refine m_hasIt hM (d := d) (c := c) (by omega) (by omega) ?_
          simp (disch := omega) only [zcmp, zari, z00, zm1, le_n, lt_n, eq_n, n_add, n_mul, n_c, n_in, true_and, and_true, if_true, if_false, bi_0, bi_1, ite_true, ite_false, Bool.true_eq_false, Bool.false_eq_true]
          have := hk _ hM
          cases e2 : has S d c <;> simp [e2, bi] at this ⊢ <;> exact this
        cases e2 : has S d c with
        | false =>
          simp only [if_true]
          exact hm (r0 := 0) (fun J' h => by rw [e2]; exact hK _ _ h)
        | true =>
          simp only [Bool.true_eq_false, if_false]
          exact hm (r0 := 0) (fun J' h => by rw [e2]; exact hK _ _ h)
end
