section
variable {S : SS} {J : Nat → Int32} {E : Nat → Nat → Int32} {I : Nat → Int32} {L : Nat → Int64} {A : Nat → Nat → Int32} {B : Nat → Nat → Int64}
theorem t_path (hC : RC S I L A B) (hM : RM S J E) (hW : wf S) (x y : Int32) {K : Int32 → Int32 → (Nat → Int32) → (Nat → Nat → Int32) → Prop} (hK : ∀ r J' E', RM S J' E' → K r r J' E') : wX9_path I L A B x y (fun r => wX10_path J E x y (fun r' J' E' => K r r' J' E')) := by
  obtain ⟨hF, hD, hX, hT, hP⟩ := hC
  have hn := hW.1
  have hM := RM_t hM 0
  unfold wX9_path
  rcases ix x (n := nA S) (by omega) with h | ⟨a, ha, rfl⟩
  · rw [c_isTree_o hX h]
    simp only [z00, if_true]
    unfold wX10_path
    rintro _ rfl
    rw [m_isTree_o hM h]
    simp only [z00, if_true]
    exact hK _ _ _ hM
  · rw [c_isTree hX hW ha]
    cases e2 : (kd S a == 2) with
    | true =>
      simp only [Bool.not_true, bi_f, z00, if_true]
      unfold wX10_path
      rintro _ rfl
      rw [m_isTree hM hW ha, e2]
      simp only [Bool.not_true, bi_f, z00, if_true]
      exact hK _ _ _ hM
    | false =>
      simp only [Bool.not_false, bi_t, z00, if_false]
      by_cases h0 : y < 0
      · simp only [h0, if_true]
        unfold wX10_path
        rintro _ rfl
        rw [m_isTree hM hW ha, e2]
        simp only [Bool.not_false, bi_t, z00, if_false]
        rw [if_neg (show ¬ 0 ≤ y by rw [le_i]; rw [lt_i] at h0; exact Int.not_le.mpr h0)]
        exact hK _ _ _ hM
      · simp only [h0, if_false]
        obtain ⟨i, hi, rfl⟩ := nI_of h0
        have hm : ∀ {K2 : Int32 → (Nat → Int32) → (Nat → Nat → Int32) → Prop}, (∀ J' E', RM S J' E' → K2 (uI (pt S a i)) J' E') → wX10_path J E (nI a) (nI i) (fun r' J' E' => K2 r' J' E') := by
          intro K2 hK2
          unfold wX10_path
          rintro _ rfl
          rw [m_isTree hM hW ha, e2]
          simp only [Bool.not_false, bi_t, z00, if_false]
          rw [if_pos (nI_pos' hi)]
          refine m_tells hM hW ha (fun E1 hM1 ht => ?_)
          rw [← uI_n]
          refine m_bestBelow hM1 hW ha ht (fun p hp => by cases hp) ?_
          have fin : ∀ v, (i < 40 → v = uI (pt S a i)) → (if 40 ≤ nI i then (K2 (uI none) (va_up J 0 0) E1) else (K2 v (va_up J 0 0) E1)) := by
            intro v hv
            simp (disch := omega) only [zcmp, zari, z00, zm1, le_n, lt_n, eq_n, n_add, n_mul, n_c, n_in, true_and, and_true, if_true, if_false, bi_0, bi_1, ite_true, ite_false, Bool.true_eq_false, Bool.false_eq_true]
            by_cases e : 40 ≤ i
            · simp only [e, if_true]
              have := hK2 _ _ hM1
              rw [pt_none hW a i (by omega)] at this
              exact this
            · simp only [e, if_false]
              rw [hv (by omega)]
              exact hK2 _ _ hM1
          refine lfix_for (if i ≤ 40 then i else 40) (fun k (y : Option Nat) => (nI k, uI y)) (fun k y => y = pt S a k) 0 (bb S a none) (Nat.zero_le _) rfl ?_ ?_
          · rintro r k _ hk rfl hr
            have hr := hr _ rfl
            have hk40 : k < 40 ∧ k < i := by split at hk <;> omega
            dsimp only
            simp (disch := omega) only [jn, zcmp, zari, z00, zm1, le_n, lt_n, eq_n, n_add, n_mul, n_c, n_in, true_and, and_true, if_true, if_false, bi_0, bi_1, ite_true, ite_false, Bool.true_eq_false, Bool.false_eq_true, show ¬ i ≤ k by omega, show ¬ 40 ≤ k by omega]
            cases e : pt S a k with
            | none =>
              refine ite_p (show uI none < 0 by decide) ?_
              have := fin (uI none) (fun _ => by rw [pt_stop e i (by omega)])
              simp (disch := omega) only [zcmp, zari, z00, zm1, le_n, lt_n, eq_n, n_add, n_mul, n_c, n_in, true_and, and_true, if_true, if_false, bi_0, bi_1, ite_true, ite_false, Bool.true_eq_false, Bool.false_eq_true] at this
              exact this
            | some c =>
              have hc := pt_lt e
              refine ite_n (show ¬ nI c < 0 from nI_pos (by omega)) ?_
              refine m_bestBelow hM1 hW ha ht (fun p hp => by cases hp; omega) ?_
              rintro _ rfl
              rw [pt, e] at hr
              exact hr
          · rintro r _ rfl
            dsimp only
            simp only [jn]
            by_cases e : i ≤ 40
            · simp only [e, if_true]
              rw [if_pos (Int32.le_refl _)]
              exact fin _ (fun _ => rfl)
            · simp only [e, if_false]
              have f9 := fin (uI (pt S a 40)) (fun q => by omega)
              simp (disch := omega) only [zcmp, zari, z00, zm1, le_n, lt_n, eq_n, n_add, n_mul, n_c, n_in, true_and, and_true, if_true, if_false, bi_0, bi_1, ite_true, ite_false, Bool.true_eq_false, Bool.false_eq_true, Nat.le_refl, ite_self] at f9 ⊢
              exact f9
        by_cases h5 : nI i ≤ 5
        · rw [if_pos h5]
          simp (disch := omega) only [zcmp, zari, z00, zm1, le_n, lt_n, eq_n, n_add, n_mul, n_c, n_in, true_and, and_true, if_true, if_false, bi_0, bi_1, ite_true, ite_false, Bool.true_eq_false, Bool.false_eq_true] at h5
          refine c_audience hD hX hP hW ha (fun m hmm => ?_)
          refine lfix_for (i + 1) (fun k (y : Option Nat) => (nI k, uI y)) (fun k y => (k = 0 ∧ y = none) ∨ ∃ j c, k = j + 1 ∧ pt S a j = some c ∧ y = some c) 0 none (by omega) (Or.inl ⟨rfl, rfl⟩) ?_ ?_
          · intro r k yy hk hy hr
            have hyb : ∀ p, yy = some p → p < 40 := by
              rcases hy with ⟨-, rfl⟩ | ⟨j, c, -, q2, rfl⟩
              · intro p hp; cases hp
              · intro p hp; cases hp; have := pt_lt q2; omega
            have hbb : bb S a yy = pt S a k := by
              rcases hy with ⟨rfl, rfl⟩ | ⟨j, c, rfl, q2, rfl⟩
              · rfl
              · rw [pt, q2]
            dsimp only
            simp (disch := omega) only [zcmp, zari, z00, zm1, le_n, lt_n, eq_n, n_add, n_mul, n_c, n_in, true_and, and_true, if_true, if_false, bi_0, bi_1, ite_true, ite_false, Bool.true_eq_false, Bool.false_eq_true, show ¬ i < k by omega]
            refine c_fullest hF hW ha hmm hyb ?_
            rw [hbb]
            cases e : pt S a k with
            | none =>
              refine ite_p (show uI none = -1 from rfl) ?_
              refine hm (fun J' E' hM' => ?_)
              rw [pt_stop e i (by omega)]
              exact hK _ _ _ hM'
            | some c =>
              have hc := pt_lt e
              refine ite_n (show ¬ nI c = -1 by simp (disch := omega) only [zcmp, zari, z00, zm1, le_n, lt_n, eq_n, n_add, n_mul, n_c, n_in, true_and, and_true, if_true, if_false, bi_0, bi_1, ite_true, ite_false, Bool.true_eq_false, Bool.false_eq_true]; exact fun q => q) ?_
              rintro _ rfl
              exact hr (some c) (Or.inr ⟨k, c, rfl, e, rfl⟩)
          · intro r yy hy
            dsimp only
            simp (disch := omega) only [zcmp, zari, z00, zm1, le_n, lt_n, eq_n, n_add, n_mul, n_c, n_in, true_and, and_true, if_true, if_false, bi_0, bi_1, ite_true, ite_false, Bool.true_eq_false, Bool.false_eq_true, show i < i + 1 by omega]
            rcases hy with ⟨q, -⟩ | ⟨j, c, q1, q2, rfl⟩
            · omega
            · obtain rfl : i = j := by omega
              refine hm (fun J' E' hM' => ?_)
              rw [q2]
              exact hK _ _ _ hM'
        · rw [if_neg h5]
          simp (disch := omega) only [zcmp, zari, z00, zm1, le_n, lt_n, eq_n, n_add, n_mul, n_c, n_in, true_and, and_true, if_true, if_false, bi_0, bi_1, ite_true, ite_false, Bool.true_eq_false, Bool.false_eq_true] at h5
          refine hm (fun J' E' hM' => ?_)
          rw [pt_none hW a i (by omega)]
          exact hK _ _ _ hM'
-- split
def dst (a b : Nat) : Nat := if b ≤ a then a - b else b - a
theorem dst_abs {a b : Nat} (ha : a < 2 ^ 30) (hb : b < 2 ^ 30) : (if 0 ≤ nI a - nI b then nI a - nI b else 0 - (nI a - nI b)) = nI (dst a b) := by
  unfold dst
  by_cases h : b ≤ a
  · rw [if_pos h, n_sub h, if_pos (nI_pos' (by omega))]
  · rw [if_neg h, if_neg]
    · apply i32_ext
      rw [← n_sub (show a ≤ b by omega)]
      congr 1
      rw [Int32.zero_sub, Int32.neg_sub]
    · have := pk_sneg (a := a) (b := b) hb (by omega)
      rw [lt_i] at this
      rw [le_i]
      exact Int.not_le.mpr this
theorem m_apart {a b : Nat} (ha : a < 2 ^ 31) (hb : b < 2 ^ 31) (post : Int32 → Prop) : wX10_apart (nI a) (nI b) post = post (nI (dst a b)) := by
  unfold wX10_apart dst
  simp (disch := omega) only [zcmp, zari, z00, zm1, le_n, lt_n, eq_n, n_add, n_mul, n_c, n_in, true_and, and_true, if_true, if_false, bi_0, bi_1, ite_true, ite_false, Bool.true_eq_false, Bool.false_eq_true]
  by_cases h : a ≤ b
  · simp only [h, if_true]
    rw [n_sub h]
    by_cases e : a = b
    · subst e; simp
    · rw [if_neg (show ¬ b ≤ a by omega)]
  · simp only [h, if_false]
    rw [n_sub (by omega), if_pos (by omega)]
theorem t_split (hC : RC S I L A B) (hM : RM S J E) (hW : wf S) {K : Int32 → Int32 → (Nat → Int32) → Prop} (hK : ∀ r J', RM S J' E → K r r J') : wX9_split I L A B (fun r => wX10_split J E (fun r' J' => K r r' J')) := by
  obtain ⟨hF, hD, hX, hT, hP⟩ := hC
  have hn := hW.1
  have hM := RM_t hM 0
  have hw := hW.2.2.2.2.2.2.2.2.2.2.1
  unfold wX9_split wX10_split
  refine c_hits hD hX hP hW (fun m hm => ?_)
  rw [bm_ct hm (n := nD S) (nea_out hW _ _) (by omega)]
  have hh : fb_ct (fun d => nea S (se S) d 9) (nD S) ≤ 40 := Nat.le_trans (fb_ct_le _ _) hn.2.2
  generalize ehh : fb_ct (fun d => nea S (se S) d 9) (nD S) = hits at hh
  let far : Nat → Nat := fun c => dst (2 * shw S c) hits
  have hfar : ∀ c, far c ≤ 120 := fun c => by have := shw_le hW c; show dst (2 * shw S c) hits ≤ 120; unfold dst; split <;> omega
  let p : Nat → Bool := fun c => !(se S).1 c
  let f : Nat → Nat := fun c => 200 - far c
  have ff1 : ∀ j k, (f j < f k) = (far k < far j) := fun j k => propext (by have := hfar j; have := hfar k; show 200 - far j < 200 - far k ↔ _; omega)
  let v3 : Option Nat → Int32 := fun y => match y with
    | none => 0
    | some j => nI (far j)
  refine lfix_for (nC S) (fun k (y : Option Nat) => (nI k, v3 y, uI y)) (fun k y => y = bs p f k) 0 none (Nat.zero_le _) rfl ?_ ?_
  · rintro r k _ hk rfl hr
    have hr := hr _ rfl
    have ha := (hW.2.2.1 k hk).1
    have hsk := shw_le hW k
    rw [bs] at hr
    dsimp only
    simp (disch := omega) only [zcmp, zari, z00, zm1, le_n, lt_n, eq_n, n_add, n_mul, n_c, n_in, true_and, and_true, if_true, if_false, bi_0, bi_1, ite_true, ite_false, Bool.true_eq_false, Bool.false_eq_true, hF.1, show ¬ nC S ≤ k by omega, hF.2.1 k hk, bs_in _ (show k < 64 by omega), (hX.2.2.2.2 (ax S k) (by omega)).1 k (by omega), beq_self_eq_true, Bool.true_and]
    cases e : (se S).1 k with
    | true =>
      simp only [Bool.true_eq_false, if_false]
      rintro _ rfl
      have : p k = false := by simp [p, e]
      simp only [this, Bool.false_eq_true, if_false] at hr
      exact hr
    | false =>
      simp only [if_true]
      have pk : p k = true := by simp [p, e]
      rw [if_pos pk] at hr
      refine c_showing hF hD hX hP hW hk ?_
      simp (disch := omega) only [zcmp, zari, z00, zm1, le_n, lt_n, eq_n, n_add, n_mul, n_c, n_in, true_and, and_true, if_true, if_false, bi_0, bi_1, ite_true, ite_false, Bool.true_eq_false, Bool.false_eq_true]
      rw [dst_abs (by omega) (by omega)]
      rintro _ rfl
      have hfk := hfar k
      cases e4 : bs p f k with
      | none =>
        rw [e4] at hr
        refine jn_have (fun _ => True) (fun _ _ => ?_) (fun k1 h1 => ?_)
        · rintro _ rfl
          exact hr
        · exact ite_p (show uI none = -1 from rfl) (h1 _ trivial)
      | some j =>
        rw [e4] at hr
        have hfj := hfar j
        have hjl := bs_lt e4
        simp only [ff1] at hr
        unfold jn
        refine ite_n (show ¬ nI j = -1 by simp (disch := omega) only [zcmp, zari, z00, zm1, le_n, lt_n, eq_n, n_add, n_mul, n_c, n_in, true_and, and_true, if_true, if_false, bi_0, bi_1, ite_true, ite_false, Bool.true_eq_false, Bool.false_eq_true]; exact fun q => q) ?_
        by_cases e5 : far j ≤ far k
        · refine ite_p (show nI (far j) ≤ nI (far k) from nI_le e5 (by omega)) ?_
          simp only [show ¬ far k < far j by omega, if_false] at hr
          rintro _ rfl
          exact hr
        · refine ite_n (show ¬ nI (far j) ≤ nI (far k) from nI_ge (by omega) (by omega)) ?_
          simp only [show far k < far j by omega, if_true] at hr
          rintro _ rfl
          exact hr
  · rintro r _ rfl
    dsimp only
    simp (disch := omega) only [zcmp, zari, z00, zm1, le_n, lt_n, eq_n, n_add, n_mul, n_c, n_in, true_and, and_true, if_true, if_false, bi_0, bi_1, ite_true, ite_false, Bool.true_eq_false, Bool.false_eq_true, hF.1, Nat.le_refl]
    rintro _ rfl
    refine m_hitsBy (b := 0) hM hW hM.2.2.2.2.2.2.2.2.2.2.1 hw.2.2.2 (by omega) ?_
    rw [ehh]
    let w3 : Option Nat → Int32 := fun y => match y with
      | none => 0
      | some j => nI (far j)
    refine lfix_for (nC S) (fun k (y : Option Nat) => (nI k, w3 y, uI y)) (fun k y => y = bs p f k) 0 none (Nat.zero_le _) rfl ?_ ?_
    · rintro r k _ hk rfl hr
      have hr := hr _ rfl
      have hsk := shw_le hW k
      rw [bs] at hr
      dsimp only
      have q := hM.2.2.2.2.2.2.2.2.2.2.1.1 k (by omega)
      rw [Nat.zero_add] at q
      simp (disch := omega) only [zcmp, zari, z00, zm1, le_n, lt_n, eq_n, n_add, n_mul, n_c, n_in, true_and, and_true, if_true, if_false, bi_0, bi_1, ite_true, ite_false, Bool.true_eq_false, Bool.false_eq_true, hM.1.2.1, show ¬ nC S ≤ k by omega, q]
      cases e : (se S).1 k with
      | true =>
        simp only [Bool.true_eq_false, if_false]
        rintro _ rfl
        have : p k = false := by simp [p, e]
        simp only [this, Bool.false_eq_true, if_false] at hr
        exact hr
      | false =>
        simp only [if_true]
        have pk : p k = true := by simp [p, e]
        rw [if_pos pk] at hr
        refine m_shownOf hM hW hk ?_
        simp (disch := omega) only [zcmp, zari, z00, zm1, le_n, lt_n, eq_n, n_add, n_mul, n_c, n_in, true_and, and_true, if_true, if_false, bi_0, bi_1, ite_true, ite_false, Bool.true_eq_false, Bool.false_eq_true]
        rw [m_apart (by omega) (by omega)]
        have hfk := hfar k
        cases e4 : bs p f k with
        | none =>
          rw [e4] at hr
          refine jn_have (fun t => t = nI (far k)) ?_ ?_
          · rintro _ rfl
            simp only [jn]
            refine ite_p (show uI none < 0 by decide) ?_
            rintro _ rfl
            exact hr
          · intro k1 h1
            simp only [jn]
            exact ite_p (show uI none < 0 by decide) (h1 _ rfl)
        | some j =>
          rw [e4] at hr
          have hfj := hfar j
          have hjl := bs_lt e4
          have hsj := shw_le hW j
          simp only [ff1] at hr
          refine jn_have (fun t => t = nI (if far j ≤ far k then far j else far k)) ?_ ?_
          · rintro _ rfl
            simp only [jn]
            refine ite_n (show ¬ nI j < 0 from nI_pos (by omega)) ?_
            have hmn : (if far j ≤ far k then far j else far k) ≤ 120 := by split <;> omega
            show (if nI (far k) = nI (if far j ≤ far k then far j else far k) then _ else _)
            rw [uI_s]
            by_cases e5 : far j ≤ far k
            · simp only [e5, if_true]
              simp only [show ¬ far k < far j by omega, if_false] at hr
              by_cases e6 : nI (far k) = nI (far j)
              · refine ite_p e6 ?_
                refine m_shownOf hM hW (by omega) ?_
                simp (disch := omega) only [zcmp, zari, z00, zm1, le_n, lt_n, eq_n, n_add, n_mul, n_c, n_in, true_and, and_true, if_true, if_false, bi_0, bi_1, ite_true, ite_false, Bool.true_eq_false, Bool.false_eq_true]
                rw [m_apart (by omega) (by omega)]
                refine ite_p (show nI (far j) ≤ nI (far k) from nI_le e5 (by omega)) ?_
                rintro _ rfl
                exact hr
              · refine ite_n e6 ?_
                rintro _ rfl
                exact hr
            · simp only [e5, if_false]
              simp only [show far k < far j by omega, if_true] at hr
              refine ite_p trivial ?_
              refine m_shownOf hM hW (by omega) ?_
              simp (disch := omega) only [zcmp, zari, z00, zm1, le_n, lt_n, eq_n, n_add, n_mul, n_c, n_in, true_and, and_true, if_true, if_false, bi_0, bi_1, ite_true, ite_false, Bool.true_eq_false, Bool.false_eq_true]
              rw [m_apart (by omega) (by omega)]
              refine ite_n (show ¬ nI (far j) ≤ nI (far k) from nI_ge (by omega) (by omega)) ?_
              rintro _ rfl
              exact hr
          · intro k1 h1
            simp only [jn]
            refine ite_n (show ¬ nI j < 0 from nI_pos (by omega)) ?_
            by_cases e5 : far j ≤ far k
            · simp only [e5, if_true] at h1
              exact ite_p (show nI (far j) ≤ nI (far k) from nI_le e5 (by omega)) (h1 _ rfl)
            · simp only [e5, if_false] at h1
              exact ite_n (show ¬ nI (far j) ≤ nI (far k) from nI_ge (by omega) (by omega)) (h1 _ rfl)
    · rintro r _ rfl
      dsimp only
      simp (disch := omega) only [zcmp, zari, z00, zm1, le_n, lt_n, eq_n, n_add, n_mul, n_c, n_in, true_and, and_true, if_true, if_false, bi_0, bi_1, ite_true, ite_false, Bool.true_eq_false, Bool.false_eq_true, hM.1.2.1, Nat.le_refl]
      exact hK _ _ hM
end
