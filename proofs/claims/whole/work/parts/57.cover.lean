def nmk (p : Nat → Bool) (N k : Nat) : Nat := (ff (fun e => p e && fb_ct p e == k) N).getD 0
theorem kth_uniq {p : Nat → Bool} {e f : Nat} (h1 : p e = true) (h2 : p f = true) (h : fb_ct p e = fb_ct p f) : e = f := by
  rcases Nat.lt_trichotomy e f with q | q | q
  · have := fb_ct_mono p (show e + 1 ≤ f by omega)
    rw [fb_ct_succ, h1] at this
    simp only [if_true] at this
    omega
  · exact q
  · have := fb_ct_mono p (show f + 1 ≤ e by omega)
    rw [fb_ct_succ, h2] at this
    simp only [if_true] at this
    omega
theorem nmk_inv {p : Nat → Bool} {N e : Nat} (he : e < N) (hp : p e = true) : nmk p N (fb_ct p e) = e := by
  unfold nmk
  rw [ff_uniq (j := e) (by simp [hp]) he (fun k hk q => by
    simp only [Bool.and_eq_true, beq_iff_eq] at q
    exact kth_uniq q.1 hp q.2)]
  rfl
theorem nmk_spec {p : Nat → Bool} {N k : Nat} (h : k < fb_ct p N) : p (nmk p N k) = true ∧ nmk p N k < N ∧ fb_ct p (nmk p N k) = k := by
  obtain ⟨e, h1, h2, h3⟩ := fb_ct_kth h
  have := nmk_inv h1 h2
  rw [h3] at this
  rw [this]
  exact ⟨h2, h1, h3⟩
section
variable {S : SS} {J : Nat → Int32} {E : Nat → Nat → Int32} {I : Nat → Int32} {L : Nat → Int64} {A : Nat → Nat → Int32} {B : Nat → Nat → Int64}
def cvp (S : SS) (a c : Nat) : Bool := ax S c == a && ((up S c).isSome || lef S c)
abbrev cvn (S : SS) (a : Nat) : Nat := fb_ct (cvp S a) (nC S)
abbrev cvk (S : SS) (a k : Nat) : Nat := nmk (cvp S a) (nC S) k
theorem c_fillCov (hF : RF S I A B) (hW : wf S) {a : Nat} (ha : a < nA S) {post : Int32 → (Nat → Int32) → (Nat → Nat → Int32) → (Nat → Nat → Int64) → Prop}
    (h1 : ∀ I' A' B', cvn S a ≤ 12 → I' 6 = nI (cvn S a) → (∀ k, k < cvn S a → A' 50 k = nI (cvk S a k)) → (∀ k, k < cvn S a → bm (B' 51 k) (fun d => has S d (cvk S a k))) → (∀ k, k ≠ 6 → I' k = I k) → (∀ k, k ≠ 50 → A' k = A k) → (∀ k, k ≠ 51 → B' k = B k) → post 1 I' A' B')
    (h0 : ∀ I' A' B', 12 < cvn S a → (∀ k, k ≠ 6 → I' k = I k) → (∀ k, k ≠ 50 → A' k = A k) → (∀ k, k ≠ 51 → B' k = B k) → post 0 I' A' B') : wX9_fillCovering I L A B (nI a) post := by
  have hn := hW.1
  unfold wX9_fillCovering wX1_clear
  rintro _ rfl
  refine lfix_for (nC S) (fun c (y : (Nat → Int32) × (Nat → Nat → Int32) × (Nat → Nat → Int64)) => (nI c, y.1, y.2.1, y.2.2)) (fun c y => y.1 6 = nI (fb_ct (cvp S a) c) ∧ fb_ct (cvp S a) c ≤ 12 ∧ (∀ e, e < c → cvp S a e = true → y.2.1 50 (fb_ct (cvp S a) e) = nI e ∧ y.2.2 51 (fb_ct (cvp S a) e) = B 40 e) ∧ (∀ k, k ≠ 6 → y.1 k = I k) ∧ (∀ k, k ≠ 50 → y.2.1 k = A k) ∧ ∀ k, k ≠ 51 → y.2.2 k = B k) 0 (va_up I 6 0, A, B) (Nat.zero_le _) ⟨up_s I 6 0, Nat.zero_le _, fun e he => absurd he (Nat.not_lt_zero e), fun k hk => up_n _ _ hk, fun _ _ => rfl, fun _ _ => rfl⟩ ?_ ?_
  · rintro r c ⟨I2, A2, B2⟩ hc ⟨g1, g2, g3, k1, k2, k3⟩ hr
    dsimp only at g1 g2 g3 k1 k2 k3 ⊢
    have hac := (hW.2.2.1 c hc).1
    have skip : cvp S a c = false → r (nI (c + 1), I2, A2, B2) := fun q => hr (I2, A2, B2) ⟨by rw [fb_ct_succ, q]; exact g1, by rw [fb_ct_succ, q]; exact g2, fun e he hp => by
      by_cases e1 : e = c
      · rw [e1, q] at hp; cases hp
      · exact g3 e (by omega) hp, k1, k2, k3⟩
    simp (disch := omega) only [zcmp, zari, z00, zm1, le_n, lt_n, eq_n, n_add, n_mul, n_c, n_in, true_and, and_true, if_true, if_false, bi_0, bi_1, ite_true, ite_false, Bool.true_eq_false, Bool.false_eq_true, k1 1 (by decide), hF.1, show ¬ nC S ≤ c by omega, k2 36 (by decide), hF.2.1 c hc, k2 37 (by decide), hF.2.2.1 c hc, lc_0, k3 38 (by decide), k3 40 (by decide)]
    by_cases e1 : ax S c = a
    · simp (disch := omega) only [zcmp, zari, z00, zm1, le_n, lt_n, eq_n, n_add, n_mul, n_c, n_in, true_and, and_true, if_true, if_false, bi_0, bi_1, ite_true, ite_false, Bool.true_eq_false, Bool.false_eq_true, e1]
      refine jn_have (fun _ => cvp S a c = true) ?_ ?_
      · intro _ hp
        simp (disch := omega) only [zcmp, zari, z00, zm1, le_n, lt_n, eq_n, n_add, n_mul, n_c, n_in, true_and, and_true, if_true, if_false, bi_0, bi_1, ite_true, ite_false, Bool.true_eq_false, Bool.false_eq_true, g1]
        by_cases e2 : fb_ct (cvp S a) c < 12
        · simp only [e2, if_true]
          unfold wX1_put
          simp (disch := omega) only [zcmp, zari, z00, zm1, le_n, lt_n, eq_n, n_add, n_mul, n_c, n_in, true_and, and_true, if_true, if_false, bi_0, bi_1, ite_true, ite_false, Bool.true_eq_false, Bool.false_eq_true, g1, show ¬ 12 ≤ fb_ct (cvp S a) c by omega]
          rintro _ rfl _ rfl _ rfl _ rfl
          refine hr (va_up I2 6 (nI (fb_ct (cvp S a) c + 1)), va_up A2 50 (upd (A2 50) (fb_ct (cvp S a) c) (nI c)), va_up B2 51 (vp_updL (B2 51) (fb_ct (cvp S a) c) (B 40 c))) ⟨?_, ?_, fun e he hq => ?_, fun k hk => (up_n _ _ hk).trans (k1 k hk), fun k hk => (up_n _ _ hk).trans (k2 k hk), fun k hk => (up_n _ _ hk).trans (k3 k hk)⟩
          · show va_up I2 6 (nI (fb_ct (cvp S a) c + 1)) 6 = _
            rw [up_s, fb_ct_succ, hp]; rfl
          · rw [fb_ct_succ, hp]; simp only [if_true]; omega
          · show va_up A2 50 (upd (A2 50) (fb_ct (cvp S a) c) (nI c)) 50 (fb_ct (cvp S a) e) = nI e ∧ va_up B2 51 (vp_updL (B2 51) (fb_ct (cvp S a) c) (B 40 c)) 51 (fb_ct (cvp S a) e) = B 40 e
            rw [up_s, up_s]
            by_cases e4 : e = c
            · rw [e4, ud_s]; exact ⟨rfl, by simp [vp_updL]⟩
            · have hne : fb_ct (cvp S a) e ≠ fb_ct (cvp S a) c := fun q => e4 (kth_uniq hq hp q)
              rw [ud_n _ _ hne]
              have := g3 e (by omega) hq
              exact ⟨this.1, by rw [show vp_updL (B2 51) (fb_ct (cvp S a) c) (B 40 c) (fb_ct (cvp S a) e) = B2 51 (fb_ct (cvp S a) e) by simp [vp_updL, hne]]; exact this.2⟩
        · simp only [e2, if_false]
          refine h0 I2 A2 B2 ?_ k1 k2 k3
          have := fb_ct_mono (cvp S a) (show c + 1 ≤ nC S by omega)
          rw [fb_ct_succ, hp] at this
          simp only [if_true] at this
          show 12 < fb_ct (cvp S a) (nC S)
          omega
      · intro k hk
        have eu : (uI (up S c) = -1) = (up S c = none) := by
          rw [← uI_n]; exact uI_inj (fun p hp => by have := up_ok hW hc hp; omega) (fun p hp => by cases hp)
        have el : (B 38 c = 0) = (lef S c = true) := by rw [bm_eq0 (hF.2.2.2.1 c hc)]; exact propext (lef_iff hW hc)
        simp only [eu, el]
        by_cases e2 : up S c = none
        · rw [if_pos e2]
          cases e3 : lef S c with
          | true => simp only [if_true]; exact hk () (by simp [cvp, e1, e3])
          | false =>
            simp only [Bool.false_eq_true, if_false]
            rintro _ rfl
            exact skip (by simp [cvp, e2, e3])
        · rw [if_neg e2]
          refine hk () ?_
          cases e4 : up S c with
          | none => exact absurd e4 e2
          | some p => simp [cvp, e1, e4]
    · simp (disch := omega) only [zcmp, zari, z00, zm1, le_n, lt_n, eq_n, n_add, n_mul, n_c, n_in, true_and, and_true, if_true, if_false, bi_0, bi_1, ite_true, ite_false, Bool.true_eq_false, Bool.false_eq_true, e1]
      rintro _ rfl
      exact skip (by simp [cvp, e1])
  · rintro r ⟨I2, A2, B2⟩ ⟨g1, g2, g3, k1, k2, k3⟩
    dsimp only at g1 g2 g3 k1 k2 k3 ⊢
    simp (disch := omega) only [zcmp, zari, z00, zm1, le_n, lt_n, eq_n, n_add, n_mul, n_c, n_in, true_and, and_true, if_true, if_false, bi_0, bi_1, ite_true, ite_false, Bool.true_eq_false, Bool.false_eq_true, k1 1 (by decide), hF.1, Nat.le_refl]
    refine h1 I2 A2 B2 g2 g1 (fun k hk => ?_) (fun k hk => ?_) k1 k2 k3
    · obtain ⟨a1, a2, a3⟩ := nmk_spec hk
      have := (g3 _ a2 a1).1
      rw [a3] at this; exact this
    · obtain ⟨a1, a2, a3⟩ := nmk_spec hk
      have := (g3 _ a2 a1).2
      rw [a3] at this; rw [this]
      exact hF.2.2.2.2.2.1 _ a2
theorem m_coverers (hM : RM S J E) (hW : wf S) {a : Nat} (ha : a < nA S) {post : Int32 → (Nat → Nat → Int32) → Prop} (h : ∀ E', RM S J E' → (∀ k, k < cvn S a → E' 15 k = nI (cvk S a k)) → post (nI (cvn S a)) E') : wX10_coverers J E (nI a) post := by
  have hn := hW.1
  unfold wX10_coverers
  suffices H : ∃ n, lfix _ n ((fun c (f : Nat → Int32) => (nI c, nI (fb_ct (cvp S a) c), va_up E 15 f)) 0 (E 15)) by
    dsimp only at H
    rw [va_self] at H
    exact H
  have hMf : ∀ f, RM S J (va_up E 15 f) := fun f => RM_E hW hM (fun j _ _ _ => up_n _ _ (by omega)) (fun i _ => by rw [up_n _ _ (by decide)])
  refine lfix_for (nC S) (fun c (f : Nat → Int32) => (nI c, nI (fb_ct (cvp S a) c), va_up E 15 f)) (fun c f => ∀ e, e < c → cvp S a e = true → f (fb_ct (cvp S a) e) = nI e) 0 (E 15) (Nat.zero_le _) (fun e he => absurd he (Nat.not_lt_zero e)) ?_ ?_
  · intro r c f hc hf hr
    dsimp only
    have hMf := hMf f
    have hac := (hW.2.2.1 c hc).1
    have hct := fb_ct_le (cvp S a) c
    have skip : cvp S a c = false → r (nI (c + 1), nI (fb_ct (cvp S a) c), va_up E 15 f) := fun q => by
      have := hr f (fun e he hp => by
        by_cases e1 : e = c
        · rw [e1, q] at hp; cases hp
        · exact hf e (by omega) hp)
      rw [fb_ct_succ, q] at this
      exact this
    simp (disch := omega) only [zcmp, zari, z00, zm1, le_n, lt_n, eq_n, n_add, n_mul, n_c, n_in, true_and, and_true, if_true, if_false, bi_0, bi_1, ite_true, ite_false, Bool.true_eq_false, Bool.false_eq_true, hMf.1.2.1, show ¬ nC S ≤ c by omega, hMf.2.2.1 c hc, hMf.2.2.2.1 c hc]
    by_cases e1 : ax S c = a
    · simp (disch := omega) only [zcmp, zari, z00, zm1, le_n, lt_n, eq_n, n_add, n_mul, n_c, n_in, true_and, and_true, if_true, if_false, bi_0, bi_1, ite_true, ite_false, Bool.true_eq_false, Bool.false_eq_true, e1]
      refine jn_have (fun _ => cvp S a c = true) ?_ ?_
      · intro _ hp
        try simp (disch := omega) only [zcmp, zari, z00, zm1, le_n, lt_n, eq_n, n_add, n_mul, n_c, n_in, true_and, and_true, if_true, if_false, bi_0, bi_1, ite_true, ite_false, Bool.true_eq_false, Bool.false_eq_true]
        rintro _ rfl _ rfl _ rfl
        rw [up_s, va_uu]
        have := hr (upd f (fb_ct (cvp S a) c) (nI c)) (fun e he hq => by
          by_cases e4 : e = c
          · rw [e4, ud_s]
          · rw [ud_n _ _ (fun q => e4 (kth_uniq hq hp q))]; exact hf e (by omega) hq)
        rw [fb_ct_succ, hp] at this
        exact this
      · intro k hk
        cases e4 : up S c with
        | some p =>
          have := up_ok hW hc e4
          refine ite_p (show 0 ≤ uI (some p) from nI_pos' (by omega)) ?_
          exact hk () (by simp [cvp, e1, e4])
        | none =>
          refine ite_n (show ¬ 0 ≤ uI none by decide) ?_
          refine m_isLeaf hMf hW hc ?_
          simp (disch := omega) only [zcmp, zari, z00, zm1, le_n, lt_n, eq_n, n_add, n_mul, n_c, n_in, true_and, and_true, if_true, if_false, bi_0, bi_1, ite_true, ite_false, Bool.true_eq_false, Bool.false_eq_true]
          cases e3 : lef S c with
          | true => simp only [Bool.true_eq_false, if_false]; exact hk () (by simp [cvp, e1, e3])
          | false =>
            simp only [if_true]
            rintro _ rfl
            exact skip (by simp [cvp, e4, e3])
    · simp (disch := omega) only [zcmp, zari, z00, zm1, le_n, lt_n, eq_n, n_add, n_mul, n_c, n_in, true_and, and_true, if_true, if_false, bi_0, bi_1, ite_true, ite_false, Bool.true_eq_false, Bool.false_eq_true, e1]
      rintro _ rfl
      exact skip (by simp [cvp, e1])
  · intro r f hf
    dsimp only
    simp (disch := omega) only [zcmp, zari, z00, zm1, le_n, lt_n, eq_n, n_add, n_mul, n_c, n_in, true_and, and_true, if_true, if_false, bi_0, bi_1, ite_true, ite_false, Bool.true_eq_false, Bool.false_eq_true, (hMf f).1.2.1, Nat.le_refl]
    refine h _ (hMf f) (fun k hk => ?_)
    obtain ⟨a1, a2, a3⟩ := nmk_spec hk
    have := hf _ a2 a1
    rw [a3] at this
    rw [up_s]; exact this
def cnd (S : SS) (a d : Nat) : Bool := nea S (se S) d 9 && !mis S d a
def cvd (S : SS) (a n m : Nat) : Bool := alb (fun d => !cnd S a d || exb (fun k => m.testBit k && has S d (cvk S a k)) n) (nD S)
theorem m_isCovered (hM : RM S J E) (hW : wf S) {a n m : Nat} (ha : a < nA S) (hn : n = cvn S a) (hn12 : n ≤ 12) (he : ∀ k, k < n → E 15 k = nI (cvk S a k)) (hm : m < 4096) {post : Int32 → Prop} (h : post (bi (cvd S a n m))) : wX10_isCovered J E (nI a) (nI m) (nI n) post := by
  have hn1 := hW.1
  unfold wX10_isCovered
  refine lfix_for (nD S) (fun d (y : Int32) => (nI d, y)) (fun d y => y = bi (alb (fun d => !cnd S a d || exb (fun k => m.testBit k && has S d (cvk S a k)) n) d)) 0 _ (Nat.zero_le _) rfl ?_ ?_
  · rintro r d _ hd rfl hr
    have hr := hr _ rfl
    rw [alb] at hr
    dsimp only
    simp (disch := omega) only [zcmp, zari, z00, zm1, le_n, lt_n, eq_n, n_add, n_mul, n_c, n_in, true_and, and_true, if_true, if_false, bi_0, bi_1, ite_true, ite_false, Bool.true_eq_false, Bool.false_eq_true, hM.1.2.2.1, show ¬ nD S ≤ d by omega]
    rw [← enc_9]
    refine m_near0 hM hW (by omega) 9 ?_
    simp (disch := omega) only [zcmp, zari, z00, zm1, le_n, lt_n, eq_n, n_add, n_mul, n_c, n_in, true_and, and_true, if_true, if_false, bi_0, bi_1, ite_true, ite_false, Bool.true_eq_false, Bool.false_eq_true]
    cases e1 : nea S (se S) d 9 with
    | false =>
      simp only [if_true]
      rintro _ rfl
      rw [show cnd S a d = false by simp [cnd, e1]] at hr
      simpa using hr
    | true =>
      simp only [Bool.true_eq_false, if_false]
      refine m_isMissing hM hW (by omega) ha ?_
      simp (disch := omega) only [zcmp, zari, z00, zm1, le_n, lt_n, eq_n, n_add, n_mul, n_c, n_in, true_and, and_true, if_true, if_false, bi_0, bi_1, ite_true, ite_false, Bool.true_eq_false, Bool.false_eq_true]
      cases e2 : mis S d a with
      | true =>
        simp only [Bool.true_eq_false, if_false]
        rintro _ rfl
        rw [show cnd S a d = false by simp [cnd, e2]] at hr
        simpa using hr
      | false =>
        simp only [if_true]
        rw [show cnd S a d = true by simp [cnd, e1, e2], Bool.not_true, Bool.false_or] at hr
        refine lfix_for n (fun k (y : Int32) => (nI k, y)) (fun k y => y = bi (exb (fun k => m.testBit k && has S d (cvk S a k)) k)) 0 _ (Nat.zero_le _) rfl ?_ ?_
        · rintro r2 k _ hk rfl hr2
          have hr2 := hr2 _ rfl
          rw [exb] at hr2
          have hck : cvk S a k < nC S := (nmk_spec (p := cvp S a) (N := nC S) (k := k) (by have := hk; rw [hn] at this; exact this)).2.1
          dsimp only
          simp (disch := omega) only [zcmp, zari, z00, zm1, le_n, lt_n, eq_n, n_add, n_mul, n_c, n_in, true_and, and_true, if_true, if_false, bi_0, bi_1, ite_true, ite_false, Bool.true_eq_false, Bool.false_eq_true, show ¬ n ≤ k by omega, jn]
          cases e3 : exb (fun k => m.testBit k && has S d (cvk S a k)) k with
          | true =>
            rw [e3] at hr2
            simp only [Bool.true_eq_false, if_false]
            rintro _ rfl
            exact hr2
          | false =>
            rw [e3, Bool.false_or] at hr2
            simp only [if_true]
            rw [shr1 hm (show k < 12 by omega)]
            cases e4 : m.testBit k with
            | false =>
              rw [e4] at hr2
              refine ite_n (by decide) ?_
              rintro _ rfl
              exact hr2
            | true =>
              rw [e4, Bool.true_and] at hr2
              refine ite_p (by decide) ?_
              simp (disch := omega) only [zcmp, zari, z00, zm1, le_n, lt_n, eq_n, n_add, n_mul, n_c, n_in, true_and, and_true, if_true, if_false, bi_0, bi_1, ite_true, ite_false, Bool.true_eq_false, Bool.false_eq_true, he k hk]
              refine m_hasIt hM (by omega) (by omega) ?_
              simp (disch := omega) only [zcmp, zari, z00, zm1, le_n, lt_n, eq_n, n_add, n_mul, n_c, n_in, true_and, and_true, if_true, if_false, bi_0, bi_1, ite_true, ite_false, Bool.true_eq_false, Bool.false_eq_true]
              cases e5 : has S d (cvk S a k) <;> rw [e5] at hr2 <;> simp only [if_true, if_false, Bool.true_eq_false] <;> (rintro _ rfl; exact hr2)
        · rintro r2 _ rfl
          dsimp only
          simp (disch := omega) only [zcmp, zari, z00, zm1, le_n, lt_n, eq_n, n_add, n_mul, n_c, n_in, true_and, and_true, if_true, if_false, bi_0, bi_1, ite_true, ite_false, Bool.true_eq_false, Bool.false_eq_true, Nat.le_refl, jn]
          cases e3 : alb (fun d => !cnd S a d || exb (fun k => m.testBit k && has S d (cvk S a k)) n) d with
          | false =>
            rw [e3] at hr
            simp only [if_true]
            rintro _ rfl
            exact hr
          | true =>
            rw [e3] at hr
            simp only [Bool.true_eq_false, if_false]
            cases e4 : exb (fun k => m.testBit k && has S d (cvk S a k)) n <;> rw [e4] at hr <;> simp only [if_true, if_false, Bool.true_eq_false] <;> (rintro _ rfl; exact hr)
  · rintro r _ rfl
    dsimp only
    simp (disch := omega) only [zcmp, zari, z00, zm1, le_n, lt_n, eq_n, n_add, n_mul, n_c, n_in, true_and, and_true, if_true, if_false, bi_0, bi_1, ite_true, ite_false, Bool.true_eq_false, Bool.false_eq_true, hM.1.2.2.1, Nat.le_refl]
    exact ⟨bi_zb, h⟩
end
