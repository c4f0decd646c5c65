section
variable {S : SS} {J : Nat → Int32} {E : Nat → Nat → Int32} {I : Nat → Int32} {L : Nat → Int64} {A : Nat → Nat → Int32} {B : Nat → Nat → Int64}
theorem ct_none {p : Nat → Bool} {n : Nat} (h : ∀ k, k < n → p k = false) : fb_ct p n = 0 := fb_ct_zero.mpr h
theorem ct_one {p : Nat → Bool} {n j : Nat} (hj : j < n) (hp : p j = true) (h : ∀ k, k < n → p k = true → k = j) : fb_ct p n = 1 := by
  have e : fb_ct p n = fb_ct (fun k => if k = j then true else (fun _ => false) k) n := fb_ct_cong (fun k hk => by
    by_cases q : k = j
    · rw [q, hp]; simp
    · cases e : p k with
      | false => simp [q]
      | true => exact absurd (h k hk e) q)
  have := fb_ct_upd (fun _ => false) true hj
  rw [← e] at this
  rw [ct_none (p := fun _ => false) (fun _ _ => rfl)] at this
  simpa using this
theorem ct_lt {i n : Nat} (h : i ≤ n) : fb_ct (fun j => decide (j < i)) n = i := by
  have e : fb_ct (fun j => decide (j < i)) n = fb_ct (fun j => decide (j < i)) i := ct_cut (fun k hk => by simp; omega) h
  rw [e]
  exact fb_ct_all.mpr (fun k hk => by simp [hk])
theorem ahd_irr (S : SS) (d : Nat) : ahd S d d = false := by simp [ahd]
theorem ahd_asy {d e : Nat} (h : ahd S d e = true) : ahd S e d = false := by
  simp only [ahd, Bool.or_eq_true, Bool.and_eq_true, decide_eq_true_eq, beq_iff_eq] at h
  simp only [ahd, Bool.or_eq_false_iff, Bool.and_eq_false_iff, decide_eq_false_iff_not, beq_eq_false_iff_ne]
  omega
theorem ahd_tot {d e : Nat} (h : d ≠ e) : ahd S d e = true ∨ ahd S e d = true := by
  simp only [ahd, Bool.or_eq_true, Bool.and_eq_true, decide_eq_true_eq, beq_iff_eq]
  omega
theorem od_inj (hW : wf S) {i j : Nat} (hi : i < nT S) (hj : j < nT S) (h : od S i = od S j) : i = j := by
  have hs := hW.2.2.2.2.2.2.2.2.1
  rcases Nat.lt_trichotomy i j with q | q | q
  · have := hs i j q hj; rw [h, ahd_irr] at this; cases this
  · exact q
  · have := hs j i q hi; rw [h, ahd_irr] at this; cases this
/-- to count documents is to count places -/
theorem ct_od (hW : wf S) (q : Nat → Bool) : fb_ct (fun e => th S e && q e) (nD S) = fb_ct (fun j => q (od S j)) (nT S) := by
  have hin := hW.2.2.2.2.2.2.2.1
  have hex := hW.2.2.2.2.2.2.2.2.2.1
  have key : ∀ n, fb_ct (fun e => th S e && q e) n = fb_ct (fun j => decide (od S j < n) && q (od S j)) (nT S) := by
    intro n
    induction n with
    | zero => rw [ct_none (n := nT S) (fun k _ => by simp)]; rfl
    | succ n ih =>
      rw [fb_ct_succ, ih]
      have e : fb_ct (fun j => decide (od S j < n + 1) && q (od S j)) (nT S) = fb_ct (fun j => (decide (od S j < n) && q (od S j)) || (od S j == n && q n)) (nT S) := fb_ct_cong (fun j _ => by
        by_cases e1 : od S j = n
        · rw [e1]; simp
        · by_cases e2 : od S j < n
          · simp [e2, bqf e1, show od S j < n + 1 by omega]
          · simp [e2, bqf e1, show ¬ od S j < n + 1 by omega])
      rw [e, fb_ct_or (fun j _ hh => by
        simp only [Bool.and_eq_true, decide_eq_true_eq, beq_iff_eq] at hh
        omega)]
      congr 1
      cases e1 : th S n with
      | false =>
        rw [ct_none (n := nT S)]
        · simp
        · intro j hj
          cases e2 : (od S j == n) with
          | false => simp
          | true =>
            have : od S j = n := by simpa using e2
            have h2 := (hin j hj).2
            rw [this, e1] at h2; cases h2
      | true =>
        cases e3 : q n with
        | false => rw [ct_none (n := nT S) (fun k _ => by simp)]; simp
        | true =>
          obtain ⟨i, hi, h2⟩ := hex n e1
          rw [ct_one (n := nT S) hi (by simp [h2])]
          · simp
          · intro k hk h3
            simp only [Bool.and_true, beq_iff_eq] at h3
            exact od_inj hW hk hi (by rw [h3, h2])
  rw [key]
  exact fb_ct_cong (fun j hj => by simp [(hin j hj).1])
/-- how many are ahead of one -/
def rnk (S : SS) (d : Nat) : Nat := fb_ct (fun e => th S e && ahd S e d) (nD S)
theorem rnk_od (hW : wf S) {i : Nat} (hi : i < nT S) : rnk S (od S i) = i := by
  have hs := hW.2.2.2.2.2.2.2.2.1
  unfold rnk
  rw [ct_od hW (fun e => ahd S e (od S i))]
  rw [fb_ct_cong (q := fun j => decide (j < i)) (fun j hj => by
    rcases Nat.lt_trichotomy j i with q | q | q
    · simp [q, hs j i q hi]
    · rw [q, ahd_irr]; simp
    · rw [ahd_asy (hs i j q hj)]; simp; omega)]
  exact ct_lt (by omega)
theorem rnk_lt (hW : wf S) {d : Nat} (hd : th S d = true) : rnk S d < nT S := by
  obtain ⟨i, hi, h⟩ := hW.2.2.2.2.2.2.2.2.2.1 d hd
  rw [← h, rnk_od hW hi]
  exact hi
theorem nT_le (hW : wf S) : nT S ≤ nD S := fb_ct_le _ _
theorem m_isAhead (hM : RM S J E) (hW : wf S) {d e : Nat} (hd : d < nD S) (he : e < nD S) (post : Int32 → Prop) : wX10_isAhead J E (nI d) (nI e) post = post (bi (ahd S d e)) := by
  have hn := hW.1
  have h1 := hW.2.2.2.1 d hd
  have h2 := hW.2.2.2.1 e he
  unfold wX10_isAhead
  simp (disch := omega) only [zcmp, zari, z00, zm1, le_n, lt_n, eq_n, n_add, n_mul, n_c, n_in, true_and, and_true, if_true, if_false, bi_0, bi_1, ite_true, ite_false, Bool.true_eq_false, Bool.false_eq_true, hM.2.2.2.2.1 d hd, hM.2.2.2.2.1 e he]
  unfold ahd
  by_cases q1 : sc S e < sc S d
  · simp [q1, bi]
  · by_cases q2 : sc S d = sc S e
    · by_cases q3 : d < e
      · simp [q2, q3, show ¬ e ≤ d by omega, bi]
      · simp [q2, q3, show e ≤ d by omega, bi]
    · simp [q1, q2, bi]
theorem m_orders (hM : RM S J E) (hW : wf S) {post : (Nat → Int32) → (Nat → Nat → Int32) → Prop} (h : ∀ J' E', RM S J' E' → J' 5 = nI (nT S) → (∀ i, i < nT S → E' 11 i = nI (od S i)) → J' 0 = J 0 → post J' E') : wX10_orders J E post := by
  have hn := hW.1
  have hle := nT_le hW
  unfold wX10_orders
  rintro _ rfl
  have e0 : E = va_up E 11 (E 11) := (va_self E 11).symm
  suffices H : ∃ n, lfix _ n ((fun k (y : Nat → Int32) => (nI k, va_up J 5 (nI (fb_ct (th S) k)), va_up E 11 y)) 0 (E 11)) by
    dsimp only at H
    rw [va_self] at H
    exact H
  refine lfix_for (nD S) (fun k (y : Nat → Int32) => (nI k, va_up J 5 (nI (fb_ct (th S) k)), va_up E 11 y)) (fun k f => ∀ d, d < k → th S d = true → f (rnk S d) = nI d) 0 (E 11) (Nat.zero_le _) (fun d hd => absurd hd (Nat.not_lt_zero d)) ?_ ?_
  · intro r k f hk hf hr
    dsimp only
    have hM1 : RM S (va_up J 5 (nI (fb_ct (th S) k))) (va_up E 11 f) := RM_E hW (RM_J hM (fun j _ _ => up_n _ _ (by omega))) (fun j _ _ _ => up_n _ _ (by omega)) (fun i _ => by rw [up_n _ _ (by decide)])
    simp (disch := omega) only [zcmp, zari, z00, zm1, le_n, lt_n, eq_n, n_add, n_mul, n_c, n_in, true_and, and_true, if_true, if_false, bi_0, bi_1, ite_true, ite_false, Bool.true_eq_false, Bool.false_eq_true, hM1.1.2.2.1, show ¬ nD S ≤ k by omega, hM1.2.2.2.2.2.1 k (by omega)]
    cases e : th S k with
    | false =>
      simp only [if_true]
      rintro _ rfl
      have := hr f (fun d hd ht => hf d (by
        rcases Nat.lt_or_ge d k with q | q
        · exact q
        · rw [show d = k by omega, e] at ht; cases ht) ht)
      rw [fb_ct_succ, e] at this
      exact this
    | true =>
      simp only [Bool.true_eq_false, if_false]
      have hrk := rnk_lt hW e
      refine lfix_for (nD S) (fun j (y : Int32) => (nI j, y)) (fun j y => y = nI (fb_ct (fun e => th S e && ahd S e k) j)) 0 _ (Nat.zero_le _) rfl ?_ ?_
      · rintro r1 j _ hj rfl hr1
        have hr1 := hr1 _ rfl
        rw [fb_ct_succ] at hr1
        dsimp only
        simp (disch := omega) only [jn, zcmp, zari, z00, zm1, le_n, lt_n, eq_n, n_add, n_mul, n_c, n_in, true_and, and_true, if_true, if_false, bi_0, bi_1, ite_true, ite_false, Bool.true_eq_false, Bool.false_eq_true, hM1.1.2.2.1, show ¬ nD S ≤ j by omega, hM1.2.2.2.2.2.1 j (by omega)]
        cases e2 : th S j with
        | false =>
          simp only [e2, Bool.false_and, if_true, if_false, Bool.false_eq_true] at hr1 ⊢
          rintro _ rfl _ rfl; exact hr1
        | true =>
          simp only [e2, Bool.true_and, Bool.true_eq_false, if_false] at hr1 ⊢
          rw [m_isAhead hM1 hW hj hk]
          simp (disch := omega) only [zcmp, zari, z00, zm1, le_n, lt_n, eq_n, n_add, n_mul, n_c, n_in, true_and, and_true, if_true, if_false, bi_0, bi_1, ite_true, ite_false, Bool.true_eq_false, Bool.false_eq_true]
          cases e3 : ahd S j k <;> simp only [e3, if_true, if_false, Bool.true_eq_false, Bool.false_eq_true] at hr1 ⊢ <;> (rintro _ rfl _ rfl; exact hr1)
      · rintro r1 _ rfl
        dsimp only
        have e9 : fb_ct (fun e => th S e && ahd S e k) (nD S) = rnk S k := rfl
        rw [e9]
        simp (disch := omega) only [zcmp, zari, z00, zm1, le_n, lt_n, eq_n, n_add, n_mul, n_c, n_in, true_and, and_true, if_true, if_false, bi_0, bi_1, ite_true, ite_false, Bool.true_eq_false, Bool.false_eq_true, hM1.1.2.2.1, Nat.le_refl, up_s, va_uu]
        rintro _ rfl _ rfl _ rfl
        have := hr (upd f (rnk S k) (nI k)) (fun d hd ht => by
          by_cases q : d = k
          · rw [q, ud_s]
          · rw [ud_n, hf d (by omega) ht]
            intro q2
            obtain ⟨i, hi, h1⟩ := hW.2.2.2.2.2.2.2.2.2.1 d ht
            obtain ⟨i2, hi2, h2⟩ := hW.2.2.2.2.2.2.2.2.2.1 k e
            rw [← h1, ← h2, rnk_od hW hi, rnk_od hW hi2] at q2
            exact q (by rw [← h1, ← h2, q2]))
        rw [fb_ct_succ, e] at this
        exact this
  · intro r f hf
    dsimp only
    have hM1 : RM S (va_up J 5 (nI (fb_ct (th S) (nD S)))) (va_up E 11 f) := RM_E hW (RM_J hM (fun j _ _ => up_n _ _ (by omega))) (fun j _ _ _ => up_n _ _ (by omega)) (fun i _ => by rw [up_n _ _ (by decide)])
    simp (disch := omega) only [zcmp, zari, z00, zm1, le_n, lt_n, eq_n, n_add, n_mul, n_c, n_in, true_and, and_true, if_true, if_false, bi_0, bi_1, ite_true, ite_false, Bool.true_eq_false, Bool.false_eq_true, hM1.1.2.2.1, Nat.le_refl]
    refine h _ _ hM1 (up_s _ _ _) (fun i hi => ?_) (up_n _ _ (by decide))
    have hin := hW.2.2.2.2.2.2.2.1 i hi
    have := hf (od S i) hin.1 hin.2
    rw [rnk_od hW hi] at this
    rw [up_s]
    exact this
end
