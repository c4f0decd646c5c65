section
variable {S : SS} {J J' : Nat → Int32} {E : Nat → Nat → Int32}
theorem m_owns (hW : wf S) (j2 : J 2 = nI (nC S)) (j3 : J 3 = nI (nD S)) (h6 : ∀ d c, d < 40 → c < 40 → E 6 (40 * d + c) = bi (tg S d c)) (h3 : ∀ c, c < nC S → E 3 c = uI (up S c)) {post : (Nat → Nat → Int32) → Prop} (h : ∀ f, (∀ d c, d < 40 → c < 40 → f (40 * d + c) = bi (has S d c)) → post (va_up E 10 f)) : wX10_owns J E post := by
  have hn := hW.1
  unfold wX10_owns
  suffices H : ∃ n, lfix _ n ((fun i (f : Nat → Int32) => (nI i, va_up E 10 f)) 0 (E 10)) by
    dsimp only at H
    rw [va_self] at H
    exact H
  refine lfix_for 1600 (fun i (f : Nat → Int32) => (nI i, va_up E 10 f)) (fun i f => ∀ j, j < i → f j = 0) 0 (E 10) (Nat.zero_le _) (fun j hj => absurd hj (Nat.not_lt_zero j)) ?_ ?_
  · intro r i f hi hf hr
    dsimp only
    simp (disch := omega) only [zcmp, zari, z00, zm1, le_n, lt_n, eq_n, n_add, n_mul, n_c, n_in, true_and, and_true, if_true, if_false, bi_0, bi_1, ite_true, ite_false, Bool.true_eq_false, Bool.false_eq_true, show ¬ 1600 ≤ i by omega]
    rintro _ rfl _ rfl
    rw [va_uu]
    refine hr _ (fun j hj => ?_)
    rw [up_s]
    by_cases e : j = i
    · rw [e, ud_s]; exact bi_nar (b := false)
    · rw [ud_n _ _ e]; exact hf j (by omega)
  · intro r f0 hf0
    dsimp only
    rw [if_pos (show (1600 : Int32) ≤ nI 1600 by decide)]
    refine lfix_for (nD S) (fun d (f : Nat → Int32) => (nI d, va_up E 10 f)) (fun d f => ∀ d' c', d' < 40 → c' < 40 → f (40 * d' + c') = bi (decide (d' < d) && has S d' c')) 0 f0 (Nat.zero_le _) (fun d' c' h1 h2 => by rw [hf0 _ (by omega)]; simp [bi]) ?_ ?_
    · intro r d f hd hf hr
      dsimp only
      simp (disch := omega) only [zcmp, zari, z00, zm1, le_n, lt_n, eq_n, n_add, n_mul, n_c, n_in, true_and, and_true, if_true, if_false, bi_0, bi_1, ite_true, ite_false, Bool.true_eq_false, Bool.false_eq_true, j3, show ¬ nD S ≤ d by omega]
      refine lfix_for (nC S) (fun c (f : Nat → Int32) => (nI c, va_up E 10 f)) (fun c f => ∀ d' c', d' < 40 → c' < 40 → f (40 * d' + c') = bi (if d' = d then exb (fun t => tg S d t && inb S t c') c else decide (d' < d) && has S d' c')) 0 f (Nat.zero_le _) (fun d' c' h1 h2 => ?_) ?_ ?_
      · rw [hf d' c' h1 h2]
        by_cases e : d' = d
        · rw [if_pos e, e]; simp [exb]
        · rw [if_neg e]
      · intro r2 c f2 hc hf2 hr2
        dsimp only
        simp (disch := omega) only [zcmp, zari, z00, zm1, le_n, lt_n, eq_n, n_add, n_mul, n_c, n_in, true_and, and_true, if_true, if_false, bi_0, bi_1, ite_true, ite_false, Bool.true_eq_false, Bool.false_eq_true, j2, show ¬ nC S ≤ c by omega]
        have hends := (hW.2.2.1 c hc).2.2.1
        refine lfix_down (fun k (y : Option Nat × (Nat → Int32)) => (uI y.1, va_up E 10 y.2)) (fun k y => ends (up S) k y.1 ∧ (∀ p, y.1 = some p → p < nC S) ∧ (tg S d c = false → y.1 = some c ∧ y.2 = f2) ∧ ∃ vis : Nat → Bool, (∀ c', inb S c c' = (vis c' || decide (c' ∈ chn (up S) k y.1))) ∧ ∀ d' c', d' < 40 → c' < 40 → y.2 (40 * d' + c') = bi (if d' = d then exb (fun t => tg S d t && inb S t c') c || vis c' else decide (d' < d) && has S d' c')) 6 (some c, f2) ⟨hends, fun p hp => by cases hp; exact hc, fun _ => ⟨rfl, rfl⟩, fun _ => false, fun c' => by simp [inb], fun d' c' h1 h2 => by rw [Bool.or_false]; exact hf2 d' c' h1 h2⟩ ?_
        rintro r3 k ⟨x, f3⟩ ⟨g1, g2, g3, vis, g4, g5⟩ hr3
        dsimp only at g1 g2 g3 g4 g5 ⊢
        cases x with
        | none =>
          refine ite_p (show uI none < 0 by decide) ?_
          rintro _ rfl
          refine hr2 f3 (fun d' c' h1 h2 => ?_)
          rw [g5 d' c' h1 h2]
          by_cases e : d' = d
          · rw [if_pos e, if_pos e, exb]
            have tt : tg S d c = true := by
              cases q : tg S d c with
              | true => rfl
              | false => have := (g3 q).1; cases this
            have gg := g4 c'
            rw [chn_none] at gg
            have : inb S c c' = vis c' := by rw [gg]; simp
            rw [tt, Bool.true_and, this]
          · rw [if_neg e, if_neg e]
        | some p =>
          have hp := g2 p rfl
          refine ite_n (show ¬ nI p < 0 from nI_pos (by omega)) ?_
          simp (disch := omega) only [zcmp, zari, z00, zm1, le_n, lt_n, eq_n, n_add, n_mul, n_c, n_in, true_and, and_true, if_true, if_false, bi_0, bi_1, ite_true, ite_false, Bool.true_eq_false, Bool.false_eq_true, show 40 * d + c < 1600 by omega, show 40 * d + p < 1600 by omega, uI_s]
          have e6 : va_up E 10 f3 6 (40 * d + c) = bi (tg S d c) := by rw [up_n _ _ (show 6 ≠ 10 by decide)]; exact h6 d c (by omega) (by omega)
          simp only [e6, bi_0]
          cases tt : tg S d c with
          | false =>
            simp only [if_true]
            rintro _ rfl
            obtain ⟨-, rfl⟩ := g3 tt
            refine hr2 f3 (fun d' c' h1 h2 => ?_)
            rw [hf2 d' c' h1 h2]
            by_cases e : d' = d
            · rw [if_pos e, if_pos e, exb, tt]; simp
            · rw [if_neg e, if_neg e]
          | true =>
            simp only [Bool.true_eq_false, if_false]
            rintro _ rfl
            rw [up_s, va_uu]
            rw [up_n _ _ (show 3 ≠ 10 by decide), h3 p hp]
            rintro _ rfl
            obtain ⟨k', rfl⟩ : ∃ k', k = k' + 1 := by
              cases k with
              | zero => exact absurd g1 (fun q => q)
              | succ k' => exact ⟨k', rfl⟩
            refine hr3 k' (up S p, upd f3 (40 * d + p) (vp_nar .boolean 1)) (by omega) ⟨g1, fun q hq => up_ok hW hp hq, fun q => absurd (tt.symm.trans q) (by decide), fun c' => vis c' || c' == p, fun c' => ?_, fun d' c' h1 h2 => ?_⟩
            · rw [g4 c', chn]
              dsimp only
              by_cases e : c' = p
              · simp [e]
              · rw [bqf e, Bool.or_false]; simp [e]
            · show upd f3 (40 * d + p) (vp_nar .boolean 1) (40 * d' + c') = _
              by_cases e : 40 * d' + c' = 40 * d + p
              · obtain ⟨rfl, rfl⟩ : d' = d ∧ c' = p := by omega
                dsimp only
                rw [ud_s, if_pos rfl, beq_self_eq_true, Bool.or_true, Bool.or_true]; exact bi_nar (b := true)
              · rw [ud_n _ _ e, g5 d' c' h1 h2]
                by_cases e2 : d' = d
                · dsimp only
                  rw [if_pos e2, if_pos e2, bqf (show ¬ c' = p by omega), Bool.or_false]
                · rw [if_neg e2, if_neg e2]
      · intro r2 f2 hf2
        dsimp only
        simp (disch := omega) only [zcmp, zari, z00, zm1, le_n, lt_n, eq_n, n_add, n_mul, n_c, n_in, true_and, and_true, if_true, if_false, bi_0, bi_1, ite_true, ite_false, Bool.true_eq_false, Bool.false_eq_true, j2, Nat.le_refl]
        rintro _ rfl
        refine hr f2 (fun d' c' h1 h2 => ?_)
        rw [hf2 d' c' h1 h2]
        by_cases e : d' = d
        · rw [if_pos e, e]
          have : has S d c' = exb (fun t => tg S d t && inb S t c') (nC S) := rfl
          rw [this]; simp
        · rw [if_neg e]
          by_cases e2 : d' < d
          · simp [e2, show d' < d + 1 by omega]
          · simp [e2, show ¬ d' < d + 1 by omega]
    · intro r f hf
      dsimp only
      simp (disch := omega) only [zcmp, zari, z00, zm1, le_n, lt_n, eq_n, n_add, n_mul, n_c, n_in, true_and, and_true, if_true, if_false, bi_0, bi_1, ite_true, ite_false, Bool.true_eq_false, Bool.false_eq_true, j3, Nat.le_refl]
      refine h f (fun d c h1 h2 => ?_)
      rw [hf d c h1 h2]
      by_cases e : d < nD S
      · simp [e]
      · have : has S d c = false := by
          cases q : has S d c with
          | false => rfl
          | true =>
            obtain ⟨t, _, ht⟩ := exb_iff.mp q
            rw [Bool.and_eq_true] at ht
            have := (hW.2.2.2.2.2.1 d t ht.1).1
            omega
        rw [this]; simp
end
