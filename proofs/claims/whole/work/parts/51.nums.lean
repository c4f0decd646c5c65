section
variable {S : SS} {J : Nat → Int32} {E : Nat → Nat → Int32} {I : Nat → Int32} {L : Nat → Int64} {A : Nat → Nat → Int32} {B : Nat → Nat → Int64}
def sv (u : Nat) : Int32 := nI u + (-999)
def sq (v : Int32) : Nat := (v.toInt + 999).toNat
theorem m999 : (-999 : Int32).toInt = -999 := by decide
theorem sv_i {u : Nat} (h : u < 1999) : (sv u).toInt = (u : Int) - 999 := by
  unfold sv
  rw [Int32.toInt_add, nI_toInt (by omega), m999, bmod32 (by omega) (by omega)]; omega
theorem sv_le {a b : Nat} (ha : a < 1999) (hb : b < 1999) : (sv a ≤ sv b) = (a ≤ b) := by
  rw [le_i, sv_i ha, sv_i hb]; exact propext (by omega)
theorem sv_eq {a b : Nat} (ha : a < 1999) (hb : b < 1999) : (sv a = sv b) = (a = b) := by
  rw [eq_i, sv_i ha, sv_i hb]; exact propext (by omega)
theorem sq_lt {v : Int32} (h1 : -999 ≤ v.toInt) (h2 : v.toInt ≤ 999) : sq v < 1999 := by unfold sq; omega
theorem sv_sq {v : Int32} (h1 : -999 ≤ v.toInt) (h2 : v.toInt ≤ 999) : sv (sq v) = v := by
  rw [eq_i, sv_i (sq_lt h1 h2)]; unfold sq; omega
theorem sq_sub {v : Int32} (h1 : -999 ≤ v.toInt) (h2 : v.toInt ≤ 999) : v - (-999) = nI (sq v) := by
  have := sq_lt h1 h2
  rw [eq_i, nI_toInt (by omega), Int32.toInt_sub, m999, bmod32 (by omega) (by omega)]; unfold sq; omega
/-- the row: sorted numbers -/
def RV (I : Nat → Int32) (A : Nat → Nat → Int32) (s : Nat → Nat) (n : Nat) : Prop := I 5 = nI n ∧ (∀ i, i < n → A 49 i = sv (s i)) ∧ (∀ i, i < n → s i < 1999) ∧ ∀ i j, i ≤ j → j < n → s i ≤ s j
def inx (s : Nat → Nat) (p u i : Nat) : Nat := if i < p then s i else if i = p then u else s (i - 1)
theorem inx_ct {s : Nat → Nat} {p u n : Nat} (hp : p ≤ n) (v : Nat) : fb_ct (fun i => inx s p u i == v) (n + 1) = fb_ct (fun i => s i == v) n + if u == v then 1 else 0 := by
  obtain ⟨k, rfl⟩ : ∃ k, n = p + k := ⟨n - p, by omega⟩
  rw [show p + k + 1 = p + (1 + k) by omega, fb_ct_split, fb_ct_split _ 1 k, fb_ct_split _ p k]
  have e1 : fb_ct (fun i => inx s p u i == v) p = fb_ct (fun i => s i == v) p := fb_ct_cong (fun i hi => by simp only [inx, hi, if_true])
  have e2 : fb_ct (fun i => inx s p u (p + i) == v) 1 = if u == v then 1 else 0 := by
    rw [fb_ct_succ]
    simp only [inx, Nat.add_zero, Nat.lt_irrefl, if_false, if_true]
    show 0 + _ = _
    omega
  have e3 : fb_ct (fun i => inx s p u (p + (1 + i)) == v) k = fb_ct (fun i => s (p + i) == v) k := fb_ct_cong (fun i hi => by
    unfold inx
    rw [if_neg (by omega), if_neg (by omega), show p + (1 + i) - 1 = p + i by omega])
  rw [e1, e2, e3]; omega
theorem c_rowPut {s : Nat → Nat} {n u : Nat} (h : RV I A s n) (hn : n < 40) (hu : u < 1999) {post : (Nat → Int32) → (Nat → Nat → Int32) → Prop} (hh : ∀ s' A', RV (va_up I 5 (nI (n + 1))) A' s' (n + 1) → (∀ v, fb_ct (fun i => s' i == v) (n + 1) = fb_ct (fun i => s i == v) n + if u == v then 1 else 0) → (∀ k, k ≠ 49 → A' k = A k) → post (va_up I 5 (nI (n + 1))) A') : wX4_put I L A B (sv u) post := by
  obtain ⟨h1, h2, h3, h4⟩ := h
  unfold wX4_put
  simp (disch := omega) only [zcmp, zari, z00, zm1, le_n, lt_n, eq_n, n_add, n_mul, n_c, n_in, true_and, and_true, if_true, if_false, bi_0, bi_1, ite_true, ite_false, Bool.true_eq_false, Bool.false_eq_true, h1, show n < 40 by omega]
  rintro _ rfl
  refine lfix_down (fun pl (y : Nat → Nat → Int32) => (nI pl, y)) (fun pl y => pl ≤ n ∧ (∀ j, pl ≤ j → j < n → u < s j) ∧ (∀ i, i ≤ n → i ≠ pl → y 49 i = sv (if i < pl then s i else s (i - 1))) ∧ ∀ k, k ≠ 49 → y k = A k) n A ⟨Nat.le_refl _, fun j h1 h2 => by omega, fun i hi h5 => by rw [if_pos (by omega)]; exact h2 i (by omega), fun _ _ => rfl⟩ ?_
  rintro r pl y ⟨g1, g2, g3, g4⟩ hr
  dsimp only
  refine jn_have (fun _ => pl = 0 ∨ s (pl - 1) ≤ u) ?_ ?_
  · rintro _ hq
    simp (disch := omega) only [zcmp, zari, z00, zm1, le_n, lt_n, eq_n, n_add, n_mul, n_c, n_in, true_and, and_true, if_true, if_false, bi_0, bi_1, ite_true, ite_false, Bool.true_eq_false, Bool.false_eq_true]
    rintro _ rfl _ rfl
    refine hh (inx s pl u) _ ⟨up_s _ _ _, fun i hi => ?_, fun i hi => ?_, fun i j hij hj => ?_⟩ (fun v => inx_ct g1 v) (fun k hk => by rw [up_n _ _ hk]; exact g4 k hk)
    · rw [up_s]
      by_cases e : i = pl
      · subst e; rw [ud_s]; unfold inx; rw [if_neg (by omega), if_pos rfl]
      · rw [ud_n _ _ e, g3 i (by omega) e]; unfold inx
        by_cases e2 : i < pl
        · rw [if_pos e2, if_pos e2]
        · rw [if_neg e2, if_neg e2, if_neg e]
    · unfold inx
      by_cases e2 : i < pl
      · rw [if_pos e2]; exact h3 i (by omega)
      · by_cases e : i = pl
        · rw [if_neg e2, if_pos e]; exact hu
        · rw [if_neg e2, if_neg e]; exact h3 (i - 1) (by omega)
    · have q1 : ∀ i, i < pl → s i ≤ u := fun i hi => by
        rcases hq with hq | hq
        · omega
        · exact Nat.le_trans (h4 i (pl - 1) (by omega) (by omega)) hq
      unfold inx
      by_cases c1 : i < pl
      · rw [if_pos c1]
        by_cases c2 : j < pl
        · rw [if_pos c2]; exact h4 i j hij (by omega)
        · by_cases c3 : j = pl
          · rw [if_neg c2, if_pos c3]; exact q1 i c1
          · rw [if_neg c2, if_neg c3]; exact h4 i (j - 1) (by omega) (by omega)
      · by_cases c4 : i = pl
        · rw [if_neg c1, if_pos c4, if_neg (show ¬ j < pl by omega)]
          by_cases c3 : j = pl
          · rw [if_pos c3]; exact Nat.le_refl _
          · rw [if_neg c3]; exact Nat.le_of_lt (g2 (j - 1) (by omega) (by omega))
        · rw [if_neg c1, if_neg c4, if_neg (show ¬ j < pl by omega), if_neg (show ¬ j = pl by omega)]
          exact h4 (i - 1) (j - 1) (by omega) (by omega)
  · intro k hk
    simp (disch := omega) only [zcmp, zari, z00, zm1, le_n, lt_n, eq_n, n_add, n_mul, n_c, n_in, true_and, and_true, if_true, if_false, bi_0, bi_1, ite_true, ite_false, Bool.true_eq_false, Bool.false_eq_true, Nat.le_zero]
    by_cases e : pl = 0
    · simp only [e, if_true]; exact hk () (Or.inl e)
    · simp only [e, if_false]
      have e49 : y 49 (pl - 1) = sv (s (pl - 1)) := by rw [g3 (pl - 1) (by omega) (by omega), if_pos (by omega)]
      rw [zsub.1 pl (by omega), zsub.2.1 pl (by omega)]
      simp (disch := omega) only [zcmp, zari, z00, zm1, le_n, lt_n, eq_n, n_add, n_mul, n_c, n_in, true_and, and_true, if_true, if_false, bi_0, bi_1, ite_true, ite_false, Bool.true_eq_false, Bool.false_eq_true, e49, sv_le (h3 (pl - 1) (by omega)) hu]
      by_cases e2 : s (pl - 1) ≤ u
      · simp only [e2, if_true]; exact hk () (Or.inr e2)
      · simp only [e2, if_false]
        rintro _ rfl _ rfl
        refine hr (pl - 1) _ (by omega) ⟨by omega, fun j h1 h2 => ?_, fun i hi h5 => ?_, fun k hk => by rw [up_n _ _ hk]; exact g4 k hk⟩
        · by_cases e3 : j = pl - 1
          · rw [e3]; omega
          · exact g2 j (by omega) h2
        · rw [up_s]
          by_cases e3 : i = pl
          · subst e3; rw [ud_s, if_neg (by omega)]
          · rw [ud_n _ _ e3, g3 i hi e3]
            by_cases e4 : i < pl
            · rw [if_pos e4, if_pos (show i < pl - 1 by omega)]
            · rw [if_neg e4, if_neg (show ¬ i < pl - 1 by omega)]
def nq (S : SS) (a d : Nat) : Nat := match nm S d a with
  | some v => sq v
  | none => 0
def qn (S : SS) (a b d : Nat) : Bool := (nm S d a).isSome && nea S (se S) d b
theorem qn_val (hW : wf S) {a b d : Nat} (h : qn S a b d = true) : ∃ v, nm S d a = some v ∧ nq S a d = sq v ∧ -999 ≤ v.toInt ∧ v.toInt ≤ 999 ∧ d < nD S ∧ a < nA S ∧ kd S a = 2 := by
  unfold qn at h
  cases e : nm S d a with
  | none => rw [e] at h; cases h
  | some v =>
    obtain ⟨w1, w2, w3, w4, w5⟩ := hW.2.2.2.2.2.2.1 d a v e
    exact ⟨v, rfl, by unfold nq; rw [e], w4, w5, w1, w2, w3⟩
theorem c_fillRow (hC : RC S I L A B) (hW : wf S) {a b : Nat} (ha : a < nA S) {m : Int64} (hm : bm m (fun d => nea S (se S) d b)) {post : (Nat → Int32) → (Nat → Nat → Int32) → Prop}
    (h : ∀ s I' A', RV I' A' s (fb_ct (qn S a b) (nD S)) → (∀ v, fb_ct (fun i => s i == v) (fb_ct (qn S a b) (nD S)) = fb_ct (fun d => qn S a b d && nq S a d == v) (nD S)) → (∀ k, k ≠ 5 → I' k = I k) → (∀ k, k ≠ 49 → A' k = A k) → post I' A') : wX9_fillRow I L A B (nI a) m post := by
  obtain ⟨hF, hD, hX, hT, hP⟩ := hC
  have hn := hW.1
  unfold wX9_fillRow wX4_clear
  simp (disch := omega) only [zcmp, zari, z00, zm1, le_n, lt_n, eq_n, n_add, n_mul, n_c, n_in, true_and, and_true, if_true, if_false, bi_0, bi_1, ite_true, ite_false, Bool.true_eq_false, Bool.false_eq_true]
  rintro _ rfl _ rfl
  refine lfix_for (nD S) (fun k (y : (Nat → Int32) × (Nat → Nat → Int32)) => (nI k, y.1, y.2)) (fun k y => (∃ s, RV y.1 y.2 s (fb_ct (qn S a b) k) ∧ ∀ v, fb_ct (fun i => s i == v) (fb_ct (qn S a b) k) = fb_ct (fun d => qn S a b d && nq S a d == v) k) ∧ (∀ j, j ≠ 5 → y.1 j = I j) ∧ ∀ j, j ≠ 49 → y.2 j = A j) 0 (va_up I 5 0, A) (Nat.zero_le _) ⟨⟨fun _ => 0, ⟨up_s I 5 0, fun i hi => absurd hi (Nat.not_lt_zero i), fun i hi => absurd hi (Nat.not_lt_zero i), fun i j _ hj => absurd hj (Nat.not_lt_zero j)⟩, fun v => rfl⟩, fun j hj => up_n _ _ hj, fun _ _ => rfl⟩ ?_ ?_
  · rintro r k ⟨I2, A2⟩ hk ⟨⟨s, hR, hs⟩, k1, k2⟩ hr
    dsimp only at k1 k2 hR ⊢
    simp (disch := omega) only [zcmp, zari, z00, zm1, le_n, lt_n, eq_n, n_add, n_mul, n_c, n_in, true_and, and_true, if_true, if_false, bi_0, bi_1, ite_true, ite_false, Bool.true_eq_false, Bool.false_eq_true, k1 2 (by decide), hD.1, show ¬ nD S ≤ k by omega, bs_in _ (show k < 64 by omega), bm_and hm (hX.2.2.1 a (by omega)) k (by omega)]
    have eq : (nea S (se S) k b && (nm S k a).isSome) = qn S a b k := Bool.and_comm _ _
    rw [eq]
    cases e : qn S a b k with
    | false =>
      simp only [if_true]
      rintro _ rfl
      refine hr (I2, A2) ⟨⟨s, ?_, fun v => ?_⟩, k1, k2⟩
      · rw [fb_ct_succ, e]; exact hR
      · rw [fb_ct_succ, fb_ct_succ, e]; simp [hs v]
    | true =>
      simp only [Bool.true_eq_false, if_false]
      obtain ⟨v, v1, v2, v3, v4, v5, v6, v7⟩ := qn_val hW e
      have ea : A2 (9 + a + 45) k = sv (nq S a k) := by
        rw [k2 _ (by omega), hX.2.2.2.1 a k v (by omega) (by omega) v1, v2, sv_sq v3 v4]
      simp (disch := omega) only [zcmp, zari, z00, zm1, le_n, lt_n, eq_n, n_add, n_mul, n_c, n_in, true_and, and_true, if_true, if_false, bi_0, bi_1, ite_true, ite_false, Bool.true_eq_false, Bool.false_eq_true, ea]
      have hct : fb_ct (qn S a b) k ≤ k := fb_ct_le _ _
      refine c_rowPut hR (by omega) (by rw [v2]; exact sq_lt v3 v4) (fun s' A' r1 r2 r3 => ?_)
      rintro _ rfl
      have ec : fb_ct (qn S a b) (k + 1) = fb_ct (qn S a b) k + 1 := by rw [fb_ct_succ, e]; rfl
      refine hr (_, A') ⟨⟨s', by rw [ec]; exact r1, fun w => ?_⟩, fun j hj => (up_n _ _ hj).trans (k1 j hj), fun j hj => (r3 j hj).trans (k2 j hj)⟩
      rw [ec, r2 w, hs w, fb_ct_succ, e]; simp
  · rintro r ⟨I2, A2⟩ ⟨⟨s, hR, hs⟩, k1, k2⟩
    dsimp only at k1 k2 hR ⊢
    simp (disch := omega) only [zcmp, zari, z00, zm1, le_n, lt_n, eq_n, n_add, n_mul, n_c, n_in, true_and, and_true, if_true, if_false, bi_0, bi_1, ite_true, ite_false, Bool.true_eq_false, Bool.false_eq_true, k1 2 (by decide), hD.1, Nat.le_refl]
    exact h s I2 A2 hR hs k1 k2
theorem m_numbersOf (hM : RM S J E) (hW : wf S) {a b : Nat} (ha : a < nA S) (hk2 : kd S a = 2) {post : (Nat → Int32) → (Nat → Nat → Int32) → Prop}
    (h : ∀ J' E', RM S J' E' → J' 6 = nI (fb_ct (qn S a b) (nD S)) → (∀ v, v < 1999 → E' 12 v = nI (fb_ct (fun d => qn S a b d && nq S a d == v) (nD S))) → J' 0 = J 0 → post J' E') : wX10_numbersOf J E (nI a) (enc b) post := by
  have hn := hW.1
  unfold wX10_numbersOf
  rintro _ rfl
  suffices H : ∃ n, lfix _ n ((fun c (f : Nat → Int32) => (nI c, va_up E 12 f)) 0 (E 12)) by
    dsimp only at H
    rw [va_self] at H
    exact H
  refine lfix_for 1999 (fun c (f : Nat → Int32) => (nI c, va_up E 12 f)) (fun c f => ∀ e, e < c → f e = 0) 0 (E 12) (Nat.zero_le _) (fun e he => by omega) ?_ ?_
  · intro r c f hc hf hr
    dsimp only
    simp (disch := omega) only [zcmp, zari, z00, zm1, le_n, lt_n, eq_n, n_add, n_mul, n_c, n_in, true_and, and_true, if_true, if_false, bi_0, bi_1, ite_true, ite_false, Bool.true_eq_false, Bool.false_eq_true, show ¬ 1999 ≤ c by omega]
    rintro _ rfl _ rfl
    rw [va_uu]
    refine hr _ (fun e he => ?_)
    rw [up_s]
    by_cases e3 : e = c
    · rw [e3, ud_s]
    · rw [ud_n _ _ e3]; exact hf e (by omega)
  · intro r f0 hf0
    dsimp only
    have e19 : (1999 : Int32) ≤ nI 1999 := by decide
    rw [if_pos e19]
    refine lfix_for (nD S) (fun k (f : Nat → Int32) => (nI k, va_up J 6 (nI (fb_ct (qn S a b) k)), va_up E 12 f)) (fun k f => ∀ v, v < 1999 → f v = nI (fb_ct (fun d => qn S a b d && nq S a d == v) k)) 0 f0 (Nat.zero_le _) (fun v hv => hf0 v hv) ?_ ?_
    · intro r2 k f hk hf hr
      dsimp only
      have hM1 : RM S (va_up J 6 (nI (fb_ct (qn S a b) k))) (va_up E 12 f) := RM_E hW (RM_J hM (fun j _ _ => up_n _ _ (by omega))) (fun j _ _ _ => up_n _ _ (by omega)) (fun i _ => by rw [up_n _ _ (by decide)])
      simp (disch := omega) only [zcmp, zari, z00, zm1, le_n, lt_n, eq_n, n_add, n_mul, n_c, n_in, true_and, and_true, if_true, if_false, bi_0, bi_1, ite_true, ite_false, Bool.true_eq_false, Bool.false_eq_true, hM1.1.2.2.1, show ¬ nD S ≤ k by omega]
      unfold wX10_isNumbered
      rw [m_isThere hM1 hW hk]
      have skip : qn S a b k = false → r2 (nI (k + 1), va_up J 6 (nI (fb_ct (qn S a b) k)), va_up E 12 f) := fun e => by
        have := hr f (fun v hv => by rw [hf v hv, fb_ct_succ, e]; simp)
        rw [fb_ct_succ, e] at this
        exact this
      simp (disch := omega) only [zcmp, zari, z00, zm1, le_n, lt_n, eq_n, n_add, n_mul, n_c, n_in, true_and, and_true, if_true, if_false, bi_0, bi_1, ite_true, ite_false, Bool.true_eq_false, Bool.false_eq_true]
      cases e1 : th S k with
      | false =>
        simp only [if_true]
        rintro _ rfl
        exact skip (by unfold qn nea; rw [e1]; simp)
      | true =>
        simp only [Bool.true_eq_false, if_false]
        rw [m_isNum hM1 hW ha, hk2]
        have h8 := hM1.2.2.2.2.2.2.2.1 k a (by omega) (by omega)
        simp (disch := omega) only [zcmp, zari, z00, zm1, le_n, lt_n, eq_n, n_add, n_mul, n_c, n_in, true_and, and_true, if_true, if_false, bi_0, bi_1, ite_true, ite_false, Bool.true_eq_false, Bool.false_eq_true, show 5 * k + a < 200 by omega, h8, beq_self_eq_true, Bool.true_eq_false]
        cases e2 : (nm S k a).isSome with
        | false =>
          simp only [if_true]
          rintro _ rfl
          exact skip (by unfold qn; rw [e2]; simp)
        | true =>
          simp only [Bool.true_eq_false, if_false]
          refine m_near0 hM1 hW (by omega) b ?_
          simp (disch := omega) only [zcmp, zari, z00, zm1, le_n, lt_n, eq_n, n_add, n_mul, n_c, n_in, true_and, and_true, if_true, if_false, bi_0, bi_1, ite_true, ite_false, Bool.true_eq_false, Bool.false_eq_true]
          cases e3 : nea S (se S) k b with
          | false =>
            simp only [if_true]
            rintro _ rfl
            exact skip (by unfold qn; rw [e3]; simp)
          | true =>
            simp only [Bool.true_eq_false, if_false]
            have e : qn S a b k = true := by unfold qn; rw [e2, e3]; rfl
            obtain ⟨v, v1, v2, v3, v4, v5, v6, v7⟩ := qn_val hW e
            have h7 := hM1.2.2.2.2.2.2.2.2.1 k a v (by omega) (by omega) v1
            have hl := sq_lt v3 v4
            simp (disch := omega) only [zcmp, zari, z00, zm1, le_n, lt_n, eq_n, n_add, n_mul, n_c, n_in, true_and, and_true, if_true, if_false, bi_0, bi_1, ite_true, ite_false, Bool.true_eq_false, Bool.false_eq_true, show 5 * k + a < 200 by omega, h7, sq_sub v3 v4, up_s, hf (sq v) hl]
            rintro _ rfl _ rfl _ rfl
            rw [va_uu, va_uu]
            have ec : fb_ct (qn S a b) (k + 1) = fb_ct (qn S a b) k + 1 := by rw [fb_ct_succ, e]; rfl
            have := hr (upd f (sq v) (nI (fb_ct (fun d => qn S a b d && nq S a d == sq v) k + 1))) (fun w hw => by
              rw [fb_ct_succ, e, v2]
              by_cases e5 : w = sq v
              · subst e5; rw [ud_s]; simp
              · rw [ud_n _ _ e5, hf w hw, bqf (fun q => e5 q.symm)]; simp)
            rw [ec] at this
            exact this
    · intro r2 f hf
      dsimp only
      have hM1 : RM S (va_up J 6 (nI (fb_ct (qn S a b) (nD S)))) (va_up E 12 f) := RM_E hW (RM_J hM (fun j _ _ => up_n _ _ (by omega))) (fun j _ _ _ => up_n _ _ (by omega)) (fun i _ => by rw [up_n _ _ (by decide)])
      simp (disch := omega) only [zcmp, zari, z00, zm1, le_n, lt_n, eq_n, n_add, n_mul, n_c, n_in, true_and, and_true, if_true, if_false, bi_0, bi_1, ite_true, ite_false, Bool.true_eq_false, Bool.false_eq_true, hM1.1.2.2.1, Nat.le_refl]
      exact h _ _ hM1 (up_s _ _ _) (fun v hv => by rw [up_s]; exact hf v hv) (up_n _ _ (by decide))
end
