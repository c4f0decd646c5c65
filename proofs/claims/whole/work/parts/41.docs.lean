/-- the first place -/
def ff (g : Nat → Bool) : Nat → Option Nat
  | 0 => none
  | k + 1 => match ff g k with
    | some j => some j
    | none => if g k then some k else none
theorem ff_mono {g : Nat → Bool} {k j : Nat} (h : ff g k = some j) : ∀ n, k ≤ n → ff g n = some j := by
  intro n hn
  obtain ⟨m, rfl⟩ : ∃ m, n = k + m := ⟨n - k, by omega⟩
  induction m with
  | zero => exact h
  | succ m ih => rw [← Nat.add_assoc, ff, ih (by omega)]
/-- the place with the most, of equal ones the first -/
def bs (p : Nat → Bool) (f : Nat → Nat) : Nat → Option Nat
  | 0 => none
  | k + 1 => if p k then (match bs p f k with
    | none => some k
    | some j => if f j < f k then some k else some j) else bs p f k
theorem bs_lt {p : Nat → Bool} {f : Nat → Nat} : ∀ {n j : Nat}, bs p f n = some j → j < n
  | 0, j, h => by cases h
  | n + 1, j, h => by
    rw [bs] at h
    split at h
    · split at h
      · cases h; omega
      · split at h
        · cases h; omega
        · cases h; rename_i e _; have := bs_lt e; omega
    · have := bs_lt h; omega
section
variable {S : SS} {J : Nat → Int32} {E : Nat → Nat → Int32} {I : Nat → Int32} {L : Nat → Int64} {A : Nat → Nat → Int32} {B : Nat → Nat → Int64}
theorem t_hit (hC : RC S I L A B) (hM : RM S J E) (hW : wf S) (x : Int32) {K : Int32 → Int32 → (Nat → Int32) → (Nat → Nat → Int32) → Prop} (hK : ∀ r J' E', RM S J' E' → K r r J' E') : wX9_hit I L A B x (fun r => wX10_hit J E x (fun r' J' E' => K r r' J' E')) := by
  obtain ⟨hF, hD, hX, hT, hP⟩ := hC
  have hn := hW.1
  have hle := nT_le hW
  have hM := RM_t hM 0
  have hin := hW.2.2.2.2.2.2.2.1
  let p : Nat → Bool := fun k => nea S (se S) (od S k) 9
  let g : Nat → Bool := fun k => p k && decide (nI (fb_ct p k) = x)
  have hm : ∀ {K2 : Int32 → (Nat → Int32) → (Nat → Nat → Int32) → Prop}, (∀ J' E', RM S J' E' → K2 (uI ((ff g (nT S)).map (od S))) J' E') → wX10_hit J E x (fun r' J' E' => K2 r' J' E') := by
    intro K2 hK2
    unfold wX10_hit
    rintro _ rfl
    refine m_orders hM hW (fun J1 E1 hM1 h5 h11 _ => ?_)
    refine lfix_for (nT S) (fun k (y : Int32) => (nI k, y)) (fun k y => y = nI (fb_ct p k) ∧ ff g k = none) 0 _ (Nat.zero_le _) ⟨rfl, rfl⟩ ?_ ?_
    · rintro r k _ hk ⟨rfl, hf⟩ hr
      have h1 := hin k hk
      dsimp only
      simp (disch := omega) only [zcmp, zari, z00, zm1, le_n, lt_n, eq_n, n_add, n_mul, n_c, n_in, true_and, and_true, if_true, if_false, bi_0, bi_1, ite_true, ite_false, Bool.true_eq_false, Bool.false_eq_true, h5, show ¬ nT S ≤ k by omega, h11 k hk]
      rw [← enc_9]
      refine m_near0 hM1 hW (by omega) _ ?_
      simp (disch := omega) only [jn, zcmp, zari, z00, zm1, le_n, lt_n, eq_n, n_add, n_mul, n_c, n_in, true_and, and_true, if_true, if_false, bi_0, bi_1, ite_true, ite_false, Bool.true_eq_false, Bool.false_eq_true]
      have hr2 := hr (nI (fb_ct p (k + 1)))
      rw [fb_ct_succ, ff, hf] at hr2
      cases e : nea S (se S) (od S k) 9 with
      | false =>
        simp only [p, g, e, Bool.false_and, if_true, if_false, Bool.false_eq_true, and_self, forall_const, true_implies] at hr2 ⊢
        rintro _ rfl _ rfl; exact hr2
      | true =>
        simp only [Bool.true_eq_false, if_false]
        by_cases e2 : nI (fb_ct p k) = x
        · rw [if_pos e2]
          have : ff g (nT S) = some k := ff_mono (k := k + 1) (by rw [ff, hf]; simp [g, p, e]; exact e2) _ (by omega)
          have h9 := hK2 _ _ hM1
          rw [this] at h9
          exact h9
        · rw [if_neg e2]
          rintro _ rfl _ rfl
          have := hr2 ⟨rfl, by simp only [g, p, e, Bool.true_and]; rw [if_neg]; simpa using e2⟩
          simp only [p, e, if_true] at this
          exact this
    · rintro r _ ⟨rfl, hf⟩
      dsimp only
      simp (disch := omega) only [zcmp, zari, z00, zm1, le_n, lt_n, eq_n, n_add, n_mul, n_c, n_in, true_and, and_true, if_true, if_false, bi_0, bi_1, ite_true, ite_false, Bool.true_eq_false, Bool.false_eq_true, h5, Nat.le_refl]
      have h9 := hK2 _ _ hM1
      rw [hf] at h9
      exact h9
  unfold wX9_hit
  by_cases hx : 0 ≤ x
  · rw [if_pos hx]
    refine c_hits hD hX hP hW (fun m hm2 => ?_)
    refine lfix_for (nT S) (fun k (y : Int32) => (nI k, y)) (fun k y => y = nI (fb_ct p k) ∧ ff g k = none) 0 _ (Nat.zero_le _) ⟨rfl, rfl⟩ ?_ ?_
    · rintro r k _ hk ⟨rfl, hf⟩ hr
      have h1 := hin k hk
      dsimp only
      simp (disch := omega) only [zcmp, zari, z00, zm1, le_n, lt_n, eq_n, n_add, n_mul, n_c, n_in, true_and, and_true, if_true, if_false, bi_0, bi_1, ite_true, ite_false, Bool.true_eq_false, Bool.false_eq_true, hD.2.2.1, show ¬ nT S ≤ k by omega, hD.2.2.2.1 k hk]
      rintro _ rfl
      simp (disch := omega) only [bs_in m (show od S k < 64 by omega), hm2 (od S k) (by omega), zcmp, zari, z00, zm1, le_n, lt_n, eq_n, n_add, n_mul, n_c, n_in, true_and, and_true, if_true, if_false, bi_0, bi_1, ite_true, ite_false, Bool.true_eq_false, Bool.false_eq_true]
      have hr2 := hr (nI (fb_ct p (k + 1)))
      rw [fb_ct_succ, ff, hf] at hr2
      cases e : nea S (se S) (od S k) 9 with
      | false =>
        simp only [p, g, e, Bool.false_and, if_true, if_false, Bool.false_eq_true, Nat.add_zero, and_self, forall_const, true_implies] at hr2 ⊢
        rintro _ rfl; exact hr2
      | true =>
        simp only [Bool.true_eq_false, if_false]
        by_cases e2 : nI (fb_ct p k) = x
        · rw [if_pos e2]
          have : ff g (nT S) = some k := ff_mono (k := k + 1) (by rw [ff, hf]; simp [g, p, e]; exact e2) _ (by omega)
          refine hm (fun J' E' hM' => ?_)
          rw [this]
          exact hK _ _ _ hM'
        · rw [if_neg e2]
          rintro _ rfl _ rfl
          have := hr2 ⟨rfl, by simp only [g, p, e, Bool.true_and]; rw [if_neg]; simpa using e2⟩
          simp only [p, e, if_true] at this
          exact this
    · rintro r _ ⟨rfl, hf⟩
      dsimp only
      simp (disch := omega) only [zcmp, zari, z00, zm1, le_n, lt_n, eq_n, n_add, n_mul, n_c, n_in, true_and, and_true, if_true, if_false, bi_0, bi_1, ite_true, ite_false, Bool.true_eq_false, Bool.false_eq_true, hD.2.2.1, Nat.le_refl]
      refine hm (fun J' E' hM' => ?_)
      rw [hf]
      exact hK _ _ _ hM'
  · rw [if_neg hx]
    refine hm (fun J' E' hM' => ?_)
    have : ∀ k, k ≤ nT S → ff g k = none := by
      intro k
      induction k with
      | zero => intro _; rfl
      | succ k ih =>
        intro hk
        have hct := fb_ct_le p k
        rw [ff, ih (by omega)]
        have : ¬ nI (fb_ct p k) = x := fun q => hx (by rw [← q]; exact nI_pos' (by omega))
        simp [g, this]
    rw [this _ (Nat.le_refl _)]
    exact hK _ _ _ hM'
theorem c_held (hF : RF S I A B) (hW : wf S) {m : Int64} {q : Nat → Bool} (hm : bm m q) (g : Nat → Bool) (hg : ∀ c, c < nC S → (g c = true ↔ ∀ i, i < 64 → q i = true → has S i c = true)) {post : Int32 → Prop} (h : post (nI (fb_ct g (nC S)))) : wX2_howManyHeldBy I L A B m post := by
  have hn := hW.1
  unfold wX2_howManyHeldBy
  refine lfix_for (nC S) (fun k (y : Int32) => (nI k, y)) (fun k y => y = nI (fb_ct g k)) 0 _ (Nat.zero_le _) rfl ?_ ?_
  · rintro r k _ hk rfl hr
    have hr := hr _ rfl
    rw [fb_ct_succ] at hr
    dsimp only
    simp (disch := omega) only [zcmp, zari, z00, zm1, le_n, lt_n, eq_n, n_add, n_mul, n_c, n_in, true_and, and_true, if_true, if_false, bi_0, bi_1, ite_true, ite_false, Bool.true_eq_false, Bool.false_eq_true, hF.1, show ¬ nC S ≤ k by omega, lc_0]
    have e : (B 40 k &&& m = m) = (g k = true) := by
      rw [hg k hk]
      apply propext
      constructor
      · intro h1 i hi hq
        have : tb (B 40 k &&& m) i = tb m i := by rw [h1]
        rw [tb_and, hm i hi, hq, hF.2.2.2.2.2.1 k hk i hi, Bool.and_true] at this
        exact this
      · intro h1
        apply tb_ext
        intro i hi
        rw [tb_and, hm i hi, hF.2.2.2.2.2.1 k hk i hi]
        cases e1 : q i with
        | false => simp
        | true => simp [h1 i hi e1]
    simp only [e]
    cases e2 : g k with
    | true =>
      simp only [e2, if_true] at hr ⊢
      rintro _ rfl _ rfl
      exact hr
    | false =>
      simp only [e2, if_false, Bool.false_eq_true] at hr ⊢
      rintro _ rfl
      exact hr
  · rintro r _ rfl
    dsimp only
    simp (disch := omega) only [zcmp, zari, z00, zm1, le_n, lt_n, eq_n, n_add, n_mul, n_c, n_in, true_and, and_true, if_true, if_false, bi_0, bi_1, ite_true, ite_false, Bool.true_eq_false, Bool.false_eq_true, hF.1, Nat.le_refl]
    exact h
/-- how many categories both have -/
def alk (S : SS) (d e : Nat) : Nat := fb_ct (fun c => has S d c && has S e c) (nC S)
theorem c_alk (hF : RF S I A B) (hW : wf S) {d e : Nat} (hd : d < 64) (he : e < 64) {post : Int32 → Prop} (h : post (nI (alk S d e))) : wX2_howManyHeldBy I L A B (bt1 d ||| bt1 e) post := by
  refine c_held hF hW (bm_or (bm_bit hd) (bm_bit he)) (fun c => has S d c && has S e c) (fun c _ => ?_) h
  simp only [Bool.and_eq_true, Bool.or_eq_true, beq_iff_eq]
  constructor
  · rintro ⟨h1, h2⟩ i _ (q | q)
    · rw [q]; exact h1
    · rw [q]; exact h2
  · intro h1
    exact ⟨h1 d hd (Or.inl rfl), h1 e he (Or.inr rfl)⟩
theorem c_alk1 (hF : RF S I A B) (hW : wf S) {d : Nat} (hd : d < 64) {post : Int32 → Prop} (h : post (nI (alk S d d))) : wX2_howManyHeldBy I L A B (bt1 d) post := by
  refine c_held hF hW (bm_bit hd) (fun c => has S d c && has S d c) (fun c _ => ?_) h
  simp only [Bool.and_self, beq_iff_eq]
  constructor
  · intro h1 i _ q
    rw [q]; exact h1
  · intro h1
    exact h1 d hd rfl
theorem m_alk (hM : RM S J E) (hW : wf S) {d e : Nat} (hd : d < 40) (he : e < 40) {post : Int32 → Prop} (h : post (nI (alk S d e))) : wX10_alikeOf J E (nI d) (nI e) post := by
  have hn := hW.1
  unfold wX10_alikeOf
  refine lfix_for (nC S) (fun k (y : Int32) => (nI k, y)) (fun k y => y = nI (fb_ct (fun c => has S d c && has S e c) k)) 0 _ (Nat.zero_le _) rfl ?_ ?_
  · rintro r k _ hk rfl hr
    have hr := hr _ rfl
    rw [fb_ct_succ] at hr
    dsimp only
    simp (disch := omega) only [zcmp, zari, z00, zm1, le_n, lt_n, eq_n, n_add, n_mul, n_c, n_in, true_and, and_true, if_true, if_false, bi_0, bi_1, ite_true, ite_false, Bool.true_eq_false, Bool.false_eq_true, hM.1.2.1, show ¬ nC S ≤ k by omega]
    refine m_hasIt hM hd (by omega) ?_
    simp (disch := omega) only [jn, zcmp, zari, z00, zm1, le_n, lt_n, eq_n, n_add, n_mul, n_c, n_in, true_and, and_true, if_true, if_false, bi_0, bi_1, ite_true, ite_false, Bool.true_eq_false, Bool.false_eq_true]
    cases e1 : has S d k with
    | false =>
      simp only [e1, Bool.false_and, if_true, if_false, Bool.false_eq_true] at hr ⊢
      rintro _ rfl _ rfl; exact hr
    | true =>
      simp only [e1, Bool.true_and, Bool.true_eq_false, if_false] at hr ⊢
      refine m_hasIt hM he (by omega) ?_
      simp (disch := omega) only [zcmp, zari, z00, zm1, le_n, lt_n, eq_n, n_add, n_mul, n_c, n_in, true_and, and_true, if_true, if_false, bi_0, bi_1, ite_true, ite_false, Bool.true_eq_false, Bool.false_eq_true]
      cases e2 : has S e k <;> simp only [e2, if_true, if_false, Bool.true_eq_false, Bool.false_eq_true] at hr ⊢ <;> (rintro _ rfl _ rfl; exact hr)
  · rintro r _ rfl
    dsimp only
    simp (disch := omega) only [zcmp, zari, z00, zm1, le_n, lt_n, eq_n, n_add, n_mul, n_c, n_in, true_and, and_true, if_true, if_false, bi_0, bi_1, ite_true, ite_false, Bool.true_eq_false, Bool.false_eq_true, hM.1.2.1, Nat.le_refl]
    exact h
theorem t_alike (hC : RC S I L A B) (hM : RM S J E) (hW : wf S) (x y : Int32) {K : Int32 → Int32 → (Nat → Int32) → Prop} (hK : ∀ r J', RM S J' E → K r r J') : wX9_alike I L A B x y (fun r => wX10_alike J E x y (fun r' J' => K r r' J')) := by
  obtain ⟨hF, hD, hX, hT, hP⟩ := hC
  have hn := hW.1
  have hM := RM_t hM 0
  have g := hK (-1) _ hM
  have hm : (ou x (nD S) ∨ ∃ d, d < nD S ∧ x = nI d ∧ (th S d = false ∨ (ou y (nD S) ∨ ∃ e, e < nD S ∧ y = nI e ∧ (th S e = false ∨ d = e)))) → wX10_alike J E x y (fun r' J' => K (-1) r' J') := by
    intro hb
    unfold wX10_alike
    rintro _ rfl
    rcases hb with h | ⟨d, hd, rfl, h⟩
    · rw [m_isThere_o hM h]
      simp (disch := omega) only [zcmp, zari, z00, zm1, le_n, lt_n, eq_n, n_add, n_mul, n_c, n_in, true_and, and_true, if_true, if_false, bi_0, bi_1, ite_true, ite_false, Bool.true_eq_false, Bool.false_eq_true]; exact g
    · rw [m_isThere hM hW hd]
      cases e1 : th S d with
      | false => simp (disch := omega) only [zcmp, zari, z00, zm1, le_n, lt_n, eq_n, n_add, n_mul, n_c, n_in, true_and, and_true, if_true, if_false, bi_0, bi_1, ite_true, ite_false, Bool.true_eq_false, Bool.false_eq_true]; exact g
      | true =>
        simp (disch := omega) only [zcmp, zari, z00, zm1, le_n, lt_n, eq_n, n_add, n_mul, n_c, n_in, true_and, and_true, if_true, if_false, bi_0, bi_1, ite_true, ite_false, Bool.true_eq_false, Bool.false_eq_true]
        rcases h with h | h | ⟨e, he, rfl, h⟩
        · rw [e1] at h; cases h
        · rw [m_isThere_o hM h]
          simp (disch := omega) only [zcmp, zari, z00, zm1, le_n, lt_n, eq_n, n_add, n_mul, n_c, n_in, true_and, and_true, if_true, if_false, bi_0, bi_1, ite_true, ite_false, Bool.true_eq_false, Bool.false_eq_true]; exact g
        · rw [m_isThere hM hW he]
          cases e2 : th S e with
          | false => simp (disch := omega) only [zcmp, zari, z00, zm1, le_n, lt_n, eq_n, n_add, n_mul, n_c, n_in, true_and, and_true, if_true, if_false, bi_0, bi_1, ite_true, ite_false, Bool.true_eq_false, Bool.false_eq_true]; exact g
          | true =>
            simp (disch := omega) only [zcmp, zari, z00, zm1, le_n, lt_n, eq_n, n_add, n_mul, n_c, n_in, true_and, and_true, if_true, if_false, bi_0, bi_1, ite_true, ite_false, Bool.true_eq_false, Bool.false_eq_true]
            rcases h with h | h
            · rw [e2] at h; cases h
            · rw [if_pos h]; exact g
  unfold wX9_alike
  by_cases exy : x = y
  · rw [if_pos exy]
    subst exy
    refine hm ?_
    rcases ix x (n := nD S) (by omega) with h | ⟨d, hd, rfl⟩
    · exact Or.inl h
    · exact Or.inr ⟨d, hd, rfl, Or.inr (Or.inr ⟨d, hd, rfl, Or.inr rfl⟩)⟩
  · rw [if_neg exy]
    rcases ix x (n := nD S) (by omega) with h | ⟨d, hd, rfl⟩
    · rw [c_isThere_o hD h]
      simp (disch := omega) only [zcmp, zari, z00, zm1, le_n, lt_n, eq_n, n_add, n_mul, n_c, n_in, true_and, and_true, if_true, if_false, bi_0, bi_1, ite_true, ite_false, Bool.true_eq_false, Bool.false_eq_true]
      exact hm (Or.inl h)
    · rw [c_isThere hD hW hd]
      cases e1 : th S d with
      | false =>
        simp (disch := omega) only [zcmp, zari, z00, zm1, le_n, lt_n, eq_n, n_add, n_mul, n_c, n_in, true_and, and_true, if_true, if_false, bi_0, bi_1, ite_true, ite_false, Bool.true_eq_false, Bool.false_eq_true]
        exact hm (Or.inr ⟨d, hd, rfl, Or.inl e1⟩)
      | true =>
        simp (disch := omega) only [zcmp, zari, z00, zm1, le_n, lt_n, eq_n, n_add, n_mul, n_c, n_in, true_and, and_true, if_true, if_false, bi_0, bi_1, ite_true, ite_false, Bool.true_eq_false, Bool.false_eq_true]
        rcases ix y (n := nD S) (by omega) with h | ⟨e, he, rfl⟩
        · rw [c_isThere_o hD h]
          simp (disch := omega) only [zcmp, zari, z00, zm1, le_n, lt_n, eq_n, n_add, n_mul, n_c, n_in, true_and, and_true, if_true, if_false, bi_0, bi_1, ite_true, ite_false, Bool.true_eq_false, Bool.false_eq_true]
          exact hm (Or.inr ⟨d, hd, rfl, Or.inr (Or.inl h)⟩)
        · rw [c_isThere hD hW he]
          cases e2 : th S e with
          | false =>
            simp (disch := omega) only [zcmp, zari, z00, zm1, le_n, lt_n, eq_n, n_add, n_mul, n_c, n_in, true_and, and_true, if_true, if_false, bi_0, bi_1, ite_true, ite_false, Bool.true_eq_false, Bool.false_eq_true]
            exact hm (Or.inr ⟨d, hd, rfl, Or.inr (Or.inr ⟨e, he, rfl, Or.inl e2⟩)⟩)
          | true =>
            simp (disch := omega) only [zcmp, zari, z00, zm1, le_n, lt_n, eq_n, n_add, n_mul, n_c, n_in, true_and, and_true, if_true, if_false, bi_0, bi_1, ite_true, ite_false, Bool.true_eq_false, Bool.false_eq_true, bs_bit]
            refine c_alk hF hW (by omega) (by omega) ?_
            unfold wX10_alike
            rintro _ rfl
            rw [m_isThere hM hW hd, e1]
            simp (disch := omega) only [zcmp, zari, z00, zm1, le_n, lt_n, eq_n, n_add, n_mul, n_c, n_in, true_and, and_true, if_true, if_false, bi_0, bi_1, ite_true, ite_false, Bool.true_eq_false, Bool.false_eq_true]
            rw [m_isThere hM hW he, e2]
            have : ¬ d = e := fun q => exy (by rw [q])
            simp (disch := omega) only [zcmp, zari, z00, zm1, le_n, lt_n, eq_n, n_add, n_mul, n_c, n_in, true_and, and_true, if_true, if_false, bi_0, bi_1, ite_true, ite_false, Bool.true_eq_false, Bool.false_eq_true, this]
            exact m_alk hM hW (by omega) (by omega) (hK _ _ hM)
end
