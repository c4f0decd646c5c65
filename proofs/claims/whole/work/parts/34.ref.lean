section
variable {S : SS} {J : Nat → Int32} {E : Nat → Nat → Int32}
theorem ou_if {x : Int32} {n : Nat} (h : ou x n) (P Q : Prop) : (if x < 0 then P else if nI n ≤ x then P else Q) = P := by
  rcases h with h | h
  · rw [if_pos h]
  · by_cases h0 : x < 0
    · rw [if_pos h0]
    · rw [if_neg h0, if_pos h]
theorem in_if {a n : Nat} (h : a < n) (hn : n < 2 ^ 31) (P Q : Prop) : (if nI a < 0 then P else if nI n ≤ nI a then P else Q) = Q := by
  simp (disch := omega) only [zcmp, zari, z00, zm1, le_n, lt_n, eq_n, n_add, n_mul, n_c, n_in, true_and, and_true, if_true, if_false, bi_0, bi_1, ite_true, ite_false, Bool.true_eq_false, Bool.false_eq_true, show ¬ a < 0 by omega, show ¬ n ≤ a by omega]
theorem m_isAxis (hM : RM S J E) (hW : wf S) {a : Nat} (ha : a < nA S) (post : Int32 → Prop) : wX10_isAxis J E (nI a) post = post 1 := by
  have := hW.1
  unfold wX10_isAxis
  rw [hM.1.1, in_if ha (by omega)]
theorem m_isAxis_o (hM : RM S J E) {x : Int32} (h : ou x (nA S)) (post : Int32 → Prop) : wX10_isAxis J E x post = post 0 := by
  unfold wX10_isAxis
  rw [hM.1.1, ou_if h]
theorem m_isCat (hM : RM S J E) (hW : wf S) {a : Nat} (ha : a < nC S) (post : Int32 → Prop) : wX10_isCategory J E (nI a) post = post 1 := by
  have := hW.1
  unfold wX10_isCategory
  rw [hM.1.2.1, in_if ha (by omega)]
theorem m_isCat_o (hM : RM S J E) {x : Int32} (h : ou x (nC S)) (post : Int32 → Prop) : wX10_isCategory J E x post = post 0 := by
  unfold wX10_isCategory
  rw [hM.1.2.1, ou_if h]
theorem m_isTree (hM : RM S J E) (hW : wf S) {a : Nat} (ha : a < nA S) (post : Int32 → Prop) : wX10_isTree J E (nI a) post = post (bi (!(kd S a == 2))) := by
  have := hW.1
  have hk := hW.2.1 a ha
  unfold wX10_isTree
  rw [m_isAxis hM hW ha]
  simp (disch := omega) only [zcmp, zari, z00, zm1, le_n, lt_n, eq_n, n_add, n_mul, n_c, n_in, true_and, and_true, if_true, if_false, bi_0, bi_1, ite_true, ite_false, Bool.true_eq_false, Bool.false_eq_true, hM.2.1 a ha]
  by_cases h : kd S a = 2 <;> simp [h, bi]
theorem m_isTree_o (hM : RM S J E) {x : Int32} (h : ou x (nA S)) (post : Int32 → Prop) : wX10_isTree J E x post = post 0 := by
  unfold wX10_isTree
  rw [m_isAxis_o hM h]
  simp
theorem m_isNum (hM : RM S J E) (hW : wf S) {a : Nat} (ha : a < nA S) (post : Int32 → Prop) : wX10_isNumber J E (nI a) post = post (bi (kd S a == 2)) := by
  have := hW.1
  have hk := hW.2.1 a ha
  unfold wX10_isNumber
  rw [m_isAxis hM hW ha]
  simp (disch := omega) only [zcmp, zari, z00, zm1, le_n, lt_n, eq_n, n_add, n_mul, n_c, n_in, true_and, and_true, if_true, if_false, bi_0, bi_1, ite_true, ite_false, Bool.true_eq_false, Bool.false_eq_true, hM.2.1 a ha]
  by_cases h : kd S a = 2 <;> simp [h, bi]
theorem m_isNum_o (hM : RM S J E) {x : Int32} (h : ou x (nA S)) (post : Int32 → Prop) : wX10_isNumber J E x post = post 0 := by
  unfold wX10_isNumber
  rw [m_isAxis_o hM h]
  simp
theorem m_isThere (hM : RM S J E) (hW : wf S) {d : Nat} (hd : d < nD S) (post : Int32 → Prop) : wX10_isThere J E (nI d) post = post (bi (th S d)) := by
  have := hW.1
  unfold wX10_isThere
  rw [hM.1.2.2.1, in_if hd (by omega)]
  simp (disch := omega) only [zcmp, zari, z00, zm1, le_n, lt_n, eq_n, n_add, n_mul, n_c, n_in, true_and, and_true, if_true, if_false, bi_0, bi_1, ite_true, ite_false, Bool.true_eq_false, Bool.false_eq_true, hM.2.2.2.2.2.1 d (by omega)]
  cases th S d <;> simp [bi]
theorem m_isThere_o (hM : RM S J E) {x : Int32} (h : ou x (nD S)) (post : Int32 → Prop) : wX10_isThere J E x post = post 0 := by
  unfold wX10_isThere
  rw [hM.1.2.2.1, ou_if h]
theorem uI_lt {x : Option Nat} (h : ∀ p, x = some p → p < 40) : (uI x < 0) = (x = none) := by
  cases x with
  | none => simp [uI]
  | some p => simp [uI, n_lt0 (show p < 2 ^ 31 by have := h p rfl; omega)]
/-- level: how long the chain is -/
theorem m_level_aux (hup : ∀ c, c < nC S → E 3 c = uI (up S c)) (hC : nC S ≤ 40) (hc : ∀ c, c < nC S → ∀ p, up S c = some p → p < nC S) (post : Int32 → Prop) : ∀ (F : Nat) (x : Option Nat) (k : Nat), ends (up S) F x → (∀ p, x = some p → p < nC S) → post (nI (k + (chn (up S) F x).length)) →
    lfix (fun (r : (Int32 × Int32) → Prop) (v3_1, v2) => if v3_1 < 0 then (post v2) else (∀ v2_1 : Int32, v2_1 = v2 + 1 → vp_in v3_1 40 ∧ (∀ v3_2 : Int32, v3_2 = E 3 v3_1.toNatClampNeg → r (v3_2, v2_1)))) (F + 1) (uI x, nI k) := by
  intro F
  induction F with
  | zero =>
    intro x k he hx hp
    cases x with
    | none =>
      unfold lfix
      dsimp only
      rw [if_pos (show uI none < 0 by decide)]
      simpa [chn] using hp
    | some p => exact absurd he (fun q => q)
  | succ F ih =>
    intro x k he hx hp
    cases x with
    | none =>
      unfold lfix
      dsimp only
      rw [if_pos (show uI none < 0 by decide)]
      simpa [chn] using hp
    | some p =>
      have h1 := hx p rfl
      show (if nI p < 0 then post (nI k) else _)
      rw [if_neg (nI_pos (by omega))]
      rintro _ rfl
      refine ⟨vp_in_nI (by omega) (by omega), ?_⟩
      rintro _ rfl
      rw [uI_s, n_c (by omega), hup p h1, n_s]
      refine ih (up S p) (k + 1) he (hc p h1) ?_
      rw [chn, List.length_cons] at hp
      rw [show k + 1 + (chn (up S) F (up S p)).length = k + ((chn (up S) F (up S p)).length + 1) by omega]
      exact hp
theorem m_level (hM : RM S J E) (hW : wf S) {c : Nat} (hc : c < nC S) {post : Int32 → Prop} (h : post (nI (chn (up S) 6 (up S c)).length)) : wX10_level J E (nI c) post := by
  have hn := hW.1
  unfold wX10_level
  simp (disch := omega) only [zcmp, zari, z00, zm1, le_n, lt_n, eq_n, n_add, n_mul, n_c, n_in, true_and, and_true, if_true, if_false, bi_0, bi_1, ite_true, ite_false, Bool.true_eq_false, Bool.false_eq_true]
  rintro _ rfl
  rw [hM.2.2.2.1 c hc]
  have he : ends (up S) 5 (up S c) := (hW.2.2.1 c hc).2.2.1
  have hm := ends_more he 6 (by omega)
  refine ⟨_, m_level_aux hM.2.2.2.1 hn.2.1 (fun c hc p hp => ((hW.2.2.1 c hc).2.2.2 p hp).1) post 6 (up S c) 0 hm.1 (fun p hp => ((hW.2.2.1 c hc).2.2.2 p hp).1) ?_⟩
  rw [Nat.zero_add]
  exact h
theorem m_isIn_aux (hup : ∀ c, c < nC S → E 3 c = uI (up S c)) (hC : nC S ≤ 40) (hc : ∀ c, c < nC S → ∀ p, up S c = some p → p < nC S) {t : Nat} (ht : t < nC S) (post : Int32 → Prop) : ∀ (F : Nat) (x : Option Nat), ends (up S) F x → (∀ p, x = some p → p < nC S) → post (bi (decide (t ∈ chn (up S) F x))) →
    lfix (fun (r : Int32 → Prop) v3 => jn (fun (_ : Unit) => if v3 = nI t then (post 1) else (post 0)) (fun k => if v3 < 0 then (k ()) else (if v3 = nI t then (k ()) else (vp_in v3 40 ∧ (∀ v3_1 : Int32, v3_1 = E 3 v3.toNatClampNeg → r v3_1))))) (F + 1) (uI x) := by
  intro F
  induction F with
  | zero =>
    intro x he hx hp
    cases x with
    | none =>
      unfold lfix
      simp (disch := omega) only [jn, uI_n, zcmp, zari, z00, zm1, le_n, lt_n, eq_n, n_add, n_mul, n_c, n_in, true_and, and_true, if_true, if_false, bi_0, bi_1, ite_true, ite_false, Bool.true_eq_false, Bool.false_eq_true]
      simpa [chn, bi] using hp
    | some p => exact absurd he (fun q => q)
  | succ F ih =>
    intro x he hx hp
    cases x with
    | none =>
      unfold lfix
      simp (disch := omega) only [jn, uI_n, zcmp, zari, z00, zm1, le_n, lt_n, eq_n, n_add, n_mul, n_c, n_in, true_and, and_true, if_true, if_false, bi_0, bi_1, ite_true, ite_false, Bool.true_eq_false, Bool.false_eq_true]
      simpa [chn, bi] using hp
    | some p =>
      have h1 := hx p rfl
      unfold lfix
      simp (disch := omega) only [jn, uI_s, zcmp, zari, z00, zm1, le_n, lt_n, eq_n, n_add, n_mul, n_c, n_in, true_and, and_true, if_true, if_false, bi_0, bi_1, ite_true, ite_false, Bool.true_eq_false, Bool.false_eq_true, show ¬ p < 0 by omega]
      by_cases e : p = t
      · subst e
        simpa [chn, bi] using hp
      · simp only [e, if_false]
        rintro _ rfl
        rw [hup p h1]
        refine ih (up S p) he (hc p h1) ?_
        have e2 : ¬ t = p := fun q => e q.symm
        simpa [chn, e2] using hp
theorem m_isIn (hM : RM S J E) (hW : wf S) {c t : Nat} (hc : c < nC S) (ht : t < nC S) {post : Int32 → Prop} (h : post (bi (inb S c t))) : wX10_isIn J E (nI c) (nI t) post := by
  have hn := hW.1
  unfold wX10_isIn
  exact ⟨_, m_isIn_aux hM.2.2.2.1 hn.2.1 (fun c hc p hp => ((hW.2.2.1 c hc).2.2.2 p hp).1) ht post 6 (some c) (hW.2.2.1 c hc).2.2.1 (fun p hp => by cases hp; exact hc) h⟩
theorem m_hasIt (hM : RM S J E) {d c : Nat} (hd : d < 40) (hc : c < 40) {post : Int32 → Prop} (h : post (bi (has S d c))) : wX10_hasIt J E (nI d) (nI c) post := by
  unfold wX10_hasIt
  simp (disch := omega) only [zcmp, zari, z00, zm1, le_n, lt_n, eq_n, n_add, n_mul, n_c, n_in, true_and, and_true, if_true, if_false, bi_0, bi_1, ite_true, ite_false, Bool.true_eq_false, Bool.false_eq_true, hM.2.2.2.2.2.2.2.2.2.1 d c hd hc]
  exact ⟨bi_zb, h⟩
theorem m_isOpen (hM : RM S J E) (hW : wf S) {sl : Sl} {b x : Nat} (hs : rSl sl b (E 9)) (hl : ∀ a, (sl.2.2 a).length ≤ 3) (hb : b + 80 ≤ 1440) (hx : x < nA S) {post : Int32 → Prop} (h : post (bi (opn S sl x))) : wX10_isOpen J E (nI b) (nI x) post := by
  have hn := hW.1
  unfold wX10_isOpen
  simp (disch := omega) only [zcmp, zari, z00, zm1, le_n, lt_n, eq_n, n_add, n_mul, n_c, n_in, true_and, and_true, if_true, if_false, bi_0, bi_1, ite_true, ite_false, Bool.true_eq_false, Bool.false_eq_true]
  refine jn_have (fun t => t = bi (!sl.2.1 x && (sl.2.2 x).length == 0)) ?_ ?_
  · rintro _ rfl
    refine lfix_for (nC S) (fun k (y : Int32) => (nI k, y)) (fun k y => y = bi ((!sl.2.1 x && (sl.2.2 x).length == 0) && alb (fun c => !(ax S c == x) || !sl.1 c) k)) 0 _ (Nat.zero_le _) (by simp [alb]) ?_ ?_
    · rintro r k _ hk rfl hr
      dsimp only
      rw [hM.1.2.1, if_neg (nI_ge hk (by omega))]
      refine jn_have (fun t => t = bi ((!sl.2.1 x && (sl.2.2 x).length == 0) && alb (fun c => !(ax S c == x) || !sl.1 c) (k + 1))) ?_ ?_
      · rintro _ rfl _ rfl
        rw [n_s]
        exact hr _ rfl
      · intro k1 h1
        have ha := (hW.2.2.1 k hk).1
        simp (disch := omega) only [jn, zcmp, zari, z00, zm1, le_n, lt_n, eq_n, n_add, n_mul, n_c, n_in, true_and, and_true, if_true, if_false, bi_0, bi_1, ite_true, ite_false, Bool.true_eq_false, Bool.false_eq_true, hM.2.2.1 k hk, hs.1 k (by omega)]
        rw [alb] at h1
        generalize (!sl.2.1 x && (sl.2.2 x).length == 0) = q at h1 ⊢
        generalize alb (fun c => !(ax S c == x) || !sl.1 c) k = a at h1 ⊢
        cases q <;> cases a <;> by_cases e : ax S k = x <;> cases e2 : sl.1 k <;> simp [e, e2, bi] at h1 ⊢ <;> exact h1
    · rintro r _ rfl
      dsimp only
      rw [hM.1.2.1, if_pos (Int32.le_refl _)]
      exact ⟨bi_zb, h⟩
  · intro k hk
    have hl3 := hl x
    simp (disch := omega) only [jn, zcmp, zari, z00, zm1, le_n, lt_n, eq_n, n_add, n_mul, n_c, n_in, true_and, and_true, if_true, if_false, bi_0, bi_1, ite_true, ite_false, Bool.true_eq_false, Bool.false_eq_true, hs.2.1 x (by omega), hs.2.2.1 x (by omega)]
    cases e : sl.2.1 x <;> by_cases e2 : (sl.2.2 x).length = 0 <;> simp [e, e2, bi] at hk ⊢ <;> exact hk
theorem m_isMissing (hM : RM S J E) (hW : wf S) {d x : Nat} (hd : d < 40) (hx : x < nA S) {post : Int32 → Prop} (h : post (bi (mis S d x))) : wX10_isMissing J E (nI d) (nI x) post := by
  have hn := hW.1
  have hk2 := hW.2.1 x hx
  unfold wX10_isMissing
  simp (disch := omega) only [zcmp, zari, z00, zm1, le_n, lt_n, eq_n, n_add, n_mul, n_c, n_in, true_and, and_true, if_true, if_false, bi_0, bi_1, ite_true, ite_false, Bool.true_eq_false, Bool.false_eq_true]
  refine jn_have (fun t => t = bi (!(kd S x == 2) || (nm S d x).isNone)) ?_ ?_
  · rintro _ rfl
    refine lfix_for (nC S) (fun k (y : Int32) => (nI k, y)) (fun k y => y = bi ((!(kd S x == 2) || (nm S d x).isNone) && alb (fun t => !(ax S t == x && tg S d t)) k)) 0 _ (Nat.zero_le _) (by simp [alb]) ?_ ?_
    · rintro r k _ hk rfl hr
      dsimp only
      rw [hM.1.2.1, if_neg (nI_ge hk (by omega))]
      refine jn_have (fun t => t = bi ((!(kd S x == 2) || (nm S d x).isNone) && alb (fun t => !(ax S t == x && tg S d t)) (k + 1))) ?_ ?_
      · rintro _ rfl _ rfl
        rw [n_s]
        exact hr _ rfl
      · intro k1 h1
        have ha := (hW.2.2.1 k hk).1
        simp (disch := omega) only [jn, zcmp, zari, z00, zm1, le_n, lt_n, eq_n, n_add, n_mul, n_c, n_in, true_and, and_true, if_true, if_false, bi_0, bi_1, ite_true, ite_false, Bool.true_eq_false, Bool.false_eq_true, hM.2.2.1 k hk, hM.2.2.2.2.2.2.1 d k hd (by omega)]
        rw [alb] at h1
        generalize (!(kd S x == 2) || (nm S d x).isNone) = q at h1 ⊢
        generalize alb (fun t => !(ax S t == x && tg S d t)) k = a at h1 ⊢
        cases q <;> cases a <;> by_cases e : ax S k = x <;> cases e2 : tg S d k <;> simp [e, e2, bi] at h1 ⊢ <;> exact h1
    · rintro r _ rfl
      dsimp only
      rw [hM.1.2.1, if_pos (Int32.le_refl _)]
      exact ⟨bi_zb, h⟩
  · intro k hk
    simp (disch := omega) only [jn, zcmp, zari, z00, zm1, le_n, lt_n, eq_n, n_add, n_mul, n_c, n_in, true_and, and_true, if_true, if_false, bi_0, bi_1, ite_true, ite_false, Bool.true_eq_false, Bool.false_eq_true, hM.2.1 x hx, hM.2.2.2.2.2.2.2.1 d x hd (by omega)]
    by_cases e : kd S x = 2 <;> cases e2 : nm S d x <;> simp [e, e2, bi] at hk ⊢ <;> exact hk
theorem m_isRanged (hM : RM S J E) (hW : wf S) {sl : Sl} {b d x : Nat} (hs : rSl sl b (E 9)) (hl : ∀ a, (sl.2.2 a).length ≤ 3) (hb : b + 80 ≤ 1440) (hd : d < 40) (hx : x < nA S) {post : Int32 → Prop} (h : post (bi (rgd S sl d x))) : wX10_isRanged J E (nI b) (nI d) (nI x) post := by
  have hn := hW.1
  have h3 := hl x
  unfold wX10_isRanged
  simp (disch := omega) only [zcmp, zari, z00, zm1, le_n, lt_n, eq_n, n_add, n_mul, n_c, n_in, true_and, and_true, if_true, if_false, bi_0, bi_1, ite_true, ite_false, Bool.true_eq_false, Bool.false_eq_true]
  intro v5 hv5
  refine lfix_for (sl.2.2 x).length (fun k (y : Int32) => (nI k, y)) (fun k y => y = bi ((nm S d x).isSome && exb (fun j => decide ((rg sl x j).1 ≤ v5) && decide (v5 ≤ (rg sl x j).2)) k)) 0 _ (Nat.zero_le _) (by simp [exb, bi]) ?_ ?_
  · rintro r k _ hk rfl hr
    dsimp only
    simp (disch := omega) only [zcmp, zari, z00, zm1, le_n, lt_n, eq_n, n_add, n_mul, n_c, n_in, true_and, and_true, if_true, if_false, bi_0, bi_1, ite_true, ite_false, Bool.true_eq_false, Bool.false_eq_true, hs.2.2.1 x (by omega), show ¬ (sl.2.2 x).length ≤ k by omega]
    rintro _ rfl
    have hg := hs.2.2.2 x (by omega) k hk
    refine jn_have (fun t => t = bi ((nm S d x).isSome && exb (fun j => decide ((rg sl x j).1 ≤ v5) && decide (v5 ≤ (rg sl x j).2)) (k + 1))) ?_ ?_
    · rintro _ rfl _ rfl
      exact hr _ rfl
    · intro k1 h1
      simp (disch := omega) only [jn, zcmp, zari, z00, zm1, le_n, lt_n, eq_n, n_add, n_mul, n_c, n_in, true_and, and_true, if_true, if_false, bi_0, bi_1, ite_true, ite_false, Bool.true_eq_false, Bool.false_eq_true, hM.2.2.2.2.2.2.2.1 d x hd (by omega), hg.1, hg.2]
      rw [exb] at h1
      generalize exb (fun j => decide ((rg sl x j).1 ≤ v5) && decide (v5 ≤ (rg sl x j).2)) k = a at h1 ⊢
      have q1 : (v5 < (rg sl x k).1) = ¬ ((rg sl x k).1 ≤ v5) := by rw [lt_i, le_i]; exact propext (by omega)
      have q2 : ((rg sl x k).2 < v5) = ¬ (v5 ≤ (rg sl x k).2) := by rw [lt_i, le_i]; exact propext (by omega)
      simp only [q1, q2]
      cases e : nm S d x <;> cases a <;> by_cases e1 : (rg sl x k).1 ≤ v5 <;> by_cases e2 : v5 ≤ (rg sl x k).2 <;> simp [e, e1, e2, bi] at h1 ⊢ <;> exact h1
  · rintro r _ rfl
    dsimp only
    simp (disch := omega) only [zcmp, zari, z00, zm1, le_n, lt_n, eq_n, n_add, n_mul, n_c, n_in, true_and, and_true, if_true, if_false, bi_0, bi_1, ite_true, ite_false, Bool.true_eq_false, Bool.false_eq_true, hs.2.2.1 x (by omega), Nat.le_refl]
    refine ⟨bi_zb, ?_⟩
    unfold rgd at h
    cases e : nm S d x with
    | none => rw [e] at h; simpa using h
    | some v =>
      rw [e] at h
      rw [hM.2.2.2.2.2.2.2.2.1 d x v hd (by omega) e] at hv5
      subst hv5
      simpa [inr] using h
theorem m_passes (hM : RM S J E) (hW : wf S) {sl : Sl} {b d x : Nat} (hs : rSl sl b (E 9)) (hl : ∀ a, (sl.2.2 a).length ≤ 3) (hb : b + 80 ≤ 1440) (hd : d < 40) (hx : x < nA S) {post : Int32 → Prop} (h : post (bi (pas S sl d x))) : wX10_passes J E (nI b) (nI d) (nI x) post := by
  have hn := hW.1
  have hk2 := hW.2.1 x hx
  unfold wX10_passes
  refine m_isOpen hM hW hs hl hb hx ?_
  unfold pas at h
  simp (disch := omega) only [zcmp, zari, z00, zm1, le_n, lt_n, eq_n, n_add, n_mul, n_c, n_in, true_and, and_true, if_true, if_false, bi_0, bi_1, ite_true, ite_false, Bool.true_eq_false, Bool.false_eq_true]
  cases ho : opn S sl x with
  | true => rw [ho] at h; simpa [bi] using h
  | false =>
    rw [ho, Bool.false_or] at h
    simp only [if_true]
    refine jn_have (fun t => t = bi (sl.2.1 x)) ?_ ?_
    · rintro _ rfl
      refine lfix_for (nC S) (fun k (y : Bool × Bool) => (nI k, bi y.1, bi y.2)) (fun k y => y = (alb (fun c => !(ax S c == x && sl.1 c) || has S d c) k, exb (fun c => ax S c == x && sl.1 c && has S d c) k)) 0 (true, false) (Nat.zero_le _) rfl ?_ ?_
      · rintro r k _ hk rfl hr
        dsimp only
        have ha := (hW.2.2.1 k hk).1
        have hr := hr _ rfl
        dsimp only [alb, exb] at hr
        simp (disch := omega) only [zcmp, zari, z00, zm1, le_n, lt_n, eq_n, n_add, n_mul, n_c, n_in, true_and, and_true, if_true, if_false, bi_0, bi_1, ite_true, ite_false, Bool.true_eq_false, Bool.false_eq_true, hM.1.2.1, show ¬ nC S ≤ k by omega, hM.2.2.1 k hk, hs.1 k (by omega)]
        by_cases e : ax S k = x
        · cases e2 : sl.1 k with
          | false =>
            simp [e, e2] at hr ⊢
            exact hr
          | true =>
            simp only [e, if_true]
            refine m_hasIt hM hd (by omega) ?_
            simp (disch := omega) only [jn, zcmp, zari, z00, zm1, le_n, lt_n, eq_n, n_add, n_mul, n_c, n_in, true_and, and_true, if_true, if_false, bi_0, bi_1, ite_true, ite_false, Bool.true_eq_false, Bool.false_eq_true]
            generalize alb (fun c => !(ax S c == x && sl.1 c) || has S d c) k = a1 at hr ⊢
            generalize exb (fun c => ax S c == x && sl.1 c && has S d c) k = a2 at hr ⊢
            cases e3 : has S d k <;> cases a1 <;> cases a2 <;> simp [e, e2, e3, bi] at hr ⊢ <;> exact hr
        · have e9 : (ax S k == x) = false := by simp [e]
          simp only [e9, Bool.false_and, Bool.not_false, Bool.true_or, Bool.and_true, Bool.or_false] at hr
          simp only [e, if_false]
          rintro _ rfl
          exact hr
      · rintro r _ rfl
        dsimp only
        simp (disch := omega) only [zcmp, zari, z00, zm1, le_n, lt_n, eq_n, n_add, n_mul, n_c, n_in, true_and, and_true, if_true, if_false, bi_0, bi_1, ite_true, ite_false, Bool.true_eq_false, Bool.false_eq_true, hM.1.2.1, Nat.le_refl, hM.2.1 x hx]
        by_cases e : kd S x = 1
        · simp only [e, if_true] at h ⊢
          cases e1 : alb (fun c => !(ax S c == x && sl.1 c) || has S d c) (nC S) with
          | false => rw [e1] at h; simpa [bi] using h
          | true =>
            rw [e1] at h
            simp only [Bool.true_eq_false, if_false]
            cases e2 : sl.2.1 x with
            | false => rw [e2] at h; simpa [bi] using h
            | true =>
              rw [e2] at h
              simp only [Bool.true_eq_false, if_false]
              refine m_isMissing hM hW hd hx ?_
              simp (disch := omega) only [zcmp, zari, z00, zm1, le_n, lt_n, eq_n, n_add, n_mul, n_c, n_in, true_and, and_true, if_true, if_false, bi_0, bi_1, ite_true, ite_false, Bool.true_eq_false, Bool.false_eq_true]
              cases e3 : mis S d x <;> simp [e3, bi] at h ⊢ <;> exact h
        · simp only [e, if_false] at h ⊢
          cases e1 : exb (fun c => ax S c == x && sl.1 c && has S d c) (nC S) with
          | true => rw [e1] at h; simpa [bi] using h
          | false =>
            rw [e1] at h
            simp only [if_true]
            refine m_isRanged hM hW hs hl hb hd hx ?_
            simp (disch := omega) only [zcmp, zari, z00, zm1, le_n, lt_n, eq_n, n_add, n_mul, n_c, n_in, true_and, and_true, if_true, if_false, bi_0, bi_1, ite_true, ite_false, Bool.true_eq_false, Bool.false_eq_true]
            cases e3 : rgd S sl d x with
            | true => rw [e3] at h; simpa [bi] using h
            | false =>
              rw [e3] at h
              simp only [if_true]
              cases e2 : sl.2.1 x with
              | false => rw [e2] at h; simpa [bi] using h
              | true =>
                rw [e2] at h
                simp only [Bool.true_eq_false, if_false]
                refine m_isMissing hM hW hd hx ?_
                simp (disch := omega) only [zcmp, zari, z00, zm1, le_n, lt_n, eq_n, n_add, n_mul, n_c, n_in, true_and, and_true, if_true, if_false, bi_0, bi_1, ite_true, ite_false, Bool.true_eq_false, Bool.false_eq_true]
                cases e3 : mis S d x <;> simp [e3, bi] at h ⊢ <;> exact h
    · intro k hk
      simp (disch := omega) only [zcmp, zari, z00, zm1, le_n, lt_n, eq_n, n_add, n_mul, n_c, n_in, true_and, and_true, if_true, if_false, bi_0, bi_1, ite_true, ite_false, Bool.true_eq_false, Bool.false_eq_true, hs.2.1 x (by omega)]
      cases e : sl.2.1 x <;> simp [e, bi] at hk ⊢ <;> exact hk
/-- the reference's word for an axis, or none -/
def enc (b : Nat) : Int32 := if b < 5 then nI b else -1
theorem enc_eq {k b : Nat} (hk : k < 5) : (nI k = enc b) = (k = b) := by
  unfold enc
  by_cases h : b < 5
  · rw [if_pos h]; exact eq_n (by omega) (by omega)
  · rw [if_neg h]; simp (disch := omega) only [zcmp, zari, z00, zm1, le_n, lt_n, eq_n, n_add, n_mul, n_c, n_in, true_and, and_true, if_true, if_false, bi_0, bi_1, ite_true, ite_false, Bool.true_eq_false, Bool.false_eq_true]; exact (eq_false (by omega)).symm
theorem m_isNear (hM : RM S J E) (hW : wf S) {sl : Sl} {b d : Nat} (hs : rSl sl b (E 9)) (hl : ∀ a, (sl.2.2 a).length ≤ 3) (hb : b + 80 ≤ 1440) (hd : d < 40) (t : Nat) {post : Int32 → Prop} (h : post (bi (nea S sl d t))) : wX10_isNear J E (nI b) (nI d) (enc t) post := by
  have hn := hW.1
  unfold wX10_isNear
  simp (disch := omega) only [zcmp, zari, z00, zm1, le_n, lt_n, eq_n, n_add, n_mul, n_c, n_in, true_and, and_true, if_true, if_false, bi_0, bi_1, ite_true, ite_false, Bool.true_eq_false, Bool.false_eq_true, hM.2.2.2.2.2.1 d hd]
  rintro _ rfl
  refine lfix_for (nA S) (fun k (y : Int32) => (nI k, y)) (fun k y => y = bi (th S d && alb (fun x => x == t || pas S sl d x) k)) 0 _ (Nat.zero_le _) (by simp [alb]) ?_ ?_
  · rintro r k _ hk rfl hr
    have hr := hr _ rfl
    dsimp only
    rw [alb] at hr
    simp (disch := omega) only [zcmp, zari, z00, zm1, le_n, lt_n, eq_n, n_add, n_mul, n_c, n_in, true_and, and_true, if_true, if_false, bi_0, bi_1, ite_true, ite_false, Bool.true_eq_false, Bool.false_eq_true, hM.1.1, show ¬ nA S ≤ k by omega]
    cases e : (th S d && alb (fun x => x == t || pas S sl d x) k) with
    | false =>
      simp only [if_true]
      refine ⟨bi_zb, ?_⟩
      have : nea S sl d t = false := by
        unfold nea
        cases e1 : th S d with
        | false => rfl
        | true =>
          rw [e1, Bool.true_and] at e
          cases e2 : alb (fun x => x == t || pas S sl d x) (nA S) with
          | false => rfl
          | true =>
            have g : alb (fun x => x == t || pas S sl d x) k = true := alb_iff.mpr (fun j hj => alb_iff.mp e2 j (by omega))
            rw [g] at e; cases e
      rw [this] at h
      exact h
    | true =>
      rw [← Bool.and_assoc, e, Bool.true_and] at hr
      simp only [Bool.true_eq_false, if_false]
      refine jn_have (fun t1 => t1 = bi (k == t || pas S sl d k)) ?_ ?_
      · rintro _ rfl _ rfl
        exact hr
      · intro k1 h1
        simp only [jn, enc_eq (show k < 5 by omega)]
        by_cases e1 : k = t
        · simp only [e1, if_true]
          exact h1 _ (by simp [e1, bi])
        · simp only [e1, if_false]
          refine m_passes hM hW hs hl hb hd hk ?_
          simp (disch := omega) only [zcmp, zari, z00, zm1, le_n, lt_n, eq_n, n_add, n_mul, n_c, n_in, true_and, and_true, if_true, if_false, bi_0, bi_1, ite_true, ite_false, Bool.true_eq_false, Bool.false_eq_true]
          cases e2 : pas S sl d k <;> simp [e1, e2, bi] at h1 ⊢ <;> exact h1
  · rintro r _ rfl
    dsimp only
    simp (disch := omega) only [zcmp, zari, z00, zm1, le_n, lt_n, eq_n, n_add, n_mul, n_c, n_in, true_and, and_true, if_true, if_false, bi_0, bi_1, ite_true, ite_false, Bool.true_eq_false, Bool.false_eq_true, hM.1.1, Nat.le_refl]
    exact ⟨bi_zb, h⟩
theorem enc_9 : enc 9 = -1 := by decide
theorem m_hitsBy (hM : RM S J E) (hW : wf S) {sl : Sl} {b : Nat} (hs : rSl sl b (E 9)) (hl : ∀ a, (sl.2.2 a).length ≤ 3) (hb : b + 80 ≤ 1440) {post : Int32 → Prop} (h : post (nI (fb_ct (fun d => nea S sl d 9) (nD S)))) : wX10_hitsBy J E (nI b) post := by
  have hn := hW.1
  unfold wX10_hitsBy
  refine lfix_for (nD S) (fun k (y : Int32) => (nI k, y)) (fun k y => y = nI (fb_ct (fun d => nea S sl d 9) k)) 0 _ (Nat.zero_le _) rfl ?_ ?_
  · rintro r k _ hk rfl hr
    have hr := hr _ rfl
    dsimp only
    rw [fb_ct_succ] at hr
    simp (disch := omega) only [zcmp, zari, z00, zm1, le_n, lt_n, eq_n, n_add, n_mul, n_c, n_in, true_and, and_true, if_true, if_false, bi_0, bi_1, ite_true, ite_false, Bool.true_eq_false, Bool.false_eq_true, hM.1.2.2.1, show ¬ nD S ≤ k by omega]
    rw [← enc_9]
    refine m_isNear hM hW hs hl hb (by omega) 9 ?_
    simp (disch := omega) only [jn, zcmp, zari, z00, zm1, le_n, lt_n, eq_n, n_add, n_mul, n_c, n_in, true_and, and_true, if_true, if_false, bi_0, bi_1, ite_true, ite_false, Bool.true_eq_false, Bool.false_eq_true]
    cases e : nea S sl k 9 <;> simp only [e, if_true, if_false, Bool.true_eq_false] at hr ⊢ <;> (rintro _ rfl _ rfl; exact hr)
  · rintro r _ rfl
    dsimp only
    simp (disch := omega) only [zcmp, zari, z00, zm1, le_n, lt_n, eq_n, n_add, n_mul, n_c, n_in, true_and, and_true, if_true, if_false, bi_0, bi_1, ite_true, ite_false, Bool.true_eq_false, Bool.false_eq_true, hM.1.2.2.1, Nat.le_refl]
    exact h
end
