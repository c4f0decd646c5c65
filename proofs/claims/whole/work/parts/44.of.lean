section
variable {S : SS} {J : Nat → Int32} {E : Nat → Nat → Int32} {I : Nat → Int32} {L : Nat → Int64} {A : Nat → Nat → Int32} {B : Nat → Nat → Int64}
theorem ou_uI {n : Nat} : ou (uI none) n := ou_m1 n
theorem up_ok (hW : wf S) {c p : Nat} (hc : c < nC S) (h : up S c = some p) : p < nC S := ((hW.2.2.1 c hc).2.2.2 p h).1
theorem c_levelBelow (hF : RF S I A B) (hW : wf S) {x : Option Nat} (hx : ∀ p, x = some p → p < nC S) {post : Int32 → Prop} (h : post (nI (chn (up S) 6 x).length)) : wX2_levelBelow I L A B (uI x) post := by
  have hn := hW.1
  unfold wX2_levelBelow
  refine ⟨7, ?_⟩
  have H : ∀ (F : Nat) (x : Option Nat) (lev st : Nat), st + F = 6 → lev ≤ st → (∀ p, x = some p → p < nC S) → post (nI (lev + (chn (up S) F x).length)) → lfix (fun (r : (Int32 × Int32 × Int32) → Prop) (v4, v3, v2) => if 5 < v4 then (post v2) else (wX2_knows I L A B v3 (fun r15 => if r15 = 0 then (post v2) else (∀ v2_1 : Int32, v2_1 = v2 + 1 → vp_in v3 40 ∧ (∀ v3_1 : Int32, v3_1 = A 37 v3.toNatClampNeg → ∀ v4_1 : Int32, v4_1 = v4 + 1 → r (v4_1, v3_1, v2_1)))))) (F + 1) (nI st, uI x, nI lev) := by
    intro F
    induction F with
    | zero =>
      intro x lev st hs hl hx h
      unfold lfix
      dsimp only
      simp (disch := omega) only [zcmp, zari, z00, zm1, le_n, lt_n, eq_n, n_add, n_mul, n_c, n_in, true_and, and_true, if_true, if_false, bi_0, bi_1, ite_true, ite_false, Bool.true_eq_false, Bool.false_eq_true, show 5 < st by omega]
      simpa [chn] using h
    | succ F ih =>
      intro x lev st hs hl hx h
      unfold lfix
      dsimp only
      simp (disch := omega) only [zcmp, zari, z00, zm1, le_n, lt_n, eq_n, n_add, n_mul, n_c, n_in, true_and, and_true, if_true, if_false, bi_0, bi_1, ite_true, ite_false, Bool.true_eq_false, Bool.false_eq_true, show ¬ 5 < st by omega]
      cases x with
      | none =>
        rw [c_knC_o hF ou_uI]
        simp only [z00, if_true]
        simpa [chn] using h
      | some p =>
        have hp := hx p rfl
        rw [uI_s, c_knC hF hW hp]
        simp (disch := omega) only [zcmp, zari, z00, zm1, le_n, lt_n, eq_n, n_add, n_mul, n_c, n_in, true_and, and_true, if_true, if_false, bi_0, bi_1, ite_true, ite_false, Bool.true_eq_false, Bool.false_eq_true, hF.2.2.1 p hp]
        rintro _ rfl _ rfl _ rfl
        refine ih (up S p) (lev + 1) (st + 1) (by omega) (by omega) (fun q hq => up_ok hW hp hq) ?_
        rw [chn, List.length_cons] at h
        rw [show lev + 1 + (chn (up S) F (up S p)).length = lev + ((chn (up S) F (up S p)).length + 1) by omega]
        exact h
  exact H 6 x 0 0 rfl (by omega) hx (by rw [Nat.zero_add]; exact h)
theorem c_level (hF : RF S I A B) (hW : wf S) {c : Nat} (hc : c < nC S) {post : Int32 → Prop} (h : post (nI (chn (up S) 6 (up S c)).length)) : wX2_level I L A B (nI c) post := by
  have hn := hW.1
  unfold wX2_level
  simp (disch := omega) only [zcmp, zari, z00, zm1, le_n, lt_n, eq_n, n_add, n_mul, n_c, n_in, true_and, and_true, if_true, if_false, bi_0, bi_1, ite_true, ite_false, Bool.true_eq_false, Bool.false_eq_true, hF.2.2.1 c hc]
  exact c_levelBelow hF hW (fun p hp => up_ok hW hc hp) h
theorem inb_self (S : SS) (c : Nat) : inb S c c = true := by simp [inb, chn]
theorem ct_but {p : Nat → Bool} {n c : Nat} (hc : c < n) (h : p c = true) : fb_ct p n = fb_ct (fun t => !(t == c) && p t) n + 1 := by
  have := fb_ct_upd p false hc
  rw [h] at this
  have e : fb_ct (fun k => if k = c then false else p k) n = fb_ct (fun t => !(t == c) && p t) n := fb_ct_cong (fun k _ => by
    by_cases q : k = c <;> simp [q])
  rw [e] at this
  simp at this
  omega
theorem m1_add (a b : Nat) : (-1 + nI a) + nI b = -1 + nI (a + b) := by rw [Int32.add_assoc, nI_add]
theorem m1_add0 (a : Nat) : (-1 + nI a) + 0 = -1 + nI (a + 0) := m1_add a 0
theorem m1_add1 (a : Nat) : (-1 + nI a) + 1 = -1 + nI (a + 1) := m1_add a 1
theorem t_of (hC : RC S I L A B) (hM : RM S J E) (hW : wf S) (x y : Int32) {K : Int32 → Int32 → (Nat → Int32) → Prop} (hK : ∀ r J', RM S J' E → K r r J') : wX9_of I L A B x y (fun r => wX10_of J E x y (fun r' J' => K r r' J')) := by
  obtain ⟨hF, hD, hX, hT, hP⟩ := hC
  have hn := hW.1
  have hM := RM_t hM 0
  unfold wX9_of wX10_of
  rcases ix x (n := nC S) (by omega) with h | ⟨c, hc, rfl⟩
  · rw [c_knC_o hF h]
    simp only [z00, if_true]
    rintro _ rfl
    rw [m_isCat_o hM h]
    simp only [z00, if_true]
    exact hK _ _ hM
  · rw [c_knC hF hW hc]
    have ha := (hW.2.2.1 c hc).1
    simp only [z00, if_false]
    refine ⟨vp_in_nI (by omega) (by omega), ?_⟩
    rintro _ rfl
    have mm : ∀ {P : Int32 → Prop}, P 1 → wX10_isCategory (va_up J 0 0) E (nI c) P := fun {P} h => by rw [m_isCat hM hW hc]; exact h
    by_cases y0 : y = 0
    · simp only [eq_true y0, if_true]
      simp (disch := omega) only [zcmp, zari, z00, zm1, le_n, lt_n, eq_n, n_add, n_mul, n_c, n_in, true_and, and_true, if_true, if_false, bi_0, bi_1, ite_true, ite_false, Bool.true_eq_false, Bool.false_eq_true, hF.2.1 c hc]
      rintro _ rfl
      refine mm ?_
      simp (disch := omega) only [zcmp, zari, z00, zm1, le_n, lt_n, eq_n, n_add, n_mul, n_c, n_in, true_and, and_true, if_true, if_false, bi_0, bi_1, ite_true, ite_false, Bool.true_eq_false, Bool.false_eq_true, hM.2.2.1 c hc]
      exact hK _ _ hM
    simp only [y0, if_false]
    by_cases y1 : y = 1
    · simp only [eq_true y1, if_true]
      simp (disch := omega) only [zcmp, zari, z00, zm1, le_n, lt_n, eq_n, n_add, n_mul, n_c, n_in, true_and, and_true, if_true, if_false, bi_0, bi_1, ite_true, ite_false, Bool.true_eq_false, Bool.false_eq_true, hF.2.2.1 c hc]
      rintro _ rfl
      refine mm ?_
      simp (disch := omega) only [zcmp, zari, z00, zm1, le_n, lt_n, eq_n, n_add, n_mul, n_c, n_in, true_and, and_true, if_true, if_false, bi_0, bi_1, ite_true, ite_false, Bool.true_eq_false, Bool.false_eq_true, hM.2.2.2.1 c hc]
      exact hK _ _ hM
    simp only [y1, if_false]
    by_cases y2 : y = 2
    · simp only [eq_true y2, if_true]
      refine c_level hF hW hc ?_
      rintro _ rfl
      refine mm ?_
      simp (disch := omega) only [zcmp, zari, z00, zm1, le_n, lt_n, eq_n, n_add, n_mul, n_c, n_in, true_and, and_true, if_true, if_false, bi_0, bi_1, ite_true, ite_false, Bool.true_eq_false, Bool.false_eq_true]
      exact m_level hM hW hc (hK _ _ hM)
    simp only [y2, if_false]
    by_cases y3 : y = 3
    · simp only [eq_true y3, if_true]
      simp (disch := omega) only [zcmp, zari, z00, zm1, le_n, lt_n, eq_n, n_add, n_mul, n_c, n_in, true_and, and_true, if_true, if_false, bi_0, bi_1, ite_true, ite_false, Bool.true_eq_false, Bool.false_eq_true, hF.2.1 c hc, bs_in _ (show c < 64 by omega), (hX.2.2.2.2 (ax S c) (by omega)).1 c (by omega), beq_self_eq_true, Bool.true_and]
      have q := hM.2.2.2.2.2.2.2.2.2.2.1.1 c (by omega)
      rw [Nat.zero_add] at q
      cases e : (se S).1 c with
      | false =>
        simp only [if_true]
        rintro _ rfl
        refine mm ?_
        simp (disch := omega) only [zcmp, zari, z00, zm1, le_n, lt_n, eq_n, n_add, n_mul, n_c, n_in, true_and, and_true, if_true, if_false, bi_0, bi_1, ite_true, ite_false, Bool.true_eq_false, Bool.false_eq_true, q, e]
        exact hK _ _ hM
      | true =>
        simp only [Bool.true_eq_false, if_false]
        rintro _ rfl
        refine mm ?_
        simp (disch := omega) only [zcmp, zari, z00, zm1, le_n, lt_n, eq_n, n_add, n_mul, n_c, n_in, true_and, and_true, if_true, if_false, bi_0, bi_1, ite_true, ite_false, Bool.true_eq_false, Bool.false_eq_true, q, e]
        exact hK _ _ hM
    simp only [y3, if_false]
    by_cases y4 : y = 4
    · simp only [eq_true y4, if_true]
      simp (disch := omega) only [zcmp, zari, z00, zm1, le_n, lt_n, eq_n, n_add, n_mul, n_c, n_in, true_and, and_true, if_true, if_false, bi_0, bi_1, ite_true, ite_false, Bool.true_eq_false, Bool.false_eq_true]
      rw [bm_ct (hF.2.2.2.1 c hc) (n := nC S) (fun i hi => by simp; omega) (by omega)]
      rintro _ rfl
      refine mm ?_
      simp (disch := omega) only [zcmp, zari, z00, zm1, le_n, lt_n, eq_n, n_add, n_mul, n_c, n_in, true_and, and_true, if_true, if_false, bi_0, bi_1, ite_true, ite_false, Bool.true_eq_false, Bool.false_eq_true]
      have e9 : fb_ct (fun t => decide (t < nC S) && !(t == c) && inb S t c) (nC S) = fb_ct (fun t => !(t == c) && inb S t c) (nC S) := fb_ct_cong (fun k hk => by simp [hk])
      rw [e9]
      have e8 := ct_but (p := fun t => inb S t c) hc (inb_self S c)
      refine lfix_for (nC S) (fun k (y : Int32) => (nI k, y)) (fun k y => y = -1 + nI (fb_ct (fun t => inb S t c) k)) 0 _ (Nat.zero_le _) (by show (-1 : Int32) = -1 + nI 0; decide) ?_ ?_
      · rintro r k _ hk rfl hr
        have hr := hr _ rfl
        rw [fb_ct_succ] at hr
        dsimp only
        simp (disch := omega) only [zcmp, zari, z00, zm1, le_n, lt_n, eq_n, n_add, n_mul, n_c, n_in, true_and, and_true, if_true, if_false, bi_0, bi_1, ite_true, ite_false, Bool.true_eq_false, Bool.false_eq_true, hM.1.2.1, show ¬ nC S ≤ k by omega]
        refine m_isIn hM hW hk hc ?_
        simp (disch := omega) only [jn, zcmp, zari, z00, zm1, le_n, lt_n, eq_n, n_add, n_mul, n_c, n_in, true_and, and_true, if_true, if_false, bi_0, bi_1, ite_true, ite_false, Bool.true_eq_false, Bool.false_eq_true]
        cases e : inb S k c with
        | false =>
          simp only [e, if_true, if_false, Bool.false_eq_true] at hr ⊢
          rintro _ rfl _ rfl
          rw [m1_add0]
          exact hr
        | true =>
          simp only [e, if_true, if_false, Bool.true_eq_false] at hr ⊢
          rintro _ rfl _ rfl
          rw [m1_add1]
          exact hr
      · rintro r _ rfl
        dsimp only
        simp (disch := omega) only [zcmp, zari, z00, zm1, le_n, lt_n, eq_n, n_add, n_mul, n_c, n_in, true_and, and_true, if_true, if_false, bi_0, bi_1, ite_true, ite_false, Bool.true_eq_false, Bool.false_eq_true, hM.1.2.1, Nat.le_refl]
        rw [e8, nI_succ, ← Int32.add_assoc, Int32.add_comm (-1), Int32.add_assoc, show (-1 : Int32) + 1 = 0 from by decide, Int32.add_zero]
        exact hK _ _ hM
    simp only [y4, if_false]
    rintro _ rfl
    refine mm ?_
    simp (disch := omega) only [zcmp, zari, z00, zm1, le_n, lt_n, eq_n, n_add, n_mul, n_c, n_in, true_and, and_true, if_true, if_false, bi_0, bi_1, ite_true, ite_false, Bool.true_eq_false, Bool.false_eq_true]
    exact hK _ _ hM
-- sums
theorem tg_has {d c : Nat} (hc : c < nC S) (h : tg S d c = true) : has S d c = true := exb_iff.mpr ⟨c, hc, by simp [h, inb_self]⟩
theorem m_ownOf (hM : RM S J E) (hW : wf S) {c : Nat} (hc : c < nC S) {post : Int32 → Prop} (h : post (nI (fb_ct (fun d => nea S (se S) d (lft S (ax S c)) && tg S d c) (nD S)))) : wX10_ownOf J E (nI c) post := by
  have hn := hW.1
  unfold wX10_ownOf
  refine lfix_for (nD S) (fun k (y : Int32) => (nI k, y)) (fun k y => y = nI (fb_ct (fun d => nea S (se S) d (lft S (ax S c)) && tg S d c) k)) 0 _ (Nat.zero_le _) rfl ?_ ?_
  · rintro r k _ hk rfl hr
    have hr := hr _ rfl
    rw [fb_ct_succ] at hr
    dsimp only
    simp (disch := omega) only [zcmp, zari, z00, zm1, le_n, lt_n, eq_n, n_add, n_mul, n_c, n_in, true_and, and_true, if_true, if_false, bi_0, bi_1, ite_true, ite_false, Bool.true_eq_false, Bool.false_eq_true, hM.1.2.2.1, show ¬ nD S ≤ k by omega]
    refine m_counts hM hW (by omega) hc ?_
    simp (disch := omega) only [jn, zcmp, zari, z00, zm1, le_n, lt_n, eq_n, n_add, n_mul, n_c, n_in, true_and, and_true, if_true, if_false, bi_0, bi_1, ite_true, ite_false, Bool.true_eq_false, Bool.false_eq_true, hM.2.2.2.2.2.2.1 k c (by omega) (by omega)]
    cases e : tg S k c with
    | true =>
      have e2 := tg_has hc e
      unfold cou
      rw [e2, Bool.and_true]
      rw [e, Bool.and_true] at hr
      cases e3 : nea S (se S) k (lft S (ax S c)) <;> simp only [e3, if_true, if_false, Bool.true_eq_false, Bool.false_eq_true] at hr ⊢ <;> (rintro _ rfl _ rfl; exact hr)
    | false =>
      rw [e, Bool.and_false] at hr
      simp only [Bool.false_eq_true, if_false, if_true, ite_self] at hr ⊢
      rintro _ rfl _ rfl; exact hr
  · rintro r _ rfl
    dsimp only
    simp (disch := omega) only [zcmp, zari, z00, zm1, le_n, lt_n, eq_n, n_add, n_mul, n_c, n_in, true_and, and_true, if_true, if_false, bi_0, bi_1, ite_true, ite_false, Bool.true_eq_false, Bool.false_eq_true, hM.1.2.2.1, Nat.le_refl]
    exact h
/-- sums over a range -/
def smn (f : Nat → Nat) : Nat → Nat
  | 0 => 0
  | k + 1 => smn f k + f k
theorem t_sums (hC : RC S I L A B) (hM : RM S J E) (hW : wf S) (x y : Int32) {K : Int32 → Int32 → (Nat → Int32) → Prop} (hK : ∀ r J', RM S J' E → K r r J') : wX9_sums I L A B x y (fun r => wX10_sums J E x y (fun r' J' => K r r' J')) := by
  obtain ⟨hF, hD, hX, hT, hP⟩ := hC
  have hn := hW.1
  have hM := RM_t hM 0
  unfold wX9_sums wX10_sums
  rcases ix x (n := nC S) (by omega) with h | ⟨c, hc, rfl⟩
  · rw [c_knC_o hF h]
    simp only [z00, if_true]
    rintro _ rfl
    rw [m_isCat_o hM h]
    simp only [z00, if_true]
    exact hK _ _ hM
  · rw [c_knC hF hW hc]
    have ha := (hW.2.2.1 c hc).1
    simp only [z00, if_false]
    have mm : ∀ {P : Int32 → Prop}, P 1 → wX10_isCategory (va_up J 0 0) E (nI c) P := fun {P} h => by rw [m_isCat hM hW hc]; exact h
    by_cases h0 : y < 0
    · simp only [h0, if_true]
      rintro _ rfl
      refine mm ?_
      simp (disch := omega) only [zcmp, zari, z00, zm1, le_n, lt_n, eq_n, n_add, n_mul, n_c, n_in, true_and, and_true, if_true, if_false, bi_0, bi_1, ite_true, ite_false, Bool.true_eq_false, Bool.false_eq_true, m_within, h0]
      exact hK _ _ hM
    by_cases h1 : y ≤ 1
    · simp only [h0, h1, if_true, if_false]
      obtain ⟨w, hw1, rfl⟩ := nI_of2 (n := 1) (by decide) h0 h1
      simp (disch := omega) only [zcmp, zari, z00, zm1, le_n, lt_n, eq_n, n_add, n_mul, n_c, n_in, true_and, and_true, if_true, if_false, bi_0, bi_1, ite_true, ite_false, Bool.true_eq_false, Bool.false_eq_true, hF.2.1 c hc]
      refine c_audience hD hX hP hW ha (fun m hm => ?_)
      have cut : ∀ (g : Nat → Bool), ∀ i, nD S ≤ i → (nea S (se S) i (lft S (ax S c)) && g i) = false := fun g i hi => by rw [nea_out hW _ _ i hi]; rfl
      rw [bm_ct (bm_and hm (hF.2.2.2.2.1 c hc)) (n := nD S) (cut _) (by omega)]
      let own := fb_ct (fun d => nea S (se S) d (lft S (ax S c)) && tg S d c) (nD S)
      let ch : Nat → Nat := fun k => if up S k = some c then shw S k else 0
      by_cases w0 : w = 0
      · simp only [w0, if_true]
        rintro _ rfl
        refine mm ?_
        simp (disch := omega) only [zcmp, zari, z00, zm1, le_n, lt_n, eq_n, n_add, n_mul, n_c, n_in, true_and, and_true, if_true, if_false, bi_0, bi_1, ite_true, ite_false, Bool.true_eq_false, Bool.false_eq_true, m_within, show ¬ (0 : Nat) < 0 by omega, show ¬ (1 : Nat) < 0 by omega]
        refine m_ownOf hM hW hc ?_
        refine lfix_for 0 (fun k (y : Int32) => (nI k, y)) (fun k y => y = nI own) 0 _ (Nat.zero_le _) rfl (fun r k y hk => absurd hk (Nat.not_lt_zero k)) ?_
        rintro r _ rfl
        dsimp only
        have : ¬ (0 : Int32) = 1 := by decide
        simp only [jn, nI_0, this, show ¬ (0 : Nat) = 1 by omega, if_false, if_true, ite_self]
        exact hK _ _ hM
      · obtain rfl : w = 1 := by omega
        simp only [show ¬ (1 : Nat) = 0 by omega, if_false]
        refine lfix_for (nC S) (fun k (y : Int32) => (nI k, y)) (fun k y => y = nI (own + smn ch k)) 0 _ (Nat.zero_le _) rfl ?_ ?_
        · rintro r k _ hk rfl hr
          have hr := hr _ rfl
          rw [smn] at hr
          dsimp only
          simp (disch := omega) only [zcmp, zari, z00, zm1, le_n, lt_n, eq_n, n_add, n_mul, n_c, n_in, true_and, and_true, if_true, if_false, bi_0, bi_1, ite_true, ite_false, Bool.true_eq_false, Bool.false_eq_true, hF.1, show ¬ nC S ≤ k by omega, hF.2.2.1 k hk]
          have e1 : (uI (up S k) = nI c) = (up S k = some c) := by
            cases e : up S k with
            | none => simp [uI, zm1.2 c (by omega)]
            | some p => have := up_ok hW hk e; simp [uI, eq_n (show p < 2 ^ 31 by omega) (show c < 2 ^ 31 by omega)]
          simp only [e1]
          by_cases e2 : up S k = some c
          · simp only [e2, if_true]
            have hax : ax S k = ax S c := ((hW.2.2.1 k hk).2.2.2 c e2).2.symm
            rw [bm_ct (bm_and hm (hF.2.2.2.2.2.1 k hk)) (n := nD S) (cut _) (by omega)]
            rintro _ rfl _ rfl
            have e3 : fb_ct (fun i => nea S (se S) i (lft S (ax S c)) && has S i k) (nD S) = ch k := by
              simp only [ch, e2, if_true, shw, cou, hax]
            rw [e3, nI_add, Nat.add_assoc]
            exact hr
          · simp only [e2, if_false]
            rintro _ rfl
            simp only [ch, e2, if_false, Nat.add_zero] at hr
            exact hr
        · rintro r _ rfl
          dsimp only
          simp (disch := omega) only [zcmp, zari, z00, zm1, le_n, lt_n, eq_n, n_add, n_mul, n_c, n_in, true_and, and_true, if_true, if_false, bi_0, bi_1, ite_true, ite_false, Bool.true_eq_false, Bool.false_eq_true, hF.1, Nat.le_refl]
          rw [bm_ct (bm_and hm (hF.2.2.2.2.2.1 c hc)) (n := nD S) (cut _) (by omega)]
          rintro _ rfl
          refine mm ?_
          simp (disch := omega) only [zcmp, zari, z00, zm1, le_n, lt_n, eq_n, n_add, n_mul, n_c, n_in, true_and, and_true, if_true, if_false, bi_0, bi_1, ite_true, ite_false, Bool.true_eq_false, Bool.false_eq_true, m_within, show ¬ (1 : Nat) < 1 by omega, show ¬ (1 : Nat) < 0 by omega]
          refine m_ownOf hM hW hc ?_
          refine lfix_for (nC S) (fun k (y : Int32) => (nI k, y)) (fun k y => y = nI (own + smn ch k)) 0 _ (Nat.zero_le _) rfl ?_ ?_
          · rintro r k _ hk rfl hr
            have hr := hr _ rfl
            rw [smn] at hr
            dsimp only
            simp (disch := omega) only [jn, zcmp, zari, z00, zm1, le_n, lt_n, eq_n, n_add, n_mul, n_c, n_in, true_and, and_true, if_true, if_false, bi_0, bi_1, ite_true, ite_false, Bool.true_eq_false, Bool.false_eq_true, hM.1.2.1, show ¬ nC S ≤ k by omega, hM.2.2.2.1 k hk]
            have e1 : (uI (up S k) = nI c) = (up S k = some c) := by
              cases e : up S k with
              | none => simp [uI, zm1.2 c (by omega)]
              | some p => have := up_ok hW hk e; simp [uI, eq_n (show p < 2 ^ 31 by omega) (show c < 2 ^ 31 by omega)]
            simp only [e1]
            by_cases e2 : up S k = some c
            · simp only [e2, if_true]
              refine m_shownOf hM hW hk ?_
              rintro _ rfl _ rfl
              simp only [ch, e2, if_true] at hr
              rw [nI_add, Nat.add_assoc]
              exact hr
            · simp only [e2, if_false]
              rintro _ rfl _ rfl
              simp only [ch, e2, if_false, Nat.add_zero] at hr
              rw [Nat.add_zero]
              exact hr
          · rintro r _ rfl
            dsimp only
            simp (disch := omega) only [jn, zcmp, zari, z00, zm1, le_n, lt_n, eq_n, n_add, n_mul, n_c, n_in, true_and, and_true, if_true, if_false, bi_0, bi_1, ite_true, ite_false, Bool.true_eq_false, Bool.false_eq_true, hM.1.2.1, Nat.le_refl, show ¬ (1 : Nat) = 0 by omega]
            refine m_shownOf hM hW hc ?_
            exact hK _ _ hM
    · simp only [h0, h1, if_false]
      rintro _ rfl
      refine mm ?_
      simp (disch := omega) only [zcmp, zari, z00, zm1, le_n, lt_n, eq_n, n_add, n_mul, n_c, n_in, true_and, and_true, if_true, if_false, bi_0, bi_1, ite_true, ite_false, Bool.true_eq_false, Bool.false_eq_true, m_within, h0, n_gt (x := 1), h1, not_false_eq_true]
      exact hK _ _ hM
end
