section
variable {S : SS} {J : Nat → Int32} {E : Nat → Nat → Int32} {I : Nat → Int32} {L : Nat → Int64} {A : Nat → Nat → Int32} {B : Nat → Nat → Int64}
/-- how many of its axis are ahead of it -/
def rkc (S : SS) (x : Nat) (pts : Nat → Nat) (c : Nat) : Nat := fb_ct (fun e => ax S e == x && gtp pts e c) (nC S)
theorem m_better {a b c d : Nat} (ha : a < 2 ^ 31) (hb : b < 2 ^ 31) (hc : c < 2 ^ 31) (hd : d < 2 ^ 31) (post : Int32 → Prop) : wX10_isBetter (nI a) (nI c) (nI b) (nI d) post = post (bi (decide (b < a) || (a == b && decide (c < d)))) := by
  unfold wX10_isBetter
  simp (disch := omega) only [zcmp, zari, z00, zm1, le_n, lt_n, eq_n, n_add, n_mul, n_c, n_in, true_and, and_true, if_true, if_false, bi_0, bi_1, ite_true, ite_false, Bool.true_eq_false, Bool.false_eq_true]
  by_cases q1 : b < a
  · simp [q1, bi]
  · by_cases q2 : a = b
    · by_cases q3 : c < d
      · simp [q2, q3, show ¬ d ≤ c by omega, bi]
      · simp [q2, q3, show d ≤ c by omega, bi]
    · simp [q1, q2, bi]
theorem m_ahead (hM : RM S J E) (hW : wf S) {x : Nat} {pts : Nat → Nat} (ht : ∀ c, c < nC S → ax S c = x → E 14 c = nI (pts c)) (hp : ∀ c, pts c < 2 ^ 31) {c : Nat} (hc : c < nC S) (hx : ax S c = x) {post : Int32 → Prop} (h : post (nI (rkc S x pts c))) : wX10_aheadOf J E (nI c) post := by
  have hn := hW.1
  have hxa : x < 5 := by have := (hW.2.2.1 c hc).1; omega
  unfold wX10_aheadOf
  refine lfix_for (nC S) (fun k (y : Int32) => (nI k, y)) (fun k y => y = nI (fb_ct (fun e => ax S e == x && gtp pts e c) k)) 0 _ (Nat.zero_le _) rfl ?_ ?_
  · rintro r k _ hk rfl hr
    have hr := hr _ rfl
    rw [fb_ct_succ] at hr
    have hxk : ax S k < 5 := by have := (hW.2.2.1 k hk).1; omega
    dsimp only
    simp (disch := omega) only [zcmp, zari, z00, zm1, le_n, lt_n, eq_n, n_add, n_mul, n_c, n_in, true_and, and_true, if_true, if_false, bi_0, bi_1, ite_true, ite_false, Bool.true_eq_false, Bool.false_eq_true, hM.1.2.1, show ¬ nC S ≤ k by omega, hM.2.2.1 k hk, hM.2.2.1 c hc, hx]
    refine jn_have (fun t => t = nI (if (ax S k == x && gtp pts k c) = true then 1 else 0)) ?_ ?_
    · rintro _ rfl _ rfl _ rfl
      rw [n_add]
      exact hr
    · intro k1 h1
      refine jn_have (fun _ => (ax S k == x && gtp pts k c) = false) ?_ ?_
      · intro _ e
        have := h1 _ rfl
        rw [e] at this
        exact this
      · intro k2 h2
        by_cases e1 : ax S k = x
        · simp only [e1, if_true]
          by_cases e2 : k = c
          · simp only [e2, if_true]
            exact h2 () (by rw [e2, gtp_irr]; simp)
          · simp only [e2, if_false]
            simp (disch := omega) only [zcmp, zari, z00, zm1, le_n, lt_n, eq_n, n_add, n_mul, n_c, n_in, true_and, and_true, if_true, if_false, bi_0, bi_1, ite_true, ite_false, Bool.true_eq_false, Bool.false_eq_true, ht k hk e1, ht c hc hx]
            rw [m_better (hp k) (hp c) (by omega) (by omega)]
            have eg : (decide (pts c < pts k) || (pts k == pts c && decide (k < c))) = gtp pts k c := rfl
            rw [eg]
            simp (disch := omega) only [zcmp, zari, z00, zm1, le_n, lt_n, eq_n, n_add, n_mul, n_c, n_in, true_and, and_true, if_true, if_false, bi_0, bi_1, ite_true, ite_false, Bool.true_eq_false, Bool.false_eq_true]
            cases e3 : gtp pts k c with
            | false => simp only [if_true]; exact h2 () (by rw [e3]; simp)
            | true =>
              simp only [Bool.true_eq_false, if_false]
              have := h1 _ rfl
              simp only [e1, e3, beq_self_eq_true, Bool.and_self, if_true] at this
              exact this
        · simp only [e1, if_false]
          exact h2 () (by simp [e1])
  · rintro r _ rfl
    dsimp only
    simp (disch := omega) only [zcmp, zari, z00, zm1, le_n, lt_n, eq_n, n_add, n_mul, n_c, n_in, true_and, and_true, if_true, if_false, bi_0, bi_1, ite_true, ite_false, Bool.true_eq_false, Bool.false_eq_true, hM.1.2.1, Nat.le_refl]
    exact h
/-- the ranking cell holds the sorted ones of a set -/
def RK (I : Nat → Int32) (A : Nat → Nat → Int32) (pts : Nat → Nat) (q : Nat → Bool) (N m : Nat) (f : Nat → Nat) : Prop := I 8 = nI m ∧ (∀ i, i < m → A 42 i = nI (f i)) ∧ (∀ i, i < m → A 44 (f i) = nI (pts (f i))) ∧ enm q N (gtp pts) f m
theorem RK_m {pts : Nat → Nat} {q : Nat → Bool} {N m : Nat} {f : Nat → Nat} (h : RK I A pts q N m f) : m ≤ N := by
  rw [en_size (gtp_irr pts) h.2.2.2]; exact fb_ct_le _ _
theorem RK_skip {pts : Nat → Nat} {q : Nat → Bool} {N m : Nat} {f : Nat → Nat} (h : RK I A pts q N m f) (hq : q N = false) : RK I A pts q (N + 1) m f := by
  refine ⟨h.1, h.2.1, h.2.2.1, fun i hi => ⟨by have := (h.2.2.2.1 i hi).1; omega, (h.2.2.2.1 i hi).2⟩, h.2.2.2.2.1, fun e he h2 => ?_⟩
  by_cases e1 : e = N
  · rw [e1, hq] at h2; cases h2
  · exact h.2.2.2.2.2 e (by omega) h2
theorem c_put8 {pts : Nat → Nat} {q : Nat → Bool} {N m : Nat} {f : Nat → Nat} (h : RK I A pts q N m f) (hN : N < 40) (hq : q N = true) (hp : ∀ c, pts c < 2 ^ 31) {post : (Nat → Int32) → (Nat → Nat → Int32) → Prop} (hh : ∀ g I' A', RK I' A' pts q (N + 1) (m + 1) g → (∀ k, k ≠ 8 → I' k = I k) → (∀ k, k ≠ 42 → k ≠ 44 → A' k = A k) → post I' A') : wX3_put I L A B 8 (nI N) (nI (pts N)) post := by
  have hm := RK_m h
  obtain ⟨h1, h2, h3, h4⟩ := h
  refine c_rkPut (k0 := 8) (pts := pts) (f := f) (n := m) (v := pts N) (Or.inr rfl) (by omega) hN h1 h2 (fun i hi => ?_) h3 hp rfl h4.2.1 (fun g A' g1 g2 g3 g4 g5 g6 g7 => ?_)
  · have := (h4.1 i hi).1; exact ⟨by omega, by omega⟩
  · have hg : ∀ i, i < m + 1 → g i < N + 1 ∧ q (g i) = true := by
      intro i hi
      rcases g3 i hi with e | ⟨j, hj, e⟩
      · rw [e]; exact ⟨by omega, hq⟩
      · rw [e]; have := h4.1 j hj; exact ⟨by omega, this.2⟩
    refine hh g _ A' ⟨up_s _ _ _, g1, fun i hi => ?_, hg, g2, fun e he h5 => ?_⟩ (fun k hk => up_n _ _ hk) g7
    · rw [g6]
      by_cases e : g i = N
      · rw [e, ud_s]
      · rw [ud_n _ _ e]
        rcases g3 i hi with e' | ⟨j, hj, e'⟩
        · exact absurd e' e
        · rw [e']; exact h3 j hj
    · by_cases e1 : e = N
      · rw [e1]; exact g5
      · obtain ⟨j, hj, e2⟩ := h4.2.2 e (by omega) h5
        rw [← e2]; exact g4 j hj
theorem ff_uniq {g : Nat → Bool} {j : Nat} (hj : g j = true) : ∀ {n : Nat}, j < n → (∀ k, k < n → g k = true → k = j) → ff g n = some j := by
  intro n
  induction n with
  | zero => intro h; omega
  | succ n ih =>
    intro h hu
    by_cases e : j = n
    · subst e
      have : ff g j = none := by
        have key : ∀ m, m ≤ j → ff g m = none := by
          intro m
          induction m with
          | zero => intro _; rfl
          | succ m ihm =>
            intro hm
            rw [ff, ihm (by omega)]
            cases e2 : g m with
            | false => simp
            | true => have := hu m (by omega) e2; omega
        exact key j (Nat.le_refl _)
      rw [ff, this]
      simp [hj]
    · rw [ff, ih (by omega) (fun k hk => hu k (by omega))]
theorem ff_no {g : Nat → Bool} : ∀ {n : Nat}, (∀ k, k < n → g k = false) → ff g n = none := by
  intro n
  induction n with
  | zero => intro _; rfl
  | succ n ih => intro h; rw [ff, ih (fun k hk => h k (by omega))]; simp [h n (by omega)]
/-- above a threshold: as far ahead as among all -/
theorem rk_above {x v : Nat} {pts : Nat → Nat} {c : Nat} (hx : ax S c = x) (hv : v < pts c) : rkc S x pts c = fb_ct (fun e => (ax S e == x && decide (v < pts e)) && gtp pts e c) (nC S) := by
  unfold rkc
  refine fb_ct_cong (fun e he => ?_)
  cases e1 : gtp pts e c with
  | false => simp
  | true =>
    rw [gtp_iff] at e1
    simp [show v < pts e by omega]
theorem t_top (hC : RC S I L A B) (hM : RM S J E) (hW : wf S) (x y z : Int32) {K : Int32 → Int32 → (Nat → Int32) → (Nat → Nat → Int32) → (Nat → Int32) → (Nat → Nat → Int32) → Prop} (hK : ∀ r I' A' J' E', RC S I' L A' B → RM S J' E' → K r r I' A' J' E') : wX9_top I L A B x y z (fun r I' A' => wX10_top J E x y z (fun r' J' E' => K r r' I' A' J' E')) := by
  have hC0 := hC
  obtain ⟨hF, hD, hX, hT, hP⟩ := hC
  have hn := hW.1
  have hM := RM_t hM 0
  unfold wX9_top
  rcases ix x (n := nA S) (by omega) with h | ⟨a, ha, rfl⟩
  · rw [c_isTree_o hX h]
    simp only [z00, if_true]
    unfold wX10_top
    rintro _ rfl
    rw [m_isTree_o hM h]
    simp only [z00, if_true]
    exact hK _ _ _ _ _ hC0 hM
  · have ht5 : ∀ {post : Int32 → Prop}, wX10_isTree (va_up J 0 0) E (nI a) post = post (bi (!(kd S a == 2))) := m_isTree hM hW ha _
    rw [c_isTree hX hW ha]
    cases e2 : (kd S a == 2) with
    | true =>
      simp only [Bool.not_true, bi_f, z00, if_true]
      unfold wX10_top
      rintro _ rfl
      rw [ht5, e2]
      simp only [Bool.not_true, bi_f, z00, if_true]
      exact hK _ _ _ _ _ hC0 hM
    | false =>
      simp only [Bool.not_false, bi_t, z00, if_false]
      by_cases h0 : y < 0
      · simp only [h0, if_true]
        unfold wX10_top
        rintro _ rfl
        rw [ht5, e2]
        simp only [Bool.not_false, bi_t, z00, if_false, m_within, h0, if_true]
        exact hK _ _ _ _ _ hC0 hM
      · simp only [h0, if_false]
        by_cases h4 : 40 < y
        · simp only [h4, if_true]
          unfold wX10_top
          rintro _ rfl
          rw [ht5, e2]
          simp only [Bool.not_false, bi_t, z00, if_false, m_within, h0, h4, if_true]
          exact hK _ _ _ _ _ hC0 hM
        · simp only [h4, if_false]
          by_cases h1 : 0 ≤ z
          · simp only [h1, if_true]
            obtain ⟨v, hv, rfl⟩ := nI_of h0
            have h1' : ¬ z < 0 := by rw [lt_i]; rw [le_i] at h1; exact Int.not_lt.mpr h1
            obtain ⟨i, hi, rfl⟩ := nI_of h1'
            have hv40 : v ≤ 40 := by simp (disch := omega) only [zcmp, zari, z00, zm1, le_n, lt_n, eq_n, n_add, n_mul, n_c, n_in, true_and, and_true, if_true, if_false, bi_0, bi_1, ite_true, ite_false, Bool.true_eq_false, Bool.false_eq_true] at h4; omega
            have hsl : ∀ c, shw S c < 2 ^ 31 := fun c => by have := shw_le hW c; omega
            let q : Nat → Bool := fun c => ax S c == a && decide (v < shw S c)
            let g : Nat → Bool := fun c => q c && rkc S a (shw S) c == i
            have hm : ∀ {K2 : Int32 → (Nat → Int32) → (Nat → Nat → Int32) → Prop}, (∀ J' E', RM S J' E' → K2 (uI (ff g (nC S))) J' E') → wX10_top J E (nI a) (nI v) (nI i) (fun r' J' E' => K2 r' J' E') := by
              intro K2 hK2
              unfold wX10_top
              rintro _ rfl
              rw [ht5, e2]
              simp only [Bool.not_false, bi_t, z00, if_false, m_within, h0, h4, h1, if_true]
              refine m_tells hM hW ha (fun E1 hM1 ht => ?_)
              have ht2 : ∀ c, c < nC S → ax S c = a → E1 14 c = nI (shw S c) := fun c hc e => by rw [ht c hc, if_pos e]
              refine lfix_for (nC S) (fun k (_ : Unit) => nI k) (fun k _ => ff g k = none) 0 () (Nat.zero_le _) rfl ?_ ?_
              · rintro r k _ hk hJ hr
                have ha2 := (hW.2.2.1 k hk).1
                have hr := hr ()
                rw [ff, hJ] at hr
                simp (disch := omega) only [zcmp, zari, z00, zm1, le_n, lt_n, eq_n, n_add, n_mul, n_c, n_in, true_and, and_true, if_true, if_false, bi_0, bi_1, ite_true, ite_false, Bool.true_eq_false, Bool.false_eq_true, hM1.1.2.1, show ¬ nC S ≤ k by omega, hM1.2.2.1 k hk]
                by_cases e1 : ax S k = a
                · have hsk := shw_le hW k
                  simp (disch := omega) only [zcmp, zari, z00, zm1, le_n, lt_n, eq_n, n_add, n_mul, n_c, n_in, true_and, and_true, if_true, if_false, bi_0, bi_1, ite_true, ite_false, Bool.true_eq_false, Bool.false_eq_true, e1, ht2 k hk e1]
                  by_cases e3 : shw S k ≤ v
                  · simp only [e3, if_true]
                    rintro _ rfl
                    exact hr (by simp [g, q, show ¬ v < shw S k by omega])
                  · simp only [e3, if_false]
                    refine m_ahead hM1 hW ht2 hsl hk e1 ?_
                    have hrl : rkc S a (shw S) k ≤ 40 := Nat.le_trans (fb_ct_le _ _) (by omega)
                    simp (disch := omega) only [zcmp, zari, z00, zm1, le_n, lt_n, eq_n, n_add, n_mul, n_c, n_in, true_and, and_true, if_true, if_false, bi_0, bi_1, ite_true, ite_false, Bool.true_eq_false, Bool.false_eq_true]
                    by_cases e4 : rkc S a (shw S) k = i
                    · simp only [e4, if_true]
                      have : ff g (k + 1) = some k := by rw [ff, hJ]; simp [g, q, e1, e4, show v < shw S k by omega]
                      have h9 := hK2 _ _ hM1
                      rw [ff_mono this (nC S) (by omega)] at h9
                      exact h9
                    · simp only [e4, if_false]
                      rintro _ rfl
                      exact hr (by simp [g, e4])
                · simp (disch := omega) only [zcmp, zari, z00, zm1, le_n, lt_n, eq_n, n_add, n_mul, n_c, n_in, true_and, and_true, if_true, if_false, bi_0, bi_1, ite_true, ite_false, Bool.true_eq_false, Bool.false_eq_true, e1]
                  rintro _ rfl
                  exact hr (by simp [g, q, e1])
              · rintro r _ hJ
                simp (disch := omega) only [zcmp, zari, z00, zm1, le_n, lt_n, eq_n, n_add, n_mul, n_c, n_in, true_and, and_true, if_true, if_false, bi_0, bi_1, ite_true, ite_false, Bool.true_eq_false, Bool.false_eq_true, hM1.1.2.1, Nat.le_refl]
                have h9 := hK2 _ _ hM1
                rw [hJ] at h9
                exact h9
            refine c_audience hD hX hP hW ha (fun m hmm => ?_)
            unfold wX3_clear
            rintro _ rfl
            refine lfix_for (nC S) (fun k (y : (Nat → Int32) × (Nat → Nat → Int32)) => (nI k, y.1, y.2)) (fun k y => (∃ m f, RK y.1 y.2 (shw S) q k m f) ∧ (∀ j, j ≠ 8 → y.1 j = I j) ∧ ∀ j, j ≠ 42 → j ≠ 44 → y.2 j = A j) 0 (va_up I 8 0, A) (Nat.zero_le _) ⟨⟨0, fun _ => 0, up_s I 8 0, fun i hi => by omega, fun i hi => by omega, fun i hi => by omega, fun i j _ hj => by omega, fun e he => by omega⟩, fun j hj => up_n _ _ hj, fun _ _ _ => rfl⟩ ?_ ?_
            · rintro r k ⟨I2, A2⟩ hk ⟨⟨m2, f, hR⟩, k1, k2⟩ hr
              dsimp only at k1 k2 hR ⊢
              have ha2 := (hW.2.2.1 k hk).1
              simp (disch := omega) only [zcmp, zari, z00, zm1, le_n, lt_n, eq_n, n_add, n_mul, n_c, n_in, true_and, and_true, if_true, if_false, bi_0, bi_1, ite_true, ite_false, Bool.true_eq_false, Bool.false_eq_true, k1 1 (by decide), hF.1, show ¬ nC S ≤ k by omega, k2 36 (by decide) (by decide), hF.2.1 k hk]
              rw [bm_ct (bm_and hmm (hF.2.2.2.2.2.1 k hk)) (n := nD S) (fun i hi => by rw [nea_out hW _ _ i hi]; rfl) (by omega)]
              by_cases e1 : ax S k = a
              · have e3 : fb_ct (fun i => nea S (se S) i (lft S a) && has S i k) (nD S) = shw S k := by simp only [shw, cou, e1]
                rw [e3]
                have hsk := shw_le hW k
                simp (disch := omega) only [zcmp, zari, z00, zm1, le_n, lt_n, eq_n, n_add, n_mul, n_c, n_in, true_and, and_true, if_true, if_false, bi_0, bi_1, ite_true, ite_false, Bool.true_eq_false, Bool.false_eq_true, e1]
                by_cases e4 : shw S k ≤ v
                · simp only [e4, if_true]
                  rintro _ rfl
                  exact hr (I2, A2) ⟨⟨m2, f, RK_skip hR (by simp [q, show ¬ v < shw S k by omega])⟩, k1, k2⟩
                · simp only [e4, if_false]
                  refine c_put8 hR (by omega) (by simp [q, e1, show v < shw S k by omega]) hsl (fun g2 I3 A3 r1 r2 r3 => ?_)
                  rintro _ rfl
                  exact hr (I3, A3) ⟨⟨_, g2, r1⟩, fun j hj => (r2 j hj).trans (k1 j hj), fun j j1 j2 => (r3 j j1 j2).trans (k2 j j1 j2)⟩
              · simp (disch := omega) only [zcmp, zari, z00, zm1, le_n, lt_n, eq_n, n_add, n_mul, n_c, n_in, true_and, and_true, if_true, if_false, bi_0, bi_1, ite_true, ite_false, Bool.true_eq_false, Bool.false_eq_true, e1]
                rintro _ rfl
                exact hr (I2, A2) ⟨⟨m2, f, RK_skip hR (by simp [q, e1])⟩, k1, k2⟩
            · rintro r ⟨I2, A2⟩ ⟨⟨m2, f, hR⟩, k1, k2⟩
              dsimp only at k1 k2 hR ⊢
              have hml := RK_m hR
              have kp : RC S I2 L A2 B := keepC.RC (I := I) (L := L) (A := A) (B := B) ⟨fun k hk => k1 k (fun e => hk (by rw [e]; exact Or.inr (Or.inr (Or.inl rfl)))), fun _ _ => rfl, fun k hk => k2 k (fun e => hk (by rw [e]; exact Or.inl rfl)) (fun e => hk (by rw [e]; exact Or.inr (Or.inl rfl))), fun _ _ _ => rfl⟩ hW hC0
              simp (disch := omega) only [zcmp, zari, z00, zm1, le_n, lt_n, eq_n, n_add, n_mul, n_c, n_in, true_and, and_true, if_true, if_false, bi_0, bi_1, ite_true, ite_false, Bool.true_eq_false, Bool.false_eq_true, k1 1 (by decide), hF.1, Nat.le_refl, hR.1]
              by_cases e : m2 ≤ i
              · simp only [e, if_true]
                refine hm (fun J' E' hM' => ?_)
                rw [ff_no (fun c hc => ?_)]
                · exact hK _ _ _ _ _ kp hM'
                · cases e3 : q c with
                  | false => simp [g, e3]
                  | true =>
                    obtain ⟨j, hj, e4⟩ := hR.2.2.2.2.2 c hc e3
                    have e5 : rkc S a (shw S) c = j := by
                      simp only [q, Bool.and_eq_true, beq_iff_eq, decide_eq_true_eq] at e3
                      rw [rk_above e3.1 e3.2, ← e4]
                      exact rk_en (gtp_irr _) (fun _ _ => gtp_asy) hR.2.2.2 hj
                    simp only [g, e3, e5, Bool.true_and]
                    exact bqf (by omega)
              · simp only [e, if_false]
                simp (disch := omega) only [zcmp, zari, z00, zm1, le_n, lt_n, eq_n, n_add, n_mul, n_c, n_in, true_and, and_true, if_true, if_false, bi_0, bi_1, ite_true, ite_false, Bool.true_eq_false, Bool.false_eq_true, hR.2.1 i (by omega)]
                refine hm (fun J' E' hM' => ?_)
                have hfi := hR.2.2.2.1 i (by omega)
                have key : ∀ c, c < nC S → q c = true → ∀ j, j < m2 → f j = c → rkc S a (shw S) c = j := by
                  intro c hc e3 j hj e4
                  simp only [q, Bool.and_eq_true, beq_iff_eq, decide_eq_true_eq] at e3
                  rw [rk_above e3.1 e3.2, ← e4]
                  exact rk_en (gtp_irr _) (fun _ _ => gtp_asy) hR.2.2.2 hj
                rw [ff_uniq (j := f i) (by simp only [g, hfi.2, key _ hfi.1 hfi.2 i (by omega) rfl, beq_self_eq_true, Bool.and_self]) hfi.1 (fun c hc h7 => ?_)]
                · exact hK _ _ _ _ _ kp hM'
                · simp only [g, Bool.and_eq_true, beq_iff_eq] at h7
                  obtain ⟨j, hj, e4⟩ := hR.2.2.2.2.2 c hc h7.1
                  have := key c hc h7.1 j hj e4
                  have : j = i := by omega
                  rw [← this, e4]
          · simp only [h1, if_false]
            unfold wX10_top
            rintro _ rfl
            rw [ht5, e2]
            simp only [Bool.not_false, bi_t, z00, if_false, m_within, h0, h4, h1]
            exact hK _ _ _ _ _ hC0 hM
end
