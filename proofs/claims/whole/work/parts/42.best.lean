section
variable {S : SS} {J : Nat → Int32} {E : Nat → Nat → Int32} {I : Nat → Int32} {L : Nat → Int64} {A : Nat → Nat → Int32} {B : Nat → Nat → Int64}
theorem alk_le (hW : wf S) (d e : Nat) : alk S d e ≤ 40 := Nat.le_trans (fb_ct_le _ _) hW.1.2.1
/-- the class's two words of the best so far -/
def bv (f : Nat → Nat) (x : Option Nat) : Int32 := match x with
  | none => -1
  | some j => nI (f j)
theorem bv_le {f : Nat → Nat} (hf : ∀ j, f j < 2 ^ 31) (x : Option Nat) (k : Nat) : (nI (f k) ≤ bv f x) = (match x with
  | none => False
  | some j => f k ≤ f j) := by
  cases x with
  | none => exact eq_false (by show ¬ nI (f k) ≤ -1; rw [le_i, nI_toInt (hf k), toInt_m1]; omega)
  | some j => exact le_n (hf k) (hf j)
theorem t_nearest (hC : RC S I L A B) (hM : RM S J E) (hW : wf S) (x : Int32) {K : Int32 → Int32 → (Nat → Int32) → (Nat → Nat → Int32) → Prop} (hK : ∀ r J' E', RM S J' E' → K r r J' E') : wX9_nearest I L A B x (fun r => wX10_nearest J E x (fun r' J' E' => K r r' J' E')) := by
  obtain ⟨hF, hD, hX, hT, hP⟩ := hC
  have hn := hW.1
  have hle := nT_le hW
  have hM := RM_t hM 0
  have hin := hW.2.2.2.2.2.2.2.1
  unfold wX9_nearest wX10_nearest
  rcases ix x (n := nD S) (by omega) with h | ⟨d, hd, rfl⟩
  · rw [c_isThere_o hD h]
    simp (disch := omega) only [zcmp, zari, z00, zm1, le_n, lt_n, eq_n, n_add, n_mul, n_c, n_in, true_and, and_true, if_true, if_false, bi_0, bi_1, ite_true, ite_false, Bool.true_eq_false, Bool.false_eq_true]
    rintro _ rfl
    rw [m_isThere_o hM h]
    simp (disch := omega) only [zcmp, zari, z00, zm1, le_n, lt_n, eq_n, n_add, n_mul, n_c, n_in, true_and, and_true, if_true, if_false, bi_0, bi_1, ite_true, ite_false, Bool.true_eq_false, Bool.false_eq_true]
    exact hK _ _ _ hM
  · rw [c_isThere hD hW hd]
    cases e1 : th S d with
    | false =>
      simp (disch := omega) only [zcmp, zari, z00, zm1, le_n, lt_n, eq_n, n_add, n_mul, n_c, n_in, true_and, and_true, if_true, if_false, bi_0, bi_1, ite_true, ite_false, Bool.true_eq_false, Bool.false_eq_true]
      rintro _ rfl
      rw [m_isThere hM hW hd, e1]
      simp (disch := omega) only [zcmp, zari, z00, zm1, le_n, lt_n, eq_n, n_add, n_mul, n_c, n_in, true_and, and_true, if_true, if_false, bi_0, bi_1, ite_true, ite_false, Bool.true_eq_false, Bool.false_eq_true]
      exact hK _ _ _ hM
    | true =>
      simp (disch := omega) only [zcmp, zari, z00, zm1, le_n, lt_n, eq_n, n_add, n_mul, n_c, n_in, true_and, and_true, if_true, if_false, bi_0, bi_1, ite_true, ite_false, Bool.true_eq_false, Bool.false_eq_true]
      let p : Nat → Bool := fun k => !(od S k == d)
      let f : Nat → Nat := fun k => alk S d (od S k)
      have hf : ∀ j, f j < 2 ^ 31 := fun j => by have := alk_le hW d (od S j); show alk S d (od S j) < 2 ^ 31; omega
      refine lfix_for (nT S) (fun k (y : Option Nat) => (nI k, bv f y, uI (y.map (od S)))) (fun k y => y = bs p f k) 0 none (Nat.zero_le _) rfl ?_ ?_
      · rintro r k _ hk rfl hr
        have h1 := hin k hk
        have hr := hr _ rfl
        rw [bs] at hr
        dsimp only
        simp (disch := omega) only [zcmp, zari, z00, zm1, le_n, lt_n, eq_n, n_add, n_mul, n_c, n_in, true_and, and_true, if_true, if_false, bi_0, bi_1, ite_true, ite_false, Bool.true_eq_false, Bool.false_eq_true, hD.2.2.1, show ¬ nT S ≤ k by omega, hD.2.2.2.1 k hk]
        rintro _ rfl
        simp (disch := omega) only [zcmp, zari, z00, zm1, le_n, lt_n, eq_n, n_add, n_mul, n_c, n_in, true_and, and_true, if_true, if_false, bi_0, bi_1, ite_true, ite_false, Bool.true_eq_false, Bool.false_eq_true]
        by_cases e2 : od S k = d
        · simp only [e2, if_true]
          rintro _ rfl
          simp only [p, e2, beq_self_eq_true, Bool.not_true, Bool.false_eq_true, if_false] at hr
          exact hr
        · simp only [e2, if_false, bs_bit]
          have pk : p k = true := by simp [p, e2]
          rw [if_pos pk] at hr
          refine c_alk hF hW (by omega) (by omega) ?_
          cases e3 : bs p f k with
          | none =>
            rw [e3] at hr
            refine ite_n (show ¬ nI (f k) ≤ -1 by rw [le_i, nI_toInt (hf k), toInt_m1]; omega) ?_
            rintro _ rfl
            exact hr
          | some j =>
            rw [e3] at hr
            by_cases e4 : f k ≤ f j
            · refine ite_p (show nI (f k) ≤ nI (f j) from nI_le e4 (hf j)) ?_
              simp only [show ¬ f j < f k by omega, if_false] at hr
              rintro _ rfl
              exact hr
            · refine ite_n (show ¬ nI (f k) ≤ nI (f j) from nI_ge (by omega) (hf k)) ?_
              simp only [show f j < f k by omega, if_true] at hr
              rintro _ rfl
              exact hr
      · rintro r _ rfl
        dsimp only
        simp (disch := omega) only [zcmp, zari, z00, zm1, le_n, lt_n, eq_n, n_add, n_mul, n_c, n_in, true_and, and_true, if_true, if_false, bi_0, bi_1, ite_true, ite_false, Bool.true_eq_false, Bool.false_eq_true, hD.2.2.1, Nat.le_refl]
        rintro _ rfl
        rw [m_isThere hM hW hd, e1]
        simp (disch := omega) only [zcmp, zari, z00, zm1, le_n, lt_n, eq_n, n_add, n_mul, n_c, n_in, true_and, and_true, if_true, if_false, bi_0, bi_1, ite_true, ite_false, Bool.true_eq_false, Bool.false_eq_true]
        refine m_orders hM hW (fun J1 E1 hM1 h5 h11 _ => ?_)
        refine lfix_for (nT S) (fun k (y : Option Nat) => (nI k, uI (y.map (od S)))) (fun k y => y = bs p f k) 0 none (Nat.zero_le _) rfl ?_ ?_
        · rintro r k _ hk rfl hr
          have h1 := hin k hk
          have hr := hr _ rfl
          rw [bs] at hr
          dsimp only
          simp (disch := omega) only [zcmp, zari, z00, zm1, le_n, lt_n, eq_n, n_add, n_mul, n_c, n_in, true_and, and_true, if_true, if_false, bi_0, bi_1, ite_true, ite_false, Bool.true_eq_false, Bool.false_eq_true, h5, show ¬ nT S ≤ k by omega, h11 k hk]
          rintro _ rfl
          refine jn_have (fun t => t = uI ((if p k then (match bs p f k with
            | none => some k
            | some j => if f j < f k then some k else some j) else bs p f k).map (od S))) ?_ ?_
          · rintro _ rfl _ rfl
            exact hr
          · intro k1 h1k
            simp (disch := omega) only [jn, zcmp, zari, z00, zm1, le_n, lt_n, eq_n, n_add, n_mul, n_c, n_in, true_and, and_true, if_true, if_false, bi_0, bi_1, ite_true, ite_false, Bool.true_eq_false, Bool.false_eq_true]
            by_cases e2 : od S k = d
            · simp only [e2, if_true]
              exact h1k _ (by simp [p, e2])
            · simp only [e2, if_false]
              have pk : p k = true := by simp [p, e2]
              simp only [pk, if_true] at h1k
              cases e3 : bs p f k with
              | none =>
                rw [e3] at h1k
                simp only [Option.map_none, uI_n]
                simp (disch := omega) only [zcmp, zari, z00, zm1, le_n, lt_n, eq_n, n_add, n_mul, n_c, n_in, true_and, and_true, if_true, if_false, bi_0, bi_1, ite_true, ite_false, Bool.true_eq_false, Bool.false_eq_true]
                exact h1k _ rfl
              | some j =>
                have hj := bs_lt e3
                have h2 := hin j (by omega)
                rw [e3] at h1k
                simp only [Option.map_some, uI_s]
                simp (disch := omega) only [zcmp, zari, z00, zm1, le_n, lt_n, eq_n, n_add, n_mul, n_c, n_in, true_and, and_true, if_true, if_false, bi_0, bi_1, ite_true, ite_false, Bool.true_eq_false, Bool.false_eq_true, show ¬ od S j < 0 by omega]
                refine m_alk hM1 hW (by omega) (by omega) ?_
                refine m_alk hM1 hW (by omega) (by omega) ?_
                have q1 := alk_le hW d (od S k)
                have q2 := alk_le hW d (od S j)
                simp (disch := omega) only [zcmp, zari, z00, zm1, le_n, lt_n, eq_n, n_add, n_mul, n_c, n_in, true_and, and_true, if_true, if_false, bi_0, bi_1, ite_true, ite_false, Bool.true_eq_false, Bool.false_eq_true]
                by_cases e4 : alk S d (od S k) ≤ alk S d (od S j)
                · simp only [e4, if_true]
                  have : ¬ f j < f k := by show ¬ alk S d (od S j) < alk S d (od S k); omega
                  simp only [this, if_false] at h1k
                  exact h1k _ rfl
                · simp only [e4, if_false]
                  have : f j < f k := by show alk S d (od S j) < alk S d (od S k); omega
                  simp only [this, if_true] at h1k
                  exact h1k _ rfl
        · rintro r _ rfl
          dsimp only
          simp (disch := omega) only [zcmp, zari, z00, zm1, le_n, lt_n, eq_n, n_add, n_mul, n_c, n_in, true_and, and_true, if_true, if_false, bi_0, bi_1, ite_true, ite_false, Bool.true_eq_false, Bool.false_eq_true, h5, Nat.le_refl]
          exact hK _ _ _ hM1
theorem t_most (hC : RC S I L A B) (hM : RM S J E) (hW : wf S) {K : Int32 → Int32 → (Nat → Int32) → (Nat → Nat → Int32) → Prop} (hK : ∀ r J' E', RM S J' E' → K r r J' E') : wX9_most I L A B (fun r => wX10_most J E (fun r' J' E' => K r r' J' E')) := by
  obtain ⟨hF, hD, hX, hT, hP⟩ := hC
  have hn := hW.1
  have hle := nT_le hW
  have hM := RM_t hM 0
  have hin := hW.2.2.2.2.2.2.2.1
  unfold wX9_most wX10_most
  let p : Nat → Bool := fun k => nea S (se S) (od S k) 9
  let f : Nat → Nat := fun k => alk S (od S k) (od S k)
  have hf : ∀ j, f j < 2 ^ 31 := fun j => by have := alk_le hW (od S j) (od S j); show alk S (od S j) (od S j) < 2 ^ 31; omega
  refine c_hits hD hX hP hW (fun m hm => ?_)
  refine lfix_for (nT S) (fun k (y : Option Nat) => (nI k, bv f y, uI (y.map (od S)))) (fun k y => y = bs p f k) 0 none (Nat.zero_le _) rfl ?_ ?_
  · rintro r k _ hk rfl hr
    have h1 := hin k hk
    have hr := hr _ rfl
    rw [bs] at hr
    dsimp only
    simp (disch := omega) only [zcmp, zari, z00, zm1, le_n, lt_n, eq_n, n_add, n_mul, n_c, n_in, true_and, and_true, if_true, if_false, bi_0, bi_1, ite_true, ite_false, Bool.true_eq_false, Bool.false_eq_true, hD.2.2.1, show ¬ nT S ≤ k by omega, hD.2.2.2.1 k hk]
    rintro _ rfl
    simp (disch := omega) only [bs_in m (show od S k < 64 by omega), hm (od S k) (by omega), zcmp, zari, z00, zm1, le_n, lt_n, eq_n, n_add, n_mul, n_c, n_in, true_and, and_true, if_true, if_false, bi_0, bi_1, ite_true, ite_false, Bool.true_eq_false, Bool.false_eq_true]
    cases e2 : nea S (se S) (od S k) 9 with
    | false =>
      simp only [if_true]
      rintro _ rfl
      simp only [p, e2, Bool.false_eq_true, if_false] at hr
      exact hr
    | true =>
      simp only [Bool.true_eq_false, if_false, bs_bit]
      have pk : p k = true := e2
      rw [if_pos pk] at hr
      refine c_alk1 hF hW (by omega) ?_
      cases e3 : bs p f k with
      | none =>
        rw [e3] at hr
        refine ite_n (show ¬ nI (f k) ≤ -1 by rw [le_i, nI_toInt (hf k), toInt_m1]; omega) ?_
        rintro _ rfl
        exact hr
      | some j =>
        rw [e3] at hr
        by_cases e4 : f k ≤ f j
        · refine ite_p (show nI (f k) ≤ nI (f j) from nI_le e4 (hf j)) ?_
          simp only [show ¬ f j < f k by omega, if_false] at hr
          rintro _ rfl
          exact hr
        · refine ite_n (show ¬ nI (f k) ≤ nI (f j) from nI_ge (by omega) (hf k)) ?_
          simp only [show f j < f k by omega, if_true] at hr
          rintro _ rfl
          exact hr
  · rintro r _ rfl
    dsimp only
    simp (disch := omega) only [zcmp, zari, z00, zm1, le_n, lt_n, eq_n, n_add, n_mul, n_c, n_in, true_and, and_true, if_true, if_false, bi_0, bi_1, ite_true, ite_false, Bool.true_eq_false, Bool.false_eq_true, hD.2.2.1, Nat.le_refl]
    rintro _ rfl
    refine m_orders hM hW (fun J1 E1 hM1 h5 h11 _ => ?_)
    refine lfix_for (nT S) (fun k (y : Option Nat) => (nI k, uI (y.map (od S)))) (fun k y => y = bs p f k) 0 none (Nat.zero_le _) rfl ?_ ?_
    · rintro r k _ hk rfl hr
      have h1 := hin k hk
      have hr := hr _ rfl
      rw [bs] at hr
      dsimp only
      simp (disch := omega) only [zcmp, zari, z00, zm1, le_n, lt_n, eq_n, n_add, n_mul, n_c, n_in, true_and, and_true, if_true, if_false, bi_0, bi_1, ite_true, ite_false, Bool.true_eq_false, Bool.false_eq_true, h5, show ¬ nT S ≤ k by omega, h11 k hk]
      rintro _ rfl
      rw [← enc_9]
      refine m_near0 hM1 hW (by omega) _ ?_
      refine jn_have (fun t => t = uI ((if p k then (match bs p f k with
        | none => some k
        | some j => if f j < f k then some k else some j) else bs p f k).map (od S))) ?_ ?_
      · rintro _ rfl _ rfl
        exact hr
      · intro k1 h1k
        simp (disch := omega) only [jn, zcmp, zari, z00, zm1, le_n, lt_n, eq_n, n_add, n_mul, n_c, n_in, true_and, and_true, if_true, if_false, bi_0, bi_1, ite_true, ite_false, Bool.true_eq_false, Bool.false_eq_true]
        cases e2 : nea S (se S) (od S k) 9 with
        | false =>
          simp only [if_true]
          exact h1k _ (by simp [p, e2])
        | true =>
          simp only [Bool.true_eq_false, if_false]
          have pk : p k = true := e2
          simp only [pk, if_true] at h1k
          cases e3 : bs p f k with
          | none =>
            rw [e3] at h1k
            simp only [Option.map_none, uI_n]
            simp (disch := omega) only [zcmp, zari, z00, zm1, le_n, lt_n, eq_n, n_add, n_mul, n_c, n_in, true_and, and_true, if_true, if_false, bi_0, bi_1, ite_true, ite_false, Bool.true_eq_false, Bool.false_eq_true]
            exact h1k _ rfl
          | some j =>
            have hj := bs_lt e3
            have h2 := hin j (by omega)
            rw [e3] at h1k
            simp only [Option.map_some, uI_s]
            simp (disch := omega) only [zcmp, zari, z00, zm1, le_n, lt_n, eq_n, n_add, n_mul, n_c, n_in, true_and, and_true, if_true, if_false, bi_0, bi_1, ite_true, ite_false, Bool.true_eq_false, Bool.false_eq_true, show ¬ od S j < 0 by omega]
            refine m_alk hM1 hW (by omega) (by omega) ?_
            refine m_alk hM1 hW (by omega) (by omega) ?_
            have q1 := alk_le hW (od S k) (od S k)
            have q2 := alk_le hW (od S j) (od S j)
            simp (disch := omega) only [zcmp, zari, z00, zm1, le_n, lt_n, eq_n, n_add, n_mul, n_c, n_in, true_and, and_true, if_true, if_false, bi_0, bi_1, ite_true, ite_false, Bool.true_eq_false, Bool.false_eq_true]
            by_cases e4 : alk S (od S k) (od S k) ≤ alk S (od S j) (od S j)
            · simp only [e4, if_true]
              have : ¬ f j < f k := by show ¬ alk S (od S j) (od S j) < alk S (od S k) (od S k); omega
              simp only [this, if_false] at h1k
              exact h1k _ rfl
            · simp only [e4, if_false]
              have : f j < f k := by show alk S (od S j) (od S j) < alk S (od S k) (od S k); omega
              simp only [this, if_true] at h1k
              exact h1k _ rfl
    · rintro r _ rfl
      dsimp only
      simp (disch := omega) only [zcmp, zari, z00, zm1, le_n, lt_n, eq_n, n_add, n_mul, n_c, n_in, true_and, and_true, if_true, if_false, bi_0, bi_1, ite_true, ite_false, Bool.true_eq_false, Bool.false_eq_true, h5, Nat.le_refl]
      exact hK _ _ _ hM1
end
-- bits of an int
def pb (p : Nat → Bool) : Nat → Int32
  | 0 => 0
  | k + 1 => if p k then pb p k ||| (1 <<< (nI k &&& 31)) else pb p k
theorem pb_cong {p q : Nat → Bool} {n : Nat} (h : ∀ k, k < n → p k = q k) : pb p n = pb q n := by
  induction n with
  | zero => rfl
  | succ n ih => rw [pb, pb, ih (fun k hk => h k (by omega)), h n (by omega)]
theorem pb_more {p : Nat → Bool} {n : Nat} (h : ∀ k, n ≤ k → p k = false) : ∀ m, n ≤ m → pb p m = pb p n := by
  intro m hm
  obtain ⟨j, rfl⟩ : ∃ j, m = n + j := ⟨m - n, by omega⟩
  induction j with
  | zero => rfl
  | succ j ih => rw [← Nat.add_assoc, pb, h (n + j) (by omega)]; simp only [Bool.false_eq_true, if_false]; exact ih (by omega)
theorem pb_5 (p : Nat → Bool) : ∃ n, n < 32 ∧ pb p 5 = nI n ∧ fb_ct n.testBit 5 = fb_ct p 5 := by
  simp only [pb, fb_ct]
  generalize p 0 = b0
  generalize p 1 = b1
  generalize p 2 = b2
  generalize p 3 = b3
  generalize p 4 = b4
  refine ⟨(if b0 then 1 else 0) + (if b1 then 2 else 0) + (if b2 then 4 else 0) + (if b3 then 8 else 0) + (if b4 then 16 else 0), ?_⟩
  cases b0 <;> cases b1 <;> cases b2 <;> cases b3 <;> cases b4 <;> decide
theorem pb_n {p : Nat → Bool} {n : Nat} (hn : n ≤ 5) : ∃ m, m < 32 ∧ pb p n = nI m ∧ fb_ct m.testBit 5 = fb_ct p n := by
  obtain ⟨m, h1, h2, h3⟩ := pb_5 (fun k => decide (k < n) && p k)
  have c : ∀ k, k < n → (decide (k < n) && p k) = p k := fun k hk => by simp [hk]
  have o : ∀ k, n ≤ k → (decide (k < n) && p k) = false := fun k hk => by simp; omega
  refine ⟨m, h1, ?_, ?_⟩
  · rw [← h2, pb_more o 5 hn]; exact pb_cong (fun k hk => (c k hk).symm)
  · rw [h3, ct_cut o hn]; exact fb_ct_cong c
section
variable {S : SS} {J : Nat → Int32} {E : Nat → Nat → Int32} {I : Nat → Int32} {L : Nat → Int64} {A : Nat → Nat → Int32} {B : Nat → Nat → Int64}
theorem c_passedBy (hX : RX S I L A) (hP : RP S B) (hW : wf S) {d : Nat} (hd : d < 64) (ht : th S d = true) {post : Int32 → Prop} (h : post (pb (fun a => pas S (se S) d a) (nA S))) : wX7_passedBy I L A B (nI d) post := by
  have hn := hW.1
  unfold wX7_passedBy
  refine lfix_for (nA S) (fun k (y : Int32) => (nI k, y)) (fun k y => y = pb (fun a => pas S (se S) d a) k) 0 _ (Nat.zero_le _) rfl ?_ ?_
  · rintro r k _ hk rfl hr
    have hr := hr _ rfl
    rw [pb] at hr
    dsimp only
    simp (disch := omega) only [zcmp, zari, z00, zm1, le_n, lt_n, eq_n, n_add, n_mul, n_c, n_in, true_and, and_true, if_true, if_false, bi_0, bi_1, ite_true, ite_false, Bool.true_eq_false, Bool.false_eq_true, hX.1, show ¬ nA S ≤ k by omega, bs_in _ hd, hP k hk d hd, ht, Bool.true_and]
    cases e : pas S (se S) d k with
    | false =>
      simp only [e, Bool.false_eq_true, if_false] at hr
      simp only [if_true]
      rintro _ rfl
      exact hr
    | true =>
      simp only [e, if_true] at hr
      simp only [Bool.true_eq_false, if_false]
      rintro _ rfl _ rfl
      exact hr
  · rintro r _ rfl
    dsimp only
    simp (disch := omega) only [zcmp, zari, z00, zm1, le_n, lt_n, eq_n, n_add, n_mul, n_c, n_in, true_and, and_true, if_true, if_false, bi_0, bi_1, ite_true, ite_false, Bool.true_eq_false, Bool.false_eq_true, hX.1, Nat.le_refl]
    exact h
theorem or0 (x : Int32) : x ||| 0 = x := by simp
theorem m_passedBy (hM : RM S J E) (hW : wf S) {d : Nat} (hd : d < 40) {post : Int32 → Prop} (h : post (pb (fun a => pas S (se S) d a) (nA S))) : wX10_passedBy J E (nI d) post := by
  have hn := hW.1
  have hw := hW.2.2.2.2.2.2.2.2.2.2.1
  unfold wX10_passedBy
  refine lfix_for (nA S) (fun k (y : Int32) => (nI k, y)) (fun k y => y = pb (fun a => pas S (se S) d a) k) 0 _ (Nat.zero_le _) rfl ?_ ?_
  · rintro r k _ hk rfl hr
    have hr := hr _ rfl
    rw [pb] at hr
    dsimp only
    simp (disch := omega) only [zcmp, zari, z00, zm1, le_n, lt_n, eq_n, n_add, n_mul, n_c, n_in, true_and, and_true, if_true, if_false, bi_0, bi_1, ite_true, ite_false, Bool.true_eq_false, Bool.false_eq_true, hM.1.1, show ¬ nA S ≤ k by omega]
    refine m_passes (b := 0) hM hW hM.2.2.2.2.2.2.2.2.2.2.1 hw.2.2.2 (by omega) hd hk ?_
    simp (disch := omega) only [jn, zcmp, zari, z00, zm1, le_n, lt_n, eq_n, n_add, n_mul, n_c, n_in, true_and, and_true, if_true, if_false, bi_0, bi_1, ite_true, ite_false, Bool.true_eq_false, Bool.false_eq_true]
    cases e : pas S (se S) d k with
    | false =>
      simp only [e, Bool.false_eq_true, if_false] at hr
      simp only [if_true, or0]
      rintro _ rfl _ rfl
      exact hr
    | true =>
      simp only [e, if_true] at hr
      simp only [Bool.true_eq_false, if_false]
      rintro _ rfl _ rfl
      exact hr
  · rintro r _ rfl
    dsimp only
    simp (disch := omega) only [zcmp, zari, z00, zm1, le_n, lt_n, eq_n, n_add, n_mul, n_c, n_in, true_and, and_true, if_true, if_false, bi_0, bi_1, ite_true, ite_false, Bool.true_eq_false, Bool.false_eq_true, hM.1.1, Nat.le_refl]
    exact h
end
