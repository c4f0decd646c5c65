theorem sh2 : ∀ k, k < 13 → (1 : Int32) <<< (nI k &&& 31) = nI (2 ^ k) := by
  have h : ∀ k : Fin 13, (1 : Int32) <<< (nI k.val &&& 31) = nI (2 ^ k.val) := by decide +kernel
  exact fun k hk => h ⟨k, hk⟩
theorem p12 {n : Nat} (h : n ≤ 12) : 2 ^ n ≤ 4096 := Nat.pow_le_pow_right (n := 2) (by omega) h
def snr (m b : Nat) : Bool := decide (mo m < mo b) || (mo m == mo b && isf m b)
theorem snr_tr {m b c : Nat} (h1 : snr m b = true) (h2 : snr b c = true) : snr m c = true := by
  simp only [snr, Bool.or_eq_true, Bool.and_eq_true, decide_eq_true_eq, beq_iff_eq] at *
  rcases h1 with h1 | h1
  · rcases h2 with h2 | h2
    · exact Or.inl (by omega)
    · exact Or.inl (by omega)
  · rcases h2 with h2 | h2
    · exact Or.inl (by omega)
    · exact Or.inr ⟨by omega, isf_iff.mpr (fsT_tr (isf_iff.mp h1.2) (isf_iff.mp h2.2))⟩
theorem snr_tot {m b : Nat} (hm : m < 4096) (hb : b < 4096) (h : snr m b = false) (hne : m ≠ b) : snr b m = true := by
  cases e : snr b m with
  | true => rfl
  | false =>
    simp only [snr, Bool.or_eq_false_iff, decide_eq_false_iff_not] at h e
    have e0 : mo m = mo b := by omega
    rw [e0, beq_self_eq_true, Bool.true_and] at h e
    have h1 : ¬ fsT 12 m.testBit b.testBit := fun q => by rw [isf_iff.mpr q] at h; cases h.2
    have h2 : ¬ fsT 12 b.testBit m.testBit := fun q => by rw [isf_iff.mpr q] at e; cases e.2
    refine absurd (fsT_tot h1 (fun q => hne (Nat.eq_of_testBit_eq (fun i => ?_)))) h2
    by_cases c : i < 12
    · exact q i c
    · have p : 4096 ≤ 2 ^ i := by
        have := Nat.pow_le_pow_right (n := 2) (by omega) (show 12 ≤ i by omega)
        omega
      rw [Nat.testBit_lt_two_pow (Nat.lt_of_lt_of_le hm p), Nat.testBit_lt_two_pow (Nat.lt_of_lt_of_le hb p)]
section
variable {S : SS} {J : Nat → Int32} {E : Nat → Nat → Int32} {I : Nat → Int32} {L : Nat → Int64} {A : Nat → Nat → Int32} {B : Nat → Nat → Int64}
/-- the best among the first ones -/
def bst (cv : Nat → Bool) (m : Nat) (y : Option Nat) : Prop := match y with
  | none => ∀ t, t < m → cv t = false
  | some b => b < m ∧ cv b = true ∧ ∀ t, t < m → cv t = true → t ≠ b → snr b t = true
theorem m_bestCover (hM : RM S J E) (hW : wf S) {a n : Nat} (ha : a < nA S) (hn : n = cvn S a) (hn12 : n ≤ 12) (he : ∀ k, k < n → E 15 k = nI (cvk S a k)) {post : Int32 → Prop} (h : ∀ y, bst (cvd S a n) (2 ^ n) y → post (uI y)) : wX10_bestCover J E (nI a) (nI n) post := by
  have hp := p12 hn12
  have hmo : ∀ m, mo m ≤ 12 := fun m => fb_ct_le _ _
  unfold wX10_bestCover
  rw [sh2 n (by omega)]
  refine lfix_for (2 ^ n) (fun m (y : Option Nat) => (nI m, uI y)) (fun m y => bst (cvd S a n) m y) 0 none (Nat.zero_le _) (fun t ht => absurd ht (Nat.not_lt_zero t)) ?_ ?_
  · intro r m y hm hy hr
    dsimp only
    simp (disch := omega) only [zcmp, zari, z00, zm1, le_n, lt_n, eq_n, n_add, n_mul, n_c, n_in, true_and, and_true, if_true, if_false, bi_0, bi_1, ite_true, ite_false, Bool.true_eq_false, Bool.false_eq_true, show ¬ 2 ^ n ≤ m by omega]
    have skip : (∀ b, y = some b → cvd S a n m = true → snr b m = true) → (y = none → cvd S a n m = false) → r (nI (m + 1), uI y) := fun q1 q2 => by
      refine hr y ?_
      cases y with
      | none =>
        intro t ht
        by_cases e : t = m
        · rw [e]; exact q2 rfl
        · exact hy t (by omega)
      | some b =>
        refine ⟨by have := hy.1; omega, hy.2.1, fun t ht h1 h2 => ?_⟩
        by_cases e : t = m
        · rw [e] at h1 ⊢; exact q1 b rfl h1
        · exact hy.2.2 t (by omega) h1 h2
    refine jn_have (fun t => ∃ u, t = bi u ∧ (u = true → ∀ b, y = some b → snr m b = true) ∧ (u = false → ∃ b, y = some b ∧ snr b m = true)) ?_ ?_
    · rintro _ ⟨u, rfl, u1, u2⟩
      simp (disch := omega) only [zcmp, zari, z00, zm1, le_n, lt_n, eq_n, n_add, n_mul, n_c, n_in, true_and, and_true, if_true, if_false, bi_0, bi_1, ite_true, ite_false, Bool.true_eq_false, Bool.false_eq_true]
      cases u with
      | false =>
        simp only [if_true]
        rintro _ rfl
        obtain ⟨b, q1, q2⟩ := u2 rfl
        exact skip (fun b' q3 _ => by rw [q1] at q3; cases q3; exact q2) (fun q3 => by rw [q1] at q3; cases q3)
      | true =>
        simp only [Bool.true_eq_false, if_false]
        refine m_isCovered hM hW ha hn hn12 he (by omega) ?_
        simp (disch := omega) only [zcmp, zari, z00, zm1, le_n, lt_n, eq_n, n_add, n_mul, n_c, n_in, true_and, and_true, if_true, if_false, bi_0, bi_1, ite_true, ite_false, Bool.true_eq_false, Bool.false_eq_true]
        cases e : cvd S a n m with
        | false =>
          simp only [if_true]
          rintro _ rfl
          exact skip (fun b' _ q => by rw [e] at q; cases q) (fun _ => e)
        | true =>
          simp only [Bool.true_eq_false, if_false]
          rintro _ rfl
          refine hr (some m) ⟨by omega, e, fun t ht h1 h2 => ?_⟩
          cases y with
          | none => have := hy t (by omega); rw [this] at h1; cases h1
          | some b =>
            have q := u1 rfl b rfl
            by_cases e2 : t = b
            · rw [e2]; exact q
            · exact snr_tr q (hy.2.2 t (by omega) h1 e2)
    · intro k hk
      simp only [jn]
      cases y with
      | none =>
        refine ite_p (show uI none < 0 by decide) ?_
        exact hk _ ⟨true, rfl, fun _ b q => (nomatch q), fun q => (nomatch q)⟩
      | some b =>
        have hb := hy.1
        refine ite_n (show ¬ nI b < 0 from nI_pos (by omega)) ?_
        have hmm := hmo m
        have hmb := hmo b
        have no : snr m b = false → k 0 := fun q => hk _ ⟨false, rfl, fun q2 => (nomatch q2), fun _ => ⟨b, rfl, snr_tot (by omega) (by omega) q (by omega)⟩⟩
        have yes : snr m b = true → k 1 := fun q => hk _ ⟨true, rfl, fun _ b' q2 => (by cases q2; exact q), fun q2 => (nomatch q2)⟩
        refine m_manyOf (by omega) ?_
        refine m_manyOf (m := b) (by omega) ?_
        simp (disch := omega) only [zcmp, zari, z00, zm1, le_n, lt_n, eq_n, n_add, n_mul, n_c, n_in, true_and, and_true, if_true, if_false, bi_0, bi_1, ite_true, ite_false, Bool.true_eq_false, Bool.false_eq_true]
        by_cases c1 : mo m < mo b
        · simp only [c1, if_true]; exact yes (by simp [snr, c1])
        · simp only [c1, if_false]
          refine m_manyOf (by omega) ?_
          refine m_manyOf (m := b) (by omega) ?_
          simp (disch := omega) only [zcmp, zari, z00, zm1, le_n, lt_n, eq_n, n_add, n_mul, n_c, n_in, true_and, and_true, if_true, if_false, bi_0, bi_1, ite_true, ite_false, Bool.true_eq_false, Bool.false_eq_true]
          by_cases c2 : mo m = mo b
          · simp only [c2, if_true]
            rw [show uI (some b) = nI b from rfl, m_isFirst (by omega) (by omega)]
            simp (disch := omega) only [zcmp, zari, z00, zm1, le_n, lt_n, eq_n, n_add, n_mul, n_c, n_in, true_and, and_true, if_true, if_false, bi_0, bi_1, ite_true, ite_false, Bool.true_eq_false, Bool.false_eq_true]
            cases c3 : isf m b with
            | false => simp only [if_true]; exact no (by simp [snr, c2, c3])
            | true => simp only [Bool.true_eq_false, if_false]; exact yes (by simp [snr, c2, c3])
          · simp only [c2, if_false]
            exact no (by simp [snr, c1, c2])
  · intro r y hy
    dsimp only
    rw [if_pos (Int32.le_refl _)]
    exact h y hy
theorem cok_cvd (hW : wf S) {a n m : Nat} (hn12 : n ≤ 12) (hm : m < 2 ^ n) : cvd S a n m = true ↔ cok (fun k d => has S d (cvk S a k)) n 0 (mo m) (cnd S a) m.testBit := by
  have hn := hW.1
  have big : ∀ i, n ≤ i → m.testBit i = false := fun i hi => Nat.testBit_lt_two_pow (Nat.lt_of_lt_of_le hm (Nat.pow_le_pow_right (n := 2) (by omega) hi))
  unfold cvd
  rw [alb_iff]
  constructor
  · intro h
    refine ⟨fun i hi => ⟨Nat.zero_le _, ?_⟩, (ct_cut big hn12).symm, fun d hd hp => ?_⟩
    · rcases Nat.lt_or_ge i n with q | q
      · exact q
      · rw [big i q] at hi; cases hi
    · have hd2 : d < nD S := by
        rcases Nat.lt_or_ge d (nD S) with q | q
        · exact q
        · simp [cnd, nea_out hW _ _ d q] at hp
      have := h d hd2
      rw [hp, Bool.not_true, Bool.false_or, exb_iff] at this
      obtain ⟨k, k1, k2⟩ := this
      rw [Bool.and_eq_true] at k2
      exact ⟨k, k1, k2.1, k2.2⟩
  · intro h d hd
    cases e : cnd S a d with
    | false => rfl
    | true =>
      obtain ⟨k, k1, k2, k3⟩ := h.2.2 d (by omega) e
      simp only [Bool.not_true, Bool.false_or]
      exact exb_iff.mpr ⟨k, k1, by rw [k2, Bool.true_and]; exact k3⟩
/-- both find the same -/
theorem best_same (hW : wf S) {a n c : Nat} {T : Nat → Bool} {y : Option Nat} (hn12 : n ≤ 12) (hT : minT (fun k d => has S d (cvk S a k)) n 0 c (cnd S a) T) (hno : ∀ c' T', c' < c → ¬ cok (fun k d => has S d (cvk S a k)) n 0 c' (cnd S a) T') (hy : bst (cvd S a n) (2 ^ n) y) : ∃ b, y = some b ∧ b < 2 ^ n ∧ mo b = c ∧ ∀ i, b.testBit i = T i := by
  have hp := p12 hn12
  obtain ⟨m, h1, h2⟩ := bits_of T n
  have h3 : ∀ i, m.testBit i = T i := fun i => by
    rcases Nat.lt_or_ge i n with q | q
    · exact h2 i q
    · rw [Nat.testBit_lt_two_pow (Nat.lt_of_lt_of_le h1 (Nat.pow_le_pow_right (n := 2) (by omega) q))]
      cases e : T i with
      | false => rfl
      | true => have := (hT.1.1 i e).2; omega
  have h4 : m.testBit = T := funext h3
  have hmo : mo m = c := by
    unfold mo
    rw [h4, ct_cut (n := n) (fun i hi => ?_) hn12, hT.1.2.1]
    cases e : T i with
    | false => rfl
    | true => have := (hT.1.1 i e).2; omega
  have hcv : cvd S a n m = true := by rw [cok_cvd hW hn12 h1, hmo, h4]; exact hT.1
  cases y with
  | none => have := hy m h1; rw [hcv] at this; cases this
  | some b =>
    obtain ⟨b1, b2, b3⟩ := hy
    by_cases e : m = b
    · rw [← e]; exact ⟨m, rfl, h1, hmo, h3⟩
    · have q := b3 m h1 hcv e
      have cb := (cok_cvd hW hn12 b1).mp b2
      simp only [snr, Bool.or_eq_true, Bool.and_eq_true, decide_eq_true_eq, beq_iff_eq] at q
      rcases q with q | ⟨q1, q2⟩
      · exact absurd cb (hno _ _ (by omega))
      · rw [q1, hmo] at cb
        rcases hT.2 _ cb with q3 | ⟨j, j1, j2, j3, j4⟩
        · exact absurd (Nat.eq_of_testBit_eq (fun i => by rw [h3 i, q3 i])) e
        · have f1 : fsT 12 m.testBit b.testBit := ⟨j, by omega, by rw [h4]; exact j2, j3, fun i hi => by rw [h4]; exact j4 i hi⟩
          obtain ⟨i, _, i2, i3, _⟩ := fsT_tr f1 (isf_iff.mp q2)
          rw [i2] at i3; cases i3
theorem t_cover (hC : RC S I L A B) (hM : RM S J E) (hW : wf S) (x y : Int32) {K : Int32 → Int32 → (Nat → Int32) → (Nat → Nat → Int32) → (Nat → Nat → Int64) → (Nat → Int32) → (Nat → Nat → Int32) → Prop} (hK : ∀ r I' A' B' J' E', RC S I' L A' B' → RM S J' E' → K r r I' A' B' J' E') : wX9_cover I L A B x y (fun r I' A' B' => wX10_cover J E x y (fun r' J' E' => K r r' I' A' B' J' E')) := by
  have hC0 := hC
  obtain ⟨hF, hD, hX, hT, hP⟩ := hC
  have hn := hW.1
  have hM := RM_t hM 0
  unfold wX9_cover
  have m13 : ¬ ((13 : Int32) < 12) := by decide
  have m13' : (12 : Int32) < 13 := by decide
  rcases ix x (n := nA S) (by omega) with h | ⟨a, ha, rfl⟩
  · rw [c_isTree_o hX h]
    simp only [z00, if_true]
    unfold wX10_cover
    rintro _ rfl
    rw [m_isTree_o hM h]
    simp only [jn, z00, if_true, m13']
    exact hK _ _ _ _ _ _ hC0 hM
  · have ht5 : ∀ {post : Int32 → Prop}, wX10_isTree (va_up J 0 0) E (nI a) post = post (bi (!(kd S a == 2))) := m_isTree hM hW ha _
    rw [c_isTree hX hW ha]
    cases e2 : (kd S a == 2) with
    | true =>
      simp only [Bool.not_true, bi_f, z00, if_true]
      unfold wX10_cover
      rintro _ rfl
      rw [ht5, e2]
      simp only [Bool.not_true, bi_f, jn, z00, if_true, m13']
      exact hK _ _ _ _ _ _ hC0 hM
    | false =>
      simp only [Bool.not_false, bi_t, z00, if_false]
      have hmod : ∀ {K2 : Int32 → (Nat → Int32) → (Nat → Nat → Int32) → Prop}, (∀ E', RM S (va_up J 0 0) E' → (∀ k, k < cvn S a → E' 15 k = nI (cvk S a k)) → jn (fun (t_1 : Int32) => if t_1 < 0 then (K2 (-1) (va_up J 0 0) E') else (wX10_manyOf t_1 (fun r55 => if y < r55 then (if y = (-1) then (wX10_manyOf t_1 (fun r70 => K2 r70 (va_up J 0 0) E')) else (∃ n, lfix (fun (r : (Int32 × Int32) → Prop) (v6, v5) => if nI (cvn S a) ≤ v6 then (K2 (-1) (va_up J 0 0) E') else (if ((t_1 >>> (v6 &&& 31)) &&& 1) = 1 then (if v5 = y then (vp_in v6 40 ∧ (K2 (E' 15 v6.toNatClampNeg) (va_up J 0 0) E')) else (∀ v5_1 : Int32, v5_1 = v5 + 1 → ∀ v6_2 : Int32, v6_2 = v6 + 1 → r (v6_2, v5_1))) else (∀ v6_1 : Int32, v6_1 = v6 + 1 → r (v6_1, v5)))) n (0, 0))) else (K2 (-1) (va_up J 0 0) E')))) (fun k_1 => jn (fun (_ : Unit) => k_1 (-1)) (fun k_2 => if 12 < nI (cvn S a) then (k_2 ()) else (if (-1) ≤ y then (wX10_bestCover (va_up J 0 0) E' (nI a) (nI (cvn S a)) (fun r42 => k_1 r42)) else (k_2 ()))))) → wX10_cover J E (nI a) y (fun r' J' E' => K2 r' J' E') := by
        intro K2 h2
        unfold wX10_cover
        rintro _ rfl
        rw [ht5, e2]
        simp only [jn] at h2
        simp only [Bool.not_false, bi_t, z00, if_false, jn]
        exact m_coverers hM hW ha (fun E1 hM1 q => h2 E1 hM1 q)
      have lo1 : (-1 : Int32) < 0 := by decide
      have hcn : cvn S a ≤ 40 := Nat.le_trans (fb_ct_le _ _) (by omega)
      by_cases h0 : y < -1
      · simp only [h0, if_true]
        refine hmod (fun E1 hM1 _ => ?_)
        have : ¬ (-1 : Int32) ≤ y := by rw [le_i]; rw [lt_i] at h0; exact Int.not_le.mpr h0
        simp only [jn, this, if_false, lo1, if_true, ite_self]
        exact hK _ _ _ _ _ _ hC0 hM1
      · simp only [h0, if_false]
        have h0' : (-1 : Int32) ≤ y := by rw [le_i]; rw [lt_i] at h0; exact Int.not_lt.mp h0
        have keep : ∀ {I2 : Nat → Int32} {A2 : Nat → Nat → Int32} {B2 : Nat → Nat → Int64}, (∀ j, j ≠ 6 → I2 j = I j) → (∀ j, j ≠ 50 → j ≠ 53 → A2 j = A j) → (∀ j, j ≠ 51 → j ≠ 52 → B2 j = B j) → RC S I2 L A2 B2 := fun {I2 A2 B2} k1 k2 k3 => keepC.RC (I := I) (L := L) (A := A) (B := B) ⟨fun k hk => k1 k (fun e => hk (by rw [e]; exact Or.inr (Or.inl rfl))), fun _ _ => rfl, fun k hk => k2 k (fun e => hk (by rw [e]; exact Or.inr (Or.inr (Or.inr (Or.inl rfl))))) (fun e => hk (by rw [e]; exact Or.inr (Or.inr (Or.inr (Or.inr (Or.inl rfl)))))), k3⟩ hW hC0
        refine c_fillCov hF hW ha (fun I' A' B' n12 i6 a50 b51 k1 k2 k3 => ?_) (fun I' A' B' n12 k1 k2 k3 => ?_)
        · rw [if_neg (by decide)]
          have hC2 : RC S I' L A' B' := keep k1 (fun j j1 _ => k2 j j1) (fun j j1 _ => k3 j j1)
          obtain ⟨hF2, hD2, hX2, hT2, hP2⟩ := hC2
          refine c_hits hD2 hX2 hP2 hW (fun m1 hm1 => ?_)
          refine c_absentOn hF2 hD2 hX2 hW ha (fun m2 hm2 => ?_)
          have hbm : bm (m1 &&& (m2 ^^^ (-1))) (cnd S a) := bm_to (bm_and hm1 (bm_not hm2)) (fun i hi => by
            unfold cnd
            cases q : nea S (se S) i 9 with
            | false => simp
            | true =>
              have : th S i = true := by unfold nea at q; rw [Bool.and_eq_true] at q; exact q.1
              rw [this]; simp)
          have n12n : ¬ (12 : Int32) < nI (cvn S a) := by simp (disch := omega) only [zcmp, zari, z00, zm1, le_n, lt_n, eq_n, n_add, n_mul, n_c, n_in, true_and, and_true, if_true, if_false, bi_0, bi_1, ite_true, ite_false, Bool.true_eq_false, Bool.false_eq_true]; omega
          refine c_solve (h := fun k d => has S d (cvk S a k)) (num := cvk S a) n12 i6 b51 hbm a50 (fun A2 B2 T c q1 q2 q3 q4 q5 q6 => ?_) (fun A2 B2 q1 q2 q3 => ?_)
          · have kp : RC S I' L A2 B2 := keep k1 (fun j j1 j2 => by rw [q1 j j2, k2 j j1]) (fun j j1 j2 => by rw [q2 j j2, k3 j j1])
            have fin : ∀ {K2 : Int32 → (Nat → Int32) → (Nat → Nat → Int32) → Prop}, (∀ J' E', RM S J' E' → (y = -1 → K2 (nI c) J' E') ∧ (∀ i, y = nI i → c ≤ i → i < 2 ^ 31 → K2 (-1) J' E') ∧ (∀ i, y = nI i → i < c → K2 (A2 53 i) J' E')) → wX10_cover J E (nI a) y (fun r' J' E' => K2 r' J' E') := by
              intro K2 hK2
              refine hmod (fun E1 hM1 e15 => ?_)
              obtain ⟨f1, f2, f3⟩ := hK2 _ _ hM1
              refine jn_have (fun t => ∃ b, t = nI b ∧ b < 2 ^ cvn S a ∧ mo b = c ∧ ∀ i, b.testBit i = T i) ?_ ?_
              · rintro _ ⟨b, rfl, b1, b2, b3⟩
                have hp := p12 n12
                refine ite_n (show ¬ nI b < 0 from nI_pos (by omega)) ?_
                refine m_manyOf (by omega) ?_
                rw [b2]
                by_cases ey : y = -1
                · rw [if_pos (by rw [ey, lt_i, nI_toInt (by omega), toInt_m1]; omega), if_pos ey]
                  refine m_manyOf (by omega) ?_
                  rw [b2]
                  exact f1 ey
                · have hy0 : ¬ y < 0 := by
                    intro q
                    rw [lt_i] at q
                    rw [le_i, toInt_m1] at h0'
                    rw [eq_i, toInt_m1] at ey
                    have : (0 : Int32).toInt = 0 := by decide
                    omega
                  obtain ⟨i, hi, rfl⟩ := nI_of hy0
                  simp (disch := omega) only [zcmp, zari, z00, zm1, le_n, lt_n, eq_n, n_add, n_mul, n_c, n_in, true_and, and_true, if_true, if_false, bi_0, bi_1, ite_true, ite_false, Bool.true_eq_false, Bool.false_eq_true]
                  by_cases ec : i < c
                  · simp only [ec, if_true, if_false]
                    refine lfix_for (cvn S a) (fun k (z : Int32) => (nI k, z)) (fun k z => z = nI (fb_ct T k) ∧ fb_ct T k ≤ i) 0 _ (Nat.zero_le _) ⟨rfl, Nat.zero_le _⟩ ?_ ?_
                    · rintro r k _ hk ⟨rfl, hk2⟩ hr
                      dsimp only
                      simp (disch := omega) only [zcmp, zari, z00, zm1, le_n, lt_n, eq_n, n_add, n_mul, n_c, n_in, true_and, and_true, if_true, if_false, bi_0, bi_1, ite_true, ite_false, Bool.true_eq_false, Bool.false_eq_true, show ¬ cvn S a ≤ k by omega]
                      rw [shr1 (by omega) (show k < 12 by omega), b3 k]
                      cases et : T k with
                      | false =>
                        refine ite_n (by decide) ?_
                        rintro _ rfl
                        have hr := hr _ ⟨rfl, by rw [fb_ct_succ, et]; exact hk2⟩
                        rw [fb_ct_succ, et] at hr
                        exact hr
                      | true =>
                        refine ite_p (by decide) ?_
                        have hfk := fb_ct_le T k
                        try simp (disch := omega) only [zcmp, zari, z00, zm1, le_n, lt_n, eq_n, n_add, n_mul, n_c, n_in, true_and, and_true, if_true, if_false, bi_0, bi_1, ite_true, ite_false, Bool.true_eq_false, Bool.false_eq_true]
                        by_cases ek : fb_ct T k = i
                        · simp only [ek, if_true]
                          have := f3 i rfl ec
                          rw [← ek, q6 k hk et] at this
                          rw [e15 k hk]
                          exact this
                        · simp only [ek, if_false]
                          rintro _ rfl _ rfl
                          have hr := hr _ ⟨rfl, by rw [fb_ct_succ, et]; simp only [if_true]; omega⟩
                          rw [fb_ct_succ, et] at hr
                          exact hr
                    · rintro r _ ⟨rfl, hk2⟩
                      have := q4.1.2.1
                      omega
                  · simp only [ec, if_false]
                    exact f2 i rfl (by omega) hi
              · intro k1 h1
                simp only [jn, n12n, if_false, h0', if_true]
                refine m_bestCover hM1 hW ha rfl n12 e15 (fun yy hyy => ?_)
                obtain ⟨b, b1, b2, b3, b4⟩ := best_same hW n12 q4 q5 hyy
                rw [b1]
                exact h1 _ ⟨b, rfl, b2, b3, b4⟩
            by_cases ey : y = -1
            · rw [if_pos ey]
              refine fin (fun J' E' hM' => ⟨fun _ => hK _ _ _ _ _ _ kp hM', fun i q _ hi => ?_, fun i q hi => ?_⟩)
              · rw [ey] at q; exact absurd q (by rw [zm1.2 i hi]; exact fun q => q)
              · rw [ey] at q; exact absurd q (by rw [zm1.2 i (by omega)]; exact fun q => q)
            · rw [if_neg ey]
              have hy0 : ¬ y < 0 := by
                intro q
                rw [lt_i] at q
                rw [le_i, toInt_m1] at h0'
                rw [eq_i, toInt_m1] at ey
                have : (0 : Int32).toInt = 0 := by decide
                omega
              obtain ⟨i, hi, rfl⟩ := nI_of hy0
              simp (disch := omega) only [zcmp, zari, z00, zm1, le_n, lt_n, eq_n, n_add, n_mul, n_c, n_in, true_and, and_true, if_true, if_false, bi_0, bi_1, ite_true, ite_false, Bool.true_eq_false, Bool.false_eq_true]
              by_cases ec : c ≤ i
              · simp only [ec, if_true]
                refine fin (fun J' E' hM' => ⟨fun q => absurd q ey, fun i' q _ _ => hK _ _ _ _ _ _ kp hM', fun i' q hi' => ?_⟩)
                rw [eq_n hi (by omega)] at q; omega
              · simp only [ec, if_false]
                try simp (disch := omega) only [zcmp, zari, z00, zm1, le_n, lt_n, eq_n, n_add, n_mul, n_c, n_in, true_and, and_true, if_true, if_false, bi_0, bi_1, ite_true, ite_false, Bool.true_eq_false, Bool.false_eq_true]
                refine fin (fun J' E' hM' => ⟨fun q => absurd q ey, fun i' q q2 q3 => ?_, fun i' q hi' => ?_⟩)
                · rw [eq_n hi q3] at q; omega
                · rw [eq_n hi (by omega)] at q; rw [← q]; exact hK _ _ _ _ _ _ kp hM'
          · have kp : RC S I' L A2 B2 := keep k1 (fun j j1 j2 => by rw [q1 j j2, k2 j j1]) (fun j j1 j2 => by rw [q2 j j2, k3 j j1])
            have fin : wX10_cover J E (nI a) y (fun r' J' E' => K (-1) r' I' A2 B2 J' E') := by
              refine hmod (fun E1 hM1 e15 => ?_)
              simp only [jn, n12n, if_false, h0', if_true]
              refine m_bestCover hM1 hW ha rfl n12 e15 (fun yy hyy => ?_)
              cases yy with
              | none => rw [uI_n, if_pos lo1]; exact hK _ _ _ _ _ _ kp hM1
              | some b =>
                have := (cok_cvd hW n12 hyy.1).mp hyy.2.1
                refine absurd this (q3 _ _ ?_)
                rw [← this.2.1]; exact fb_ct_le _ _
            by_cases ey : y = -1
            · rw [if_pos ey]; exact fin
            · rw [if_neg ey, if_pos h0']; exact fin
        · rw [if_pos rfl]
          refine hmod (fun E1 hM1 _ => ?_)
          have : (12 : Int32) < nI (cvn S a) := by simp (disch := omega) only [zcmp, zari, z00, zm1, le_n, lt_n, eq_n, n_add, n_mul, n_c, n_in, true_and, and_true, if_true, if_false, bi_0, bi_1, ite_true, ite_false, Bool.true_eq_false, Bool.false_eq_true]; omega
          simp only [jn, this, if_true, lo1]
          exact hK _ _ _ _ _ _ (keep k1 (fun j j1 _ => k2 j j1) (fun j j1 _ => k3 j j1)) hM1
end
