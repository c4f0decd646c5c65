-- bits of small sets
theorem nI_and (a b : Nat) : nI a &&& nI b = nI (a &&& b) := by
  apply Int32.toBitVec_inj.mp
  show BitVec.ofNat 32 a &&& BitVec.ofNat 32 b = BitVec.ofNat 32 (a &&& b)
  rw [BitVec.ofNat_and]
theorem nI_xor (a b : Nat) : nI a ^^^ nI b = nI (a ^^^ b) := by
  apply Int32.toBitVec_inj.mp
  show BitVec.ofNat 32 a ^^^ BitVec.ofNat 32 b = BitVec.ofNat 32 (a ^^^ b)
  rw [BitVec.ofNat_xor]
theorem sh12 : ∀ k, k < 12 → ((nI k &&& 31).toBitVec.smod 32).toNat = k := by
  have h : ∀ k : Fin 12, ((nI k.val &&& 31).toBitVec.smod 32).toNat = k.val := by decide +kernel
  exact fun k hk => h ⟨k, hk⟩
theorem shr1 {m k : Nat} (hm : m < 4096) (hk : k < 12) : (nI m >>> (nI k &&& 31)) &&& 1 = nI (if m.testBit k then 1 else 0) := by
  have e1 : nI m >>> (nI k &&& 31) = nI (m >>> k) := by
    apply Int32.toBitVec_inj.mp
    show (BitVec.ofNat 32 m).sshiftRight ((nI k &&& 31).toBitVec.smod 32).toNat = BitVec.ofNat 32 (m >>> k)
    rw [sh12 k hk, BitVec.sshiftRight_eq_of_msb_false]
    · apply BitVec.eq_of_toNat_eq
      have : m >>> k ≤ m := Nat.shiftRight_le m k
      rw [BitVec.toNat_ushiftRight, BitVec.toNat_ofNat, BitVec.toNat_ofNat, Nat.mod_eq_of_lt (show m < 2 ^ 32 by omega), Nat.mod_eq_of_lt (show m >>> k < 2 ^ 32 by omega)]
    · rw [BitVec.msb_eq_false_iff_two_mul_lt, BitVec.toNat_ofNat, Nat.mod_eq_of_lt (show m < 2 ^ 32 by omega)]; omega
  rw [e1, show (1 : Int32) = nI 1 from rfl, nI_and]
  congr 1
  rw [Nat.and_one_is_mod, Nat.testBit_eq_decide_div_mod_eq, Nat.shiftRight_eq_div_pow]
  have := Nat.mod_two_eq_zero_or_one (m / 2 ^ k)
  by_cases e : m / 2 ^ k % 2 = 1
  · simp [e]
  · simp [e]; omega
theorem ff_sp {g : Nat → Bool} {j : Nat} : ∀ {n : Nat}, ff g n = some j → j < n ∧ g j = true ∧ ∀ i, i < j → g i = false := by
  intro n
  induction n with
  | zero => intro h; cases h
  | succ n ih =>
    intro h
    rw [ff] at h
    cases e : ff g n with
    | some k =>
      rw [e] at h
      cases h
      obtain ⟨a, b, c⟩ := ih e
      exact ⟨by omega, b, c⟩
    | none =>
      rw [e] at h
      dsimp only at h
      split at h
      · rename_i q
        cases h
        refine ⟨by omega, q, fun i hi => ?_⟩
        cases e2 : g i with
        | false => rfl
        | true =>
          have : ∀ m, i < m → ff g m ≠ none := by
            intro m
            induction m with
            | zero => intro q; omega
            | succ m ihm =>
              intro q3 q4
              rw [ff] at q4
              cases e5 : ff g m with
              | some k => rw [e5] at q4; cases q4
              | none =>
                rw [e5] at q4
                by_cases e6 : i = m
                · rw [e6] at e2; simp [e2] at q4
                · exact ihm (by omega) e5
          exact absurd e (this _ hi)
      · cases h
theorem ff_nn {g : Nat → Bool} : ∀ {n : Nat}, ff g n = none → ∀ i, i < n → g i = false := by
  intro n h i hi
  cases e2 : g i with
  | false => rfl
  | true =>
    have : ∀ m, i < m → ff g m ≠ none := by
      intro m
      induction m with
      | zero => intro q; omega
      | succ m ihm =>
        intro q3 q4
        rw [ff] at q4
        cases e5 : ff g m with
        | some k => rw [e5] at q4; cases q4
        | none =>
          rw [e5] at q4
          by_cases e6 : i = m
          · rw [e6] at e2; simp [e2] at q4
          · exact ihm (by omega) e5
    exact absurd h (this n hi)
/-- the lowest that just one has is the first's -/
def isf (m b : Nat) : Bool := match ff (fun j => (m ^^^ b).testBit j) 12 with
  | none => false
  | some j => m.testBit j
def lowOk (u : Nat) : Bool := decide (u = 0) || (match ff (fun j => u.testBit j) 12 with
    | none => false
    | some j => decide (nI u &&& -nI u = nI (2 ^ j)))
theorem low12 : ∀ u, u < 4096 → u ≠ 0 → ∃ j, ff (fun j => u.testBit j) 12 = some j ∧ nI u &&& -nI u = nI (2 ^ j) := by
  have h : ∀ a b : Fin 64, lowOk (64 * a.val + b.val) = true := by decide +kernel
  intro u hu h0
  have q := h ⟨u / 64, by omega⟩ ⟨u % 64, by omega⟩
  dsimp only at q
  rw [show 64 * (u / 64) + u % 64 = u by omega] at q
  unfold lowOk at q
  cases e : ff (fun j => u.testBit j) 12 with
  | none => rw [e] at q; simp [h0] at q
  | some j => rw [e] at q; simp [h0] at q; exact ⟨j, rfl, q⟩
theorem m_isFirst {m b : Nat} (hm : m < 4096) (hb : b < 4096) (post : Int32 → Prop) : wX10_isFirst (nI m) (nI b) post = post (bi (isf m b)) := by
  unfold wX10_isFirst
  rw [nI_xor]
  have hu : m ^^^ b < 2 ^ 12 := Nat.xor_lt_two_pow hm hb
  simp only [forall_eq]
  simp (disch := omega) only [zcmp, zari, z00, zm1, le_n, lt_n, eq_n, n_add, n_mul, n_c, n_in, true_and, and_true, if_true, if_false, bi_0, bi_1, ite_true, ite_false, Bool.true_eq_false, Bool.false_eq_true]
  by_cases e : m ^^^ b = 0
  · simp only [e, if_true]
    have : isf m b = false := by
      unfold isf
      rw [e, ff_no (fun k _ => Nat.zero_testBit k)]
    rw [this]; rfl
  · simp only [e, if_false]
    obtain ⟨j, h1, h2⟩ := low12 (m ^^^ b) hu e
    rw [Int32.and_assoc, h2, nI_and]
    have hj := (ff_sp h1).1
    have : isf m b = m.testBit j := by unfold isf; rw [h1]
    rw [this]
    have ht : (m &&& 2 ^ j).testBit j = m.testBit j := by rw [Nat.testBit_and, Nat.testBit_two_pow_self, Bool.and_true]
    have hle : m &&& 2 ^ j ≤ m := Nat.and_le_left
    cases e2 : m.testBit j with
    | false =>
      have : m &&& 2 ^ j = 0 := Nat.eq_of_testBit_eq (fun i => by
        rw [Nat.testBit_and, Nat.testBit_two_pow, Nat.zero_testBit]
        by_cases e3 : j = i
        · rw [← e3, e2]; rfl
        · simp [e3])
      rw [this]; rfl
    | true =>
      rw [if_neg]
      · rfl
      · simp (disch := omega) only [zcmp, zari, z00, zm1, le_n, lt_n, eq_n, n_add, n_mul, n_c, n_in, true_and, and_true, if_true, if_false, bi_0, bi_1, ite_true, ite_false, Bool.true_eq_false, Bool.false_eq_true]
        intro q
        rw [q, Nat.zero_testBit, e2] at ht
        cases ht
/-- how many -/
def mo (m : Nat) : Nat := fb_ct m.testBit 12
theorem m_manyOf {m : Nat} (hm : m < 4096) {post : Int32 → Prop} (h : post (nI (mo m))) : wX10_manyOf (nI m) post := by
  unfold wX10_manyOf
  refine lfix_for 12 (fun k (y : Int32) => (nI k, y)) (fun k y => y = nI (fb_ct m.testBit k)) 0 _ (Nat.zero_le _) rfl ?_ ?_
  · rintro r k _ hk rfl hr
    dsimp only
    simp (disch := omega) only [zcmp, zari, z00, zm1, le_n, lt_n, eq_n, n_add, n_mul, n_c, n_in, true_and, and_true, if_true, if_false, bi_0, bi_1, ite_true, ite_false, Bool.true_eq_false, Bool.false_eq_true, show ¬ 12 ≤ k by omega]
    rw [shr1 hm hk, n_add]
    rintro _ rfl _ rfl
    exact hr _ rfl
  · rintro r _ rfl
    dsimp only
    simp (disch := omega) only [zcmp, zari, z00, zm1, le_n, lt_n, eq_n, n_add, n_mul, n_c, n_in, true_and, and_true, if_true, if_false, bi_0, bi_1, ite_true, ite_false, Bool.true_eq_false, Bool.false_eq_true, Nat.le_refl]
    exact h
-- sets of numbers below n, by their size and then by the first that just one has
def fsT (n : Nat) (T T' : Nat → Bool) : Prop := ∃ j, j < n ∧ T j = true ∧ T' j = false ∧ ∀ i, i < j → T i = T' i
theorem isf_iff {m b : Nat} : isf m b = true ↔ fsT 12 m.testBit b.testBit := by
  unfold isf
  constructor
  · intro h
    cases e : ff (fun j => (m ^^^ b).testBit j) 12 with
    | none => rw [e] at h; cases h
    | some j =>
      rw [e] at h
      dsimp only at h
      obtain ⟨a1, a2, a3⟩ := ff_sp e
      refine ⟨j, a1, h, ?_, fun i hi => ?_⟩
      · rw [Nat.testBit_xor, h] at a2
        cases q : b.testBit j with
        | false => rfl
        | true => rw [q] at a2; cases a2
      · have := a3 i hi
        rw [Nat.testBit_xor] at this
        cases q1 : m.testBit i <;> cases q2 : b.testBit i <;> simp [q1, q2] at this ⊢
  · rintro ⟨j, h1, h2, h3, h4⟩
    cases e : ff (fun j => (m ^^^ b).testBit j) 12 with
    | none =>
      have := ff_nn e j h1
      rw [Nat.testBit_xor, h2, h3] at this
      cases this
    | some k =>
      dsimp only
      obtain ⟨a1, a2, a3⟩ := ff_sp e
      rcases Nat.lt_trichotomy k j with q | q | q
      · rw [Nat.testBit_xor, h4 k q] at a2; simp at a2
      · rw [q]; exact h2
      · have := a3 j q
        rw [Nat.testBit_xor, h2, h3] at this
        cases this
theorem fsT_tr {n : Nat} {T U V : Nat → Bool} (h1 : fsT n T U) (h2 : fsT n U V) : fsT n T V := by
  obtain ⟨j, a1, a2, a3, a4⟩ := h1
  obtain ⟨k, b1, b2, b3, b4⟩ := h2
  rcases Nat.lt_trichotomy j k with q | q | q
  · exact ⟨j, a1, a2, by rw [← b4 j q]; exact a3, fun i hi => by rw [a4 i hi, b4 i (by omega)]⟩
  · rw [q] at a3; rw [a3] at b2; cases b2
  · exact ⟨k, b1, by rw [a4 k q]; exact b2, b3, fun i hi => by rw [a4 i (by omega), b4 i hi]⟩
theorem fsT_tot {n : Nat} {T U : Nat → Bool} (h : ¬ fsT n T U) (h2 : ¬ ∀ i, i < n → T i = U i) : fsT n U T := by
  cases e : ff (fun j => T j != U j) n with
  | none =>
    refine absurd (fun i hi => ?_) h2
    have := ff_nn e i hi
    cases q1 : T i <;> cases q2 : U i <;> simp [q1, q2] at this ⊢
  | some j =>
    obtain ⟨a1, a2, a3⟩ := ff_sp e
    have eqb : ∀ i, i < j → T i = U i := fun i hi => by
      have := a3 i hi
      cases q1 : T i <;> cases q2 : U i <;> simp [q1, q2] at this ⊢
    cases q1 : T j with
    | true =>
      cases q2 : U j with
      | true => simp [q1, q2] at a2
      | false => exact absurd ⟨j, a1, q1, q2, eqb⟩ h
    | false =>
      cases q2 : U j with
      | true => exact ⟨j, a1, q2, q1, fun i hi => (eqb i hi).symm⟩
      | false => simp [q1, q2] at a2
theorem bits_of (T : Nat → Bool) : ∀ n, ∃ m, m < 2 ^ n ∧ ∀ i, i < n → m.testBit i = T i
  | 0 => ⟨0, by decide, fun i hi => by omega⟩
  | n + 1 => by
    obtain ⟨m, h1, h2⟩ := bits_of T n
    have e : 2 ^ (n + 1) = 2 ^ n + 2 ^ n := by rw [Nat.pow_succ]; omega
    cases q : T n with
    | false =>
      refine ⟨m, by omega, fun i hi => ?_⟩
      by_cases e2 : i = n
      · rw [e2, q]; exact Nat.testBit_lt_two_pow h1
      · exact h2 i (by omega)
    | true =>
      refine ⟨2 ^ n + m, by omega, fun i hi => ?_⟩
      by_cases e2 : i = n
      · rw [e2, q, Nat.testBit_two_pow_add_eq, Nat.testBit_lt_two_pow h1]; rfl
      · rw [Nat.testBit_two_pow_add_gt (by omega)]; exact h2 i (by omega)
