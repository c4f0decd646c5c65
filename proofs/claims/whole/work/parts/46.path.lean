section
variable {S : SS} {J : Nat → Int32} {E : Nat → Nat → Int32} {I : Nat → Int32} {L : Nat → Int64} {A : Nat → Nat → Int32} {B : Nat → Nat → Int64}
theorem smn_cong {f g : Nat → Nat} : ∀ {n : Nat}, (∀ k, k < n → f k = g k) → smn f n = smn g n
  | 0, _ => rfl
  | n + 1, h => by rw [smn, smn, smn_cong (fun k hk => h k (by omega)), h n (by omega)]
theorem smn_add (f g : Nat → Nat) : ∀ n, smn (fun k => f k + g k) n = smn f n + smn g n
  | 0 => rfl
  | n + 1 => by rw [smn, smn, smn, smn_add f g n]; omega
theorem smn_zero : ∀ n, smn (fun _ => 0) n = 0
  | 0 => rfl
  | n + 1 => by rw [smn, smn_zero n]
theorem smn_one {x : Nat} : ∀ {n : Nat}, x < n → smn (fun a => if x = a then 1 else 0) n = 1
  | 0, h => absurd h (Nat.not_lt_zero _)
  | n + 1, h => by
    rw [smn]
    by_cases e : x = n
    · subst e
      rw [smn_cong (g := fun _ => 0) (fun k hk => by rw [if_neg (by omega)]), smn_zero]; simp
    · rw [smn_one (show x < n by omega), if_neg e]
/-- by axes, or at once -/
theorem smn_ax (ax : Nat → Nat) (p : Nat → Bool) (m : Nat) : ∀ n, (∀ c, c < n → p c = true → ax c < m) → smn (fun a => fb_ct (fun c => ax c == a && p c) n) m = fb_ct p n
  | 0, _ => smn_zero m
  | n + 1, h => by
    rw [fb_ct_succ, ← smn_ax ax p m n (fun c hc => h c (by omega))]
    rw [smn_cong (g := fun a => fb_ct (fun c => ax c == a && p c) n + (if ax n = a then (if p n then 1 else 0) else 0)) (fun a _ => by
      rw [fb_ct_succ]
      by_cases e : ax n = a <;> cases p n <;> simp [e]), smn_add]
    congr 1
    cases e : p n with
    | false => rw [smn_cong (g := fun _ => 0) (fun k _ => by simp), smn_zero]; simp
    | true => rw [smn_cong (g := fun a => if ax n = a then 1 else 0) (fun k _ => by simp), smn_one (h n (by omega) e)]; simp
theorem t_count (hC : RC S I L A B) (hM : RM S J E) (hW : wf S) (x : Int32) {K : Int32 → Int32 → (Nat → Int32) → (Nat → Nat → Int32) → Prop} (hK : ∀ r J' E', RM S J' E' → K r r J' E') : wX9_count I L A B x (fun r => wX10_count J E x (fun r' J' E' => K r r' J' E')) := by
  obtain ⟨hF, hD, hX, hT, hP⟩ := hC
  have hn := hW.1
  have hM := RM_t hM 0
  have hw := hW.2.2.2.2.2.2.2.2.2.2.1
  unfold wX9_count wX10_count
  by_cases x0 : x = 0
  · simp only [eq_true x0, if_true]
    rintro _ rfl
    rw [hM.1.1, hX.1]
    exact hK _ _ _ hM
  simp only [x0, if_false]
  by_cases x1 : x = 1
  · simp only [eq_true x1, if_true]
    rintro _ rfl
    rw [hM.1.2.1, hF.1]
    exact hK _ _ _ hM
  simp only [x1, if_false]
  by_cases x2 : x = 2
  · simp only [eq_true x2, if_true]
    rintro _ rfl
    rw [hM.1.2.2.1, hD.1]
    exact hK _ _ _ hM
  simp only [x2, if_false]
  by_cases x3 : x = 3
  · simp only [eq_true x3, if_true]
    rintro _ rfl
    refine m_orders hM hW (fun J1 E1 hM1 h5 _ _ => ?_)
    rw [h5, hD.2.2.1]
    exact hK _ _ _ hM1
  simp only [x3, if_false]
  by_cases x4 : x = 4
  · simp only [eq_true x4, if_true]
    refine c_hits hD hX hP hW (fun m hm => ?_)
    rw [bm_ct hm (n := nD S) (nea_out hW _ _) (by omega)]
    rintro _ rfl
    exact m_hitsBy (b := 0) hM hW hM.2.2.2.2.2.2.2.2.2.2.1 hw.2.2.2 (by omega) (hK _ _ _ hM)
  simp only [x4, if_false]
  by_cases x5 : x = 5
  · simp only [eq_true x5, if_true]
    unfold wX7_howManyCategoriesChosen
    refine lfix_for (nA S) (fun k (y : Int32) => (nI k, y)) (fun k y => y = nI (smn (fun a => fb_ct (fun c => ax S c == a && (se S).1 c) (nC S)) k)) 0 _ (Nat.zero_le _) rfl ?_ ?_
    · rintro r k _ hk rfl hr
      have hr := hr _ rfl
      rw [smn] at hr
      dsimp only
      simp (disch := omega) only [zcmp, zari, z00, zm1, le_n, lt_n, eq_n, n_add, n_mul, n_c, n_in, true_and, and_true, if_true, if_false, bi_0, bi_1, ite_true, ite_false, Bool.true_eq_false, Bool.false_eq_true, hX.1, show ¬ nA S ≤ k by omega]
      rw [bm_ct (hX.2.2.2.2 k (by omega)).1 (n := nC S) (fun i hi => by
        cases e : (se S).1 i with
        | false => simp
        | true => exact absurd (hw.1 i e) (by omega)) (by omega)]
      rintro _ rfl _ rfl
      rw [nI_add]
      exact hr
    · rintro r _ rfl
      dsimp only
      simp (disch := omega) only [zcmp, zari, z00, zm1, le_n, lt_n, eq_n, n_add, n_mul, n_c, n_in, true_and, and_true, if_true, if_false, bi_0, bi_1, ite_true, ite_false, Bool.true_eq_false, Bool.false_eq_true, hX.1, Nat.le_refl]
      rw [smn_ax (ax S) (se S).1 (nA S) (nC S) (fun c hc _ => (hW.2.2.1 c hc).1)]
      rintro _ rfl
      refine lfix_for (nC S) (fun k (y : Int32) => (nI k, y)) (fun k y => y = nI (fb_ct (se S).1 k)) 0 _ (Nat.zero_le _) rfl ?_ ?_
      · rintro r k _ hk rfl hr
        have hr := hr _ rfl
        rw [fb_ct_succ] at hr
        dsimp only
        have q := hM.2.2.2.2.2.2.2.2.2.2.1.1 k (by omega)
        rw [Nat.zero_add] at q
        simp (disch := omega) only [zcmp, zari, z00, zm1, le_n, lt_n, eq_n, n_add, n_mul, n_c, n_in, true_and, and_true, if_true, if_false, bi_0, bi_1, ite_true, ite_false, Bool.true_eq_false, Bool.false_eq_true, hM.1.2.1, show ¬ nC S ≤ k by omega, q]
        rw [bi_nI, nI_add]
        rintro _ rfl _ rfl
        exact hr
      · rintro r _ rfl
        dsimp only
        simp (disch := omega) only [zcmp, zari, z00, zm1, le_n, lt_n, eq_n, n_add, n_mul, n_c, n_in, true_and, and_true, if_true, if_false, bi_0, bi_1, ite_true, ite_false, Bool.true_eq_false, Bool.false_eq_true, hM.1.2.1, Nat.le_refl]
        exact hK _ _ _ hM
  simp only [x5, if_false]
  by_cases x6 : x = 6
  · simp only [eq_true x6, if_true]
    unfold wX7_howManyRanges
    refine lfix_for (nA S) (fun k (y : Int32) => (nI k, y)) (fun k y => y = nI (smn (fun a => ((se S).2.2 a).length) k)) 0 _ (Nat.zero_le _) rfl ?_ ?_
    · rintro r k _ hk rfl hr
      have hr := hr _ rfl
      rw [smn] at hr
      dsimp only
      simp (disch := omega) only [zcmp, zari, z00, zm1, le_n, lt_n, eq_n, n_add, n_mul, n_c, n_in, true_and, and_true, if_true, if_false, bi_0, bi_1, ite_true, ite_false, Bool.true_eq_false, Bool.false_eq_true, hX.1, show ¬ nA S ≤ k by omega, (hX.2.2.2.2 k (by omega)).2.2.1]
      rintro _ rfl _ rfl
      exact hr
    · rintro r _ rfl
      dsimp only
      simp (disch := omega) only [zcmp, zari, z00, zm1, le_n, lt_n, eq_n, n_add, n_mul, n_c, n_in, true_and, and_true, if_true, if_false, bi_0, bi_1, ite_true, ite_false, Bool.true_eq_false, Bool.false_eq_true, hX.1, Nat.le_refl]
      rintro _ rfl
      refine lfix_for (nA S) (fun k (y : Int32) => (nI k, y)) (fun k y => y = nI (smn (fun a => ((se S).2.2 a).length) k)) 0 _ (Nat.zero_le _) rfl ?_ ?_
      · rintro r k _ hk rfl hr
        have hr := hr _ rfl
        rw [smn] at hr
        dsimp only
        have q := hM.2.2.2.2.2.2.2.2.2.2.1.2.2.1 k (by omega)
        rw [Nat.zero_add] at q
        simp (disch := omega) only [zcmp, zari, z00, zm1, le_n, lt_n, eq_n, n_add, n_mul, n_c, n_in, true_and, and_true, if_true, if_false, bi_0, bi_1, ite_true, ite_false, Bool.true_eq_false, Bool.false_eq_true, hM.1.1, show ¬ nA S ≤ k by omega, q]
        rintro _ rfl _ rfl
        exact hr
      · rintro r _ rfl
        dsimp only
        simp (disch := omega) only [zcmp, zari, z00, zm1, le_n, lt_n, eq_n, n_add, n_mul, n_c, n_in, true_and, and_true, if_true, if_false, bi_0, bi_1, ite_true, ite_false, Bool.true_eq_false, Bool.false_eq_true, hM.1.1, Nat.le_refl]
        exact hK _ _ _ hM
  simp only [x6, if_false]
  by_cases x7 : x = 7
  · simp only [eq_true x7, if_true]
    unfold wX7_narrowed
    refine lfix_for (nA S) (fun k (y : Int32) => (nI k, y)) (fun k y => y = pb (fun a => !opn S (se S) a) k) 0 _ (Nat.zero_le _) rfl ?_ ?_
    · rintro r k _ hk rfl hr
      have hr := hr _ rfl
      rw [pb] at hr
      dsimp only
      simp (disch := omega) only [zcmp, zari, z00, zm1, le_n, lt_n, eq_n, n_add, n_mul, n_c, n_in, true_and, and_true, if_true, if_false, bi_0, bi_1, ite_true, ite_false, Bool.true_eq_false, Bool.false_eq_true, hX.1, show ¬ nA S ≤ k by omega]
      rw [c_selOpen hW hw.2.2.2 hw.1 (hX.2.2.2.2 k (by omega))]
      simp (disch := omega) only [zcmp, zari, z00, zm1, le_n, lt_n, eq_n, n_add, n_mul, n_c, n_in, true_and, and_true, if_true, if_false, bi_0, bi_1, ite_true, ite_false, Bool.true_eq_false, Bool.false_eq_true]
      cases e : opn S (se S) k with
      | false =>
        simp only [e, Bool.not_false, if_true] at hr ⊢
        rintro _ rfl _ rfl
        exact hr
      | true =>
        simp only [e, Bool.not_true, Bool.false_eq_true, Bool.true_eq_false, if_false] at hr ⊢
        rintro _ rfl
        exact hr
    · rintro r _ rfl
      dsimp only
      simp (disch := omega) only [zcmp, zari, z00, zm1, le_n, lt_n, eq_n, n_add, n_mul, n_c, n_in, true_and, and_true, if_true, if_false, bi_0, bi_1, ite_true, ite_false, Bool.true_eq_false, Bool.false_eq_true, hX.1, Nat.le_refl]
      rintro _ rfl
      refine lfix_for (nA S) (fun k (y : Int32) => (nI k, y)) (fun k y => y = pb (fun a => !opn S (se S) a) k) 0 _ (Nat.zero_le _) rfl ?_ ?_
      · rintro r k _ hk rfl hr
        have hr := hr _ rfl
        rw [pb] at hr
        dsimp only
        simp (disch := omega) only [zcmp, zari, z00, zm1, le_n, lt_n, eq_n, n_add, n_mul, n_c, n_in, true_and, and_true, if_true, if_false, bi_0, bi_1, ite_true, ite_false, Bool.true_eq_false, Bool.false_eq_true, hM.1.1, show ¬ nA S ≤ k by omega]
        refine m_isOpen (b := 0) hM hW hM.2.2.2.2.2.2.2.2.2.2.1 hw.2.2.2 (by omega) hk ?_
        simp (disch := omega) only [jn, zcmp, zari, z00, zm1, le_n, lt_n, eq_n, n_add, n_mul, n_c, n_in, true_and, and_true, if_true, if_false, bi_0, bi_1, ite_true, ite_false, Bool.true_eq_false, Bool.false_eq_true]
        cases e : opn S (se S) k with
        | false =>
          simp only [e, Bool.not_false, if_true] at hr ⊢
          rintro _ rfl _ rfl
          exact hr
        | true =>
          simp only [e, Bool.not_true, Bool.false_eq_true, Bool.true_eq_false, if_false, or0] at hr ⊢
          rintro _ rfl _ rfl
          exact hr
      · rintro r _ rfl
        dsimp only
        simp (disch := omega) only [zcmp, zari, z00, zm1, le_n, lt_n, eq_n, n_add, n_mul, n_c, n_in, true_and, and_true, if_true, if_false, bi_0, bi_1, ite_true, ite_false, Bool.true_eq_false, Bool.false_eq_true, hM.1.1, Nat.le_refl]
        exact hK _ _ _ hM
  simp only [x7, if_false]
  by_cases x8 : x = 8
  · simp only [eq_true x8, if_true]
    rintro _ rfl
    rw [hM.1.2.2.2, hT.1]
    exact hK _ _ _ hM
  simp only [x8, if_false]
  rintro _ rfl
  exact hK _ _ _ hM
-- path
theorem uI_inj {a b : Option Nat} (ha : ∀ p, a = some p → p < 40) (hb : ∀ p, b = some p → p < 40) : (uI a = uI b) = (a = b) := by
  cases a with
  | none =>
    cases b with
    | none => simp
    | some q => have := hb q rfl; simp [uI, zm1.2 q (by omega)]
  | some p =>
    have := ha p rfl
    cases b with
    | none => simp [uI, zm1.1 p (by omega)]
    | some q => have := hb q rfl; simp [uI, eq_n (show p < 2 ^ 31 by omega) (show q < 2 ^ 31 by omega)]
def bbp (S : SS) (x : Nat) (par : Option Nat) (c : Nat) : Bool := ax S c == x && up S c == par && decide (0 < shw S c)
def bb (S : SS) (x : Nat) (par : Option Nat) : Option Nat := bs (bbp S x par) (shw S) (nC S)
def pt (S : SS) (x : Nat) : Nat → Option Nat
  | 0 => bb S x none
  | k + 1 => match pt S x k with
    | none => none
    | some c => bb S x (some c)
theorem bs_p {p : Nat → Bool} {f : Nat → Nat} : ∀ {n j : Nat}, bs p f n = some j → p j = true
  | 0, j, h => by cases h
  | n + 1, j, h => by
    rw [bs] at h
    split at h
    · rename_i e9
      split at h
      · cases h; exact e9
      · split at h
        · cases h; exact e9
        · cases h; rename_i e _; exact bs_p e
    · exact bs_p h
theorem pt_ends (S : SS) (x : Nat) : ∀ (k c : Nat), pt S x k = some c → ¬ ends (up S) k (some c)
  | 0, c, _ => fun q => q
  | k + 1, c, h => by
    rw [pt] at h
    split at h
    · cases h
    · rename_i c' e
      have := bs_p h
      simp only [bbp, Bool.and_eq_true, beq_iff_eq] at this
      rw [ends, this.1.2]
      exact pt_ends S x k c' e
theorem pt_none (hW : wf S) (x : Nat) : ∀ k, 6 ≤ k → pt S x k = none := by
  intro k hk
  obtain ⟨j, rfl⟩ : ∃ j, k = 6 + j := ⟨k - 6, by omega⟩
  induction j with
  | zero =>
    cases e : pt S x 6 with
    | none => rfl
    | some c =>
      have h1 := pt_ends S x 6 c e
      have hc : c < nC S := by
        rw [pt] at e
        split at e
        · cases e
        · exact bs_lt e
      exact absurd (hW.2.2.1 c hc).2.2.1 h1
  | succ j ih => rw [← Nat.add_assoc, pt, ih (by omega)]
theorem pt_stop {x k : Nat} (h : pt S x k = none) : ∀ n, k ≤ n → pt S x n = none := by
  intro n hn
  obtain ⟨j, rfl⟩ : ∃ j, n = k + j := ⟨n - k, by omega⟩
  induction j with
  | zero => exact h
  | succ j ih => rw [← Nat.add_assoc, pt, ih (by omega)]
theorem shw_le (hW : wf S) (c : Nat) : shw S c ≤ 40 := Nat.le_trans (fb_ct_le _ _) hW.1.2.2
theorem bb_lt {x c : Nat} {par : Option Nat} (h : bb S x par = some c) : c < nC S := bs_lt h
theorem pt_lt {x k c : Nat} (h : pt S x k = some c) : c < nC S := by
  cases k with
  | zero => exact bb_lt h
  | succ k =>
    rw [pt] at h
    split at h
    · cases h
    · exact bb_lt h
theorem c_fullest (hF : RF S I A B) (hW : wf S) {x : Nat} (hx : x < nA S) {m : Int64} (hm : bm m (fun d => nea S (se S) d (lft S x))) {par : Option Nat} (hp : ∀ p, par = some p → p < 40) {post : Int32 → Prop} (h : post (uI (bb S x par))) : wX9_fullestBelow I L A B (nI x) (uI par) m post := by
  have hn := hW.1
  unfold wX9_fullestBelow
  let v6 : Option Nat → Int32 := fun y => match y with
    | none => 0
    | some j => nI (shw S j)
  refine lfix_for (nC S) (fun k (y : Option Nat) => (nI k, v6 y, uI y)) (fun k y => y = bs (bbp S x par) (shw S) k) 0 none (Nat.zero_le _) rfl ?_ ?_
  · rintro r k _ hk rfl hr
    have hr := hr _ rfl
    have ha := (hW.2.2.1 k hk).1
    rw [bs] at hr
    dsimp only
    simp (disch := omega) only [zcmp, zari, z00, zm1, le_n, lt_n, eq_n, n_add, n_mul, n_c, n_in, true_and, and_true, if_true, if_false, bi_0, bi_1, ite_true, ite_false, Bool.true_eq_false, Bool.false_eq_true, hF.1, show ¬ nC S ≤ k by omega, hF.2.1 k hk, hF.2.2.1 k hk]
    simp only [uI_inj (fun p hp => by have := up_ok hW hk hp; omega) hp]
    by_cases e1 : ax S k = x
    · simp only [e1, if_true]
      by_cases e2 : up S k = par
      · simp only [e2, if_true]
        rw [bm_ct (bm_and hm (hF.2.2.2.2.2.1 k hk)) (n := nD S) (fun i hi => by rw [nea_out hW _ _ i hi]; rfl) (by omega)]
        have e3 : fb_ct (fun i => nea S (se S) i (lft S x) && has S i k) (nD S) = shw S k := by simp only [shw, cou, e1]
        rw [e3]
        have hsk := shw_le hW k
        cases e4 : bs (bbp S x par) (shw S) k with
        | none =>
          rw [e4] at hr
          by_cases e5 : shw S k = 0
          · refine ite_p (show nI (shw S k) ≤ 0 by rw [e5]; decide) ?_
            rintro _ rfl
            have : bbp S x par k = false := by simp [bbp, e5]
            simp only [this, Bool.false_eq_true, if_false] at hr
            exact hr
          · refine ite_n (show ¬ nI (shw S k) ≤ 0 by rw [n_le0 (by omega)]; exact e5) ?_
            rintro _ rfl
            have : bbp S x par k = true := by simp [bbp, e1, e2]; omega
            simp only [this, if_true] at hr
            exact hr
        | some j =>
          rw [e4] at hr
          have hj := bs_p e4
          simp only [bbp, Bool.and_eq_true, decide_eq_true_eq] at hj
          have hsj := shw_le hW j
          by_cases e5 : shw S k ≤ shw S j
          · refine ite_p (show nI (shw S k) ≤ nI (shw S j) from nI_le e5 (by omega)) ?_
            rintro _ rfl
            simp only [show ¬ shw S j < shw S k by omega, if_false, ite_self] at hr
            exact hr
          · refine ite_n (show ¬ nI (shw S k) ≤ nI (shw S j) from nI_ge (by omega) (by omega)) ?_
            rintro _ rfl
            have : bbp S x par k = true := by simp [bbp, e1, e2]; omega
            simp only [this, if_true, show shw S j < shw S k by omega] at hr
            exact hr
      · simp only [e2, if_false]
        rintro _ rfl
        have : bbp S x par k = false := by simp [bbp, e2]
        simp only [this, Bool.false_eq_true, if_false] at hr
        exact hr
    · simp only [e1, if_false]
      rintro _ rfl
      have : bbp S x par k = false := by simp [bbp, e1]
      simp only [this, Bool.false_eq_true, if_false] at hr
      exact hr
  · rintro r _ rfl
    dsimp only
    simp (disch := omega) only [zcmp, zari, z00, zm1, le_n, lt_n, eq_n, n_add, n_mul, n_c, n_in, true_and, and_true, if_true, if_false, bi_0, bi_1, ite_true, ite_false, Bool.true_eq_false, Bool.false_eq_true, hF.1, Nat.le_refl]
    exact h
theorem m_tells (hM : RM S J E) (hW : wf S) {x : Nat} (hx : x < nA S) {post : (Nat → Nat → Int32) → Prop} (h : ∀ E', RM S J E' → (∀ c, c < nC S → E' 14 c = if ax S c = x then nI (shw S c) else -1) → post E') : wX10_tells J E (nI x) post := by
  have hn := hW.1
  unfold wX10_tells
  refine lfix_for (nC S) (fun k (f : Nat → Int32) => (nI k, va_up E 14 f)) (fun k f => ∀ c, c < k → f c = if ax S c = x then nI (shw S c) else -1) 0 (E 14) (Nat.zero_le _) (fun c hc => absurd hc (Nat.not_lt_zero c)) ?_ ?_ |> fun q => by rw [va_self] at q; exact q
  · intro r k f hk hf hr
    have ha := (hW.2.2.1 k hk).1
    have hM1 : RM S J (va_up E 14 f) := RM_E hW hM (fun j _ _ _ => up_n _ _ (by omega)) (fun i _ => by rw [up_n _ _ (by decide)])
    dsimp only
    simp (disch := omega) only [zcmp, zari, z00, zm1, le_n, lt_n, eq_n, n_add, n_mul, n_c, n_in, true_and, and_true, if_true, if_false, bi_0, bi_1, ite_true, ite_false, Bool.true_eq_false, Bool.false_eq_true, hM1.1.2.1, show ¬ nC S ≤ k by omega, hM1.2.2.1 k hk, up_s, va_uu]
    refine jn_have (fun t => t = if ax S k = x then nI (shw S k) else -1) ?_ ?_
    · rintro _ rfl _ rfl _ rfl
      refine hr _ (fun c hc => ?_)
      by_cases e : c = k
      · subst e; rw [ud_s]
      · rw [ud_n _ _ e]; exact hf c (by omega)
    · intro k1 h1
      by_cases e : ax S k = x
      · simp only [e, if_true] at h1 ⊢
        exact m_shownOf hM1 hW hk (h1 _ rfl)
      · simp only [e, if_false] at h1 ⊢
        exact h1 _ rfl
  · intro r f hf
    have hM1 : RM S J (va_up E 14 f) := RM_E hW hM (fun j _ _ _ => up_n _ _ (by omega)) (fun i _ => by rw [up_n _ _ (by decide)])
    dsimp only
    simp (disch := omega) only [zcmp, zari, z00, zm1, le_n, lt_n, eq_n, n_add, n_mul, n_c, n_in, true_and, and_true, if_true, if_false, bi_0, bi_1, ite_true, ite_false, Bool.true_eq_false, Bool.false_eq_true, hM1.1.2.1, Nat.le_refl]
    exact h _ hM1 (fun c hc => by rw [up_s]; exact hf c hc)
theorem m_bestBelow (hM : RM S J E) (hW : wf S) {x : Nat} (hx : x < nA S) (ht : ∀ c, c < nC S → E 14 c = if ax S c = x then nI (shw S c) else -1) {par : Option Nat} (hp : ∀ p, par = some p → p < 40) {post : Int32 → Prop} (h : post (uI (bb S x par))) : wX10_bestBelow J E (nI x) (uI par) post := by
  have hn := hW.1
  unfold wX10_bestBelow
  refine lfix_for (nC S) (fun k (y : Option Nat) => (nI k, uI y)) (fun k y => y = bs (bbp S x par) (shw S) k) 0 none (Nat.zero_le _) rfl ?_ ?_
  · rintro r k _ hk rfl hr
    have hr := hr _ rfl
    have ha := (hW.2.2.1 k hk).1
    have hsk := shw_le hW k
    rw [bs] at hr
    dsimp only
    simp (disch := omega) only [zcmp, zari, z00, zm1, le_n, lt_n, eq_n, n_add, n_mul, n_c, n_in, true_and, and_true, if_true, if_false, bi_0, bi_1, ite_true, ite_false, Bool.true_eq_false, Bool.false_eq_true, hM.1.2.1, show ¬ nC S ≤ k by omega, hM.2.2.1 k hk, hM.2.2.2.1 k hk]
    simp only [uI_inj (fun p hp => by have := up_ok hW hk hp; omega) hp]
    refine jn_have (fun t => t = bi (bbp S x par k)) ?_ ?_
    · rintro _ rfl
      refine jn_have (fun t => t = uI (if bbp S x par k = true then (match bs (bbp S x par) (shw S) k with
        | none => some k
        | some j => if shw S j < shw S k then some k else some j) else bs (bbp S x par) (shw S) k)) ?_ ?_
      · rintro _ rfl _ rfl
        exact hr
      · intro k1 h1
        simp only [jn, bi_0]
        cases e0 : bbp S x par k with
        | false =>
          simp only [e0, Bool.false_eq_true, if_false, if_true] at h1 ⊢
          exact h1 _ rfl
        | true =>
          simp only [e0, Bool.true_eq_false, if_false, if_true] at h1 ⊢
          have h0 := e0
          simp only [bbp, Bool.and_eq_true, decide_eq_true_eq, beq_iff_eq] at h0
          cases e4 : bs (bbp S x par) (shw S) k with
          | none =>
            rw [e4] at h1
            refine ite_p (show uI none < 0 by decide) ?_
            exact h1 _ rfl
          | some j =>
            rw [e4] at h1
            have hj := bs_p e4
            have hjl := bs_lt e4
            simp only [bbp, Bool.and_eq_true, decide_eq_true_eq, beq_iff_eq] at hj
            have hsj := shw_le hW j
            rw [uI_s]
            simp (disch := omega) only [zcmp, zari, z00, zm1, le_n, lt_n, eq_n, n_add, n_mul, n_c, n_in, true_and, and_true, if_true, if_false, bi_0, bi_1, ite_true, ite_false, Bool.true_eq_false, Bool.false_eq_true, show ¬ j < 0 by omega, ht k hk, ht j (by omega), h0.1.1, hj.1.1]
            by_cases e5 : shw S k ≤ shw S j
            · simp only [e5, if_true]
              simp only [show ¬ shw S j < shw S k by omega, if_false] at h1
              exact h1 _ rfl
            · simp only [e5, if_false]
              simp only [show shw S j < shw S k by omega, if_true] at h1
              exact h1 _ rfl
    · intro k1 h1
      simp only [jn]
      by_cases e1 : ax S k = x
      · simp only [e1, if_true]
        by_cases e2 : up S k = par
        · simp only [e2, if_true]
          rw [ht k hk, if_pos e1]
          simp (disch := omega) only [zcmp, zari, z00, zm1, le_n, lt_n, eq_n, n_add, n_mul, n_c, n_in, true_and, and_true, if_true, if_false, bi_0, bi_1, ite_true, ite_false, Bool.true_eq_false, Bool.false_eq_true, Nat.le_zero]
          by_cases e3 : shw S k = 0
          · simp only [e3, if_true]; exact h1 _ (by simp [bbp, e3, bi])
          · simp only [e3, if_false]; exact h1 _ (by simp [bbp, e1, e2, bi, show 0 < shw S k by omega])
        · simp only [e2, if_false]; exact h1 _ (by simp [bbp, e2, bi])
      · simp only [e1, if_false]; exact h1 _ (by simp [bbp, e1, bi])
  · rintro r _ rfl
    dsimp only
    simp (disch := omega) only [zcmp, zari, z00, zm1, le_n, lt_n, eq_n, n_add, n_mul, n_c, n_in, true_and, and_true, if_true, if_false, bi_0, bi_1, ite_true, ite_false, Bool.true_eq_false, Bool.false_eq_true, hM.1.2.1, Nat.le_refl]
    exact h
end
