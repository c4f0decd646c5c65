def cok (h : Nat → Nat → Bool) (n frm c : Nat) (P T : Nat → Bool) : Prop := (∀ i, T i = true → frm ≤ i ∧ i < n) ∧ fb_ct T n = c ∧ ∀ d, d < 64 → P d = true → ∃ i, i < n ∧ T i = true ∧ h i d = true
def minT (h : Nat → Nat → Bool) (n frm c : Nat) (P T : Nat → Bool) : Prop := cok h n frm c P T ∧ ∀ T', cok h n frm c P T' → (∀ i, T i = T' i) ∨ fsT n T T'
section
variable {h : Nat → Nat → Bool} {n : Nat}
theorem ct_i {i m : Nat} (hi : i < m) : fb_ct (fun j => j == i) m = 1 := ct_one hi (by simp) (fun k _ q => by simpa using q)
/-- with one more, below all -/
theorem cok_add {i c : Nat} {P T : Nat → Bool} (hi : i < n) (hT : cok h n (i + 1) c (fun d => P d && !h i d) T) : cok h n i (c + 1) P (fun j => j == i || T j) := by
  refine ⟨fun j hj => ?_, ?_, fun d hd hp => ?_⟩
  · by_cases e : j = i
    · omega
    · have : T j = true := by simpa [bqf e] using hj
      have := hT.1 j this; omega
  · rw [fb_ct_or (fun k _ q => by
      have e : k = i := by simpa using q.1
      have := (hT.1 k q.2).1
      omega), ct_i hi, hT.2.1]; omega
  · cases e : h i d with
    | true => exact ⟨i, hi, by simp, e⟩
    | false =>
      obtain ⟨k, k1, k2, k3⟩ := hT.2.2 d hd (by simp [hp, e])
      exact ⟨k, k1, by simp [k2], k3⟩
/-- without the lowest -/
theorem cok_sub {i c : Nat} {P T : Nat → Bool} (hi : i < n) (hT : cok h n i (c + 1) P T) (ht : T i = true) : cok h n (i + 1) c (fun d => P d && !h i d) (fun j => !(j == i) && T j) := by
  refine ⟨fun j hj => ?_, ?_, fun d hd hp => ?_⟩
  · simp only [Bool.and_eq_true, Bool.not_eq_true', beq_eq_false_iff_ne] at hj
    have := hT.1 j hj.2
    have := hj.1
    omega
  · have := ct_but hi ht
    rw [hT.2.1] at this
    omega
  · simp only [Bool.and_eq_true, Bool.not_eq_true'] at hp
    obtain ⟨k, k1, k2, k3⟩ := hT.2.2 d hd hp.1
    refine ⟨k, k1, ?_, k3⟩
    have : k ≠ i := fun e => by rw [e, hp.2] at k3; cases k3
    simp [this, k2]
theorem min_add {frm i c : Nat} {P T : Nat → Bool} (hi : i < n) (hf : frm ≤ i) (hlow : ∀ T', cok h n frm (c + 1) P T' → ∀ j, T' j = true → i ≤ j) (hT : minT h n (i + 1) c (fun d => P d && !h i d) T) : minT h n frm (c + 1) P (fun j => j == i || T j) := by
  have a := cok_add hi hT.1
  refine ⟨⟨fun j hj => by have := a.1 j hj; omega, a.2⟩, fun T' hT' => ?_⟩
  have hl := hlow T' hT'
  have hT2 : cok h n i (c + 1) P T' := ⟨fun j hj => ⟨hl j hj, (hT'.1 j hj).2⟩, hT'.2⟩
  cases e : T' i with
  | true =>
    rcases hT.2 _ (cok_sub hi hT2 e) with q | ⟨j, j1, j2, j3, j4⟩
    · refine Or.inl (fun j => ?_)
      by_cases e2 : j = i
      · rw [e2, e]; simp
      · have := q j
        dsimp only at this ⊢
        rw [this, bqf e2]; simp
    · refine Or.inr ⟨j, j1, by simp [j2], ?_, fun k hk => ?_⟩
      · have := (hT.1.1 j j2).1
        dsimp only at j3
        rw [bqf (show ¬ j = i by omega)] at j3
        simpa using j3
      · by_cases e2 : k = i
        · rw [e2, e]; simp
        · have := j4 k hk
          dsimp only at this ⊢
          rw [this, bqf e2]; simp
  | false =>
    refine Or.inr ⟨i, hi, by simp, e, fun k hk => ?_⟩
    have t1 : T k = false := by
      cases q : T k with
      | false => rfl
      | true => have := (hT.1.1 k q).1; omega
    have t2 : T' k = false := by
      cases q : T' k with
      | false => rfl
      | true => have := hl k q; omega
    dsimp only
    rw [t1, t2, bqf (show ¬ k = i by omega)]; rfl
variable {I : Nat → Int32} {L : Nat → Int64} {B : Nat → Nat → Int64}
theorem c_choose {num : Nat → Nat} (hn : n ≤ 12) (hI : I 6 = nI n) (h51 : ∀ i, i < n → bm (B 51 i) (h i)) (h52 : ∀ i, i < n → ∀ d, d < 64 → (tb (B 52 i) d = true ↔ ∃ k, i ≤ k ∧ k < n ∧ h k d = true)) : ∀ (c fuel frm place : Nat) (x : Int64) (P : Nat → Bool) (A : Nat → Nat → Int32) (post : Int32 → (Nat → Nat → Int32) → Prop), bm x P → (∀ i, i < n → A 50 i = nI (num i)) → c < fuel → place + c ≤ n → frm ≤ n →
    (∀ A' T, (∀ k, k ≠ 53 → A' k = A k) → (∀ j, j < place → A' 53 j = A 53 j) → minT h n frm c P T → (∀ i, i < n → T i = true → A' 53 (place + fb_ct T i) = nI (num i)) → post 1 A') →
    (∀ A', (∀ k, k ≠ 53 → A' k = A k) → (∀ j, j < place → A' 53 j = A 53 j) → (∀ T, ¬ cok h n frm c P T) → post 0 A') → wX1_choose fuel I L A B (nI frm) (nI place) (nI (place + c)) x post := by
  intro c
  induction c with
  | zero =>
    intro fuel frm place x P A post hx h50 hfu hpl hf h1 h0
    obtain ⟨d, rfl⟩ : ∃ d, fuel = d + 1 := ⟨fuel - 1, by omega⟩
    rw [wX1_choose]
    simp (disch := omega) only [zcmp, zari, z00, zm1, le_n, lt_n, eq_n, n_add, n_mul, n_c, n_in, true_and, and_true, if_true, if_false, bi_0, bi_1, ite_true, ite_false, Bool.true_eq_false, Bool.false_eq_true, Nat.add_zero, Nat.lt_irrefl, lc_0]
    have z : ∀ T, cok h n frm 0 P T → ∀ i, T i = false := fun T hT i => by
      cases e : T i with
      | false => rfl
      | true =>
        have := fb_ct_zero.mp hT.2.1 i (hT.1 i e).2
        rw [e] at this; cases this
    by_cases e : x = 0
    · simp only [e, if_true]
      have hP := (bm_eq0 hx) ▸ e
      refine h1 A (fun _ => false) (fun _ _ => rfl) (fun _ _ => rfl) ⟨⟨fun i q => (Bool.false_ne_true q).elim, ct_none (fun _ _ => rfl), fun d hd hp => ?_⟩, fun T' hT' => Or.inl (fun i => (z T' hT' i).symm)⟩ (fun i _ q => (Bool.false_ne_true q).elim)
      rw [hP d hd] at hp; cases hp
    · simp only [e, if_false]
      refine h0 A (fun _ _ => rfl) (fun _ _ => rfl) (fun T hT => e ?_)
      rw [bm_eq0 hx]
      intro d hd
      cases q : P d with
      | false => rfl
      | true =>
        obtain ⟨k, _, k2, _⟩ := hT.2.2 d hd q
        rw [z T hT k] at k2; cases k2
  | succ c ih =>
    intro fuel frm place x P A post hx h50 hfu hpl hf h1 h0
    obtain ⟨d, rfl⟩ : ∃ d, fuel = d + 1 := ⟨fuel - 1, by omega⟩
    rw [wX1_choose]
    simp (disch := omega) only [zcmp, zari, z00, zm1, le_n, lt_n, eq_n, n_add, n_mul, n_c, n_in, true_and, and_true, if_true, if_false, bi_0, bi_1, ite_true, ite_false, Bool.true_eq_false, Bool.false_eq_true, show place < place + (c + 1) by omega]
    refine lfix_for n (fun i (y : Nat → Nat → Int32) => (nI i, y)) (fun i y => frm ≤ i ∧ (∀ k, k ≠ 53 → y k = A k) ∧ (∀ j, j < place → y 53 j = A 53 j) ∧ ∀ T, cok h n frm (c + 1) P T → ∀ j, T j = true → i ≤ j) frm A hf ⟨Nat.le_refl _, fun _ _ => rfl, fun _ _ => rfl, fun T hT j hj => (hT.1 j hj).1⟩ ?_ ?_
    · rintro r i A2 hi ⟨g0, g1, g2, g3⟩ hr
      dsimp only
      simp (disch := omega) only [zcmp, zari, z00, zm1, le_n, lt_n, eq_n, n_add, n_mul, n_c, n_in, true_and, and_true, if_true, if_false, bi_0, bi_1, ite_true, ite_false, Bool.true_eq_false, Bool.false_eq_true, hI, show ¬ n ≤ i by omega, lc_0, g1 50 (by decide), h50 i hi]
      have hq : (x &&& (B 52 i ^^^ -1) = 0) = (∀ j, j < 64 → (P j && !tb (B 52 i) j) = false) := bm_eq0 (bm_and hx (bm_not (fun j _ => rfl)))
      by_cases e : x &&& (B 52 i ^^^ -1) = 0
      · simp only [e, if_true]
        rintro _ rfl
        rw [show place + (c + 1) = place + 1 + c by omega]
        refine ih d (i + 1) (place + 1) _ (fun d => P d && !h i d) _ _ (bm_and hx (bm_not (h51 i hi))) (fun j hj => by rw [up_n _ _ (by decide), g1 50 (by decide)]; exact h50 j hj) (by omega) (by omega) (by omega) (fun A' T k1 k2 k3 k4 => ?_) (fun A' k1 k2 k3 => ?_)
        · rw [if_neg (by decide)]
          have hT := min_add hi g0 g3 k3
          refine h1 A' _ (fun k hk => by rw [k1 k hk, up_n _ _ hk]; exact g1 k hk) (fun j hj => by rw [k2 j (by omega), up_s, ud_n _ _ (by omega)]; exact g2 j hj) hT (fun j hj ht => ?_)
          have cb : ∀ m, m ≤ i → fb_ct (fun j => j == i || T j) m = 0 := fun m hm => ct_none (fun k hk => by
            have : T k = false := by
              cases q : T k with
              | false => rfl
              | true => have := (k3.1.1 k q).1; omega
            rw [this, bqf (show ¬ k = i by omega)]; rfl)
          by_cases e2 : j = i
          · rw [e2, cb i (Nat.le_refl _), Nat.add_zero, k2 place (by omega), up_s, ud_s]
          · have t1 : T j = true := by simpa [bqf e2] using ht
            have t2 := (k3.1.1 j t1).1
            have : fb_ct (fun j => j == i || T j) j = 1 + fb_ct T j := by
              rw [fb_ct_or (fun k _ q => by
                have e : k = i := by simpa using q.1
                have := (k3.1.1 k q.2).1
                omega), ct_i (by omega)]
            rw [this, ← Nat.add_assoc]
            exact k4 j hj t1
        · simp only [if_true]
          rintro _ rfl
          refine hr A' ⟨by omega, fun k hk => by rw [k1 k hk, up_n _ _ hk]; exact g1 k hk, fun j hj => by rw [k2 j (by omega), up_s, ud_n _ _ (by omega)]; exact g2 j hj, fun T hT j hj => ?_⟩
          have := g3 T hT j hj
          by_cases e2 : j = i
          · rw [e2] at hj
            exact absurd (cok_sub hi ⟨fun j hj => ⟨g3 T hT j hj, (hT.1 j hj).2⟩, hT.2⟩ hj) (k3 _)
          · omega
      · simp only [e, if_false]
        refine h0 A2 g1 g2 (fun T hT => e ?_)
        rw [hq]
        intro j hj
        cases q : P j with
        | false => rfl
        | true =>
          obtain ⟨k, k1, k2, k3⟩ := hT.2.2 j hj q
          have := (h52 i hi j hj).mpr ⟨k, g3 T hT k k2, k1, k3⟩
          rw [this]; rfl
    · rintro r A2 ⟨g0, g1, g2, g3⟩
      dsimp only
      simp (disch := omega) only [zcmp, zari, z00, zm1, le_n, lt_n, eq_n, n_add, n_mul, n_c, n_in, true_and, and_true, if_true, if_false, bi_0, bi_1, ite_true, ite_false, Bool.true_eq_false, Bool.false_eq_true, hI, Nat.le_refl]
      refine h0 A2 g1 g2 (fun T hT => ?_)
      have : fb_ct T n = 0 := ct_none (fun k hk => by
        cases q : T k with
        | false => rfl
        | true => have := g3 T hT k q; omega)
      have := hT.2.1
      omega
theorem c_solve {num : Nat → Nat} {A : Nat → Nat → Int32} {x : Int64} {P : Nat → Bool} (hn : n ≤ 12) (hI : I 6 = nI n) (h51 : ∀ i, i < n → bm (B 51 i) (h i)) (hx : bm x P) (h50 : ∀ i, i < n → A 50 i = nI (num i)) {post : Int32 → (Nat → Nat → Int32) → (Nat → Nat → Int64) → Prop}
    (h1 : ∀ A' B' T c, (∀ k, k ≠ 53 → A' k = A k) → (∀ k, k ≠ 52 → B' k = B k) → c ≤ n → minT h n 0 c P T → (∀ c' T', c' < c → ¬ cok h n 0 c' P T') → (∀ i, i < n → T i = true → A' 53 (fb_ct T i) = nI (num i)) → post (nI c) A' B')
    (h0 : ∀ A' B', (∀ k, k ≠ 53 → A' k = A k) → (∀ k, k ≠ 52 → B' k = B k) → (∀ c T, c ≤ n → ¬ cok h n 0 c P T) → post (-1) A' B') : wX1_solve I L A B x post := by
  unfold wX1_solve
  simp (disch := omega) only [zcmp, zari, z00, zm1, le_n, lt_n, eq_n, n_add, n_mul, n_c, n_in, true_and, and_true, if_true, if_false, bi_0, bi_1, ite_true, ite_false, Bool.true_eq_false, Bool.false_eq_true, hI]
  rintro _ rfl _ rfl
  refine lfix_down (fun i (y : Nat → Nat → Int64) => (nI i - 1, y)) (fun i y => i ≤ n ∧ (∀ j, i ≤ j → j ≤ n → ∀ d, d < 64 → (tb (y 52 j) d = true ↔ ∃ k, j ≤ k ∧ k < n ∧ h k d = true)) ∧ ∀ k, k ≠ 52 → y k = B k) n (va_up B 52 (vp_updL (B 52) n 0)) ⟨Nat.le_refl _, fun j j1 j2 d hd => ?_, fun k hk => up_n _ _ hk⟩ ?_
  · rw [show j = n by omega, up_s, show vp_updL (B 52) n 0 n = 0 by simp [vp_updL], tb_0]
    exact ⟨fun q => absurd q (by decide), fun ⟨k, a, b, _⟩ => (by omega)⟩
  · rintro r i B2 ⟨g0, g1, g2⟩ hr
    dsimp only
    by_cases e : i = 0
    · subst e
      refine ite_p (show nI 0 - 1 < 0 by decide) ?_
      refine lfix_for (n + 1) (fun c (y : Nat → Nat → Int32) => (nI c, y)) (fun c y => (∀ k, k ≠ 53 → y k = A k) ∧ ∀ c' T', c' < c → ¬ cok h n 0 c' P T') 0 A (Nat.zero_le _) ⟨fun _ _ => rfl, fun c' _ q => by omega⟩ ?_ ?_
      · rintro r2 c A2 hc ⟨k1, k2⟩ hr2
        dsimp only
        simp (disch := omega) only [zcmp, zari, z00, zm1, le_n, lt_n, eq_n, n_add, n_mul, n_c, n_in, true_and, and_true, if_true, if_false, bi_0, bi_1, ite_true, ite_false, Bool.true_eq_false, Bool.false_eq_true, show ¬ n < c by omega]
        have := c_choose (h := h) (n := n) (L := L) (num := num) (I := I) (B := B2) hn hI (fun i hi => by rw [g2 51 (by decide)]; exact h51 i hi) (fun i hi => g1 i (Nat.zero_le _) (by omega)) c 14 0 0 x P A2 (fun r63 A_2 => if r63 = 0 then (∀ v3_3 : Int32, v3_3 = nI c + 1 → r2 (v3_3, A_2)) else (post (nI c) A_2 B2)) hx (fun i hi => by rw [k1 50 (by decide)]; exact h50 i hi) (by omega) (by omega) (by omega) (fun A' T q1 q2 q3 q4 => ?_) (fun A' q1 q2 q3 => ?_)
        · rw [Nat.zero_add] at this
          simp (disch := omega) only [zcmp, zari, z00, zm1, le_n, lt_n, eq_n, n_add, n_mul, n_c, n_in, true_and, and_true, if_true, if_false, bi_0, bi_1, ite_true, ite_false, Bool.true_eq_false, Bool.false_eq_true] at this
          exact this
        · rw [if_neg (by decide)]
          exact h1 A' B2 T c (fun k hk => (q1 k hk).trans (k1 k hk)) g2 (by omega) q3 k2 (fun i hi ht => by have := q4 i hi ht; rw [Nat.zero_add] at this; exact this)
        · rw [if_pos rfl]
          rintro _ rfl
          rw [show nI c + 1 = nI (c + 1) from n_add c 1]
          refine hr2 A' ⟨fun k hk => (q1 k hk).trans (k1 k hk), fun c' T' hc' => ?_⟩
          by_cases e2 : c' = c
          · rw [e2]; exact q3 T'
          · exact k2 c' T' (by omega)
      · rintro r2 A2 ⟨k1, k2⟩
        dsimp only
        simp (disch := omega) only [zcmp, zari, z00, zm1, le_n, lt_n, eq_n, n_add, n_mul, n_c, n_in, true_and, and_true, if_true, if_false, bi_0, bi_1, ite_true, ite_false, Bool.true_eq_false, Bool.false_eq_true, show n < n + 1 by omega]
        exact h0 A2 B2 k1 g2 (fun c T hc => k2 c T (by omega))
    · rw [zsub.1 i (by omega)]
      refine ite_n (nI_pos (show i - 1 < 2 ^ 31 by omega)) ?_
      simp (disch := omega) only [zcmp, zari, z00, zm1, le_n, lt_n, eq_n, n_add, n_mul, n_c, n_in, true_and, and_true, if_true, if_false, bi_0, bi_1, ite_true, ite_false, Bool.true_eq_false, Bool.false_eq_true, show i - 1 + 1 = i by omega]
      rintro _ rfl _ rfl
      rw [show nI (i - 1) + (-1) = nI (i - 1) - 1 by rw [Int32.sub_eq_add_neg]]
      refine hr (i - 1) _ (by omega) ⟨by omega, fun j j1 j2 d hd => ?_, fun k hk => by rw [up_n _ _ hk]; exact g2 k hk⟩
      rw [up_s]
      by_cases e2 : j = i - 1
      · rw [e2, show vp_updL (B2 52) (i - 1) (B2 52 i ||| B2 51 (i - 1)) (i - 1) = B2 52 i ||| B2 51 (i - 1) by simp [vp_updL], tb_or, Bool.or_eq_true, g1 i (Nat.le_refl _) (by omega) d hd, g2 51 (by decide), h51 (i - 1) (by omega) d hd]
        constructor
        · rintro (⟨k, a, b, c⟩ | q)
          · exact ⟨k, by omega, b, c⟩
          · exact ⟨i - 1, Nat.le_refl _, by omega, q⟩
        · rintro ⟨k, a, b, c⟩
          by_cases e3 : k = i - 1
          · rw [e3] at c; exact Or.inr c
          · exact Or.inl ⟨k, by omega, b, c⟩
      · rw [show vp_updL (B2 52) (i - 1) (B2 52 i ||| B2 51 (i - 1)) j = B2 52 j by simp [vp_updL, e2]]
        exact g1 j (by omega) j2 d hd
end
