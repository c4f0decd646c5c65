section
variable {S : SS} {I : Nat → Int32} {L : Nat → Int64} {A : Nat → Nat → Int32} {B B0 : Nat → Nat → Int64}
theorem k_in (h1 : I 1 = nI (nC S)) (hW : wf S) {a : Nat} (ha : a < nC S) (post : Int32 → Prop) : wX2_knows I L A B (nI a) post = post 1 := by
  have := hW.1
  unfold wX2_knows
  rw [h1, in_if ha (by omega)]
theorem k_out (h1 : I 1 = nI (nC S)) {x : Int32} (h : ou x (nC S)) (post : Int32 → Prop) : wX2_knows I L A B x post = post 0 := by
  unfold wX2_knows
  rw [h1, ou_if h]
theorem c_taggedIn (h1 : I 1 = nI (nC S)) (hW : wf S) (h39 : ∀ c, c < nC S → bm (B 39 c) (fun d => tg S d c)) {m : Int64} {q : Nat → Bool} (hm : bm m q) {post : Int64 → Prop} (h : ∀ m', bm m' (fun d => exb (fun t => q t && tg S d t) (nC S)) → post m') : wX2_taggedIn I L A B m post := by
  have hn := hW.1
  unfold wX2_taggedIn
  refine lfix_for (nC S) (fun k (y : Int64) => (nI k, y)) (fun k y => bm y (fun d => exb (fun t => q t && tg S d t) k)) 0 _ (Nat.zero_le _) (bm_0 (fun _ _ => rfl)) ?_ ?_
  · intro r k y hk hy hr
    dsimp only
    simp (disch := omega) only [zcmp, zari, z00, zm1, le_n, lt_n, eq_n, n_add, n_mul, n_c, n_in, true_and, and_true, if_true, if_false, bi_0, bi_1, ite_true, ite_false, Bool.true_eq_false, Bool.false_eq_true, h1, show ¬ nC S ≤ k by omega, bs_in _ (show k < 64 by omega), hm k (by omega)]
    cases e : q k with
    | false =>
      simp only [if_true]
      rintro _ rfl
      refine hr _ (bm_to hy (fun i _ => ?_))
      rw [exb, e]; simp
    | true =>
      simp only [Bool.true_eq_false, if_false]
      rintro _ rfl _ rfl
      refine hr _ (bm_to (bm_or hy (h39 k hk)) (fun i _ => ?_))
      rw [exb, e]; simp
  · intro r y hy
    dsimp only
    simp (disch := omega) only [zcmp, zari, z00, zm1, le_n, lt_n, eq_n, n_add, n_mul, n_c, n_in, true_and, and_true, if_true, if_false, bi_0, bi_1, ite_true, ite_false, Bool.true_eq_false, Bool.false_eq_true, h1, Nat.le_refl]
    exact h y hy
theorem c_gather (h1 : I 1 = nI (nC S)) (hW : wf S) (h37 : ∀ c, c < nC S → A 37 c = uI (up S c)) (h38 : ∀ c, c < nC S → bm (B 38 c) (fun t => decide (t < nC S) && !(t == c) && inb S t c)) (h39 : ∀ c, c < nC S → bm (B 39 c) (fun d => tg S d c)) {x : Option Nat} (hx : ∀ p, x = some p → p < nC S) (hg : ∀ c, c < nC S → c ∉ chn (up S) 6 x → bm (B 40 c) (fun d => has S d c)) {post : (Nat → Nat → Int64) → Prop}
    (h : ∀ B', (∀ c, c < nC S → c ∈ chn (up S) 6 x ∨ bm (B 40 c) (fun d => has S d c) → bm (B' 40 c) (fun d => has S d c)) → (∀ j, j ≠ 40 → B' j = B j) → (∀ c, nC S ≤ c → B' 40 c = B 40 c) → post B') : wX2_gather I L A B (uI x) post := by
  have hn := hW.1
  have hend : ends (up S) 6 x := by
    cases x with
    | none => exact trivial
    | some p => exact (hW.2.2.1 p (hx p rfl)).2.2.1
  unfold wX2_gather
  refine lfix_down (fun k (y : Option Nat × (Nat → Nat → Int64)) => (nI (6 - k), uI y.1, y.2)) (fun k y => k ≤ 6 ∧ ends (up S) k y.1 ∧ (∀ p, y.1 = some p → p < nC S) ∧ (∀ c, c < nC S → c ∉ chn (up S) k y.1 → bm (y.2 40 c) (fun d => has S d c)) ∧ (∀ j, j ≠ 40 → y.2 j = B j) ∧ ∀ c, nC S ≤ c → y.2 40 c = B 40 c) 6 (x, B) ⟨Nat.le_refl _, hend, hx, hg, fun _ _ => rfl, fun _ _ => rfl⟩ ?_
  rintro r k ⟨y, B1⟩ ⟨g0, g1, g2, g3, g4, g5⟩ hr
  dsimp only at g1 g2 g3 g4 g5 ⊢
  cases y with
  | none =>
    have fin : post B1 := h B1 (fun c hc _ => g3 c hc (by rw [chn_none]; simp)) g4 g5
    simp (disch := omega) only [zcmp, zari, z00, zm1, le_n, lt_n, eq_n, n_add, n_mul, n_c, n_in, true_and, and_true, if_true, if_false, bi_0, bi_1, ite_true, ite_false, Bool.true_eq_false, Bool.false_eq_true]
    by_cases e : 5 < 6 - k
    · rw [if_pos e]; exact fin
    · rw [if_neg e, k_out h1 ou_uI]
      exact ite_p rfl fin
  | some p =>
    have hp := g2 p rfl
    obtain ⟨k', rfl⟩ : ∃ k', k = k' + 1 := by
      cases k with
      | zero => exact absurd g1 (fun q => q)
      | succ k' => exact ⟨k', rfl⟩
    simp (disch := omega) only [zcmp, zari, z00, zm1, le_n, lt_n, eq_n, n_add, n_mul, n_c, n_in, true_and, and_true, if_true, if_false, bi_0, bi_1, ite_true, ite_false, Bool.true_eq_false, Bool.false_eq_true, show ¬ 5 < 6 - (k' + 1) by omega, uI_s]
    rw [k_in h1 hW hp]
    refine ite_n (by decide) ?_
    try simp (disch := omega) only [zcmp, zari, z00, zm1, le_n, lt_n, eq_n, n_add, n_mul, n_c, n_in, true_and, and_true, if_true, if_false, bi_0, bi_1, ite_true, ite_false, Bool.true_eq_false, Bool.false_eq_true]
    rw [bs_bit]
    refine c_taggedIn h1 hW (fun c hc => by rw [g4 39 (by decide)]; exact h39 c hc) (bm_or (by rw [g4 38 (by decide)]; exact h38 p hp) (bm_bit (show p < 64 by omega))) (fun m hm => ?_)
    try simp (disch := omega) only [zcmp, zari, z00, zm1, le_n, lt_n, eq_n, n_add, n_mul, n_c, n_in, true_and, and_true, if_true, if_false, bi_0, bi_1, ite_true, ite_false, Bool.true_eq_false, Bool.false_eq_true, h37 p hp]
    rintro _ rfl _ rfl _ rfl
    have := hr k' (up S p, va_up B1 40 (vp_updL (B1 40) p m)) (by omega) ⟨by omega, g1, fun q hq => up_ok hW hp hq, fun c hc hnc => ?_, fun j hj => (up_n _ _ hj).trans (g4 j hj), fun c hc => ?_⟩
    · dsimp only at this
      rw [show 6 - (k' + 1) + 1 = 6 - k' by omega]
      exact this
    · show bm (va_up B1 40 (vp_updL (B1 40) p m) 40 c) _
      rw [up_s]
      by_cases e : c = p
      · subst e
        rw [ul_s]
        refine bm_to hm (fun d _ => ?_)
        unfold has
        refine exb_cong (fun t ht => ?_)
        by_cases e2 : t = c
        · rw [e2, inb_self]; simp
        · rw [bqf e2]; simp [ht, Bool.and_comm]
      · rw [ul_n _ _ e]
        refine g3 c hc (fun q => ?_)
        rw [chn] at q
        rcases List.mem_cons.mp q with q | q
        · exact e q
        · exact hnc q
    · show va_up B1 40 (vp_updL (B1 40) p m) 40 c = _
      rw [up_s, ul_n _ _ (by omega)]; exact g5 c hc
end
