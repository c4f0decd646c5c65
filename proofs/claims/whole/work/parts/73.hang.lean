section
variable {S : SS} {I : Nat → Int32} {L : Nat → Int64} {A : Nat → Nat → Int32} {B B0 : Nat → Nat → Int64}
theorem c_hangUnder (h1 : I 1 = nI (nC S)) (hW : wf S) (h37 : ∀ c, c < nC S → A 37 c = uI (up S c)) {x : Option Nat} {m : Int64} (hx : ∀ p, x = some p → p < nC S) {post : (Nat → Nat → Int64) → Prop}
    (h : ∀ B', (∀ e, B' 38 e = if e ∈ chn (up S) 6 x then B 38 e ||| m else B 38 e) → (∀ j, j ≠ 38 → B' j = B j) → post B') : wX2_hangUnder I L A B (uI x) m post := by
  have hn := hW.1
  have hend : ends (up S) 6 x := by
    cases x with
    | none => exact trivial
    | some p => exact (hW.2.2.1 p (hx p rfl)).2.2.1
  unfold wX2_hangUnder
  refine lfix_down (fun k (y : Option Nat × (Nat → Nat → Int64)) => (nI (6 - k), uI y.1, y.2)) (fun k y => k ≤ 6 ∧ ends (up S) k y.1 ∧ (∀ p, y.1 = some p → p < nC S) ∧ (∀ j, j ≠ 38 → y.2 j = B j) ∧ ∃ vis : Nat → Bool, (∀ e, decide (e ∈ chn (up S) 6 x) = (vis e || decide (e ∈ chn (up S) k y.1))) ∧ ∀ e, y.2 38 e = if vis e = true then B 38 e ||| m else B 38 e) 6 (x, B) ⟨Nat.le_refl _, hend, hx, fun _ _ => rfl, fun _ => false, fun e => by simp, fun e => by simp⟩ ?_
  rintro r k ⟨y, B1⟩ ⟨g0, g1, g2, g3, vis, g4, g5⟩ hr
  dsimp only at g1 g2 g3 g4 g5 ⊢
  cases y with
  | none =>
    have fin : post B1 := h B1 (fun e => by
      rw [g5 e]
      have := g4 e
      rw [chn_none] at this
      simp only [List.not_mem_nil, decide_false, Bool.or_false] at this
      rw [← this]
      simp) g3
    simp (disch := omega) only [zcmp, zari, z00, zm1, le_n, lt_n, eq_n, n_add, n_mul, n_c, n_in, true_and, and_true, if_true, if_false, bi_0, bi_1, ite_true, ite_false, Bool.true_eq_false, Bool.false_eq_true]
    by_cases e : 5 < 6 - k
    · rw [if_pos e]; exact fin
    · rw [if_neg e, k_out h1 ou_uI]
      exact ite_p rfl fin
  | some p =>
    have hp := g2 p rfl
    obtain ⟨k', rfl⟩ : ∃ k', k = k' + 1 := by
      cases k with
      | zero => exact absurd g1 (fun q => q)
      | succ k' => exact ⟨k', rfl⟩
    simp (disch := omega) only [zcmp, zari, z00, zm1, le_n, lt_n, eq_n, n_add, n_mul, n_c, n_in, true_and, and_true, if_true, if_false, bi_0, bi_1, ite_true, ite_false, Bool.true_eq_false, Bool.false_eq_true, show ¬ 5 < 6 - (k' + 1) by omega, uI_s]
    rw [k_in h1 hW hp]
    refine ite_n (by decide) ?_
    try simp (disch := omega) only [zcmp, zari, z00, zm1, le_n, lt_n, eq_n, n_add, n_mul, n_c, n_in, true_and, and_true, if_true, if_false, bi_0, bi_1, ite_true, ite_false, Bool.true_eq_false, Bool.false_eq_true, h37 p hp]
    rintro _ rfl _ rfl _ rfl
    have := hr k' (up S p, va_up B1 38 (vp_updL (B1 38) p (B1 38 p ||| m))) (by omega) ⟨by omega, g1, fun q hq => up_ok hW hp hq, fun j hj => (up_n _ _ hj).trans (g3 j hj), fun e => vis e || e == p, fun e => ?_, fun e => ?_⟩
    · dsimp only at this
      rw [show 6 - (k' + 1) + 1 = 6 - k' by omega]
      exact this
    · rw [g4 e, chn]
      dsimp only
      by_cases q : e = p
      · simp [q]
      · rw [bqf q, Bool.or_false]; simp [q]
    · show va_up B1 38 (vp_updL (B1 38) p (B1 38 p ||| m)) 38 e = _
      rw [up_s]
      by_cases q : e = p
      · subst q
        rw [ul_s, g5 e]
        refine Eq.trans ?_ (if_pos (show (vis e || e == e) = true by simp)).symm
        cases vis e with
        | true => rw [if_pos rfl]; exact tb_ext (fun i _ => by rw [tb_or, tb_or]; cases tb (B 38 e) i <;> cases tb m i <;> rfl)
        | false => rw [if_neg (by decide)]
      · rw [ul_n _ _ q, g5 e]
        have : (vis e || e == p) = vis e := by rw [bqf q, Bool.or_false]
        dsimp only
        simp only [this]
end
