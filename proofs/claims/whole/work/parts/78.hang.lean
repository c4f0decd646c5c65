section
variable {S : SS} {I : Nat → Int32} {L : Nat → Int64} {A : Nat → Nat → Int32} {B B0 : Nat → Nat → Int64}
/-- a category's level -/
def lev (S : SS) (t : Nat) : Nat := (chn (up S) 6 (up S t)).length
theorem lev_le (hW : wf S) {t : Nat} (ht : t < nC S) : lev S t ≤ 5 := (lev_ok hW ht).2
theorem c_height (hF : RF S I A B) (hW : wf S) {c : Nat} (hc : c < nC S) {post : Int32 → Prop} (h : ∀ m, m ≤ 5 → (∀ t, t < nC S → inb S t c = true → lev S t ≤ lev S c + m) → (∃ t, t < nC S ∧ inb S t c = true ∧ lev S t = lev S c + m) → post (nI m)) : wX2_height I L A B (nI c) post := by
  have hn := hW.1
  have hlc := lev_le hW hc
  unfold wX2_height
  refine c_level hF hW hc ?_
  show ∃ n, lfix _ n (0, nI (lev S c))
  refine lfix_for (nC S) (fun k (m : Nat) => (nI k, nI m)) (fun k m => m ≤ 5 ∧ lev S c ≤ m ∧ (∀ t, t < k → inb S t c = true → lev S t ≤ m) ∧ ∃ t, t < nC S ∧ inb S t c = true ∧ lev S t = m) 0 (lev S c) (Nat.zero_le _) ⟨hlc, Nat.le_refl _, fun t ht => absurd ht (Nat.not_lt_zero t), c, hc, inb_self S c, rfl⟩ ?_ ?_
  · rintro r k m hk ⟨g1, g2, g3, g4⟩ hr
    dsimp only
    have hlk := lev_le hW hk
    simp (disch := omega) only [zcmp, zari, z00, zm1, le_n, lt_n, eq_n, n_add, n_mul, n_c, n_in, true_and, and_true, if_true, if_false, bi_0, bi_1, ite_true, ite_false, Bool.true_eq_false, Bool.false_eq_true, hF.1, show ¬ nC S ≤ k by omega, bs_in _ (show k < 64 by omega), hF.2.2.2.1 c hc k (by omega)]
    cases e : (decide (k < nC S) && !(k == c) && inb S k c) with
    | false =>
      simp only [if_true]
      rintro _ rfl
      refine hr m ⟨g1, g2, fun t ht hi => ?_, g4⟩
      by_cases q : t = k
      · subst q
        by_cases q2 : t = c
        · rw [q2]; exact g2
        · rw [hi, bqf q2] at e
          simp [hk] at e
      · exact g3 t (by omega) hi
    | true =>
      have hi : inb S k c = true := by revert e; cases inb S k c <;> simp
      simp only [Bool.true_eq_false, if_false]
      refine c_level hF hW hk ?_
      rintro _ rfl _ rfl
      have e2 : (if nI m < nI (lev S k) then nI (lev S k) else nI m) = nI (max m (lev S k)) := by
        simp only [lt_n (show m < 2 ^ 31 by omega) (show lev S k < 2 ^ 31 by omega)]
        by_cases q : m < lev S k
        · rw [if_pos q, Nat.max_eq_right (by omega)]
        · rw [if_neg q, Nat.max_eq_left (by omega)]
      show r (nI (k + 1), if nI m < nI (lev S k) then nI (lev S k) else nI m)
      rw [e2]
      refine hr (max m (lev S k)) ⟨by omega, by omega, fun t ht hi2 => ?_, ?_⟩
      · by_cases q : t = k
        · rw [q]; omega
        · have := g3 t (by omega) hi2; omega
      · by_cases q : m < lev S k
        · exact ⟨k, hk, hi, by omega⟩
        · obtain ⟨t, h1, h2, h3⟩ := g4
          exact ⟨t, h1, h2, by omega⟩
  · rintro r m ⟨g1, g2, g3, t, h1, h2, h3⟩
    dsimp only
    simp (disch := omega) only [zcmp, zari, z00, zm1, le_n, lt_n, eq_n, n_add, n_mul, n_c, n_in, true_and, and_true, if_true, if_false, bi_0, bi_1, ite_true, ite_false, Bool.true_eq_false, Bool.false_eq_true, hF.1, Nat.le_refl]
    refine c_level hF hW hc ?_
    show post (nI m - nI (lev S c))
    rw [n_sub g2]
    exact h (m - lev S c) (by omega) (fun t ht hi => by have := g3 t ht hi; omega) ⟨t, h1, h2, by omega⟩
theorem c_gather2 (h1 : I 1 = nI (nC S)) (hW : wf S) (h37 : ∀ c, c < nC S → A 37 c = uI (up S c)) (h38 : ∀ c, c < nC S → bm (B 38 c) (fun t => decide (t < nC S) && !(t == c) && inb S t c)) (h39 : ∀ c, c < nC S → bm (B 39 c) (fun d => tg S d c)) {x : Option Nat} (hx : ∀ p, x = some p → p < nC S) {post : (Nat → Nat → Int64) → Prop}
    (h : ∀ B', (∀ c, c < nC S → c ∈ chn (up S) 6 x ∨ bm (B 40 c) (fun d => has S d c) → bm (B' 40 c) (fun d => has S d c)) → (∀ j, j ≠ 40 → B' j = B j) → (∀ c, nC S ≤ c → B' 40 c = B 40 c) → post B') : wX2_gather I L A B (uI x) post := by
  have hn := hW.1
  have hend : ends (up S) 6 x := x_ends hW hx
  unfold wX2_gather
  refine lfix_down (fun k (y : Option Nat × (Nat → Nat → Int64)) => (nI (6 - k), uI y.1, y.2)) (fun k y => k ≤ 6 ∧ ends (up S) k y.1 ∧ (∀ p, y.1 = some p → p < nC S) ∧ (∀ c, c < nC S → (c ∈ chn (up S) 6 x ∨ bm (B 40 c) (fun d => has S d c)) → c ∉ chn (up S) k y.1 → bm (y.2 40 c) (fun d => has S d c)) ∧ (∀ j, j ≠ 40 → y.2 j = B j) ∧ ∀ c, nC S ≤ c → y.2 40 c = B 40 c) 6 (x, B) ⟨Nat.le_refl _, hend, hx, fun c _ h8 h9 => h8.resolve_left h9, fun _ _ => rfl, fun _ _ => rfl⟩ ?_
  rintro r k ⟨y, B1⟩ ⟨g0, g1, g2, g3, g4, g5⟩ hr
  dsimp only at g1 g2 g3 g4 g5 ⊢
  cases y with
  | none =>
    have fin : post B1 := h B1 (fun c hc h8 => g3 c hc h8 (by rw [chn_none]; simp)) g4 g5
    simp (disch := omega) only [zcmp, zari, z00, zm1, le_n, lt_n, eq_n, n_add, n_mul, n_c, n_in, true_and, and_true, if_true, if_false, bi_0, bi_1, ite_true, ite_false, Bool.true_eq_false, Bool.false_eq_true]
    by_cases e : 5 < 6 - k
    · rw [if_pos e]; exact fin
    · rw [if_neg e, k_out h1 ou_uI]
      exact ite_p rfl fin
  | some p =>
    have hp := g2 p rfl
    obtain ⟨k', rfl⟩ : ∃ k', k = k' + 1 := by
      cases k with
      | zero => exact absurd g1 (fun q => q)
      | succ k' => exact ⟨k', rfl⟩
    simp (disch := omega) only [zcmp, zari, z00, zm1, le_n, lt_n, eq_n, n_add, n_mul, n_c, n_in, true_and, and_true, if_true, if_false, bi_0, bi_1, ite_true, ite_false, Bool.true_eq_false, Bool.false_eq_true, show ¬ 5 < 6 - (k' + 1) by omega, uI_s]
    rw [k_in h1 hW hp]
    refine ite_n (by decide) ?_
    try simp (disch := omega) only [zcmp, zari, z00, zm1, le_n, lt_n, eq_n, n_add, n_mul, n_c, n_in, true_and, and_true, if_true, if_false, bi_0, bi_1, ite_true, ite_false, Bool.true_eq_false, Bool.false_eq_true]
    rw [bs_bit]
    refine c_taggedIn h1 hW (fun c hc => by rw [g4 39 (by decide)]; exact h39 c hc) (bm_or (by rw [g4 38 (by decide)]; exact h38 p hp) (bm_bit (show p < 64 by omega))) (fun m hm => ?_)
    try simp (disch := omega) only [zcmp, zari, z00, zm1, le_n, lt_n, eq_n, n_add, n_mul, n_c, n_in, true_and, and_true, if_true, if_false, bi_0, bi_1, ite_true, ite_false, Bool.true_eq_false, Bool.false_eq_true, h37 p hp]
    rintro _ rfl _ rfl _ rfl
    have := hr k' (up S p, va_up B1 40 (vp_updL (B1 40) p m)) (by omega) ⟨by omega, g1, fun q hq => up_ok hW hp hq, fun c hc h8 hnc => ?_, fun j hj => (up_n _ _ hj).trans (g4 j hj), fun c hc => ?_⟩
    · dsimp only at this
      rw [show 6 - (k' + 1) + 1 = 6 - k' by omega]
      exact this
    · show bm (va_up B1 40 (vp_updL (B1 40) p m) 40 c) _
      rw [up_s]
      by_cases e : c = p
      · subst e
        rw [ul_s]
        refine bm_to hm (fun d _ => ?_)
        unfold has
        refine exb_cong (fun t ht => ?_)
        by_cases e2 : t = c
        · rw [e2, inb_self]; simp
        · rw [bqf e2]; simp [ht, Bool.and_comm]
      · rw [ul_n _ _ e]
        refine g3 c hc h8 (fun q => ?_)
        rw [chn] at q
        rcases List.mem_cons.mp q with q | q
        · exact e q
        · exact hnc q
    · show va_up B1 40 (vp_updL (B1 40) p m) 40 c = _
      rw [up_s, ul_n _ _ (by omega)]; exact g5 c hc
theorem c_hang (hF : RF S I A B) (hW : wf S) {c : Nat} {par : Option Nat} (hc : c < nC S) (hp : ∀ p, par = some p → p < nC S) (hpc : c ∉ chn (up S) 6 par) (hl : ∀ t, t < nC S → (chn (mvu (up S) c par) 12 (some t)).length ≤ 6) (hW' : wf (sMv S c par)) {post : (Nat → Nat → Int32) → (Nat → Nat → Int64) → Prop}
    (h : ∀ A' B', RF (sMv S c par) I A' B' → (∀ j, j ≠ 37 → A' j = A j) → post A' B') : wX2_hang I L A B (nI c) (uI par) post := by
  have hn := hW.1
  have huc : ∀ p, up S c = some p → p < nC S := fun p q => up_ok hW hc q
  have hue := up_ends hW hc
  have hm := bm_or (hF.2.2.2.1 c hc) (bm_bit (show c < 64 by omega))
  unfold wX2_hang
  simp (disch := omega) only [zcmp, zari, z00, zm1, le_n, lt_n, eq_n, n_add, n_mul, n_c, n_in, true_and, and_true, if_true, if_false, bi_0, bi_1, ite_true, ite_false, Bool.true_eq_false, Bool.false_eq_true, hF.2.2.1 c hc]
  rintro _ rfl
  rw [bs_bit]
  rintro m0 em
  have hm : bm m0 (fun t => decide (t < nC S) && inb S t c) := by
    rw [em]
    refine bm_to hm (fun t _ => ?_)
    by_cases q : t = c
    · rw [q, inb_self]; simp [hc]
    · rw [bqf q]; simp
  refine lfix_down (fun k (y : Option Nat × (Nat → Nat → Int64)) => (nI (6 - k), uI y.1, y.2)) (fun k y => k ≤ 6 ∧ ends (up S) k y.1 ∧ (∀ p, y.1 = some p → p < nC S) ∧ (∀ j, j ≠ 38 → y.2 j = B j) ∧ ∃ vis : Nat → Bool, (∀ e, decide (e ∈ chn (up S) 6 (up S c)) = (vis e || decide (e ∈ chn (up S) k y.1))) ∧ ∀ e, y.2 38 e = if vis e = true then B 38 e &&& (m0 ^^^ (-1)) else B 38 e) 6 (up S c, B) ⟨Nat.le_refl _, x_ends hW huc, huc, fun _ _ => rfl, fun _ => false, fun e => by simp, fun e => by simp⟩ ?_
  rintro r k ⟨y, B1⟩ ⟨g0, g1, g2, g3, vis, g4, g5⟩ hr
  dsimp only at g1 g2 g3 g4 g5 ⊢
  simp only [jn]
  cases y with
  | none =>
    have g6 : ∀ e, B1 38 e = if e ∈ chn (up S) 6 (up S c) then B 38 e &&& (m0 ^^^ (-1)) else B 38 e := fun e => by
      rw [g5 e]
      have := g4 e
      rw [chn_none] at this
      simp only [List.not_mem_nil, decide_false, Bool.or_false] at this
      rw [← this]
      simp
    have fin : (∀ A_1, A_1 = va_up A 37 (upd (A 37) c (uI par)) → wX2_hangUnder I L A_1 B1 (uI par) m0 (fun B_2 => wX2_gather I L A_1 B_2 (uI (up S c)) (fun B_3 => wX2_gather I L A_1 B_3 (uI par) (fun B_4 => post A_1 B_4)))) := by
      intro A1 ea
      have a37 : A1 37 = upd (A 37) c (uI par) := by rw [ea, up_s]
      have au : ∀ j, j ≠ 37 → A1 j = A j := fun j hj => by rw [ea, up_n _ _ hj]
      obtain ⟨f1, f2, f3, f4, f5, f6, f7⟩ := hF
      have h37 : ∀ t, t < nC (sMv S c par) → A1 37 t = uI (up (sMv S c par) t) := fun t ht => by
        rw [a37]
        show _ = uI (if t = c then par else up S t)
        by_cases e : t = c
        · rw [e, ud_s, if_pos rfl]
        · rw [ud_n _ _ e, if_neg e]; exact f3 t ht
      have ep : chn (up (sMv S c par)) 6 par = chn (up S) 6 par := (mv_no (par := par) 6 par (x_ends hW hp) hpc).2
      have eu : chn (up (sMv S c par)) 6 (up S c) = chn (up S) 6 (up S c) := (mv_no (par := par) 6 _ (x_ends hW huc) hue.2.1).2
      refine c_hangUnder (S := sMv S c par) f1 hW' h37 hp (fun B2 k1 k2 => ?_)
      have k3 : ∀ e, B2 38 e = if e ∈ chn (up S) 6 par then B1 38 e ||| m0 else B1 38 e := fun e => by rw [k1 e, ep]
      have k4 : ∀ j, j ≠ 38 → B2 j = B j := fun j hj => (k2 j hj).trans (g3 j hj)
      have h38 : ∀ e, e < nC (sMv S c par) → bm (B2 38 e) (fun t => decide (t < nC (sMv S c par)) && !(t == e) && inb (sMv S c par) t e) := by
        intro e he t ht
        have hb := f4 e he t ht
        have hmt := hm t ht
        show _ = (decide (t < nC S) && !(t == e) && inb (sMv S c par) t e)
        by_cases et : t < nC S
        · rw [inb_mv hW hc hp hpc hl et e, k3 e, g6 e]
          dsimp only at hb hmt
          -- e itself is no branch of its own old or new chain, when it is moved
          have no : inb S t c = true → t = e → e ∉ chn (up S) 6 par ∧ e ∉ chn (up S) 6 (up S c) := by
            intro q1 q2
            subst q2
            refine ⟨fun q => hpc ?_, fun q => hue.2.1 ?_⟩
            · obtain ⟨pre, F', h1, h2, h3⟩ := chn_suf 6 par (x_ends hW hp) q
              have : c ∈ chn (up S) 6 (some t) := by unfold inb at q1; simpa using q1
              rw [(ends_more h3 6 (by omega)).2] at this
              rw [h2]
              exact List.mem_append_right _ this
            · obtain ⟨pre, F', h1, h2, h3⟩ := chn_suf 6 (up S c) (x_ends hW huc) q
              have : c ∈ chn (up S) 6 (some t) := by unfold inb at q1; simpa using q1
              rw [(ends_more h3 6 (by omega)).2] at this
              rw [h2]
              exact List.mem_append_right _ this
          by_cases q1 : e ∈ chn (up S) 6 par <;> by_cases q2 : e ∈ chn (up S) 6 (up S c) <;> cases q3 : inb S t c <;> by_cases q4 : t = e <;> first
            | exact absurd q1 (no q3 q4).1
            | exact absurd q2 (no q3 q4).2
            | (simp only [q1, q2, q3, if_true, if_false, tb_or, tb_and, tb_not _ ht, hb, hmt, Bool.false_eq_true]; try simp [q4, et])
        · have e1 : tb (B 38 e) t = false := by rw [hb]; simp [et]
          have e2 : tb m0 t = false := by rw [hmt]; simp [et]
          rw [k3 e, g6 e]
          have e3 : ∀ X : Int64, tb X t = false → tb (X &&& (m0 ^^^ (-1))) t = false := fun X hX => by rw [tb_and, hX]; rfl
          have e4 : ∀ X : Int64, tb X t = false → tb (X ||| m0) t = false := fun X hX => by rw [tb_or, hX, e2]; rfl
          have : tb (if e ∈ chn (up S) 6 par then (if e ∈ chn (up S) 6 (up S c) then B 38 e &&& (m0 ^^^ (-1)) else B 38 e) ||| m0 else if e ∈ chn (up S) 6 (up S c) then B 38 e &&& (m0 ^^^ (-1)) else B 38 e) t = false := by
            split
            · refine e4 _ ?_
              split
              · exact e3 _ e1
              · exact e1
            · split
              · exact e3 _ e1
              · exact e1
          rw [this]
          simp [et]
      have h39 : ∀ e, e < nC (sMv S c par) → bm (B2 39 e) (fun d => tg (sMv S c par) d e) := fun e he => by rw [k4 39 (by decide)]; exact f5 e he
      refine c_gather2 (S := sMv S c par) f1 hW' h37 h38 h39 huc (fun B3 j1 j2 j3 => ?_)
      refine c_gather2 (S := sMv S c par) f1 hW' h37 (fun e he => by rw [j2 38 (by decide)]; exact h38 e he) (fun e he => by rw [j2 39 (by decide)]; exact h39 e he) hp (fun B4 l1 l2 l3 => ?_)
      refine h A1 B4 ⟨f1, fun t ht => by rw [au 36 (by decide)]; exact f2 t ht, h37, fun e he => by rw [l2 38 (by decide), j2 38 (by decide)]; exact h38 e he, fun e he => by rw [l2 39 (by decide), j2 39 (by decide)]; exact h39 e he, fun e he => ?_, fun e h8 h9 => ?_⟩ au
      · refine l1 e he ?_
        by_cases q1 : e ∈ chn (up S) 6 par
        · exact Or.inl (by rw [ep]; exact q1)
        · refine Or.inr (j1 e he ?_)
          by_cases q2 : e ∈ chn (up S) 6 (up S c)
          · exact Or.inl (by rw [eu]; exact q2)
          · refine Or.inr ?_
            rw [k4 40 (by decide)]
            refine bm_to (f6 e he) (fun d _ => ?_)
            exact (has_mv hW hc hp hpc hl q1 q2 d).symm
      · have h8' : nC S ≤ e := h8
        have q1 : e ∉ chn (up S) 6 par := fun q => by have := chn_lt hW 6 par hp _ q; omega
        have q2 : e ∉ chn (up S) 6 (up S c) := fun q => by have := chn_lt hW 6 _ huc _ q; omega
        rw [l2 38 (by decide), j2 38 (by decide), l2 39 (by decide), j2 39 (by decide), k4 39 (by decide), l3 e h8, j3 e h8, k4 40 (by decide), k3 e, if_neg q1, g6 e, if_neg q2]
        exact f7 e h8 h9
    simp (disch := omega) only [zcmp, zari, z00, zm1, le_n, lt_n, eq_n, n_add, n_mul, n_c, n_in, true_and, and_true, if_true, if_false, bi_0, bi_1, ite_true, ite_false, Bool.true_eq_false, Bool.false_eq_true]
    by_cases e : 5 < 6 - k
    · rw [if_pos e]; exact fin
    · rw [if_neg e, k_out hF.1 ou_uI]
      exact ite_p rfl fin
  | some p =>
    have hp1 := g2 p rfl
    obtain ⟨k', rfl⟩ : ∃ k', k = k' + 1 := by
      cases k with
      | zero => exact absurd g1 (fun q => q)
      | succ k' => exact ⟨k', rfl⟩
    simp (disch := omega) only [zcmp, zari, z00, zm1, le_n, lt_n, eq_n, n_add, n_mul, n_c, n_in, true_and, and_true, if_true, if_false, bi_0, bi_1, ite_true, ite_false, Bool.true_eq_false, Bool.false_eq_true, show ¬ 5 < 6 - (k' + 1) by omega, uI_s]
    rw [k_in hF.1 hW hp1]
    refine ite_n (by decide) ?_
    try simp (disch := omega) only [zcmp, zari, z00, zm1, le_n, lt_n, eq_n, n_add, n_mul, n_c, n_in, true_and, and_true, if_true, if_false, bi_0, bi_1, ite_true, ite_false, Bool.true_eq_false, Bool.false_eq_true, hF.2.2.1 p hp1]
    rintro _ rfl _ rfl _ rfl
    have := hr k' (up S p, va_up B1 38 (vp_updL (B1 38) p (B1 38 p &&& (m0 ^^^ (-1))))) (by omega) ⟨by omega, g1, fun q hq => up_ok hW hp1 hq, fun j hj => (up_n _ _ hj).trans (g3 j hj), fun e => vis e || e == p, fun e => ?_, fun e => ?_⟩
    · dsimp only at this
      rw [show 6 - (k' + 1) + 1 = 6 - k' by omega]
      exact this
    · rw [g4 e, chn]
      dsimp only
      by_cases q : e = p
      · simp [q]
      · rw [bqf q, Bool.or_false]; simp [q]
    · show va_up B1 38 (vp_updL (B1 38) p (B1 38 p &&& (m0 ^^^ (-1)))) 38 e = _
      rw [up_s]
      by_cases q : e = p
      · subst q
        rw [ul_s, g5 e]
        refine Eq.trans ?_ (if_pos (show (vis e || e == e) = true by simp)).symm
        cases vis e with
        | true => rw [if_pos rfl]; exact tb_ext (fun i hi => by rw [tb_and, tb_and, tb_not _ hi]; cases tb (B 38 e) i <;> cases tb m0 i <;> rfl)
        | false => rw [if_neg (by decide)]
      · rw [ul_n _ _ q, g5 e]
        have : (vis e || e == p) = vis e := by rw [bqf q, Bool.or_false]
        dsimp only
        simp only [this]
end
