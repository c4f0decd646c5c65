def dueD (n frm lf : Nat) : Nat := if lf ≤ 1 then n - frm else due n frm lf
theorem eb_spec {s : Nat → Nat} {n frm lf : Nat} (hn : n ≤ 40) (h : frm ≤ n) : bnd s n (eb s n frm lf) = true ∧ frm + dueD n frm lf ≤ eb s n frm lf ∧ ∀ e, frm + dueD n frm lf ≤ e → bnd s n e = true → eb s n frm lf ≤ e := by
  unfold eb dueD
  by_cases e : lf ≤ 1
  · simp only [e, if_true]
    exact ⟨by simp [bnd], by omega, fun e h1 _ => by omega⟩
  · simp only [e, if_false]
    have b := due_le (lf := lf) h (by omega)
    have c : mn (frm + due n frm lf) n = frm + due n frm lf := by unfold mn; rw [if_neg (by omega)]
    rw [c]
    obtain ⟨a1, a2, a3, a4⟩ := nb_spec (s := s) (n := n) 41 (frm + due n frm lf) b (by omega)
    exact ⟨a1, a2, a4⟩
theorem dueD_le {n frm lf : Nat} (h : frm ≤ n) : frm + dueD n frm lf ≤ n := by
  unfold dueD
  split
  · omega
  · exact due_le h (by omega)
theorem dueD_pos {n frm lf : Nat} (h : frm < n) (hl : 1 ≤ lf) : 1 ≤ dueD n frm lf := by
  unfold dueD
  split
  · omega
  · exact due_pos h hl
theorem bc_none {s : Nat → Nat} {n k i : Nat} (h : ff (fun i => decide (n ≤ bf s n k i)) i = none) (h2 : n ≤ bf s n k i) (hi : i ≤ k) : bc s n k = i := by
  unfold bc
  have : ff (fun i => decide (n ≤ bf s n k i)) (i + 1) = some i := by rw [ff, h]; simp [h2]
  rw [ff_mono this (k + 1) (by omega)]
  rfl
section
variable {S : SS} {J : Nat → Int32} {E : Nat → Nat → Int32} {I : Nat → Int32} {L : Nat → Int64} {A : Nat → Nat → Int32} {B : Nat → Nat → Int64}
/-- the reference's bins are those of the row -/
def RB (E : Nat → Nat → Int32) (s : Nat → Nat) (n k m : Nat) : Prop := ∀ i, i < m → E 13 (3 * i) = sv (s (bf s n k i)) ∧ E 13 (3 * i + 1) = sv (s (bf s n k (i + 1) - 1)) ∧ E 13 (3 * i + 2) = nI (bf s n k (i + 1) - bf s n k i)
theorem m_numbersA (hM : RM S J E) (hW : wf S) {a : Nat} (ha : a < nA S) (hk2 : kd S a = 2) {post : (Nat → Int32) → (Nat → Nat → Int32) → Prop}
    (h : ∀ J' E', RM S J' E' → J' 6 = nI (fb_ct (qn S a a) (nD S)) → (∀ v, v < 1999 → E' 12 v = nI (fb_ct (fun d => qn S a a d && nq S a d == v) (nD S))) → J' 0 = J 0 → post J' E') : wX10_numbersOf J E (nI a) (nI a) post := by
  have q := m_numbersOf (b := a) hM hW ha hk2 h
  rw [enc_in (show a < 5 by have := hW.1; omega)] at q
  exact q
theorem m_binsOf (hM : RM S J E) (hW : wf S) {a k : Nat} (ha : a < nA S) (hk2 : kd S a = 2) (hk : k ≤ 8) (hk1 : 1 ≤ k) {s : Nat → Nat} {n : Nat} (hn : n = fb_ct (qn S a a) (nD S)) (hs : srt s n) (hh : ∀ v, hst s n v = fb_ct (fun d => qn S a a d && nq S a d == v) (nD S)) {post : Int32 → (Nat → Int32) → (Nat → Nat → Int32) → Prop} (h : ∀ J' E', RM S J' E' → J' 0 = J 0 → RB E' s n k (bc s n k) → post (nI (bc s n k)) J' E') : wX10_binsOf J E (nI a) (nI k) post := by
  have hW1 := hW.1
  have hn40 : n ≤ 40 := by rw [hn]; exact Nat.le_trans (fb_ct_le _ _) (by omega)
  unfold wX10_binsOf
  refine m_numbersA hM hW ha hk2 (fun J1 E1 hM1 j6 e12 j0 => ?_)
  rw [← hn] at j6
  have e12 : ∀ v, v < 1999 → E1 12 v = nI (hst s n v) := fun v hv => by rw [hh v]; exact e12 v hv
  have hMf : ∀ f, RM S J1 (va_up E1 13 f) := fun f => RM_E hW hM1 (fun j _ _ _ => up_n _ _ (by omega)) (fun i _ => by rw [up_n _ _ (by decide)])
  have E12f : ∀ f v, v < 1999 → va_up E1 13 f 12 v = nI (hst s n v) := fun f v hv => by rw [up_n _ _ (by decide)]; exact e12 v hv
  rintro _ rfl
  rw [j6]
  suffices H : ∃ m, lfix _ m ((fun i (y : Nat × (Nat → Int32)) => (nI y.1, nI i, nI (n - bf s n k i), va_up E1 13 y.2)) 0 (0, E1 13)) by
    dsimp only at H
    rw [va_self] at H
    exact H
  refine lfix_for k (fun i (y : Nat × (Nat → Int32)) => (nI y.1, nI i, nI (n - bf s n k i), va_up E1 13 y.2)) (fun i y => cum s n y.1 = bf s n k i ∧ y.1 ≤ 1999 ∧ ff (fun i => decide (n ≤ bf s n k i)) i = none ∧ RB (va_up E1 13 y.2) s n k i) 0 (0, E1 13) (Nat.zero_le _) ⟨cum_0 s n, Nat.zero_le _, rfl, fun i hi => absurd hi (Nat.not_lt_zero i)⟩ ?_ ?_
  · rintro r i ⟨v0, f0⟩ hi ⟨g1, g2, g3, g4⟩ hr
    dsimp only at g1 g2 g4 ⊢
    have hle := bf_le (s := s) (k := k) (show n ≤ 41 by omega) i
    simp (disch := omega) only [zcmp, zari, z00, zm1, le_n, lt_n, eq_n, n_add, n_mul, n_c, n_in, true_and, and_true, if_true, if_false, bi_0, bi_1, ite_true, ite_false, Bool.true_eq_false, Bool.false_eq_true, Nat.le_zero]
    by_cases e : n - bf s n k i = 0
    · simp only [e, if_true]
      have : bc s n k = i := bc_none g3 (by omega) (by omega)
      have h9 := h _ _ (hMf f0) j0
      rw [this] at h9
      exact h9 g4
    · simp only [e, if_false]
      have hD1 := dueD_pos (n := n) (frm := bf s n k i) (lf := k - i) (by omega) (by omega)
      have hD2 := dueD_le (n := n) (lf := k - i) hle
      obtain ⟨s1, s2, s3⟩ := eb_spec (s := s) (lf := k - i) hn40 hle
      have hbn : bf s n k (i + 1) = eb s n (bf s n k i) (k - i) := rfl
      refine jn_have (fun t => t = nI (dueD n (bf s n k i) (k - i))) ?_ ?_
      · rintro _ rfl
        rintro _ rfl
        rw [up_s, va_uu]
        refine lfix_for 1999 (fun v (y : Bool × (Nat → Int32)) => (bi y.1, nI (cum s n v - bf s n k i), nI v, va_up E1 13 y.2)) (fun v y => v0 ≤ v ∧ bf s n k i ≤ cum s n v ∧ y.1 = decide (cum s n v = bf s n k i) ∧ (∀ e, bf s n k i + dueD n (bf s n k i) (k - i) ≤ e → bnd s n e = true → cum s n v ≤ e) ∧ (∀ j, j < 3 * i → y.2 j = f0 j) ∧ (bf s n k i < cum s n v → y.2 (3 * i) = sv (s (bf s n k i)) ∧ y.2 (3 * i + 1) = sv (s (cum s n v - 1)))) v0 (true, upd f0 (3 * i) (-1)) g2 ⟨Nat.le_refl _, by omega, by simp [g1], fun e h1 _ => by omega, fun j hj => ud_n _ _ (by omega), fun q => by omega⟩ ?_ ?_ |> fun q => by
          dsimp only at q
          rw [g1, Nat.sub_self] at q
          exact q
        · rintro r2 v ⟨fs, f⟩ hv ⟨c1, c2, c3, c4, c5, c6⟩ hr2
          dsimp only at c3 c5 c6 ⊢
          have hcn := cum_le s n v
          simp (disch := omega) only [zcmp, zari, z00, zm1, le_n, lt_n, eq_n, n_add, n_mul, n_c, n_in, true_and, and_true, if_true, if_false, bi_0, bi_1, ite_true, ite_false, Bool.true_eq_false, Bool.false_eq_true, E12f f v hv]
          by_cases e2 : dueD n (bf s n k i) (k - i) ≤ cum s n v - bf s n k i
          · simp only [e2, if_true]
            try simp (disch := omega) only [zcmp, zari, z00, zm1, le_n, lt_n, eq_n, n_add, n_mul, n_c, n_in, true_and, and_true, if_true, if_false, bi_0, bi_1, ite_true, ite_false, Bool.true_eq_false, Bool.false_eq_true, show 3 * i + 2 < 24 by omega]
            rintro _ rfl _ rfl _ rfl
            rw [up_s, va_uu, n_sub (by omega)]
            have heq : cum s n v = bf s n k (i + 1) := by
              rw [hbn]
              exact Nat.le_antisymm (c4 _ s2 s1) (s3 _ (by omega) (bnd_cum hs v))
            have := hr (v, upd f (3 * i + 2) (nI (cum s n v - bf s n k i))) ⟨heq, by dsimp only; omega, by rw [ff, g3]; simp; omega, fun j hj => ?_⟩
            · dsimp only at this
              rw [show n - bf s n k i - (cum s n v - bf s n k i) = n - bf s n k (i + 1) by omega]
              exact this
            · rw [up_s]
              dsimp only
              by_cases e3 : j = i
              · subst e3
                rw [ud_n _ _ (show 3 * j ≠ 3 * j + 2 by omega), ud_n _ _ (show 3 * j + 1 ≠ 3 * j + 2 by omega), ud_s, ← heq]
                obtain ⟨d1, d2⟩ := c6 (by omega)
                exact ⟨d1, d2, rfl⟩
              · have g5 := g4 j (by omega)
                rw [up_s] at g5
                rw [ud_n _ _ (by omega), ud_n _ _ (by omega), ud_n _ _ (by omega), c5 _ (by omega), c5 _ (by omega), c5 _ (by omega)]
                exact g5
          · simp only [e2, if_false]
            have hst40 := hst_le s n v
            have hcs := cum_succ s n v
            simp (disch := omega) only [zcmp, zari, z00, zm1, le_n, lt_n, eq_n, n_add, n_mul, n_c, n_in, true_and, and_true, if_true, if_false, bi_0, bi_1, ite_true, ite_false, Bool.true_eq_false, Bool.false_eq_true, Nat.le_zero]
            by_cases e3 : hst s n v = 0
            · simp only [e3, if_true]
              rintro _ rfl
              have := hr2 (fs, f) ⟨by omega, by omega, by rw [hcs, e3]; exact c3, by rw [hcs, e3]; exact c4, c5, by rw [hcs, e3]; exact c6⟩
              rw [hcs, e3] at this
              exact this
            · simp only [e3, if_false]
              refine jn_have (fun t => t = sv (s (bf s n k i))) ?_ ?_
              · rintro _ rfl
                try simp (disch := omega) only [zcmp, zari, z00, zm1, le_n, lt_n, eq_n, n_add, n_mul, n_c, n_in, true_and, and_true, if_true, if_false, bi_0, bi_1, ite_true, ite_false, Bool.true_eq_false, Bool.false_eq_true, show 3 * i < 24 by omega, show 3 * i + 1 < 24 by omega]
                rintro _ rfl _ rfl
                rw [up_s, up_s, va_uu, va_uu]
                simp (disch := omega) only [zcmp, zari, z00, zm1, le_n, lt_n, eq_n, n_add, n_mul, n_c, n_in, true_and, and_true, if_true, if_false, bi_0, bi_1, ite_true, ite_false, Bool.true_eq_false, Bool.false_eq_true, E12f _ v hv]
                rintro _ rfl _ rfl
                have esv : nI v + (-999) = sv v := rfl
                have := hr2 (false, upd (upd f (3 * i) (sv (s (bf s n k i)))) (3 * i + 1) (sv v)) ⟨by omega, by omega, by simp; omega, fun e h1 h2 => bnd_gap hs h2 (by omega), fun j hj => by
                  show upd (upd f (3 * i) (sv (s (bf s n k i)))) (3 * i + 1) (sv v) j = f0 j
                  rw [ud_n _ _ (by omega), ud_n _ _ (by omega)]; exact c5 j hj, fun _ => ⟨by
                  show upd (upd f (3 * i) (sv (s (bf s n k i)))) (3 * i + 1) (sv v) (3 * i) = _
                  rw [ud_n _ _ (by omega), ud_s], by
                  show upd (upd f (3 * i) (sv (s (bf s n k i)))) (3 * i + 1) (sv v) (3 * i + 1) = _
                  rw [ud_s, in_hst hs (v := v) (by omega) (by omega)]⟩⟩
                dsimp only at this
                rw [hcs, show cum s n v + hst s n v - bf s n k i = cum s n v - bf s n k i + hst s n v by omega] at this
                exact this
              · intro k1 h1
                try simp (disch := omega) only [zcmp, zari, z00, zm1, le_n, lt_n, eq_n, n_add, n_mul, n_c, n_in, true_and, and_true, if_true, if_false, bi_0, bi_1, ite_true, ite_false, Bool.true_eq_false, Bool.false_eq_true, show 3 * i < 24 by omega]
                by_cases e4 : cum s n v = bf s n k i
                · have : fs = true := by rw [c3]; simp [e4]
                  simp only [this, Bool.true_eq_false, if_false]
                  refine h1 _ ?_
                  have : s (bf s n k i) = v := in_hst hs (by omega) (by omega)
                  rw [this]; rfl
                · have : fs = false := by rw [c3]; simp [e4]
                  simp only [this, if_true]
                  refine h1 _ ?_
                  rw [up_s]
                  exact (c6 (by omega)).1
        · rintro r2 ⟨fs, f⟩ ⟨c1, c2, c3, c4, c5, c6⟩
          dsimp only at c3 c5 c6 ⊢
          have hct := cum_top hs (Nat.le_refl 1999)
          rw [hct] at c2 c4 c6 ⊢
          simp (disch := omega) only [zcmp, zari, z00, zm1, le_n, lt_n, eq_n, n_add, n_mul, n_c, n_in, true_and, and_true, if_true, if_false, bi_0, bi_1, ite_true, ite_false, Bool.true_eq_false, Bool.false_eq_true, show dueD n (bf s n k i) (k - i) ≤ n - bf s n k i by omega, show 3 * i + 2 < 24 by omega]
          rintro _ rfl _ rfl _ rfl
          rw [up_s, va_uu, n_sub (by omega)]
          have heq : n = bf s n k (i + 1) := by
            rw [hbn]
            exact Nat.le_antisymm (c4 _ s2 s1) (eb_le (by omega))
          have := hr (1999, upd f (3 * i + 2) (nI (n - bf s n k i))) ⟨hct.trans heq, by dsimp only; omega, by rw [ff, g3]; simp; omega, fun j hj => ?_⟩
          · dsimp only at this
            rw [show n - bf s n k i - (n - bf s n k i) = n - bf s n k (i + 1) by omega]
            exact this
          · rw [up_s]
            dsimp only
            by_cases e3 : j = i
            · subst e3
              rw [ud_n _ _ (show 3 * j ≠ 3 * j + 2 by omega), ud_n _ _ (show 3 * j + 1 ≠ 3 * j + 2 by omega), ud_s, ← heq]
              obtain ⟨d1, d2⟩ := c6 (by omega)
              exact ⟨d1, d2, rfl⟩
            · have g5 := g4 j (by omega)
              rw [up_s] at g5
              rw [ud_n _ _ (by omega), ud_n _ _ (by omega), ud_n _ _ (by omega), c5 _ (by omega), c5 _ (by omega), c5 _ (by omega)]
              exact g5
      · intro k2 h2
        rw [zsub.1 k hk1]
        simp (disch := omega) only [zcmp, zari, z00, zm1, le_n, lt_n, eq_n, n_add, n_mul, n_c, n_in, true_and, and_true, if_true, if_false, bi_0, bi_1, ite_true, ite_false, Bool.true_eq_false, Bool.false_eq_true]
        by_cases e4 : i = k - 1
        · simp only [e4, if_true]
          rw [← e4]
          exact h2 _ (by unfold dueD; rw [if_pos (by omega)])
        · simp only [e4, if_false]
          rw [n_sub (show i ≤ k by omega), n_sub (show i ≤ n - bf s n k i + k by omega), zsub.1 _ (by omega), n_div (by omega) (by omega)]
          simp (disch := omega) only [zcmp, zari, z00, zm1, le_n, lt_n, eq_n, n_add, n_mul, n_c, n_in, true_and, and_true, if_true, if_false, bi_0, bi_1, ite_true, ite_false, Bool.true_eq_false, Bool.false_eq_true]
          refine ⟨by omega, h2 _ ?_⟩
          unfold dueD due
          rw [if_neg (by omega), show n - bf s n k i + k - i - 1 = n - bf s n k i + (k - i) - 1 by omega]
  · rintro r ⟨v0, f0⟩ ⟨g1, g2, g3, g4⟩
    dsimp only at g1 g2 g4 ⊢
    rw [bf_k hk1, Nat.sub_self]
    simp (disch := omega) only [zcmp, zari, z00, zm1, le_n, lt_n, eq_n, n_add, n_mul, n_c, n_in, true_and, and_true, if_true, if_false, bi_0, bi_1, ite_true, ite_false, Bool.true_eq_false, Bool.false_eq_true]
    have : bc s n k = k := bc_none g3 (by rw [bf_k hk1]; exact Nat.le_refl _) (Nat.le_refl _)
    have h9 := h _ _ (hMf f0) j0
    rw [this] at h9
    exact h9 g4
theorem c_canBin (hC : RC S I L A B) (hW : wf S) {a : Nat} (ha : a < nA S) (x : Int32) (post : Int32 → Prop) : wX9_canBin I L A B (nI a) x post = if kd S a = 2 then (if x < 1 then post 0 else if 8 < x then post 0 else post 1) else post 0 := by
  unfold wX9_canBin
  rw [c_isNum hC.2.2.1 hW ha]
  by_cases e : kd S a = 2
  · simp [e, bi]
  · simp [e, bi]
theorem c_canBin_o (hC : RC S I L A B) {x y : Int32} (h : ou x (nA S)) (post : Int32 → Prop) : wX9_canBin I L A B x y post = post 0 := by
  unfold wX9_canBin
  rw [c_isNum_o hC.2.2.1 h]
  simp
theorem m_isCut (hM : RM S J E) (hW : wf S) {a : Nat} (ha : a < nA S) (x : Int32) (post : Int32 → Prop) : wX10_isCut J E (nI a) x post = if kd S a = 2 then (if x < 1 then post 0 else if 8 < x then post 0 else post 1) else post 0 := by
  unfold wX10_isCut
  rw [m_isNum hM hW ha]
  simp only [m_within]
  by_cases e : kd S a = 2
  · simp [e, bi]
  · simp [e, bi]
theorem m_isCut_o (hM : RM S J E) {x y : Int32} (h : ou x (nA S)) (post : Int32 → Prop) : wX10_isCut J E x y post = post 0 := by
  unfold wX10_isCut
  rw [m_isNum_o hM h]
  simp
theorem cut_k {x : Int32} (h1 : ¬ x < 1) (h2 : ¬ 8 < x) : ∃ k, 1 ≤ k ∧ k ≤ 8 ∧ x = nI k := by
  have h0 : ¬ x < 0 := by
    rw [lt_i] at h1 ⊢
    have : (1 : Int32).toInt = 1 := by decide
    have : (0 : Int32).toInt = 0 := by decide
    omega
  obtain ⟨k, hk, rfl⟩ := nI_of h0
  simp (disch := omega) only [zcmp, zari, z00, zm1, le_n, lt_n, eq_n, n_add, n_mul, n_c, n_in, true_and, and_true, if_true, if_false, bi_0, bi_1, ite_true, ite_false, Bool.true_eq_false, Bool.false_eq_true] at h1 h2
  exact ⟨k, by omega, by omega, rfl⟩
theorem keep_row (hC : RC S I L A B) (hW : wf S) {I2 : Nat → Int32} {A2 : Nat → Nat → Int32} (k1 : ∀ j, j ≠ 5 → I2 j = I j) (k2 : ∀ j, j ≠ 49 → A2 j = A j) : RC S I2 L A2 B := keepC.RC (I := I) (L := L) (A := A) (B := B) ⟨fun k hk => k1 k (fun e => hk (by rw [e]; exact Or.inl rfl)), fun _ _ => rfl, fun k hk => k2 k (fun e => hk (by rw [e]; exact Or.inr (Or.inr (Or.inl rfl)))), fun _ _ _ => rfl⟩ hW hC
theorem t_bins (hC : RC S I L A B) (hM : RM S J E) (hW : wf S) (x y : Int32) {K : Int32 → Int32 → (Nat → Int32) → (Nat → Nat → Int32) → (Nat → Int32) → (Nat → Nat → Int32) → Prop} (hK : ∀ r I' A' J' E', RC S I' L A' B → RM S J' E' → K r r I' A' J' E') : wX9_bins I L A B x y (fun r I' A' => wX10_bins J E x y (fun r' J' E' => K r r' I' A' J' E')) := by
  have hn := hW.1
  have hM := RM_t hM 0
  unfold wX9_bins
  rcases ix x (n := nA S) (by omega) with h | ⟨a, ha, rfl⟩
  · rw [c_canBin_o hC h]
    simp only [z00, if_true]
    unfold wX10_bins
    rintro _ rfl
    rw [m_isCut_o hM h]
    simp only [z00, if_true]
    exact hK _ _ _ _ _ hC hM
  · rw [c_canBin hC hW ha]
    have no : (kd S a = 2 → y < 1 ∨ 8 < y) → wX10_bins J E (nI a) y (fun r' J' E' => K (-1) r' I A J' E') := by
      intro q
      unfold wX10_bins
      rintro _ rfl
      rw [m_isCut hM hW ha]
      by_cases e : kd S a = 2
      · rw [if_pos e]
        by_cases e1 : y < 1
        · simp only [e1, if_true]; exact hK _ _ _ _ _ hC hM
        · rcases q e with q | q
          · exact absurd q e1
          · simp only [e1, q, if_true, if_false]; exact hK _ _ _ _ _ hC hM
      · rw [if_neg e]
        simp only [if_true]; exact hK _ _ _ _ _ hC hM
    by_cases e : kd S a = 2
    · rw [if_pos e]
      by_cases e1 : y < 1
      · simp only [e1, if_true]; exact no (fun _ => Or.inl e1)
      · by_cases e2 : 8 < y
        · simp only [e1, e2, if_true, if_false]; exact no (fun _ => Or.inr e2)
        · obtain ⟨k, k1, k2, rfl⟩ := cut_k e1 e2
          simp only [e1, e2, if_false, z00]
          refine c_lift1 hC.2.1 hC.2.2.1 hC.2.2.2.2 hW ha (fun m hm => ?_)
          refine c_fillRow hC hW ha hm (fun s I' A' r1 r2 r3 r4 => ?_)
          have hn40 : fb_ct (qn S a a) (nD S) ≤ 40 := Nat.le_trans (fb_ct_le _ _) (by omega)
          refine c_howMany r1 hn40 k2 k1 ?_
          unfold wX10_bins
          rintro _ rfl
          rw [m_isCut hM hW ha]
          simp only [e, e1, e2, if_true, if_false, z00]
          refine m_binsOf hM hW ha e k2 k1 rfl (RV_srt r1) r2 (fun J' E' hM' _ _ => ?_)
          exact hK _ _ _ _ _ (keep_row hC hW r3 r4) hM'
    · rw [if_neg e]
      simp only [if_true]
      exact no (fun q => absurd q e)
end
