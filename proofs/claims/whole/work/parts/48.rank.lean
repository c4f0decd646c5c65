theorem lfix_down {α β : Type} {b : (α → Prop) → α → Prop} (st : Nat → β → α) (J : Nat → β → Prop) (k0 : Nat) (y0 : β) (hJ : J k0 y0) (hs : ∀ (r : α → Prop) (k : Nat) (y : β), J k y → (∀ k' y', k' < k → J k' y' → r (st k' y')) → b r (st k y)) : ∃ n, lfix b n (st k0 y0) := by
  have H : ∀ n k y, k < n → J k y → lfix b n (st k y) := by
    intro n
    induction n with
    | zero => intro k y h; omega
    | succ n ih => intro k y h hy; exact hs _ k y hy (fun k' y' h' hy' => ih k' y' (by omega) hy')
  exact ⟨k0 + 1, H _ k0 y0 (by omega) hJ⟩
/-- more points, or as many and lower -/
def gtp (pts : Nat → Nat) (a b : Nat) : Bool := decide (pts b < pts a) || (pts a == pts b && decide (a < b))
theorem gtp_iff {pts : Nat → Nat} {a b : Nat} : gtp pts a b = true ↔ pts b < pts a ∨ (pts a = pts b ∧ a < b) := by simp [gtp]
theorem gtp_irr (pts : Nat → Nat) (a : Nat) : gtp pts a a = false := by simp [gtp]
theorem gtp_asy {pts : Nat → Nat} {a b : Nat} (h : gtp pts a b = true) : gtp pts b a = false := by
  cases e : gtp pts b a with
  | false => rfl
  | true => rw [gtp_iff] at h e; omega
theorem gtp_tot {pts : Nat → Nat} {a b : Nat} (h : a ≠ b) (h2 : gtp pts a b = false) : gtp pts b a = true := by
  cases e : gtp pts b a with
  | true => rfl
  | false =>
    have n1 : ¬ (pts b < pts a ∨ (pts a = pts b ∧ a < b)) := by rw [← gtp_iff, h2]; exact fun q => by cases q
    have n2 : ¬ (pts a < pts b ∨ (pts b = pts a ∧ b < a)) := by rw [← gtp_iff, e]; exact fun q => by cases q
    omega
theorem gtp_tr {pts : Nat → Nat} {a b c : Nat} (h : gtp pts a b = true) (h2 : gtp pts b c = true) : gtp pts a c = true := by rw [gtp_iff] at *; omega
/-- all of a set, each before those that it is ahead of -/
def enm (q : Nat → Bool) (N : Nat) (gt : Nat → Nat → Bool) (f : Nat → Nat) (m : Nat) : Prop := (∀ i, i < m → f i < N ∧ q (f i) = true) ∧ (∀ i j, i < j → j < m → gt (f i) (f j) = true) ∧ ∀ e, e < N → q e = true → ∃ i, i < m ∧ f i = e
theorem en_inj {q : Nat → Bool} {N m : Nat} {gt : Nat → Nat → Bool} {f : Nat → Nat} (irr : ∀ a, gt a a = false) (h : enm q N gt f m) {i j : Nat} (hi : i < m) (hj : j < m) (e : f i = f j) : i = j := by
  rcases Nat.lt_trichotomy i j with q1 | q1 | q1
  · have := h.2.1 i j q1 hj; rw [e, irr] at this; cases this
  · exact q1
  · have := h.2.1 j i q1 hi; rw [e, irr] at this; cases this
theorem ct_en {q : Nat → Bool} {N m : Nat} {gt : Nat → Nat → Bool} {f : Nat → Nat} (irr : ∀ a, gt a a = false) (h : enm q N gt f m) (g : Nat → Bool) : fb_ct (fun e => q e && g e) N = fb_ct (fun j => g (f j)) m := by
  have key : ∀ n, n ≤ N → fb_ct (fun e => q e && g e) n = fb_ct (fun j => decide (f j < n) && g (f j)) m := by
    intro n
    induction n with
    | zero => intro _; rw [ct_none (n := m) (fun k _ => by simp)]; rfl
    | succ n ih =>
      intro hn
      rw [fb_ct_succ, ih (by omega)]
      have e : fb_ct (fun j => decide (f j < n + 1) && g (f j)) m = fb_ct (fun j => (decide (f j < n) && g (f j)) || (f j == n && g n)) m := fb_ct_cong (fun j _ => by
        by_cases e1 : f j = n
        · rw [e1]; simp
        · by_cases e2 : f j < n
          · simp [e2, bqf e1, show f j < n + 1 by omega]
          · simp [e2, bqf e1, show ¬ f j < n + 1 by omega])
      rw [e, fb_ct_or (fun j _ hh => by
        simp only [Bool.and_eq_true, decide_eq_true_eq, beq_iff_eq] at hh
        omega)]
      congr 1
      cases e1 : q n with
      | false =>
        rw [ct_none (n := m)]
        · simp
        · intro j hj
          cases e2 : (f j == n) with
          | false => simp
          | true =>
            have : f j = n := by simpa using e2
            have h2 := (h.1 j hj).2
            rw [this, e1] at h2; cases h2
      | true =>
        cases e3 : g n with
        | false => rw [ct_none (n := m) (fun k _ => by simp)]; simp
        | true =>
          obtain ⟨i, hi, h2⟩ := h.2.2 n (by omega) e1
          rw [ct_one (n := m) hi (by simp [h2])]
          · simp
          · intro k hk h3
            simp only [Bool.and_true, beq_iff_eq] at h3
            exact en_inj irr h hk hi (by rw [h3, h2])
  rw [key N (Nat.le_refl _)]
  exact fb_ct_cong (fun j hj => by simp [(h.1 j hj).1])
theorem rk_en {q : Nat → Bool} {N m : Nat} {gt : Nat → Nat → Bool} {f : Nat → Nat} (irr : ∀ a, gt a a = false) (asy : ∀ a b, gt a b = true → gt b a = false) (h : enm q N gt f m) {i : Nat} (hi : i < m) : fb_ct (fun e => q e && gt e (f i)) N = i := by
  rw [ct_en irr h (fun e => gt e (f i))]
  rw [fb_ct_cong (q := fun j => decide (j < i)) (fun j hj => by
    rcases Nat.lt_trichotomy j i with q1 | q1 | q1
    · simp [q1, h.2.1 j i q1 hi]
    · rw [q1, irr]; simp
    · rw [asy _ _ (h.2.1 i j q1 hj)]; simp; omega)]
  exact ct_lt (by omega)
theorem en_size {q : Nat → Bool} {N m : Nat} {gt : Nat → Nat → Bool} {f : Nat → Nat} (irr : ∀ a, gt a a = false) (h : enm q N gt f m) : m = fb_ct q N := by
  have := ct_en irr h (fun _ => true)
  simp only [Bool.and_true] at this
  rw [this]
  exact (fb_ct_all.mpr (fun _ _ => rfl)).symm
/-- one taken from its place to another before it -/
def insf (f : Nat → Nat) (frm p : Nat) (i : Nat) : Nat := if i < p then f i else if i = p then f frm else if i ≤ frm then f (i - 1) else f i
section
variable {I : Nat → Int32} {L : Nat → Int64} {A : Nat → Nat → Int32} {B : Nat → Nat → Int64}
theorem c_rkAhead {k0 : Nat} {pts : Nat → Nat} {a b : Nat} (ha : a < 40) (hb : b < 40) (h1 : A (k0 + 36) a = nI (pts a)) (h2 : A (k0 + 36) b = nI (pts b)) (hp : ∀ c, pts c < 2 ^ 31) (post : Int32 → Prop) : wX3_isAhead I L A B k0 (nI a) (nI b) post = post (bi (gtp pts a b)) := by
  have p1 := hp a
  have p2 := hp b
  unfold wX3_isAhead
  simp (disch := omega) only [zcmp, zari, z00, zm1, le_n, lt_n, eq_n, n_add, n_mul, n_c, n_in, true_and, and_true, if_true, if_false, bi_0, bi_1, ite_true, ite_false, Bool.true_eq_false, Bool.false_eq_true, h1, h2]
  unfold gtp
  by_cases q1 : pts b < pts a
  · simp [q1, bi]
  · by_cases q2 : pts a = pts b
    · by_cases q3 : a < b
      · simp [q2, q3, show ¬ b ≤ a by omega, bi]
      · simp [q2, q3, show b ≤ a by omega, bi]
    · simp [q1, q2, bi]
theorem c_rise {k0 : Nat} {pts f : Nat → Nat} {n frm : Nat} (hn : n ≤ 40) (hfrm : frm < n) (hw : ∀ i, i < n → A (k0 + 34) i = nI (f i)) (hf : ∀ i, i < n → f i < 40) (hpt : ∀ i, i < n → A (k0 + 36) (f i) = nI (pts (f i))) (hp : ∀ c, pts c < 2 ^ 31) {post : (Nat → Nat → Int32) → Prop}
    (h : ∀ (p : Nat) (A' : Nat → Nat → Int32), p ≤ frm → (∀ j, p ≤ j → j < frm → gtp pts (f frm) (f j) = true) → (p = 0 ∨ gtp pts (f frm) (f (p - 1)) = false) → (∀ i, i < n → A' (k0 + 34) i = nI (insf f frm p i)) → (∀ k, k ≠ k0 + 34 → A' k = A k) → post A') : wX3_rise I L A B k0 (nI frm) post := by
  unfold wX3_rise
  simp (disch := omega) only [zcmp, zari, z00, zm1, le_n, lt_n, eq_n, n_add, n_mul, n_c, n_in, true_and, and_true, if_true, if_false, bi_0, bi_1, ite_true, ite_false, Bool.true_eq_false, Bool.false_eq_true, hw frm hfrm]
  rintro _ rfl
  refine lfix_down (fun pl (y : Nat → Nat → Int32) => (nI pl, y)) (fun pl y => pl ≤ frm ∧ (∀ j, pl ≤ j → j < frm → gtp pts (f frm) (f j) = true) ∧ (∀ i, i < n → y (k0 + 34) i = nI (if i ≤ pl then f i else if i ≤ frm then f (i - 1) else f i)) ∧ ∀ k, k ≠ k0 + 34 → y k = A k) frm A ⟨Nat.le_refl _, fun j h1 h2 => by omega, fun i hi => (by
    rw [hw i hi]
    by_cases e : i ≤ frm
    · rw [if_pos e]
    · rw [if_neg e, if_neg e]), fun _ _ => rfl⟩ ?_
  rintro r pl y ⟨g1, g2, g3, g4⟩ hr
  dsimp only
  refine jn_have (fun _ => pl = 0 ∨ gtp pts (f frm) (f (pl - 1)) = false) ?_ ?_
  · rintro _ hq
    simp (disch := omega) only [zcmp, zari, z00, zm1, le_n, lt_n, eq_n, n_add, n_mul, n_c, n_in, true_and, and_true, if_true, if_false, bi_0, bi_1, ite_true, ite_false, Bool.true_eq_false, Bool.false_eq_true]
    rintro _ rfl
    refine h pl _ g1 g2 hq (fun i hi => ?_) (fun k hk => by rw [up_n _ _ hk]; exact g4 k hk)
    rw [up_s]
    unfold insf
    by_cases e : i = pl
    · subst e; rw [ud_s, if_neg (by omega), if_pos rfl]
    · rw [ud_n _ _ e, g3 i hi]
      by_cases e2 : i < pl
      · rw [if_pos (by omega), if_pos e2]
      · rw [if_neg (by omega), if_neg e2, if_neg e]
  · intro k hk
    simp (disch := omega) only [zcmp, zari, z00, zm1, le_n, lt_n, eq_n, n_add, n_mul, n_c, n_in, true_and, and_true, if_true, if_false, bi_0, bi_1, ite_true, ite_false, Bool.true_eq_false, Bool.false_eq_true, Nat.le_zero]
    by_cases e : pl = 0
    · simp only [e, if_true]; exact hk () (Or.inl e)
    · simp only [e, if_false]
      rw [zsub.1 pl (by omega), zsub.2.1 pl (by omega)]
      simp (disch := omega) only [zcmp, zari, z00, zm1, le_n, lt_n, eq_n, n_add, n_mul, n_c, n_in, true_and, and_true, if_true, if_false, bi_0, bi_1, ite_true, ite_false, Bool.true_eq_false, Bool.false_eq_true, g3 (pl - 1) (by omega), show pl - 1 ≤ pl by omega]
      rw [c_rkAhead (hf frm hfrm) (hf (pl - 1) (by omega)) (by rw [g4 _ (by omega)]; exact hpt frm hfrm) (by rw [g4 _ (by omega)]; exact hpt (pl - 1) (by omega)) hp]
      simp (disch := omega) only [zcmp, zari, z00, zm1, le_n, lt_n, eq_n, n_add, n_mul, n_c, n_in, true_and, and_true, if_true, if_false, bi_0, bi_1, ite_true, ite_false, Bool.true_eq_false, Bool.false_eq_true]
      cases e2 : gtp pts (f frm) (f (pl - 1)) with
      | false => simp only [if_true]; exact hk () (Or.inr e2)
      | true =>
        simp only [Bool.true_eq_false, if_false]
        rintro _ rfl _ rfl
        refine hr (pl - 1) _ (by omega) ⟨by omega, fun j h1 h2 => ?_, fun i hi => ?_, fun k hk => by rw [up_n _ _ hk]; exact g4 k hk⟩
        · by_cases e3 : j = pl - 1
          · rw [e3]; exact e2
          · exact g2 j (by omega) h2
        · rw [up_s]
          by_cases e3 : i = pl
          · subst e3; rw [ud_s, if_neg (by omega), if_pos (by omega)]
          · rw [ud_n _ _ e3, g3 i hi]
            by_cases e4 : i ≤ pl
            · rw [if_pos e4, if_pos (show i ≤ pl - 1 by omega)]
            · rw [if_neg e4, if_neg (show ¬ i ≤ pl - 1 by omega)]
/-- the insertion keeps the order -/
theorem ins_sorted {pts f : Nat → Nat} {frm p : Nat} (hp : p ≤ frm) (hd : ∀ j, j < frm → f j ≠ f frm) (hs : ∀ i j, i < j → j < frm → gtp pts (f i) (f j) = true) (h1 : ∀ j, p ≤ j → j < frm → gtp pts (f frm) (f j) = true) (h2 : p = 0 ∨ gtp pts (f frm) (f (p - 1)) = false) : ∀ i j, i < j → j < frm + 1 → gtp pts (insf f frm p i) (insf f frm p j) = true := by
  have h3 : ∀ i, i < p → gtp pts (f i) (f frm) = true := by
    intro i hi
    rcases h2 with h2 | h2
    · omega
    · have g := gtp_tot (hd (p - 1) (by omega)).symm h2
      by_cases e : i = p - 1
      · rw [e]; exact g
      · exact gtp_tr (hs i (p - 1) (by omega) (by omega)) g
  intro i j hij hj
  unfold insf
  by_cases e1 : j < p
  · rw [if_pos e1, if_pos (show i < p by omega)]; exact hs i j hij (by omega)
  · by_cases e2 : j = p
    · rw [if_neg e1, if_pos e2, if_pos (show i < p by omega)]; exact h3 i (by omega)
    · rw [if_neg e1, if_neg e2, if_pos (show j ≤ frm by omega)]
      by_cases e3 : i < p
      · rw [if_pos e3]; exact hs i (j - 1) (by omega) (by omega)
      · by_cases e4 : i = p
        · rw [if_neg e3, if_pos e4]; exact h1 (j - 1) (by omega) (by omega)
        · rw [if_neg e3, if_neg e4, if_pos (show i ≤ frm by omega)]; exact hs (i - 1) (j - 1) (by omega) (by omega)
theorem ins_range {f : Nat → Nat} {frm p i : Nat} (hp : p ≤ frm) (hi : i < frm + 1) : ∃ j, j < frm + 1 ∧ insf f frm p i = f j := by
  unfold insf
  by_cases e1 : i < p
  · exact ⟨i, by omega, by rw [if_pos e1]⟩
  · by_cases e2 : i = p
    · exact ⟨frm, by omega, by rw [if_neg e1, if_pos e2]⟩
    · exact ⟨i - 1, by omega, by rw [if_neg e1, if_neg e2, if_pos (by omega)]⟩
theorem ins_onto {f : Nat → Nat} {frm p j : Nat} (hp : p ≤ frm) (hj : j < frm + 1) : ∃ i, i < frm + 1 ∧ insf f frm p i = f j := by
  unfold insf
  by_cases e1 : j = frm
  · exact ⟨p, by omega, by rw [if_neg (by omega), if_pos rfl, e1]⟩
  · by_cases e2 : j < p
    · exact ⟨j, by omega, by rw [if_pos e2]⟩
    · exact ⟨j + 1, by omega, by rw [if_neg (by omega), if_neg (by omega), if_pos (by omega), Nat.add_sub_cancel]⟩
/-- put: a new one, sorted in -/
theorem c_rkPut {k0 : Nat} {pts f : Nat → Nat} {n c v : Nat} (hk0 : k0 = 7 ∨ k0 = 8) (hn : n < 40) (hc : c < 40) (hI : I k0 = nI n) (hw : ∀ i, i < n → A (k0 + 34) i = nI (f i)) (hf : ∀ i, i < n → f i < 40 ∧ f i ≠ c) (hpt : ∀ i, i < n → A (k0 + 36) (f i) = nI (pts (f i))) (hp : ∀ c, pts c < 2 ^ 31) (hv : pts c = v) (hs : ∀ i j, i < j → j < n → gtp pts (f i) (f j) = true) {post : (Nat → Int32) → (Nat → Nat → Int32) → Prop}
    (h : ∀ (g : Nat → Nat) (A' : Nat → Nat → Int32), (∀ i, i < n + 1 → A' (k0 + 34) i = nI (g i)) → (∀ i j, i < j → j < n + 1 → gtp pts (g i) (g j) = true) → (∀ i, i < n + 1 → g i = c ∨ ∃ j, j < n ∧ g i = f j) → (∀ j, j < n → ∃ i, i < n + 1 ∧ g i = f j) → (∃ i, i < n + 1 ∧ g i = c) → A' (k0 + 36) = upd (A (k0 + 36)) c (nI v) → (∀ k, k ≠ k0 + 34 → k ≠ k0 + 36 → A' k = A k) → post (va_up I k0 (nI (n + 1))) A') : wX3_put I L A B k0 (nI c) (nI v) post := by
  unfold wX3_put
  simp (disch := omega) only [zcmp, zari, z00, zm1, le_n, lt_n, eq_n, n_add, n_mul, n_c, n_in, true_and, and_true, if_true, if_false, bi_0, bi_1, ite_true, ite_false, Bool.true_eq_false, Bool.false_eq_true, hI, show ¬ 40 ≤ n by omega]
  rintro _ rfl _ rfl _ rfl
  rw [up_s, zsub.1 _ (by omega)]
  let f' : Nat → Nat := fun i => if i = n then c else f i
  have f'n : ∀ i, i < n → f' i = f i := fun i hi => by simp [f', show ¬ i = n by omega]
  have f'c : f' n = c := by simp [f']
  refine c_rise (f := f') (pts := pts) (n := n + 1) (frm := n) (by omega) (by omega) (fun i hi => ?_) (fun i hi => ?_) (fun i hi => ?_) hp (fun p A' q1 q2 q3 q4 q5 => ?_)
  · rw [up_s, up_n _ _ (show k0 + 34 ≠ k0 + 36 by omega)]
    by_cases e : i = n
    · subst e; rw [ud_s, f'c]
    · rw [ud_n _ _ e, hw i (by omega), f'n i (by omega)]
  · by_cases e : i = n
    · rw [e, f'c]; exact hc
    · rw [f'n i (by omega)]; exact (hf i (by omega)).1
  · rw [up_n _ _ (show k0 + 36 ≠ k0 + 34 by omega), up_s]
    by_cases e : i = n
    · rw [e, f'c, ud_s, hv]
    · rw [f'n i (by omega), ud_n _ _ (hf i (by omega)).2]; exact hpt i (by omega)
  · refine h (insf f' n p) A' q4 (ins_sorted q1 (fun j hj => ?_) (fun i j hij hj => ?_) q2 q3) (fun i hi => ?_) (fun j hj => ?_) ?_ ?_ (fun k k1 k2 => ?_)
    · rw [f'n j hj, f'c]; exact (hf j hj).2
    · rw [f'n i (by omega), f'n j hj]; exact hs i j hij hj
    · obtain ⟨j, hj, e⟩ := ins_range (f := f') q1 hi
      by_cases e2 : j = n
      · rw [e2, f'c] at e; exact Or.inl e
      · rw [f'n j (by omega)] at e; exact Or.inr ⟨j, by omega, e⟩
    · obtain ⟨i, hi, e⟩ := ins_onto (f := f') q1 (show j < n + 1 by omega)
      rw [f'n j hj] at e
      exact ⟨i, hi, e⟩
    · obtain ⟨i, hi, e⟩ := ins_onto (f := f') q1 (show n < n + 1 by omega)
      rw [f'c] at e
      exact ⟨i, hi, e⟩
    · rw [q5 _ (by omega), up_n _ _ (by omega), up_s]
    · rw [q5 k k1, up_n _ _ k1, up_n _ _ k2]
end
