-- sorted rows: how many below, where values change
theorem ct_down {p : Nat → Bool} : ∀ {n : Nat}, (∀ i j, i ≤ j → j < n → p j = true → p i = true) → ∀ i, i < n → (p i = true ↔ i < fb_ct p n) := by
  intro n
  induction n with
  | zero => intro _ i hi; omega
  | succ n ih =>
    intro h i hi
    cases e : p n with
    | true =>
      have a : fb_ct p (n + 1) = n + 1 := fb_ct_all.mpr (fun k hk => h k n (by omega) (by omega) e)
      rw [a]
      exact ⟨fun _ => hi, fun _ => h i n (by omega) (by omega) e⟩
    | false =>
      rw [fb_ct_succ, e]
      simp only [Bool.false_eq_true, if_false, Nat.add_zero]
      by_cases e2 : i = n
      · subst e2
        rw [e]
        have := fb_ct_le p i
        constructor
        · intro q; cases q
        · intro q; omega
      · exact ih (fun i j hij hj => h i j hij (by omega)) i (by omega)
def srt (s : Nat → Nat) (n : Nat) : Prop := (∀ i, i < n → s i < 1999) ∧ ∀ i j, i ≤ j → j < n → s i ≤ s j
def cum (s : Nat → Nat) (n v : Nat) : Nat := fb_ct (fun i => decide (s i < v)) n
def hst (s : Nat → Nat) (n v : Nat) : Nat := fb_ct (fun i => s i == v) n
theorem cum_succ (s : Nat → Nat) (n v : Nat) : cum s n (v + 1) = cum s n v + hst s n v := by
  unfold cum hst
  rw [← fb_ct_or (fun k _ => by simp; omega)]
  refine fb_ct_cong (fun k _ => ?_)
  by_cases e : s k = v
  · simp [e]
  · by_cases e2 : s k < v
    · simp [e2, show s k < v + 1 by omega]
    · simp [e, e2, show ¬ s k < v + 1 by omega]
theorem cum_iff {s : Nat → Nat} {n v i : Nat} (h : srt s n) (hi : i < n) : s i < v ↔ i < cum s n v := by
  have := ct_down (p := fun i => decide (s i < v)) (n := n) (fun i j hij hj q => by
    simp only [decide_eq_true_eq] at q ⊢
    have := h.2 i j hij hj; omega) i hi
  unfold cum
  simpa using this
theorem cum_le (s : Nat → Nat) (n v : Nat) : cum s n v ≤ n := fb_ct_le _ _
theorem cum_0 (s : Nat → Nat) (n : Nat) : cum s n 0 = 0 := ct_none (fun k _ => by simp)
theorem cum_top {s : Nat → Nat} {n v : Nat} (h : srt s n) (hv : 1999 ≤ v) : cum s n v = n := fb_ct_all.mpr (fun k hk => by have := h.1 k hk; simp; omega)
theorem cum_lt {s : Nat → Nat} {n v : Nat} (h : srt s n) (hv : cum s n v < n) : v < 1999 := by
  cases Nat.lt_or_ge v 1999 with
  | inl q => exact q
  | inr q => rw [cum_top h q] at hv; omega
theorem hst_le (s : Nat → Nat) (n v : Nat) : hst s n v ≤ n := fb_ct_le _ _
/-- within one value's stretch -/
theorem in_hst {s : Nat → Nat} {n v i : Nat} (h : srt s n) (h1 : cum s n v ≤ i) (h2 : i < cum s n (v + 1)) : s i = v := by
  have hn := cum_le s n (v + 1)
  have a := (cum_iff h (v := v) (i := i) (by omega))
  have b := (cum_iff h (v := v + 1) (i := i) (by omega))
  omega
/-- a place where a stretch of equal ones may end -/
def bnd (s : Nat → Nat) (n e : Nat) : Bool := e == 0 || decide (n ≤ e) || !(s e == s (e - 1))
theorem bnd_cum {s : Nat → Nat} {n : Nat} (h : srt s n) (v : Nat) : bnd s n (cum s n v) = true := by
  unfold bnd
  by_cases e1 : cum s n v = 0
  · simp [e1]
  · by_cases e2 : n ≤ cum s n v
    · simp [e2]
    · have a := (cum_iff h (v := v) (i := cum s n v) (by omega))
      have b := (cum_iff h (v := v) (i := cum s n v - 1) (by omega))
      have : ¬ s (cum s n v) = s (cum s n v - 1) := by omega
      simp [bqf this]
theorem bnd_gap {s : Nat → Nat} {n v e : Nat} (h : srt s n) (hb : bnd s n e = true) (h1 : cum s n v < e) : cum s n (v + 1) ≤ e := by
  rcases Nat.lt_or_ge e (cum s n (v + 1)) with q | q
  · have a := in_hst h (i := e) (v := v) (by omega) q
    have b := in_hst h (i := e - 1) (v := v) (by omega) (by omega)
    have := cum_le s n (v + 1)
    unfold bnd at hb
    rw [a, b] at hb
    simp at hb
    omega
  · exact q
def nb (s : Nat → Nat) (n : Nat) : Nat → Nat → Nat
  | 0, e => e
  | f + 1, e => if bnd s n e then e else nb s n f (e + 1)
theorem nb_spec {s : Nat → Nat} {n : Nat} : ∀ (f e : Nat), e ≤ n → n - e ≤ f → bnd s n (nb s n f e) = true ∧ e ≤ nb s n f e ∧ nb s n f e ≤ n ∧ ∀ e', e ≤ e' → bnd s n e' = true → nb s n f e ≤ e'
  | 0, e, h, h2 => ⟨by rw [nb]; unfold bnd; simp [show n ≤ e by omega], Nat.le_refl _, h, fun e' h3 _ => h3⟩
  | f + 1, e, h, h2 => by
    rw [nb]
    cases q : bnd s n e with
    | true => simp only [if_true]; exact ⟨q, Nat.le_refl _, h, fun e' h3 _ => h3⟩
    | false =>
      simp only [Bool.false_eq_true, if_false]
      have hne : e < n := by
        rcases Nat.lt_or_ge e n with q2 | q2
        · exact q2
        · unfold bnd at q; simp [q2] at q
      obtain ⟨a1, a2, a3, a4⟩ := nb_spec (s := s) (n := n) f (e + 1) (by omega) (by omega)
      refine ⟨a1, by omega, a3, fun e' h3 h4 => ?_⟩
      by_cases c : e' = e
      · rw [c, q] at h4; cases h4
      · exact a4 e' (by omega) h4
theorem nb_more {s : Nat → Nat} {n : Nat} {f g e : Nat} (h : e ≤ n) (h1 : n - e ≤ f) (h2 : n - e ≤ g) : nb s n f e = nb s n g e := by
  obtain ⟨a1, a2, a3, a4⟩ := nb_spec (s := s) f e h h1
  obtain ⟨b1, b2, b3, b4⟩ := nb_spec (s := s) g e h h2
  exact Nat.le_antisymm (a4 _ b2 b1) (b4 _ a2 a1)
def mn (a b : Nat) : Nat := if b < a then b else a
def due (n frm lf : Nat) : Nat := (n - frm + lf - 1) / lf
def eb (s : Nat → Nat) (n frm lf : Nat) : Nat := if lf ≤ 1 then n else nb s n 41 (mn (frm + due n frm lf) n)
theorem mn_le (a b : Nat) : mn a b ≤ b ∧ mn a b ≤ a := by unfold mn; split <;> omega
theorem due_le {n frm lf : Nat} (h : frm ≤ n) (hl : 2 ≤ lf) : frm + due n frm lf ≤ n := by
  unfold due
  by_cases e : frm = n
  · subst e
    rw [Nat.sub_self, Nat.zero_add, Nat.div_eq_of_lt (by omega)]; omega
  · have : (n - frm + lf - 1) / lf < n - frm + 1 := Nat.div_lt_of_lt_mul (by
      have : lf * (n - frm + 1) = lf * (n - frm) + lf := Nat.mul_succ _ _
      have h2 : n - frm ≤ lf * (n - frm) := Nat.le_mul_of_pos_left _ (by omega)
      omega)
    omega
theorem due_pos {n frm lf : Nat} (h : frm < n) (hl : 1 ≤ lf) : 1 ≤ due n frm lf := by
  unfold due
  exact (Nat.le_div_iff_mul_le (by omega)).mpr (by omega)
theorem eb_le {s : Nat → Nat} {n frm lf : Nat} (hn : n ≤ 41) : eb s n frm lf ≤ n := by
  unfold eb
  split
  · exact Nat.le_refl _
  · exact (nb_spec 41 _ (mn_le _ _).1 (by omega)).2.2.1
/-- where bins start -/
def bf (s : Nat → Nat) (n k : Nat) : Nat → Nat
  | 0 => 0
  | i + 1 => eb s n (bf s n k i) (k - i)
theorem bf_le {s : Nat → Nat} {n k : Nat} (hn : n ≤ 41) : ∀ i, bf s n k i ≤ n
  | 0 => Nat.zero_le _
  | i + 1 => eb_le hn
theorem eb_up {s : Nat → Nat} {n frm lf : Nat} (hn : n ≤ 41) (h : frm ≤ n) : frm ≤ eb s n frm lf ∧ (frm < n → frm < eb s n frm lf) := by
  unfold eb
  split
  · exact ⟨h, fun q => q⟩
  · have a := (nb_spec (s := s) 41 (mn (frm + due n frm lf) n) (mn_le _ _).1 (by omega)).2.1
    have b := due_le (lf := lf) h (by omega)
    have c : mn (frm + due n frm lf) n = frm + due n frm lf := by unfold mn; rw [if_neg (by omega)]
    rw [c] at a ⊢
    refine ⟨by omega, fun q => ?_⟩
    have d := due_pos (lf := lf) q (by omega)
    omega
theorem bf_full {s : Nat → Nat} {n k i : Nat} (hn : n ≤ 41) (h : bf s n k i = n) : ∀ j, i ≤ j → bf s n k j = n := by
  intro j hj
  obtain ⟨m, rfl⟩ : ∃ m, j = i + m := ⟨j - i, by omega⟩
  induction m with
  | zero => exact h
  | succ m ih =>
    have a := ih (by omega)
    show eb s n (bf s n k (i + m)) (k - (i + m)) = n
    rw [a]
    have := (eb_up (s := s) (lf := k - (i + m)) hn (Nat.le_refl n)).1
    have := eb_le (s := s) (frm := n) (lf := k - (i + m)) hn
    omega
theorem bf_k {s : Nat → Nat} {n k : Nat} (hk : 1 ≤ k) : bf s n k k = n := by
  obtain ⟨m, rfl⟩ : ∃ m, k = m + 1 := ⟨k - 1, by omega⟩
  show eb s n (bf s n (m + 1) m) (m + 1 - m) = n
  unfold eb
  rw [if_pos (by omega)]
theorem n_div {a b : Nat} (ha : a < 2 ^ 31) (hb : b < 2 ^ 31) : nI a / nI b = nI (a / b) := by
  have : a / b ≤ a := Nat.div_le_self _ _
  rw [eq_i, nI_toInt (by omega), Int32.toInt_div_of_ne_left _ _ (by
    intro q
    rw [eq_i, nI_toInt ha] at q
    have : (Int32.minValue).toInt = -2147483648 := by decide
    omega), nI_toInt ha, nI_toInt hb]
  rfl
section
variable {S : SS} {J : Nat → Int32} {E : Nat → Nat → Int32} {I : Nat → Int32} {L : Nat → Int64} {A : Nat → Nat → Int32} {B : Nat → Nat → Int64}
theorem RV_srt {s : Nat → Nat} {n : Nat} (h : RV I A s n) : srt s n := ⟨h.2.2.1, h.2.2.2⟩
theorem c_endOfBin {s : Nat → Nat} {n frm lf : Nat} (h : RV I A s n) (hn : n ≤ 40) (hf : frm ≤ n) (hl : lf ≤ 8) {post : Int32 → Prop} (hh : post (nI (eb s n frm lf))) : wX4_endOfBin I L A B (nI frm) (nI lf) post := by
  unfold wX4_endOfBin
  unfold eb at hh
  by_cases e : lf ≤ 1
  · rw [if_pos e] at hh
    simp (disch := omega) only [zcmp, zari, z00, zm1, le_n, lt_n, eq_n, n_add, n_mul, n_c, n_in, true_and, and_true, if_true, if_false, bi_0, bi_1, ite_true, ite_false, Bool.true_eq_false, Bool.false_eq_true, show ¬ 1 < lf by omega, h.1]
    exact hh
  · rw [if_neg e] at hh
    simp (disch := omega) only [zcmp, zari, z00, zm1, le_n, lt_n, eq_n, n_add, n_mul, n_c, n_in, true_and, and_true, if_true, if_false, bi_0, bi_1, ite_true, ite_false, Bool.true_eq_false, Bool.false_eq_true, show 1 < lf by omega, h.1]
    rw [n_sub hf, n_add, zsub.1 _ (by omega), n_div (by omega) (by omega)]
    have hd := due_le (lf := lf) hf (by omega)
    refine ⟨by omega, ?_⟩
    rintro _ rfl
    have e3 : (n - frm + lf - 1) / lf = due n frm lf := rfl
    rw [e3]
    simp (disch := omega) only [zcmp, zari, z00, zm1, le_n, lt_n, eq_n, n_add, n_mul, n_c, n_in, true_and, and_true, if_true, if_false, bi_0, bi_1, ite_true, ite_false, Bool.true_eq_false, Bool.false_eq_true]
    have e4 : (if n < frm + due n frm lf then nI n else nI (frm + due n frm lf)) = nI (mn (frm + due n frm lf) n) := by unfold mn; split <;> rfl
    rw [e4]
    rintro _ rfl
    have hmn := (mn_le (frm + due n frm lf) n).1
    refine lfix_for n (fun e (_ : Unit) => nI e) (fun e _ => nb s n 41 e = nb s n 41 (mn (frm + due n frm lf) n)) _ () hmn rfl ?_ ?_
    · rintro r e5 _ he hJ hr
      have fin : bnd s n e5 = true → post (nI e5) := fun q => by
        rw [nb, q] at hJ
        simp only [if_true] at hJ
        rw [hJ]; exact hh
      simp (disch := omega) only [zcmp, zari, z00, zm1, le_n, lt_n, eq_n, n_add, n_mul, n_c, n_in, true_and, and_true, if_true, if_false, bi_0, bi_1, ite_true, ite_false, Bool.true_eq_false, Bool.false_eq_true, Nat.le_zero]
      by_cases c1 : e5 = 0
      · simp (disch := omega) only [zcmp, zari, z00, zm1, le_n, lt_n, eq_n, n_add, n_mul, n_c, n_in, true_and, and_true, if_true, if_false, bi_0, bi_1, ite_true, ite_false, Bool.true_eq_false, Bool.false_eq_true, c1]
        rw [← c1]
        exact fin (by simp [bnd, c1])
      · simp only [c1, if_false]
        rw [zsub.1 e5 (by omega)]
        simp (disch := omega) only [zcmp, zari, z00, zm1, le_n, lt_n, eq_n, n_add, n_mul, n_c, n_in, true_and, and_true, if_true, if_false, bi_0, bi_1, ite_true, ite_false, Bool.true_eq_false, Bool.false_eq_true, show ¬ n ≤ e5 by omega, h.2.1 e5 he, h.2.1 (e5 - 1) (by omega), sv_eq (h.2.2.1 e5 he) (h.2.2.1 (e5 - 1) (by omega))]
        by_cases c2 : s e5 = s (e5 - 1)
        · simp only [c2, if_true]
          rintro _ rfl
          refine hr () ?_
          rw [← hJ, nb_more (f := 41) (g := 40) (by omega) (by omega) (by omega)]
          have : bnd s n e5 = false := by simp [bnd, c1, c2]; omega
          rw [show nb s n 41 e5 = if bnd s n e5 then e5 else nb s n 40 (e5 + 1) from rfl, this]
          simp
        · simp only [c2, if_false]
          exact fin (by simp [bnd, c2])
    · rintro r _ hJ
      have fin : post (nI n) := by
        rw [nb] at hJ
        have : bnd s n n = true := by simp [bnd]
        rw [this] at hJ
        simp only [if_true] at hJ
        rw [hJ]; exact hh
      simp (disch := omega) only [zcmp, zari, z00, zm1, le_n, lt_n, eq_n, n_add, n_mul, n_c, n_in, true_and, and_true, if_true, if_false, bi_0, bi_1, ite_true, ite_false, Bool.true_eq_false, Bool.false_eq_true, Nat.le_refl, ite_self]
      exact fin
theorem c_startOfBin {s : Nat → Nat} {n k i : Nat} (h : RV I A s n) (hn : n ≤ 40) (hk : k ≤ 8) (hk1 : 1 ≤ k) (hi : i < 2 ^ 31) {post : Int32 → Prop} (hh : post (nI (bf s n k i))) : wX4_startOfBin I L A B (nI k) (nI i) post := by
  unfold wX4_startOfBin
  refine lfix_for k (fun b (y : Int32) => (nI b, y)) (fun b y => y = nI (bf s n k b) ∧ b ≤ i) 0 _ (Nat.zero_le _) ⟨rfl, Nat.zero_le _⟩ ?_ ?_
  · rintro r b _ hb ⟨rfl, hbi⟩ hr
    dsimp only
    simp (disch := omega) only [zcmp, zari, z00, zm1, le_n, lt_n, eq_n, n_add, n_mul, n_c, n_in, true_and, and_true, if_true, if_false, bi_0, bi_1, ite_true, ite_false, Bool.true_eq_false, Bool.false_eq_true, show ¬ k ≤ b by omega]
    by_cases e : i ≤ b
    · simp only [e, if_true]
      rw [show b = i by omega]; exact hh
    · simp only [e, if_false]
      rw [n_sub (show b ≤ k by omega)]
      refine c_endOfBin h hn (bf_le (by omega) b) (by omega) ?_
      rintro _ rfl
      exact hr _ ⟨rfl, by omega⟩
  · rintro r _ ⟨rfl, hbi⟩
    dsimp only
    simp (disch := omega) only [zcmp, zari, z00, zm1, le_n, lt_n, eq_n, n_add, n_mul, n_c, n_in, true_and, and_true, if_true, if_false, bi_0, bi_1, ite_true, ite_false, Bool.true_eq_false, Bool.false_eq_true, Nat.le_refl]
    rw [bf_full (by omega) (bf_k hk1) i hbi] at hh
    rw [bf_k hk1]; exact hh
/-- how many bins -/
def bc (s : Nat → Nat) (n k : Nat) : Nat := (ff (fun i => decide (n ≤ bf s n k i)) (k + 1)).getD k
theorem c_howMany {s : Nat → Nat} {n k : Nat} (h : RV I A s n) (hn : n ≤ 40) (hk : k ≤ 8) (hk1 : 1 ≤ k) {post : Int32 → Prop} (hh : post (nI (bc s n k))) : wX4_howManyBins I L A B (nI k) post := by
  unfold wX4_howManyBins
  refine lfix_for k (fun b (y : Int32) => (y, nI b)) (fun b y => y = nI (bf s n k b) ∧ ff (fun i => decide (n ≤ bf s n k i)) b = none) 0 _ (Nat.zero_le _) ⟨rfl, rfl⟩ ?_ ?_
  · rintro r b _ hb ⟨rfl, hbi⟩ hr
    have hle := bf_le (s := s) (k := k) (show n ≤ 41 by omega) b
    dsimp only
    simp (disch := omega) only [zcmp, zari, z00, zm1, le_n, lt_n, eq_n, n_add, n_mul, n_c, n_in, true_and, and_true, if_true, if_false, bi_0, bi_1, ite_true, ite_false, Bool.true_eq_false, Bool.false_eq_true, show ¬ k ≤ b by omega, h.1]
    by_cases e : n ≤ bf s n k b
    · simp only [e, if_true]
      have : ff (fun i => decide (n ≤ bf s n k i)) (b + 1) = some b := by rw [ff, hbi]; simp [e]
      unfold bc at hh
      rw [ff_mono this (k + 1) (by omega)] at hh
      exact hh
    · simp only [e, if_false]
      rw [n_sub (show b ≤ k by omega)]
      refine c_endOfBin h hn hle (by omega) ?_
      rintro _ rfl
      exact hr _ ⟨rfl, by rw [ff, hbi]; simp [e]⟩
  · rintro r _ ⟨rfl, hbi⟩
    dsimp only
    simp (disch := omega) only [zcmp, zari, z00, zm1, le_n, lt_n, eq_n, n_add, n_mul, n_c, n_in, true_and, and_true, if_true, if_false, bi_0, bi_1, ite_true, ite_false, Bool.true_eq_false, Bool.false_eq_true, Nat.le_refl]
    unfold bc at hh
    rw [ff, hbi, bf_k hk1] at hh
    simpa using hh
end
