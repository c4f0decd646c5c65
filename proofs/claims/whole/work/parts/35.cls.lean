/-- a long whose bits are these -/
def bm (m : Int64) (p : Nat → Bool) : Prop := ∀ i, i < 64 → tb m i = p i
def cSl (S : SS) (sl : Sl) (a k : Nat) (I : Nat → Int32) (L : Nat → Int64) (A : Nat → Nat → Int32) : Prop := bm (L k) (fun c => ax S c == a && sl.1 c) ∧ I k = bi (sl.2.1 a) ∧ I (k + 22) = nI (sl.2.2 a).length ∧ ∀ j, j < (sl.2.2 a).length → A (k + 45) j = (rg sl a j).1 ∧ A (k + 67) j = (rg sl a j).2
def RF (S : SS) (I : Nat → Int32) (A : Nat → Nat → Int32) (B : Nat → Nat → Int64) : Prop := I 1 = nI (nC S) ∧ (∀ c, c < nC S → A 36 c = nI (ax S c)) ∧ (∀ c, c < nC S → A 37 c = uI (up S c)) ∧ (∀ c, c < nC S → bm (B 38 c) (fun t => decide (t < nC S) && !(t == c) && inb S t c)) ∧ (∀ c, c < nC S → bm (B 39 c) (fun d => tg S d c)) ∧ (∀ c, c < nC S → bm (B 40 c) (fun d => has S d c)) ∧ ∀ c, nC S ≤ c → c < 40 → B 38 c = 0 ∧ B 39 c = 0 ∧ B 40 c = 0
def RD (S : SS) (I : Nat → Int32) (L : Nat → Int64) (A : Nat → Nat → Int32) : Prop := I 2 = nI (nD S) ∧ bm (L 2) (th S) ∧ I 7 = nI (nT S) ∧ (∀ i, i < nT S → A 41 i = nI (od S i)) ∧ ∀ d, d < nD S → A 43 d = nI (sc S d)
def RX (S : SS) (I : Nat → Int32) (L : Nat → Int64) (A : Nat → Nat → Int32) : Prop := I 3 = nI (nA S) ∧ (∀ a, a < nA S → I (9 + a) = nI (kd S a)) ∧ (∀ a, a < 5 → bm (L (9 + a)) (fun d => (nm S d a).isSome)) ∧ (∀ a d v, a < 5 → d < 40 → nm S d a = some v → A (9 + a + 45) d = v) ∧ ∀ a, a < 5 → cSl S (se S) a (9 + a + 5) I L A
def prv (S : SS) : Nat → Sl
  | 0 => se S
  | k + 1 => (hi S).getD k (se S)
def agr (S : SS) (sl sl' : Sl) (a : Nat) : Prop := (∀ c, ax S c ≠ a → sl.1 c = sl'.1 c) ∧ ∀ b, b ≠ a → sl.2.1 b = sl'.2.1 b ∧ sl.2.2 b = sl'.2.2 b
def RT (S : SS) (I : Nat → Int32) (L : Nat → Int64) (A : Nat → Nat → Int32) : Prop := I 4 = nI (hi S).length ∧ ∃ nx, nx < 16 ∧ I 0 = nI nx ∧ ∀ k sl, (hi S)[k]? = some sl → ∃ a, a < nA S ∧ A 47 ((nx + 15 - k) % 16) = nI a ∧ cSl S sl a (20 + (nx + 15 - k) % 16) I L A ∧ agr S sl (prv S k) a
def RP (S : SS) (B : Nat → Nat → Int64) : Prop := ∀ a, a < nA S → bm (B 46 a) (fun d => th S d && pas S (se S) d a)
def RC (S : SS) (I : Nat → Int32) (L : Nat → Int64) (A : Nat → Nat → Int32) (B : Nat → Nat → Int64) : Prop := RF S I A B ∧ RD S I L A ∧ RX S I L A ∧ RT S I L A ∧ RP S B
theorem bm_0 {p : Nat → Bool} (h : ∀ i, i < 64 → p i = false) : bm 0 p := fun i hi => by rw [tb_0, h i hi]
theorem bm_and {a b : Int64} {p q : Nat → Bool} (ha : bm a p) (hb : bm b q) : bm (a &&& b) (fun i => p i && q i) := fun i hi => by rw [tb_and, ha i hi, hb i hi]
theorem bm_or {a b : Int64} {p q : Nat → Bool} (ha : bm a p) (hb : bm b q) : bm (a ||| b) (fun i => p i || q i) := fun i hi => by rw [tb_or, ha i hi, hb i hi]
theorem bm_not {a : Int64} {p : Nat → Bool} (ha : bm a p) : bm (a ^^^ (-1)) (fun i => !p i) := fun i hi => by rw [tb_not a hi, ha i hi]
theorem bm_m1 : bm (-1) (fun _ => true) := fun i hi => tb_m1 hi
theorem bm_bit {k : Nat} (hk : k < 64) : bm (bt1 k) (fun i => i == k) := fun i _ => by rw [tb_bt1 hk]; rfl
theorem bm_to {a : Int64} {p q : Nat → Bool} (ha : bm a p) (h : ∀ i, i < 64 → p i = q i) : bm a q := fun i hi => by rw [ha i hi, h i hi]
theorem bm_eq0 {a : Int64} {p : Nat → Bool} (ha : bm a p) : (a = 0) = (∀ i, i < 64 → p i = false) := propext ⟨fun h i hi => by rw [← ha i hi, h, tb_0], fun h => tb_zero.mpr (fun i hi => by rw [ha i hi, h i hi])⟩
theorem bm_uq {a b : Int64} {p : Nat → Bool} (ha : bm a p) (hb : bm b p) : a = b := tb_ext (fun i hi => by rw [ha i hi, hb i hi])
theorem ct_cut {p : Nat → Bool} {n m : Nat} (h : ∀ i, n ≤ i → p i = false) (hm : n ≤ m) : fb_ct p m = fb_ct p n := by
  obtain ⟨k, rfl⟩ : ∃ k, m = n + k := ⟨m - n, by omega⟩
  rw [fb_ct_split, fb_ct_zero.mpr (fun k _ => h (n + k) (by omega)), Nat.add_zero]
theorem bm_ct {a : Int64} {p : Nat → Bool} (ha : bm a p) {n : Nat} (h : ∀ i, n ≤ i → p i = false) (hn : n ≤ 64) (post : Int32 → Prop) : wJ13_bitCount_95d88 a post = post (nI (fb_ct p n)) := by
  rw [bs_count, fb_ct_cong (q := p) (fun i hi => ha i hi), ct_cut h hn]
section
variable {S : SS} {I : Nat → Int32} {L : Nat → Int64} {A : Nat → Nat → Int32} {B : Nat → Nat → Int64}
theorem c_knC (hF : RF S I A B) (hW : wf S) {a : Nat} (ha : a < nC S) (post : Int32 → Prop) : wX2_knows I L A B (nI a) post = post 1 := by
  have := hW.1
  unfold wX2_knows
  rw [hF.1, in_if ha (by omega)]
theorem c_knC_o (hF : RF S I A B) {x : Int32} (h : ou x (nC S)) (post : Int32 → Prop) : wX2_knows I L A B x post = post 0 := by
  unfold wX2_knows
  rw [hF.1, ou_if h]
theorem c_knD (hD : RD S I L A) (hW : wf S) {a : Nat} (ha : a < nD S) (post : Int32 → Prop) : wX6_knows I L A B (nI a) post = post 1 := by
  have := hW.1
  unfold wX6_knows
  rw [hD.1, in_if ha (by omega)]
theorem c_knD_o (hD : RD S I L A) {x : Int32} (h : ou x (nD S)) (post : Int32 → Prop) : wX6_knows I L A B x post = post 0 := by
  unfold wX6_knows
  rw [hD.1, ou_if h]
theorem c_knA (hX : RX S I L A) (hW : wf S) {a : Nat} (ha : a < nA S) (post : Int32 → Prop) : wX7_knows I L A B (nI a) post = post 1 := by
  have := hW.1
  unfold wX7_knows
  rw [hX.1, in_if ha (by omega)]
theorem c_knA_o (hX : RX S I L A) {x : Int32} (h : ou x (nA S)) (post : Int32 → Prop) : wX7_knows I L A B x post = post 0 := by
  unfold wX7_knows
  rw [hX.1, ou_if h]
theorem c_isThere (hD : RD S I L A) (hW : wf S) {d : Nat} (hd : d < nD S) (post : Int32 → Prop) : wX6_isThere I L A B (nI d) post = post (bi (th S d)) := by
  have := hW.1
  unfold wX6_isThere
  rw [c_knD hD hW hd]
  simp (disch := omega) only [zcmp, zari, z00, zm1, le_n, lt_n, eq_n, n_add, n_mul, n_c, n_in, true_and, and_true, if_true, if_false, bi_0, bi_1, ite_true, ite_false, Bool.true_eq_false, Bool.false_eq_true, bs_in _ (show d < 64 by omega), hD.2.1 d (by omega)]
  cases th S d <;> simp [bi]
theorem c_isThere_o (hD : RD S I L A) {x : Int32} (h : ou x (nD S)) (post : Int32 → Prop) : wX6_isThere I L A B x post = post 0 := by
  unfold wX6_isThere
  rw [c_knD_o hD h]
  simp
theorem c_isTree (hX : RX S I L A) (hW : wf S) {a : Nat} (ha : a < nA S) (post : Int32 → Prop) : wX7_isTree I L A B (nI a) post = post (bi (!(kd S a == 2))) := by
  have := hW.1
  have hk := hW.2.1 a ha
  unfold wX7_isTree
  rw [c_knA hX hW ha]
  simp (disch := omega) only [zcmp, zari, z00, zm1, le_n, lt_n, eq_n, n_add, n_mul, n_c, n_in, true_and, and_true, if_true, if_false, bi_0, bi_1, ite_true, ite_false, Bool.true_eq_false, Bool.false_eq_true, hX.2.1 a ha]
  by_cases h : kd S a = 2 <;> simp [h, bi]
theorem c_isTree_o (hX : RX S I L A) {x : Int32} (h : ou x (nA S)) (post : Int32 → Prop) : wX7_isTree I L A B x post = post 0 := by
  unfold wX7_isTree
  rw [c_knA_o hX h]
  simp
theorem c_isNum (hX : RX S I L A) (hW : wf S) {a : Nat} (ha : a < nA S) (post : Int32 → Prop) : wX7_isNumeric I L A B (nI a) post = post (bi (kd S a == 2)) := by
  have := hW.1
  have hk := hW.2.1 a ha
  unfold wX7_isNumeric
  rw [c_knA hX hW ha]
  simp (disch := omega) only [zcmp, zari, z00, zm1, le_n, lt_n, eq_n, n_add, n_mul, n_c, n_in, true_and, and_true, if_true, if_false, bi_0, bi_1, ite_true, ite_false, Bool.true_eq_false, Bool.false_eq_true, hX.2.1 a ha]
  by_cases h : kd S a = 2 <;> simp [h, bi]
theorem c_isNum_o (hX : RX S I L A) {x : Int32} (h : ou x (nA S)) (post : Int32 → Prop) : wX7_isNumeric I L A B x post = post 0 := by
  unfold wX7_isNumeric
  rw [c_knA_o hX h]
  simp
/-- nothing selected: the same word -/
theorem c_selOpen (hW : wf S) {sl : Sl} {a k : Nat} (hl : ∀ a, (sl.2.2 a).length ≤ 3) (hc : ∀ c, sl.1 c = true → c < nC S) (h : cSl S sl a k I L A) (post : Int32 → Prop) : wX5_isOpen I L A B k post = post (bi (opn S sl a)) := by
  have h3 := hl a
  have hn := hW.1
  unfold wX5_isOpen
  simp (disch := omega) only [zcmp, zari, z00, zm1, le_n, lt_n, eq_n, n_add, n_mul, n_c, n_in, true_and, and_true, if_true, if_false, bi_0, bi_1, ite_true, ite_false, Bool.true_eq_false, Bool.false_eq_true, lc_0, h.2.1, h.2.2.1]
  have e : (L k = 0) = (alb (fun c => !(ax S c == a) || !sl.1 c) (nC S) = true) := by
    rw [bm_eq0 h.1, alb_iff]
    apply propext
    constructor
    · intro g c hc
      have := g c (by omega)
      cases e1 : sl.1 c <;> by_cases e2 : ax S c = a <;> simp [e1, e2] at this ⊢
    · intro g i hi
      cases e1 : sl.1 i with
      | false => simp
      | true => have := g i (hc i e1); simpa [e1] using this
  simp only [e]
  unfold opn
  cases alb (fun c => !(ax S c == a) || !sl.1 c) (nC S) <;> cases sl.2.1 a <;> by_cases e2 : (sl.2.2 a).length = 0 <;> simp [e2, bi]
theorem c_takes {sl : Sl} {a k : Nat} (hl : ∀ a, (sl.2.2 a).length ≤ 3) (h : cSl S sl a k I L A) (v : Int32) {post : Int32 → Prop} (hp : post (bi (inr sl a v))) : wX5_takesNumber I L A B k v post := by
  have h3 := hl a
  unfold wX5_takesNumber
  refine lfix_for (sl.2.2 a).length (fun j (_ : Unit) => nI j) (fun j _ => exb (fun j => decide ((rg sl a j).1 ≤ v) && decide (v ≤ (rg sl a j).2)) j = false) 0 () (Nat.zero_le _) rfl ?_ ?_
  · rintro r j _ hj hJ hr
    have hg := h.2.2.2 j hj
    simp (disch := omega) only [zcmp, zari, z00, zm1, le_n, lt_n, eq_n, n_add, n_mul, n_c, n_in, true_and, and_true, if_true, if_false, bi_0, bi_1, ite_true, ite_false, Bool.true_eq_false, Bool.false_eq_true, h.2.2.1, show ¬ (sl.2.2 a).length ≤ j by omega, hg.1, hg.2]
    have q1 : (v < (rg sl a j).1) = ¬ ((rg sl a j).1 ≤ v) := by rw [lt_i, le_i]; exact propext (by omega)
    have q2 : ((rg sl a j).2 < v) = ¬ (v ≤ (rg sl a j).2) := by rw [lt_i, le_i]; exact propext (by omega)
    simp only [q1, q2]
    by_cases e1 : (rg sl a j).1 ≤ v
    · by_cases e2 : v ≤ (rg sl a j).2
      · have : inr sl a v = true := exb_iff.mpr ⟨j, hj, by simp [e1, e2]⟩
        rw [this] at hp
        simpa [e1, e2, bi] using hp
      · simp only [e1, e2, not_true_eq_false, not_false_eq_true, if_true, if_false]
        rintro _ rfl
        exact hr () (by rw [exb, hJ]; simp [e2])
    · simp only [e1, not_false_eq_true, if_true]
      rintro _ rfl
      exact hr () (by rw [exb, hJ]; simp [e1])
  · rintro r _ hJ
    simp (disch := omega) only [zcmp, zari, z00, zm1, le_n, lt_n, eq_n, n_add, n_mul, n_c, n_in, true_and, and_true, if_true, if_false, bi_0, bi_1, ite_true, ite_false, Bool.true_eq_false, Bool.false_eq_true, h.2.2.1, Nat.le_refl]
    unfold inr at hp
    rw [hJ] at hp
    exact hp
theorem c_taggedOn (hF : RF S I A B) (hW : wf S) {x : Nat} (hx : x < nA S) {post : Int64 → Prop} (h : ∀ m, bm m (fun d => exb (fun t => ax S t == x && tg S d t) (nC S)) → post m) : wX2_taggedOn I L A B (nI x) post := by
  have hn := hW.1
  unfold wX2_taggedOn
  refine lfix_for (nC S) (fun k (y : Int64) => (nI k, y)) (fun k y => bm y (fun d => exb (fun t => ax S t == x && tg S d t) k)) 0 _ (Nat.zero_le _) (bm_0 (fun _ _ => rfl)) ?_ ?_
  · intro r k y hk hy hr
    dsimp only
    have ha := (hW.2.2.1 k hk).1
    simp (disch := omega) only [zcmp, zari, z00, zm1, le_n, lt_n, eq_n, n_add, n_mul, n_c, n_in, true_and, and_true, if_true, if_false, bi_0, bi_1, ite_true, ite_false, Bool.true_eq_false, Bool.false_eq_true, hF.1, show ¬ nC S ≤ k by omega, hF.2.1 k hk]
    by_cases e : ax S k = x
    · simp only [e, if_true]
      rintro _ rfl _ rfl
      refine hr _ (bm_to (bm_or hy (hF.2.2.2.2.1 k hk)) (fun i _ => ?_))
      simp [exb, e]
    · simp only [e, if_false]
      rintro _ rfl
      refine hr _ (bm_to hy (fun i _ => ?_))
      simp [exb, e]
  · intro r y hy
    dsimp only
    simp (disch := omega) only [zcmp, zari, z00, zm1, le_n, lt_n, eq_n, n_add, n_mul, n_c, n_in, true_and, and_true, if_true, if_false, bi_0, bi_1, ite_true, ite_false, Bool.true_eq_false, Bool.false_eq_true, hF.1, Nat.le_refl]
    exact h y hy
theorem c_absentOn (hF : RF S I A B) (hD : RD S I L A) (hX : RX S I L A) (hW : wf S) {x : Nat} (hx : x < nA S) {post : Int64 → Prop} (h : ∀ m, bm m (fun d => th S d && mis S d x) → post m) : wX7_absentOn I L A B (nI x) post := by
  have hn := hW.1
  have hk2 := hW.2.1 x hx
  unfold wX7_absentOn
  simp (disch := omega) only [jn, zcmp, zari, z00, zm1, le_n, lt_n, eq_n, n_add, n_mul, n_c, n_in, true_and, and_true, if_true, if_false, bi_0, bi_1, ite_true, ite_false, Bool.true_eq_false, Bool.false_eq_true, hX.2.1 x hx]
  by_cases e : kd S x = 2
  · simp only [e, if_true]
    refine h _ (bm_to (bm_and hD.2.1 (bm_not (hX.2.2.1 x (by omega)))) (fun i _ => ?_))
    have hz : alb (fun t => !(ax S t == x && tg S i t)) (nC S) = true := alb_iff.mpr (fun t ht => by
      have h9 := (hW.2.2.1 t ht).2.1
      have : ¬ ax S t = x := fun q => h9 (by rw [q]; exact e)
      simp [this])
    simp only [mis, hz, e, Bool.and_true]
    cases nm S i x <;> simp
  · simp only [e, if_false, if_true]
    refine c_taggedOn hF hW hx (fun m hm => h _ (bm_to (bm_and hD.2.1 (bm_not hm)) (fun i _ => ?_)))
    have h1 : (kd S x == 2) = false := by simp [e]
    simp only [mis, h1, Bool.not_false, Bool.true_or, Bool.true_and]
    congr 1
    cases e1 : exb (fun t => ax S t == x && tg S i t) (nC S) with
    | true =>
      obtain ⟨t, ht, h2⟩ := exb_iff.mp e1
      cases e2 : alb (fun t => !(ax S t == x && tg S i t)) (nC S) with
      | false => rfl
      | true => have := alb_iff.mp e2 t ht; rw [h2] at this; cases this
    | false =>
      refine (alb_iff.mpr (fun t ht => ?_)).symm
      cases e3 : (ax S t == x && tg S i t) with
      | false => rfl
      | true => rw [exb_iff.mpr ⟨t, ht, e3⟩] at e1; cases e1
theorem c_havingAny (hF : RF S I A B) (hW : wf S) {m : Int64} {q : Nat → Bool} (hm : bm m q) {post : Int64 → Prop} (h : ∀ m', bm m' (fun d => exb (fun c => q c && has S d c) (nC S)) → post m') : wX2_havingAny I L A B m post := by
  have hn := hW.1
  unfold wX2_havingAny
  refine lfix_for (nC S) (fun k (y : Int64) => (nI k, y)) (fun k y => bm y (fun d => exb (fun c => q c && has S d c) k)) 0 _ (Nat.zero_le _) (bm_0 (fun _ _ => rfl)) ?_ ?_
  · intro r k y hk hy hr
    dsimp only
    simp (disch := omega) only [zcmp, zari, z00, zm1, le_n, lt_n, eq_n, n_add, n_mul, n_c, n_in, true_and, and_true, if_true, if_false, bi_0, bi_1, ite_true, ite_false, Bool.true_eq_false, Bool.false_eq_true, hF.1, show ¬ nC S ≤ k by omega, bs_in _ (show k < 64 by omega), hm k (by omega)]
    cases e : q k with
    | true =>
      simp only [Bool.true_eq_false, if_false]
      rintro _ rfl _ rfl
      refine hr _ (bm_to (bm_or hy (hF.2.2.2.2.2.1 k hk)) (fun i _ => ?_))
      simp [exb, e]
    | false =>
      simp only [if_true]
      rintro _ rfl
      refine hr _ (bm_to hy (fun i _ => ?_))
      simp [exb, e]
  · intro r y hy
    dsimp only
    simp (disch := omega) only [zcmp, zari, z00, zm1, le_n, lt_n, eq_n, n_add, n_mul, n_c, n_in, true_and, and_true, if_true, if_false, bi_0, bi_1, ite_true, ite_false, Bool.true_eq_false, Bool.false_eq_true, hF.1, Nat.le_refl]
    exact h y hy
theorem c_havingAll (hF : RF S I A B) (hW : wf S) {m : Int64} {q : Nat → Bool} (hm : bm m q) {post : Int64 → Prop} (h : ∀ m', bm m' (fun d => alb (fun c => !q c || has S d c) (nC S)) → post m') : wX2_havingAll I L A B m post := by
  have hn := hW.1
  unfold wX2_havingAll
  refine lfix_for (nC S) (fun k (y : Int64) => (nI k, y)) (fun k y => bm y (fun d => alb (fun c => !q c || has S d c) k)) 0 _ (Nat.zero_le _) bm_m1 ?_ ?_
  · intro r k y hk hy hr
    dsimp only
    simp (disch := omega) only [zcmp, zari, z00, zm1, le_n, lt_n, eq_n, n_add, n_mul, n_c, n_in, true_and, and_true, if_true, if_false, bi_0, bi_1, ite_true, ite_false, Bool.true_eq_false, Bool.false_eq_true, hF.1, show ¬ nC S ≤ k by omega, bs_in _ (show k < 64 by omega), hm k (by omega)]
    cases e : q k with
    | true =>
      simp only [Bool.true_eq_false, if_false]
      rintro _ rfl _ rfl
      refine hr _ (bm_to (bm_and hy (hF.2.2.2.2.2.1 k hk)) (fun i _ => ?_))
      simp [alb, e]
    | false =>
      simp only [if_true]
      rintro _ rfl
      refine hr _ (bm_to hy (fun i _ => ?_))
      simp [alb, e]
  · intro r y hy
    dsimp only
    simp (disch := omega) only [zcmp, zari, z00, zm1, le_n, lt_n, eq_n, n_add, n_mul, n_c, n_in, true_and, and_true, if_true, if_false, bi_0, bi_1, ite_true, ite_false, Bool.true_eq_false, Bool.false_eq_true, hF.1, Nat.le_refl]
    exact h y hy
theorem c_inRanges (hD : RD S I L A) (hX : RX S I L A) (hW : wf S) {sl : Sl} {a k : Nat} (ha : a < nA S) (hl : ∀ a, (sl.2.2 a).length ≤ 3) (hs : cSl S sl a k I L A) {post : Int64 → Prop} (h : ∀ m, bm m (fun d => rgd S sl d a) → post m) : wX7_inRanges I L A B (9 + a) k post := by
  have hn := hW.1
  unfold wX7_inRanges
  refine lfix_for (nD S) (fun k (y : Int64) => (nI k, y)) (fun k y => bm y (fun d => decide (d < k) && rgd S sl d a)) 0 _ (Nat.zero_le _) (bm_0 (fun _ _ => by simp)) ?_ ?_
  · intro r k y hk hy hr
    dsimp only
    simp (disch := omega) only [zcmp, zari, z00, zm1, le_n, lt_n, eq_n, n_add, n_mul, n_c, n_in, true_and, and_true, if_true, if_false, bi_0, bi_1, ite_true, ite_false, Bool.true_eq_false, Bool.false_eq_true, hD.1, show ¬ nD S ≤ k by omega, bs_in _ (show k < 64 by omega), hX.2.2.1 a (by omega) k (by omega)]
    have key : ∀ y', bm y' (fun d => (decide (d < k) && rgd S sl d a) || (d == k && rgd S sl k a)) → r (nI (k + 1), y') := fun y' hy' => hr y' (bm_to hy' (fun i _ => by
      by_cases e1 : i = k
      · subst e1; simp
      · by_cases e2 : i < k
        · simp [e1, e2, show i < k + 1 by omega]
        · simp [e1, e2, show ¬ i < k + 1 by omega]))
    cases e : nm S k a with
    | none =>
      simp only [Option.isSome_none, if_true]
      rintro _ rfl
      refine key y (bm_to hy (fun i _ => ?_))
      simp [rgd, e]
    | some v =>
      simp only [Option.isSome_some, Bool.true_eq_false, if_false]
      rw [hX.2.2.2.1 a k v (by omega) (by omega) e]
      refine c_takes hl hs v ?_
      simp (disch := omega) only [zcmp, zari, z00, zm1, le_n, lt_n, eq_n, n_add, n_mul, n_c, n_in, true_and, and_true, if_true, if_false, bi_0, bi_1, ite_true, ite_false, Bool.true_eq_false, Bool.false_eq_true]
      have e3 : rgd S sl k a = inr sl a v := by simp [rgd, e]
      cases e2 : inr sl a v with
      | false =>
        simp only [if_true]
        rintro _ rfl
        refine key y (bm_to hy (fun i _ => ?_))
        simp [e3, e2]
      | true =>
        simp only [Bool.true_eq_false, if_false, bs_bit]
        rintro _ rfl _ rfl
        refine key _ (bm_to (bm_or hy (bm_bit (show k < 64 by omega))) (fun i _ => ?_))
        simp [e3, e2]
  · intro r y hy
    dsimp only
    simp (disch := omega) only [zcmp, zari, z00, zm1, le_n, lt_n, eq_n, n_add, n_mul, n_c, n_in, true_and, and_true, if_true, if_false, bi_0, bi_1, ite_true, ite_false, Bool.true_eq_false, Bool.false_eq_true, hD.1, Nat.le_refl]
    refine h y (bm_to hy (fun i _ => ?_))
    by_cases e : i < nD S
    · simp [e]
    · have : nm S i a = none := by
        cases e2 : nm S i a with
        | none => rfl
        | some v => exact absurd (hW.2.2.2.2.2.2.1 i a v e2).1 e
      simp [rgd, this]
theorem c_sift (hF : RF S I A B) (hD : RD S I L A) (hX : RX S I L A) (hW : wf S) {sl : Sl} {a k : Nat} (ha : a < nA S) (hl : wfl S sl) (hs : cSl S sl a k I L A) {post : Int64 → Prop} (h : ∀ m, bm m (fun d => th S d && pas S sl d a) → post m) : wX7_sift I L A B (nI a) k post := by
  have hn := hW.1
  have hk2 := hW.2.1 a ha
  unfold wX7_sift
  rw [c_selOpen hW hl.2.2.2 hl.1 hs]
  simp (disch := omega) only [zcmp, zari, z00, zm1, le_n, lt_n, eq_n, n_add, n_mul, n_c, n_in, true_and, and_true, if_true, if_false, bi_0, bi_1, ite_true, ite_false, Bool.true_eq_false, Bool.false_eq_true]
  cases ho : opn S sl a with
  | true =>
    simp only [Bool.true_eq_false, if_false]
    exact h _ (bm_to hD.2.1 (fun i _ => by simp [pas, ho]))
  | false =>
    simp only [if_true]
    refine c_absentOn hF hD hX hW ha (fun ma hma => ?_)
    simp (disch := omega) only [zcmp, zari, z00, zm1, le_n, lt_n, eq_n, n_add, n_mul, n_c, n_in, true_and, and_true, if_true, if_false, bi_0, bi_1, ite_true, ite_false, Bool.true_eq_false, Bool.false_eq_true, hX.2.1 a ha]
    by_cases e1 : kd S a = 1
    · simp only [e1, if_true]
      refine c_havingAll hF hW hs.1 (fun m hm => ?_)
      rintro _ rfl
      simp (disch := omega) only [zcmp, zari, z00, zm1, le_n, lt_n, eq_n, n_add, n_mul, n_c, n_in, true_and, and_true, if_true, if_false, bi_0, bi_1, ite_true, ite_false, Bool.true_eq_false, Bool.false_eq_true, hs.2.1]
      cases e2 : sl.2.1 a with
      | false =>
        simp only [if_true]
        refine h _ (bm_to (bm_and hD.2.1 hm) (fun i _ => ?_))
        simp [pas, ho, e1, e2]
      | true =>
        simp only [Bool.true_eq_false, if_false]
        refine h _ (bm_to (bm_and (bm_and hD.2.1 hm) hma) (fun i _ => ?_))
        simp only [pas, ho, e1, e2, if_true, Bool.false_or, Bool.not_true]
        cases th S i <;> simp
    · simp only [e1, if_false]
      have fin : ∀ t, bm t (fun d => exb (fun c => ax S c == a && sl.1 c && has S d c) (nC S) || rgd S sl d a) → (if sl.2.1 a = false then post (L 2 &&& t) else post (L 2 &&& (t ||| ma))) := by
        intro t ht
        cases e2 : sl.2.1 a with
        | false =>
          simp only [if_true]
          refine h _ (bm_to (bm_and hD.2.1 ht) (fun i _ => ?_))
          simp [pas, ho, e1, e2]
        | true =>
          simp only [Bool.true_eq_false, if_false]
          refine h _ (bm_to (bm_and hD.2.1 (bm_or ht hma)) (fun i _ => ?_))
          simp only [pas, ho, e1, e2, if_false, Bool.false_or, Bool.true_and]
          cases th S i <;> simp
      simp (disch := omega) only [jn, zcmp, zari, z00, zm1, le_n, lt_n, eq_n, n_add, n_mul, n_c, n_in, true_and, and_true, if_true, if_false, bi_0, bi_1, ite_true, ite_false, Bool.true_eq_false, Bool.false_eq_true, hs.2.1]
      by_cases e3 : kd S a = 2
      · simp only [e3, if_true]
        refine c_inRanges hD hX hW ha hl.2.2.2 hs (fun m hm => fin m (bm_to hm (fun i _ => ?_)))
        have : exb (fun c => ax S c == a && sl.1 c && has S i c) (nC S) = false := by
          cases e4 : exb (fun c => ax S c == a && sl.1 c && has S i c) (nC S) with
          | false => rfl
          | true =>
            obtain ⟨c, hc, h2⟩ := exb_iff.mp e4
            simp only [Bool.and_eq_true, beq_iff_eq] at h2
            exact absurd (by rw [h2.1.1]; exact e3) (hW.2.2.1 c hc).2.1
        rw [this, Bool.false_or]
      · simp only [e3, if_false]
        refine c_havingAny hF hW hs.1 (fun m hm => fin m (bm_to hm (fun i _ => ?_)))
        have : rgd S sl i a = false := by
          unfold rgd
          cases e4 : nm S i a with
          | none => rfl
          | some v => exact absurd (hW.2.2.2.2.2.2.1 i a v e4).2.2.1 e3
        rw [this, Bool.or_false]
theorem RF_46 (hF : RF S I A B) {B' : Nat → Nat → Int64} (h38 : B' 38 = B 38) (h39 : B' 39 = B 39) (h40 : B' 40 = B 40) : RF S I A B' := by
  unfold RF at hF ⊢
  rw [h38, h39, h40]
  exact hF
theorem c_renew (hF : RF S I A B) (hD : RD S I L A) (hX : RX S I L A) (hW : wf S) {post : (Nat → Nat → Int64) → Prop} (h : ∀ B', RF S I A B' → RP S B' → post B') : wX7_renew I L A B post := by
  have hn := hW.1
  unfold wX7_renew
  refine lfix_for (nA S) (fun k (y : Nat → Nat → Int64) => (nI k, y)) (fun k y => RF S I A y ∧ ∀ a, a < k → bm (y 46 a) (fun d => th S d && pas S (se S) d a)) 0 B (Nat.zero_le _) ⟨hF, fun a ha => absurd ha (Nat.not_lt_zero a)⟩ ?_ ?_
  · rintro r k y hk ⟨hy1, hy2⟩ hr
    dsimp only
    simp (disch := omega) only [zcmp, zari, z00, zm1, le_n, lt_n, eq_n, n_add, n_mul, n_c, n_in, true_and, and_true, if_true, if_false, bi_0, bi_1, ite_true, ite_false, Bool.true_eq_false, Bool.false_eq_true, hX.1, show ¬ nA S ≤ k by omega]
    refine c_sift hy1 hD hX hW hk hW.2.2.2.2.2.2.2.2.2.2.1 (hX.2.2.2.2 k (by omega)) (fun m hm => ?_)
    rintro _ rfl _ rfl
    refine hr _ ⟨RF_46 hy1 (up_n _ _ (by decide)) (up_n _ _ (by decide)) (up_n _ _ (by decide)), fun a ha => ?_⟩
    rw [up_s]
    by_cases e : a = k
    · subst e; rw [ul_s]; exact hm
    · rw [ul_n _ _ e]; exact hy2 a (by omega)
  · rintro r y ⟨hy1, hy2⟩
    dsimp only
    simp (disch := omega) only [zcmp, zari, z00, zm1, le_n, lt_n, eq_n, n_add, n_mul, n_c, n_in, true_and, and_true, if_true, if_false, bi_0, bi_1, ite_true, ite_false, Bool.true_eq_false, Bool.false_eq_true, hX.1, Nat.le_refl]
    exact h y hy1 hy2
theorem c_lifted (hD : RD S I L A) (hX : RX S I L A) (hP : RP S B) (hW : wf S) (a b : Nat) {post : Int64 → Prop} (h : ∀ m, bm m (fun d => th S d && alb (fun x => x == a || x == b || pas S (se S) d x) (nA S)) → post m) : wX7_lifted I L A B (enc a) (enc b) post := by
  have hn := hW.1
  unfold wX7_lifted
  rintro _ rfl
  refine lfix_for (nA S) (fun k (y : Int64) => (nI k, y)) (fun k y => bm y (fun d => th S d && alb (fun x => x == a || x == b || pas S (se S) d x) k)) 0 _ (Nat.zero_le _) (bm_to hD.2.1 (fun i _ => by simp [alb])) ?_ ?_
  · intro r k y hk hy hr
    dsimp only
    simp (disch := omega) only [zcmp, zari, z00, zm1, le_n, lt_n, eq_n, n_add, n_mul, n_c, n_in, true_and, and_true, if_true, if_false, bi_0, bi_1, ite_true, ite_false, Bool.true_eq_false, Bool.false_eq_true, hX.1, show ¬ nA S ≤ k by omega, enc_eq (show k < 5 by omega)]
    by_cases e1 : k = a
    · simp only [e1, if_true]
      rintro _ rfl
      rw [← e1]
      refine hr _ (bm_to hy (fun i _ => ?_))
      simp [alb, e1]
    · simp only [e1, if_false]
      by_cases e2 : k = b
      · simp only [e2, if_true]
        rintro _ rfl
        rw [← e2]
        refine hr _ (bm_to hy (fun i _ => ?_))
        simp [alb, e2]
      · simp only [e2, if_false]
        rintro _ rfl _ rfl
        refine hr _ (bm_to (bm_and hy (hP k hk)) (fun i _ => ?_))
        simp only [alb, show (k == a) = false by simp [e1], show (k == b) = false by simp [e2], Bool.false_or]
        cases th S i <;> simp
  · intro r y hy
    dsimp only
    simp (disch := omega) only [zcmp, zari, z00, zm1, le_n, lt_n, eq_n, n_add, n_mul, n_c, n_in, true_and, and_true, if_true, if_false, bi_0, bi_1, ite_true, ite_false, Bool.true_eq_false, Bool.false_eq_true, hX.1, Nat.le_refl]
    exact h y hy
theorem c_hits (hD : RD S I L A) (hX : RX S I L A) (hP : RP S B) (hW : wf S) {post : Int64 → Prop} (h : ∀ m, bm m (fun d => nea S (se S) d 9) → post m) : wX7_hits I L A B post := by
  unfold wX7_hits
  rw [← enc_9]
  refine c_lifted hD hX hP hW 9 9 (fun m hm => h m (bm_to hm (fun i _ => ?_)))
  unfold nea
  congr 1
  exact alb_cong (fun k _ => by cases (k == 9) <;> rfl)
theorem enc_in {a : Nat} (h : a < 5) : enc a = nI a := by simp [enc, h]
/-- the axis that is lifted for the counts of an axis -/
def lft (S : SS) (x : Nat) : Nat := if kd S x = 1 then 9 else x
theorem c_lift1 (hD : RD S I L A) (hX : RX S I L A) (hP : RP S B) (hW : wf S) {x : Nat} (hx : x < nA S) {post : Int64 → Prop} (h : ∀ m, bm m (fun d => nea S (se S) d x) → post m) : wX7_lifted I L A B (nI x) (nI x) post := by
  have hn := hW.1
  rw [← enc_in (show x < 5 by omega)]
  refine c_lifted hD hX hP hW x x (fun m hm => h m (bm_to hm (fun i _ => ?_)))
  unfold nea
  congr 1
  exact alb_cong (fun k _ => by cases (k == x) <;> rfl)
theorem c_audience (hD : RD S I L A) (hX : RX S I L A) (hP : RP S B) (hW : wf S) {x : Nat} (hx : x < nA S) {post : Int64 → Prop} (h : ∀ m, bm m (fun d => nea S (se S) d (lft S x)) → post m) : wX7_audience I L A B (nI x) post := by
  have hn := hW.1
  have hk2 := hW.2.1 x hx
  unfold wX7_audience
  simp (disch := omega) only [zcmp, zari, z00, zm1, le_n, lt_n, eq_n, n_add, n_mul, n_c, n_in, true_and, and_true, if_true, if_false, bi_0, bi_1, ite_true, ite_false, Bool.true_eq_false, Bool.false_eq_true, hX.2.1 x hx]
  unfold lft at h
  by_cases e : kd S x = 1
  · simp only [e, if_true] at h ⊢
    exact c_hits hD hX hP hW h
  · simp only [e, if_false] at h ⊢
    exact c_lift1 hD hX hP hW hx h
/-- what a category shows -/
def cou (S : SS) (d c : Nat) : Bool := nea S (se S) d (lft S (ax S c)) && has S d c
def shw (S : SS) (c : Nat) : Nat := fb_ct (fun d => cou S d c) (nD S)
theorem nea_out (hW : wf S) (sl : Sl) (b : Nat) : ∀ i, nD S ≤ i → nea S sl i b = false := fun i hi => by
  unfold nea
  cases e : th S i with
  | false => rfl
  | true => exact absurd (hW.2.2.2.2.1 i e) (by omega)
theorem c_showing (hF : RF S I A B) (hD : RD S I L A) (hX : RX S I L A) (hP : RP S B) (hW : wf S) {c : Nat} (hc : c < nC S) {post : Int32 → Prop} (h : post (nI (shw S c))) : wX7_showing I L A B (nI c) post := by
  have hn := hW.1
  have ha := (hW.2.2.1 c hc).1
  unfold wX7_showing
  simp (disch := omega) only [zcmp, zari, z00, zm1, le_n, lt_n, eq_n, n_add, n_mul, n_c, n_in, true_and, and_true, if_true, if_false, bi_0, bi_1, ite_true, ite_false, Bool.true_eq_false, Bool.false_eq_true, hF.2.1 c hc]
  refine c_audience hD hX hP hW ha (fun m hm => ?_)
  rw [bm_ct (bm_and hm (hF.2.2.2.2.2.1 c hc)) (n := nD S) (fun i hi => by rw [nea_out hW _ _ i hi]; rfl) (by omega)]
  exact h
end
