section
variable {S : SS} {J : Nat → Int32} {E : Nat → Nat → Int32} {I : Nat → Int32} {L : Nat → Int64} {A : Nat → Nat → Int32} {B : Nat → Nat → Int64}
def sg (frm p i : Nat) : Nat := if i < p then i else if i = p then frm else if i ≤ frm then i - 1 else i
theorem insf_sg (f : Nat → Nat) (frm p i : Nat) : insf f frm p i = f (sg frm p i) := by
  unfold insf sg
  split
  · rfl
  · split
    · rfl
    · split <;> rfl
theorem sg_inj {frm p i j : Nat} (hp : p ≤ frm) (h : sg frm p i = sg frm p j) : i = j := by
  unfold sg at h
  split at h <;> split at h <;> (try split at h) <;> (try split at h) <;> (try split at h) <;> (try split at h) <;> omega
theorem sg_lt {frm p i n : Nat} (hp : p ≤ frm) (hf : frm < n) (hi : i < n) : sg frm p i < n := by
  unfold sg
  split
  · omega
  · split
    · omega
    · split <;> omega
theorem sg_onto {frm p j n : Nat} (hp : p ≤ frm) (hf : frm < n) (hj : j < n) : ∃ i, i < n ∧ sg frm p i = j := by
  by_cases h1 : frm < j
  · exact ⟨j, hj, by unfold sg; rw [if_neg (by omega), if_neg (by omega), if_neg (by omega)]⟩
  · by_cases h2 : j = frm
    · exact ⟨p, by omega, by unfold sg; rw [if_neg (by omega), if_pos rfl, h2]⟩
    · by_cases h3 : j < p
      · exact ⟨j, by omega, by unfold sg; rw [if_pos h3]⟩
      · exact ⟨j + 1, by omega, by unfold sg; rw [if_neg (by omega), if_neg (by omega), if_pos (by omega), Nat.add_sub_cancel]⟩
/-- settle: sorts by the new points -/
theorem c_settle {pts f : Nat → Nat} {q : Nat → Bool} {N m : Nat} (hN : N ≤ 40) (hm : m ≤ 40) (hI : I 8 = nI m) (hw : ∀ i, i < m → A 42 i = nI (f i)) (hpt : ∀ i, i < m → A 44 (f i) = nI (pts (f i))) (hp : ∀ c, pts c < 2 ^ 31) (hr : ∀ i, i < m → f i < N ∧ q (f i) = true) (ho : ∀ e, e < N → q e = true → ∃ i, i < m ∧ f i = e) (hj : ∀ i j, i < m → j < m → f i = f j → i = j) {post : (Nat → Nat → Int32) → Prop} (h : ∀ g A', RK I A' pts q N m g → (∀ k, k ≠ 42 → A' k = A k) → post A') : wX3_settle I L A B 8 post := by
  unfold wX3_settle
  refine lfix_for (if m ≤ 1 then 1 else m) (fun k (y : Nat → Nat → Int32) => (nI k, y)) (fun k y => ∃ g : Nat → Nat, (∀ i, i < m → y 42 i = nI (g i)) ∧ (∀ i, i < m → g i < N ∧ q (g i) = true) ∧ (∀ e, e < N → q e = true → ∃ i, i < m ∧ g i = e) ∧ (∀ i j, i < m → j < m → g i = g j → i = j) ∧ (∀ i, i < m → A 44 (g i) = nI (pts (g i))) ∧ (∀ i j, i < j → j < k → j < m → gtp pts (g i) (g j) = true) ∧ ∀ k, k ≠ 42 → y k = A k) 1 A (by split <;> omega) ⟨f, hw, hr, ho, hj, hpt, fun i j _ _ _ => by omega, fun _ _ => rfl⟩ ?_ ?_
  · rintro r k A2 hkm ⟨g, k3, k4, k5, k6, k7, k8, k9⟩ hrr
    have hk40 : k < 41 := by split at hkm <;> omega
    dsimp only
    simp (disch := omega) only [zcmp, zari, z00, zm1, le_n, lt_n, eq_n, n_add, n_mul, n_c, n_in, true_and, and_true, if_true, if_false, bi_0, bi_1, ite_true, ite_false, Bool.true_eq_false, Bool.false_eq_true, hI]
    by_cases e : m ≤ k
    · simp only [e, if_true]
      exact h g A2 ⟨hI, k3, fun i hi => by rw [k9 44 (by decide)]; exact k7 i hi, k4, fun i j hij hj => k8 i j hij (by omega) hj, k5⟩ k9
    · simp only [e, if_false]
      refine c_rise (k0 := 8) (f := g) (pts := pts) (n := m) (frm := k) hm (by omega) k3 (fun i hi => by have := (k4 i hi).1; omega) (fun i hi => by rw [k9 44 (by decide)]; exact k7 i hi) hp (fun p A' q1 q2 q3 q4 q5 => ?_)
      rintro _ rfl
      have sl : ∀ i, i < m → sg k p i < m := fun i hi => sg_lt q1 (by omega) hi
      refine hrr A' ⟨insf g k p, q4, fun i hi => ?_, fun e he h2 => ?_, fun i j hi hj h2 => ?_, fun i hi => ?_, fun i j hij hj hjm => ?_, fun j hj => ?_⟩
      · rw [insf_sg]; exact k4 _ (sl i hi)
      · obtain ⟨j, hj, e3⟩ := k5 e he h2
        obtain ⟨i, hi, e4⟩ := sg_onto (frm := k) (p := p) (n := m) q1 (by omega) hj
        exact ⟨i, hi, by rw [insf_sg, e4, e3]⟩
      · rw [insf_sg, insf_sg] at h2
        exact sg_inj q1 (k6 _ _ (sl i hi) (sl j hj) h2)
      · rw [insf_sg]; exact k7 _ (sl i hi)
      · exact ins_sorted q1 (fun j hj e5 => by have := k6 j k (by omega) (by omega) e5; omega) (fun i j hij hj => k8 i j hij hj (by omega)) q2 q3 i j hij hj
      · exact (q5 j hj).trans (k9 j hj)
  · rintro r A2 ⟨g, k3, k4, k5, k6, k7, k8, k9⟩
    dsimp only
    have hz : (if m ≤ 1 then 1 else m) ≤ 40 ∧ m ≤ (if m ≤ 1 then 1 else m) := by split <;> omega
    simp (disch := omega) only [zcmp, zari, z00, zm1, le_n, lt_n, eq_n, n_add, n_mul, n_c, n_in, true_and, and_true, if_true, if_false, bi_0, bi_1, ite_true, ite_false, Bool.true_eq_false, Bool.false_eq_true, hI, hz.2]
    exact h g A2 ⟨hI, k3, fun i hi => by rw [k9 44 (by decide)]; exact k7 i hi, k4, fun i j hij hj => k8 i j hij (by omega) hj, k5⟩ k9
theorem c_readOne (hF : RF S I A B) (hW : wf S) {pts pts' f : Nat → Nat} {q : Nat → Bool} {m d : Nat} (hd : d < 40) {A1 : Nat → Nat → Int32} (h : RK I A1 pts q (nC S) m f) (hp : ∀ c, pts c < 2 ^ 30) (hp2 : ∀ c, pts' c < 2 ^ 31) (he : ∀ c, c < nC S → q c = true → pts' c = pts c + if has S d c then 1 else 0) {post : (Nat → Nat → Int32) → Prop} (hh : ∀ g A', RK I A' pts' q (nC S) m g → (∀ k, k ≠ 42 → k ≠ 44 → A' k = A1 k) → post A') : wX9_readOne I L A1 B (nI d) post := by
  have hn := hW.1
  have hml := RK_m h
  have hinj := fun i j (hi : i < m) (hj : j < m) (e : f i = f j) => en_inj (gtp_irr pts) h.2.2.2 hi hj e
  unfold wX9_readOne
  refine lfix_for m (fun k (y : Nat → Nat → Int32) => (nI k, y)) (fun k y => (∀ i, i < m → y 44 (f i) = nI (if i < k then pts' (f i) else pts (f i))) ∧ ∀ j, j ≠ 44 → y j = A1 j) 0 A1 (Nat.zero_le _) ⟨fun i hi => by rw [if_neg (by omega)]; exact h.2.2.1 i hi, fun _ _ => rfl⟩ ?_ ?_
  · rintro r k A2 hk ⟨j1, j2⟩ hr
    have hfk := h.2.2.2.1 k hk
    dsimp only
    simp (disch := omega) only [zcmp, zari, z00, zm1, le_n, lt_n, eq_n, n_add, n_mul, n_c, n_in, true_and, and_true, if_true, if_false, bi_0, bi_1, ite_true, ite_false, Bool.true_eq_false, Bool.false_eq_true, h.1, show ¬ m ≤ k by omega, j2 42 (by decide), h.2.1 k hk]
    rintro _ rfl
    have e44 := j1 k hk
    rw [if_neg (by omega)] at e44
    have hpk := hp (f k)
    simp (disch := omega) only [zcmp, zari, z00, zm1, le_n, lt_n, eq_n, n_add, n_mul, n_c, n_in, true_and, and_true, if_true, if_false, bi_0, bi_1, ite_true, ite_false, Bool.true_eq_false, Bool.false_eq_true, bs_in _ (show d < 64 by omega), hF.2.2.2.2.2.1 (f k) hfk.1 d (by omega), e44]
    have e5 := he (f k) hfk.1 hfk.2
    cases e1 : has S d (f k) with
    | false =>
      simp only [if_true]
      rintro _ rfl
      refine hr A2 ⟨fun i hi => ?_, j2⟩
      rw [j1 i hi]
      by_cases e2 : i = k
      · subst e2
        rw [if_neg (by omega), if_pos (by omega), e5, e1]; simp
      · by_cases e3 : i < k
        · rw [if_pos e3, if_pos (by omega)]
        · rw [if_neg e3, if_neg (by omega)]
    | true =>
      simp only [Bool.true_eq_false, if_false]
      rintro _ rfl _ rfl
      refine hr _ ⟨fun i hi => ?_, fun j hj => by rw [up_n _ _ hj]; exact j2 j hj⟩
      rw [up_s]
      by_cases e2 : i = k
      · subst e2
        rw [ud_s, if_pos (by omega), e5, e1]; simp
      · rw [ud_n _ _ (fun q => e2 (hinj i k hi hk q)), j1 i hi]
        by_cases e3 : i < k
        · rw [if_pos e3, if_pos (by omega)]
        · rw [if_neg e3, if_neg (by omega)]
  · rintro r A2 ⟨j1, j2⟩
    dsimp only
    simp (disch := omega) only [zcmp, zari, z00, zm1, le_n, lt_n, eq_n, n_add, n_mul, n_c, n_in, true_and, and_true, if_true, if_false, bi_0, bi_1, ite_true, ite_false, Bool.true_eq_false, Bool.false_eq_true, h.1, Nat.le_refl]
    refine c_settle (pts := pts') (f := f) (q := q) (N := nC S) (m := m) (by omega) (by omega) h.1 (fun i hi => by rw [j2 42 (by decide)]; exact h.2.1 i hi) (fun i hi => by rw [j1 i hi, if_pos hi]) hp2 h.2.2.2.1 h.2.2.2.2.2 hinj (fun g A' g1 g2 => ?_)
    exact hh g A' g1 (fun k q1 q2 => by rw [g2 k q1, j2 k q2])
/-- ahead, whatever comes -/
def bts (pts : Nat → Nat) (lf i j : Nat) : Bool := decide (pts j + lf < pts i) || (pts i == pts j + lf && decide (i < j))
def crt (S : SS) (a : Nat) (pts : Nat → Nat) (k lf i j : Nat) : Bool := !(ax S i == a && decide (rkc S a pts i < k)) || (!(ax S j == a && decide (k ≤ rkc S a pts j)) || bts pts lf i j)
def crtB (S : SS) (a : Nat) (pts : Nat → Nat) (k lf : Nat) : Bool := alb (fun i => alb (fun j => crt S a pts k lf i j) (nC S)) (nC S)
theorem cert_eq {a : Nat} {pts f : Nat → Nat} {m k lf : Nat} (h : enm (fun c => ax S c == a) (nC S) (gtp pts) f m) (hk : 1 ≤ k) : crtB S a pts k lf = if k < m then bts pts lf (f (k - 1)) (f k) else true := by
  have rk : ∀ s, s < m → rkc S a pts (f s) = s := fun s hs => rk_en (gtp_irr _) (fun _ _ => gtp_asy) h hs
  have mono : ∀ s t, s ≤ t → t < m → pts (f t) < pts (f s) ∨ (pts (f s) = pts (f t) ∧ f s ≤ f t) := by
    intro s t hst ht
    by_cases e : s = t
    · rw [e]; exact Or.inr ⟨rfl, Nat.le_refl _⟩
    · have := gtp_iff.mp (h.2.1 s t (by omega) ht); omega
  by_cases e : k < m
  · rw [if_pos e]
    cases e2 : bts pts lf (f (k - 1)) (f k) with
    | true =>
      refine alb_iff.mpr (fun i hi => alb_iff.mpr (fun j hj => ?_))
      unfold crt
      cases e3 : (ax S i == a && decide (rkc S a pts i < k)) with
      | false => simp
      | true =>
        cases e4 : (ax S j == a && decide (k ≤ rkc S a pts j)) with
        | false => simp
        | true =>
          simp only [Bool.and_eq_true, decide_eq_true_eq] at e3 e4
          obtain ⟨s, hs, rfl⟩ := h.2.2 i hi e3.1
          obtain ⟨t, ht, rfl⟩ := h.2.2 j hj e4.1
          rw [rk s hs] at e3
          rw [rk t ht] at e4
          have m1 := mono s (k - 1) (by omega) (by omega)
          have m2 := mono k t (by omega) ht
          simp only [bts, Bool.or_eq_true, Bool.and_eq_true, decide_eq_true_eq, beq_iff_eq] at e2
          simp only [bts, Bool.not_true, Bool.false_or, Bool.or_eq_true, Bool.and_eq_true, decide_eq_true_eq, beq_iff_eq]
          omega
    | false =>
      cases e3 : crtB S a pts k lf with
      | false => rfl
      | true =>
        have e4 := alb_iff.mp (alb_iff.mp e3 (f (k - 1)) (h.1 (k - 1) (by omega)).1) (f k) (h.1 k e).1
        have a1 := (h.1 (k - 1) (by omega)).2
        have a2 := (h.1 k e).2
        dsimp only at a1 a2
        simp only [crt, rk (k - 1) (by omega), rk k e, a1, a2, e2, Bool.true_and, show k - 1 < k by omega, Nat.le_refl, decide_true, Bool.not_true, Bool.or_self, Bool.false_eq_true] at e4
  · rw [if_neg e]
    refine alb_iff.mpr (fun i hi => alb_iff.mpr (fun j hj => ?_))
    unfold crt
    cases e4 : (ax S j == a && decide (k ≤ rkc S a pts j)) with
    | false => simp
    | true =>
      simp only [Bool.and_eq_true, decide_eq_true_eq] at e4
      obtain ⟨t, ht, rfl⟩ := h.2.2 j hj e4.1
      rw [rk t ht] at e4
      omega
theorem bmod32 {x : Int} (h1 : -2 ^ 31 ≤ x) (h2 : x < 2 ^ 31) : x.bmod (2 ^ 32) = x := Int.bmod_eq_of_le (by omega) (by omega)
theorem sub3 {a b c : Nat} (ha : a < 2 ^ 20) (hb : b < 2 ^ 20) (hc : c < 2 ^ 20) : ((0 < nI a - nI b - nI c) = (b + c < a)) ∧ ((nI a - nI b - nI c = 0) = (a = b + c)) := by
  have e1 : (nI a - nI b).toInt = (a : Int) - b := by rw [Int32.toInt_sub, nI_toInt (by omega), nI_toInt (by omega), bmod32 (by omega) (by omega)]
  have e2 : (nI a - nI b - nI c).toInt = (a : Int) - b - c := by rw [Int32.toInt_sub, e1, nI_toInt (by omega), bmod32 (by omega) (by omega)]
  have e0 : (0 : Int32).toInt = 0 := by decide
  rw [lt_i, eq_i, e2, e0]
  exact ⟨propext (by omega), propext (by omega)⟩
theorem c_certain {a : Nat} {pts f : Nat → Nat} {m k lf : Nat} (hC : nC S ≤ 40) (h : RK I A pts (fun c => ax S c == a) (nC S) m f) (hp : ∀ c, pts c < 2 ^ 20) (hk : 1 ≤ k) (hk2 : k < 2 ^ 20) (hl : lf < 2 ^ 20) (post : Int32 → Prop) : wX3_isCertain I L A B 8 (nI k) (nI lf) post = post (bi (crtB S a pts k lf)) := by
  have hml := RK_m h
  rw [cert_eq h.2.2.2 hk]
  unfold wX3_isCertain
  simp (disch := omega) only [zcmp, zari, z00, zm1, le_n, lt_n, eq_n, n_add, n_mul, n_c, n_in, true_and, and_true, if_true, if_false, bi_0, bi_1, ite_true, ite_false, Bool.true_eq_false, Bool.false_eq_true, h.1, show ¬ k < 1 by omega]
  by_cases e : k < m
  · have q1 := h.2.2.2.1 (k - 1) (by omega)
    have q2 := h.2.2.2.1 k e
    have p1 := hp (f (k - 1))
    have p2 := hp (f k)
    rw [zsub.1 k hk]
    simp (disch := omega) only [zcmp, zari, z00, zm1, le_n, lt_n, eq_n, n_add, n_mul, n_c, n_in, true_and, and_true, if_true, if_false, bi_0, bi_1, ite_true, ite_false, Bool.true_eq_false, Bool.false_eq_true, e, h.2.1 (k - 1) (by omega), h.2.1 k e]
    simp only [forall_eq]
    have a1 : A (8 + 36) (f (k - 1)) = nI (pts (f (k - 1))) := h.2.2.1 (k - 1) (by omega)
    have a2 : A (8 + 36) (f k) = nI (pts (f k)) := h.2.2.1 k e
    simp (disch := omega) only [zcmp, zari, z00, zm1, le_n, lt_n, eq_n, n_add, n_mul, n_c, n_in, true_and, and_true, if_true, if_false, bi_0, bi_1, ite_true, ite_false, Bool.true_eq_false, Bool.false_eq_true, a1, a2]
    simp only [(sub3 p1 p2 hl).1, (sub3 p1 p2 hl).2]
    unfold bts
    by_cases c1 : pts (f k) + lf < pts (f (k - 1))
    · simp [c1, bi]
    · by_cases c2 : pts (f (k - 1)) = pts (f k) + lf
      · by_cases c3 : f (k - 1) < f k
        · simp [c2, c3, show ¬ f k ≤ f (k - 1) by omega, bi]
        · simp [c2, c3, show f k ≤ f (k - 1) by omega, bi]
      · simp [c1, c2, bi]
  · simp (disch := omega) only [zcmp, zari, z00, zm1, le_n, lt_n, eq_n, n_add, n_mul, n_c, n_in, true_and, and_true, if_true, if_false, bi_0, bi_1, ite_true, ite_false, Bool.true_eq_false, Bool.false_eq_true, e]
    rfl
theorem m_certain (hM : RM S J E) (hW : wf S) {a k lf : Nat} {pts : Nat → Nat} (ha : a < nA S) (ht : ∀ c, c < nC S → ax S c = a → E 14 c = nI (pts c)) (hp : ∀ c, pts c < 2 ^ 20) (hk : k < 2 ^ 20) (hl : lf < 2 ^ 20) {post : Int32 → Prop} (h : post (bi (crtB S a pts k lf))) : wX10_isCertain J E (nI a) (nI k) (nI lf) post := by
  have hn := hW.1
  have hp3 : ∀ c, pts c < 2 ^ 31 := fun c => by have := hp c; omega
  unfold wX10_isCertain
  refine lfix_for (nC S) (fun i (y : Int32) => (nI i, y)) (fun i y => y = bi (alb (fun i => alb (fun j => crt S a pts k lf i j) (nC S)) i)) 0 _ (Nat.zero_le _) rfl ?_ ?_
  · rintro r i _ hi rfl hr
    have hr := hr _ rfl
    have hai := (hW.2.2.1 i hi).1
    dsimp only
    simp (disch := omega) only [zcmp, zari, z00, zm1, le_n, lt_n, eq_n, n_add, n_mul, n_c, n_in, true_and, and_true, if_true, if_false, bi_0, bi_1, ite_true, ite_false, Bool.true_eq_false, Bool.false_eq_true, hM.1.2.1, show ¬ nC S ≤ i by omega]
    have hri : rkc S a pts i ≤ 40 := Nat.le_trans (fb_ct_le _ _) (by omega)
    refine lfix_for (nC S) (fun j (y : Int32) => (nI j, y)) (fun j y => y = bi (alb (fun i => alb (fun j => crt S a pts k lf i j) (nC S)) i && alb (fun j => crt S a pts k lf i j) j)) 0 _ (Nat.zero_le _) (by rw [show alb (fun j => crt S a pts k lf i j) 0 = true from rfl, Bool.and_true]) ?_ ?_
    · rintro r2 j _ hj rfl hr2
      have hr2 := hr2 _ rfl
      have haj := (hW.2.2.1 j hj).1
      dsimp only
      simp (disch := omega) only [zcmp, zari, z00, zm1, le_n, lt_n, eq_n, n_add, n_mul, n_c, n_in, true_and, and_true, if_true, if_false, bi_0, bi_1, ite_true, ite_false, Bool.true_eq_false, Bool.false_eq_true, hM.1.2.1, show ¬ nC S ≤ j by omega, hM.2.2.1 i hi, hM.2.2.1 j hj]
      have out : (ax S i == a && decide (rkc S a pts i < k)) = false → ∀ n, alb (fun j => crt S a pts k lf i j) n = true := fun q n => alb_iff.mpr (fun j _ => by simp [crt, q])
      by_cases e1 : ax S i = a
      · simp (disch := omega) only [zcmp, zari, z00, zm1, le_n, lt_n, eq_n, n_add, n_mul, n_c, n_in, true_and, and_true, if_true, if_false, bi_0, bi_1, ite_true, ite_false, Bool.true_eq_false, Bool.false_eq_true, e1]
        refine m_ahead hM hW ht hp3 hi e1 ?_
        simp (disch := omega) only [zcmp, zari, z00, zm1, le_n, lt_n, eq_n, n_add, n_mul, n_c, n_in, true_and, and_true, if_true, if_false, bi_0, bi_1, ite_true, ite_false, Bool.true_eq_false, Bool.false_eq_true]
        by_cases e2 : k ≤ rkc S a pts i
        · simp only [e2, if_true]
          rintro _ rfl
          have o := out (by simp; omega)
          rw [o j, ← o (nC S)]
          exact hr
        · simp only [e2, if_false]
          have hrj : rkc S a pts j ≤ 40 := Nat.le_trans (fb_ct_le _ _) (by omega)
          refine jn_have (fun t => t = bi (ax S j == a && decide (k ≤ rkc S a pts j))) ?_ ?_
          · rintro _ rfl
            have e3 : crt S a pts k lf i j = (!(ax S j == a && decide (k ≤ rkc S a pts j)) || bts pts lf i j) := by
              unfold crt
              rw [show (ax S i == a && decide (rkc S a pts i < k)) = true by simp [e1]; omega]
              rfl
            rw [alb, e3, ← Bool.and_assoc] at hr2
            simp only [jn]
            simp (disch := omega) only [zcmp, zari, z00, zm1, le_n, lt_n, eq_n, n_add, n_mul, n_c, n_in, true_and, and_true, if_true, if_false, bi_0, bi_1, ite_true, ite_false, Bool.true_eq_false, Bool.false_eq_true]
            cases o1 : (alb (fun i => alb (fun j => crt S a pts k lf i j) (nC S)) i && alb (fun j => crt S a pts k lf i j) j) with
            | false =>
              rw [o1] at hr2
              simp only [if_true]
              rintro _ rfl
              exact hr2
            | true =>
              rw [o1] at hr2
              simp only [Bool.true_eq_false, if_false]
              cases o2 : (ax S j == a && decide (k ≤ rkc S a pts j)) with
              | false =>
                rw [o2] at hr2
                simp only [if_true]
                rintro _ rfl
                exact hr2
              | true =>
                rw [o2] at hr2
                simp only [Bool.true_eq_false, if_false]
                have o3 : ax S j = a := by simp only [Bool.and_eq_true, beq_iff_eq] at o2; exact o2.1
                have p1 := hp i
                have p2 := hp j
                simp (disch := omega) only [zcmp, zari, z00, zm1, le_n, lt_n, eq_n, n_add, n_mul, n_c, n_in, true_and, and_true, if_true, if_false, bi_0, bi_1, ite_true, ite_false, Bool.true_eq_false, Bool.false_eq_true, ht i hi e1, ht j hj o3]
                rw [m_better (by omega) (by omega) (by omega) (by omega)]
                have o4 : (decide (pts j + lf < pts i) || (pts i == pts j + lf && decide (i < j))) = bts pts lf i j := rfl
                rw [o4]
                simp (disch := omega) only [zcmp, zari, z00, zm1, le_n, lt_n, eq_n, n_add, n_mul, n_c, n_in, true_and, and_true, if_true, if_false, bi_0, bi_1, ite_true, ite_false, Bool.true_eq_false, Bool.false_eq_true]
                cases o5 : bts pts lf i j with
                | false =>
                  rw [o5] at hr2
                  simp only [if_true]
                  rintro _ rfl
                  exact hr2
                | true =>
                  rw [o5] at hr2
                  simp only [Bool.true_eq_false, if_false]
                  rintro _ rfl
                  exact hr2
          · intro k1 h1
            simp only [jn]
            by_cases e4 : ax S j = a
            · simp (disch := omega) only [zcmp, zari, z00, zm1, le_n, lt_n, eq_n, n_add, n_mul, n_c, n_in, true_and, and_true, if_true, if_false, bi_0, bi_1, ite_true, ite_false, Bool.true_eq_false, Bool.false_eq_true, e4]
              refine m_ahead hM hW ht hp3 hj e4 ?_
              simp (disch := omega) only [zcmp, zari, z00, zm1, le_n, lt_n, eq_n, n_add, n_mul, n_c, n_in, true_and, and_true, if_true, if_false, bi_0, bi_1, ite_true, ite_false, Bool.true_eq_false, Bool.false_eq_true]
              by_cases e5 : rkc S a pts j < k
              · simp only [e5, if_true]
                exact h1 _ (by simp [bi, show ¬ k ≤ rkc S a pts j by omega])
              · simp only [e5, if_false]
                exact h1 _ (by simp [bi, e4, show k ≤ rkc S a pts j by omega])
            · simp (disch := omega) only [zcmp, zari, z00, zm1, le_n, lt_n, eq_n, n_add, n_mul, n_c, n_in, true_and, and_true, if_true, if_false, bi_0, bi_1, ite_true, ite_false, Bool.true_eq_false, Bool.false_eq_true, e4]
              exact h1 _ (by simp [bi, e4])
      · simp (disch := omega) only [zcmp, zari, z00, zm1, le_n, lt_n, eq_n, n_add, n_mul, n_c, n_in, true_and, and_true, if_true, if_false, bi_0, bi_1, ite_true, ite_false, Bool.true_eq_false, Bool.false_eq_true, e1]
        rintro _ rfl
        have o := out (by simp [e1])
        rw [o j, ← o (nC S)]
        exact hr
    · rintro r2 _ rfl
      dsimp only
      simp (disch := omega) only [zcmp, zari, z00, zm1, le_n, lt_n, eq_n, n_add, n_mul, n_c, n_in, true_and, and_true, if_true, if_false, bi_0, bi_1, ite_true, ite_false, Bool.true_eq_false, Bool.false_eq_true, hM.1.2.1, Nat.le_refl]
      rintro _ rfl
      exact hr
  · rintro r _ rfl
    dsimp only
    simp (disch := omega) only [zcmp, zari, z00, zm1, le_n, lt_n, eq_n, n_add, n_mul, n_c, n_in, true_and, and_true, if_true, if_false, bi_0, bi_1, ite_true, ite_false, Bool.true_eq_false, Bool.false_eq_true, hM.1.2.1, Nat.le_refl]
    exact ⟨bi_zb, h⟩
/-- points after p documents -/
def pfx (S : SS) (p c : Nat) : Nat := fb_ct (fun j => cou S (od S j) c) p
theorem t_read (hC : RC S I L A B) (hM : RM S J E) (hW : wf S) (x y : Int32) {K : Int32 → Int32 → (Nat → Int32) → (Nat → Nat → Int32) → (Nat → Int32) → (Nat → Nat → Int32) → Prop} (hK : ∀ r I' A' J' E', RC S I' L A' B → RM S J' E' → K r r I' A' J' E') : wX9_read I L A B x y (fun r I' A' => wX10_read J E x y (fun r' J' E' => K r r' I' A' J' E')) := by
  have hC0 := hC
  obtain ⟨hF, hD, hX, hT, hP⟩ := hC
  have hn := hW.1
  have hM := RM_t hM 0
  unfold wX9_read
  rcases ix x (n := nA S) (by omega) with h | ⟨a, ha, rfl⟩
  · rw [c_isTree_o hX h]
    simp only [z00, if_true]
    unfold wX10_read
    rintro _ rfl
    rw [m_isTree_o hM h]
    simp only [z00, if_true]
    exact hK _ _ _ _ _ hC0 hM
  · have ht5 : ∀ {post : Int32 → Prop}, wX10_isTree (va_up J 0 0) E (nI a) post = post (bi (!(kd S a == 2))) := m_isTree hM hW ha _
    rw [c_isTree hX hW ha]
    cases e2 : (kd S a == 2) with
    | true =>
      simp only [Bool.not_true, bi_f, z00, if_true]
      unfold wX10_read
      rintro _ rfl
      rw [ht5, e2]
      simp only [Bool.not_true, bi_f, z00, if_true]
      exact hK _ _ _ _ _ hC0 hM
    | false =>
      simp only [Bool.not_false, bi_t, z00, if_false]
      by_cases h0 : y < 1
      · simp only [h0, if_true]
        unfold wX10_read
        rintro _ rfl
        rw [ht5, e2]
        simp only [Bool.not_false, bi_t, z00, if_false, m_within, h0, if_true]
        exact hK _ _ _ _ _ hC0 hM
      · simp only [h0, if_false]
        by_cases h4 : y ≤ 9
        · simp only [h4, if_true]
          have h00 : ¬ y < 0 := by rw [lt_i] at h0 ⊢; have : (1 : Int32).toInt = 1 := by decide
                                   have : (0 : Int32).toInt = 0 := by decide
                                   omega
          obtain ⟨k, hkk, rfl⟩ := nI_of h00
          have hk1 : 1 ≤ k ∧ k ≤ 9 := by simp (disch := omega) only [zcmp, zari, z00, zm1, le_n, lt_n, eq_n, n_add, n_mul, n_c, n_in, true_and, and_true, if_true, if_false, bi_0, bi_1, ite_true, ite_false, Bool.true_eq_false, Bool.false_eq_true] at h0 h4; omega
          have hle := nT_le hW
          have hpl : ∀ p, p ≤ 40 → ∀ c, pfx S p c < 2 ^ 20 := fun p hp c => by have := fb_ct_le (fun j => cou S (od S j) c) p; unfold pfx; omega
          let C : Nat → Bool := fun p => crtB S a (pfx S p) k (nT S - p)
          have hm : ∀ {K2 : Int32 → (Nat → Int32) → (Nat → Nat → Int32) → Prop}, (∀ J' E', RM S J' E' → K2 (nI ((ff C (nT S)).getD (nT S))) J' E') → wX10_read J E (nI a) (nI k) (fun r' J' E' => K2 r' J' E') := by
            intro K2 hK2
            unfold wX10_read
            rintro _ rfl
            rw [ht5, e2]
            have h49 : ¬ (9 : Int32) < nI k := by simp (disch := omega) only [zcmp, zari, z00, zm1, le_n, lt_n, eq_n, n_add, n_mul, n_c, n_in, true_and, and_true, if_true, if_false, bi_0, bi_1, ite_true, ite_false, Bool.true_eq_false, Bool.false_eq_true]; omega
            simp only [Bool.not_false, bi_t, z00, if_false, m_within, h0, h49]
            refine m_orders hM hW (fun J1 E1 hM1 j5 j11 _ => ?_)
            have hMf : ∀ f, RM S J1 (va_up E1 14 f) := fun f => RM_E hW hM1 (fun j _ _ _ => up_n _ _ (by omega)) (fun i _ => by rw [up_n _ _ (by decide)])
            suffices H : ∃ n, lfix _ n ((fun c (f : Nat → Int32) => (nI c, va_up E1 14 f)) 0 (E1 14)) by
              dsimp only at H
              rw [va_self] at H
              exact H
            refine lfix_for (nC S) (fun c (f : Nat → Int32) => (nI c, va_up E1 14 f)) (fun c f => ∀ e, e < c → f e = 0) 0 (E1 14) (Nat.zero_le _) (fun e he => by omega) ?_ ?_
            · intro r c f hc hf hr
              dsimp only
              simp (disch := omega) only [zcmp, zari, z00, zm1, le_n, lt_n, eq_n, n_add, n_mul, n_c, n_in, true_and, and_true, if_true, if_false, bi_0, bi_1, ite_true, ite_false, Bool.true_eq_false, Bool.false_eq_true, (hMf f).1.2.1, show ¬ nC S ≤ c by omega]
              rintro _ rfl _ rfl
              rw [va_uu]
              refine hr _ (fun e he => ?_)
              rw [up_s]
              by_cases e3 : e = c
              · rw [e3, ud_s]
              · rw [ud_n _ _ e3]; exact hf e (by omega)
            · intro r f0 hf0
              dsimp only
              simp (disch := omega) only [zcmp, zari, z00, zm1, le_n, lt_n, eq_n, n_add, n_mul, n_c, n_in, true_and, and_true, if_true, if_false, bi_0, bi_1, ite_true, ite_false, Bool.true_eq_false, Bool.false_eq_true, (hMf f0).1.2.1, Nat.le_refl]
              refine lfix_for (nT S) (fun p (f : Nat → Int32) => (nI p, va_up E1 14 f)) (fun p f => (∀ c, c < nC S → ax S c = a → f c = nI (pfx S p c)) ∧ ff C p = none) 0 f0 (Nat.zero_le _) ⟨fun c hc _ => hf0 c hc, rfl⟩ ?_ ?_
              · rintro r2 p f hp ⟨g1, g2⟩ hr2
                have hod := hW.2.2.2.2.2.2.2.1 p hp
                dsimp only
                simp (disch := omega) only [zcmp, zari, z00, zm1, le_n, lt_n, eq_n, n_add, n_mul, n_c, n_in, true_and, and_true, if_true, if_false, bi_0, bi_1, ite_true, ite_false, Bool.true_eq_false, Bool.false_eq_true, j5, show ¬ nT S ≤ p by omega]
                rw [n_sub (show p ≤ nT S by omega)]
                refine m_certain (hMf f) hW ha (pts := pfx S p) (fun c hc e => by rw [up_s]; exact g1 c hc e) (hpl p (by omega)) (by omega) (by omega) ?_
                simp (disch := omega) only [zcmp, zari, z00, zm1, le_n, lt_n, eq_n, n_add, n_mul, n_c, n_in, true_and, and_true, if_true, if_false, bi_0, bi_1, ite_true, ite_false, Bool.true_eq_false, Bool.false_eq_true]
                cases e3 : crtB S a (pfx S p) k (nT S - p) with
                | true =>
                  simp only [Bool.true_eq_false, if_false]
                  have : ff C (p + 1) = some p := by rw [ff, g2]; simp [C, e3]
                  have h9 := hK2 _ _ (hMf f)
                  rw [ff_mono this (nT S) (by omega)] at h9
                  exact h9
                | false =>
                  simp only [if_true]
                  refine lfix_for (nC S) (fun c (f : Nat → Int32) => (nI c, va_up E1 14 f)) (fun c f => ∀ e, e < nC S → ax S e = a → f e = nI (if e < c then pfx S (p + 1) e else pfx S p e)) 0 f (Nat.zero_le _) (fun e he h1 => by rw [if_neg (by omega)]; exact g1 e he h1) ?_ ?_
                  · intro r3 c f2 hc hf2 hr3
                    have hac := (hW.2.2.1 c hc).1
                    have hMf2 := hMf f2
                    dsimp only
                    simp (disch := omega) only [zcmp, zari, z00, zm1, le_n, lt_n, eq_n, n_add, n_mul, n_c, n_in, true_and, and_true, if_true, if_false, bi_0, bi_1, ite_true, ite_false, Bool.true_eq_false, Bool.false_eq_true, hMf2.1.2.1, show ¬ nC S ≤ c by omega, hMf2.2.2.1 c hc, up_n E1 f2 (show 11 ≠ 14 by decide), j11 p hp]
                    refine jn_have (fun t => ax S c = a → t = nI (if cou S (od S p) c then 1 else 0)) ?_ ?_
                    · rintro t hte _ rfl _ rfl
                      rw [va_uu]
                      refine hr3 _ (fun e he h1 => ?_)
                      rw [up_s]
                      by_cases e4 : e = c
                      · subst e4
                        rw [ud_s, hte h1, hf2 e he h1, if_neg (show ¬ e < e by omega), if_pos (show e < e + 1 by omega), n_add]
                        rfl
                      · rw [ud_n _ _ e4, hf2 e he h1]
                        by_cases e5 : e < c
                        · rw [if_pos e5, if_pos (show e < c + 1 by omega)]
                        · rw [if_neg e5, if_neg (show ¬ e < c + 1 by omega)]
                    · intro k1 h1
                      simp only [jn]
                      by_cases e4 : ax S c = a
                      · simp (disch := omega) only [zcmp, zari, z00, zm1, le_n, lt_n, eq_n, n_add, n_mul, n_c, n_in, true_and, and_true, if_true, if_false, bi_0, bi_1, ite_true, ite_false, Bool.true_eq_false, Bool.false_eq_true, e4]
                        refine m_counts hMf2 hW (by omega) hc ?_
                        simp (disch := omega) only [zcmp, zari, z00, zm1, le_n, lt_n, eq_n, n_add, n_mul, n_c, n_in, true_and, and_true, if_true, if_false, bi_0, bi_1, ite_true, ite_false, Bool.true_eq_false, Bool.false_eq_true]
                        cases e5 : cou S (od S p) c with
                        | false => simp only [if_true]; exact h1 _ (fun _ => by rw [e5]; rfl)
                        | true => simp only [Bool.true_eq_false, if_false]; exact h1 _ (fun _ => by rw [e5]; rfl)
                      · simp (disch := omega) only [zcmp, zari, z00, zm1, le_n, lt_n, eq_n, n_add, n_mul, n_c, n_in, true_and, and_true, if_true, if_false, bi_0, bi_1, ite_true, ite_false, Bool.true_eq_false, Bool.false_eq_true, e4]
                        exact h1 _ (fun q => absurd q e4)
                  · intro r3 f2 hf2
                    dsimp only
                    simp (disch := omega) only [zcmp, zari, z00, zm1, le_n, lt_n, eq_n, n_add, n_mul, n_c, n_in, true_and, and_true, if_true, if_false, bi_0, bi_1, ite_true, ite_false, Bool.true_eq_false, Bool.false_eq_true, (hMf f2).1.2.1, Nat.le_refl]
                    rintro _ rfl
                    refine hr2 _ ⟨fun c hc h1 => by rw [hf2 c hc h1, if_pos hc], by rw [ff, g2]; simp [C, e3]⟩
              · rintro r2 f ⟨g1, g2⟩
                dsimp only
                simp (disch := omega) only [zcmp, zari, z00, zm1, le_n, lt_n, eq_n, n_add, n_mul, n_c, n_in, true_and, and_true, if_true, if_false, bi_0, bi_1, ite_true, ite_false, Bool.true_eq_false, Bool.false_eq_true, j5, Nat.le_refl]
                have h9 := hK2 _ _ (hMf f)
                rw [g2] at h9
                exact h9
          unfold wX9_startReading wX3_clear
          rintro _ rfl
          have keep : ∀ {I2 : Nat → Int32} {A2 : Nat → Nat → Int32}, (∀ j, j ≠ 8 → I2 j = I j) → (∀ j, j ≠ 42 → j ≠ 44 → A2 j = A j) → RC S I2 L A2 B := fun {I2 A2} k1 k2 => keepC.RC (I := I) (L := L) (A := A) (B := B) ⟨fun k hk => k1 k (fun e => hk (by rw [e]; exact Or.inr (Or.inr (Or.inl rfl)))), fun _ _ => rfl, fun k hk => k2 k (fun e => hk (by rw [e]; exact Or.inl rfl)) (fun e => hk (by rw [e]; exact Or.inr (Or.inl rfl))), fun _ _ _ => rfl⟩ hW hC0
          refine lfix_for (nC S) (fun k (y : (Nat → Int32) × (Nat → Nat → Int32)) => (nI k, y.1, y.2)) (fun k y => (∃ m f, RK y.1 y.2 (pfx S 0) (fun c => ax S c == a) k m f) ∧ (∀ j, j ≠ 8 → y.1 j = I j) ∧ ∀ j, j ≠ 42 → j ≠ 44 → y.2 j = A j) 0 (va_up I 8 0, A) (Nat.zero_le _) ⟨⟨0, fun _ => 0, up_s I 8 0, fun i hi => by omega, fun i hi => by omega, fun i hi => by omega, fun i j _ hj => by omega, fun e he => by omega⟩, fun j hj => up_n _ _ hj, fun _ _ _ => rfl⟩ ?_ ?_
          · rintro r c ⟨I2, A2⟩ hc ⟨⟨m2, f, hR⟩, k1, k2⟩ hr
            dsimp only at k1 k2 hR ⊢
            have ha2 := (hW.2.2.1 c hc).1
            simp (disch := omega) only [zcmp, zari, z00, zm1, le_n, lt_n, eq_n, n_add, n_mul, n_c, n_in, true_and, and_true, if_true, if_false, bi_0, bi_1, ite_true, ite_false, Bool.true_eq_false, Bool.false_eq_true, k1 1 (by decide), hF.1, show ¬ nC S ≤ c by omega, k2 36 (by decide) (by decide), hF.2.1 c hc]
            by_cases e1 : ax S c = a
            · simp (disch := omega) only [zcmp, zari, z00, zm1, le_n, lt_n, eq_n, n_add, n_mul, n_c, n_in, true_and, and_true, if_true, if_false, bi_0, bi_1, ite_true, ite_false, Bool.true_eq_false, Bool.false_eq_true, e1]
              refine c_put8 hR (by omega) (by simp [e1]) (fun c => by have := hpl 0 (by omega) c; omega) (fun g2 I3 A3 r1 r2 r3 => ?_)
              rintro _ rfl
              exact hr (I3, A3) ⟨⟨_, g2, r1⟩, fun j hj => (r2 j hj).trans (k1 j hj), fun j j1 j2 => (r3 j j1 j2).trans (k2 j j1 j2)⟩
            · simp (disch := omega) only [zcmp, zari, z00, zm1, le_n, lt_n, eq_n, n_add, n_mul, n_c, n_in, true_and, and_true, if_true, if_false, bi_0, bi_1, ite_true, ite_false, Bool.true_eq_false, Bool.false_eq_true, e1]
              rintro _ rfl
              exact hr (I2, A2) ⟨⟨m2, f, RK_skip hR (by simp [e1])⟩, k1, k2⟩
          · rintro r ⟨I2, A2⟩ ⟨⟨m2, f, hR⟩, k1, k2⟩
            dsimp only at k1 k2 hR ⊢
            have hC2 := keep k1 k2
            simp (disch := omega) only [zcmp, zari, z00, zm1, le_n, lt_n, eq_n, n_add, n_mul, n_c, n_in, true_and, and_true, if_true, if_false, bi_0, bi_1, ite_true, ite_false, Bool.true_eq_false, Bool.false_eq_true, k1 1 (by decide), hF.1, Nat.le_refl]
            refine c_audience hC2.2.1 hC2.2.2.1 hP hW ha (fun m hmm => ?_)
            rintro _ rfl
            refine lfix_for (nT S) (fun p (y : Nat → Nat → Int32) => (nI p, y)) (fun p y => (∃ f, RK I2 y (pfx S p) (fun c => ax S c == a) (nC S) m2 f) ∧ (∀ j, j ≠ 42 → j ≠ 44 → y j = A j) ∧ ff C p = none) 0 A2 (Nat.zero_le _) ⟨⟨f, hR⟩, k2, rfl⟩ ?_ ?_
            · rintro r2 p A3 hp ⟨⟨f3, hR3⟩, k3, hff⟩ hr2
              have hod := hW.2.2.2.2.2.2.2.1 p hp
              have hC3 := keep k1 k3
              dsimp only
              simp (disch := omega) only [zcmp, zari, z00, zm1, le_n, lt_n, eq_n, n_add, n_mul, n_c, n_in, true_and, and_true, if_true, if_false, bi_0, bi_1, ite_true, ite_false, Bool.true_eq_false, Bool.false_eq_true, hC2.2.1.2.2.1, show ¬ nT S ≤ p by omega]
              rw [n_sub (show p ≤ nT S by omega), c_certain (by omega) hR3 (hpl p (by omega)) hk1.1 (by omega) (by omega)]
              simp (disch := omega) only [zcmp, zari, z00, zm1, le_n, lt_n, eq_n, n_add, n_mul, n_c, n_in, true_and, and_true, if_true, if_false, bi_0, bi_1, ite_true, ite_false, Bool.true_eq_false, Bool.false_eq_true]
              cases e3 : crtB S a (pfx S p) k (nT S - p) with
              | true =>
                simp only [Bool.true_eq_false, if_false]
                refine hm (fun J' E' hM' => ?_)
                have : ff C (p + 1) = some p := by rw [ff, hff]; simp [C, e3]
                rw [ff_mono this (nT S) (by omega)]
                exact hK _ _ _ _ _ hC3 hM'
              | false =>
                simp only [if_true]
                simp (disch := omega) only [zcmp, zari, z00, zm1, le_n, lt_n, eq_n, n_add, n_mul, n_c, n_in, true_and, and_true, if_true, if_false, bi_0, bi_1, ite_true, ite_false, Bool.true_eq_false, Bool.false_eq_true, hC3.2.1.2.2.2.1 p hp]
                rintro _ rfl
                simp (disch := omega) only [zcmp, zari, z00, zm1, le_n, lt_n, eq_n, n_add, n_mul, n_c, n_in, true_and, and_true, if_true, if_false, bi_0, bi_1, ite_true, ite_false, Bool.true_eq_false, Bool.false_eq_true, bs_in _ (show od S p < 64 by omega), hmm (od S p) (by omega)]
                have ffn : ff C (p + 1) = none := by rw [ff, hff]; simp [C, e3]
                have pe : ∀ c, ax S c = a → pfx S (p + 1) c = pfx S p c + if nea S (se S) (od S p) (lft S a) && has S (od S p) c then 1 else 0 := fun c hc => by
                  unfold pfx; rw [fb_ct_succ]; simp only [cou, hc]
                cases e4 : nea S (se S) (od S p) (lft S a) with
                | false =>
                  simp only [if_true]
                  rintro _ rfl
                  refine hr2 A3 ⟨⟨f3, ?_⟩, k3, ffn⟩
                  have ee : ∀ c, ax S c = a → pfx S (p + 1) c = pfx S p c := fun c hc => by rw [pe c hc, e4]; simp
                  have gg : ∀ i, i < m2 → ax S (f3 i) = a := fun i hi => by have := (hR3.2.2.2.1 i hi).2; simpa using this
                  refine ⟨hR3.1, hR3.2.1, fun i hi => ?_, hR3.2.2.2.1, fun i j hij hj => ?_, hR3.2.2.2.2.2⟩
                  · rw [ee _ (gg i hi)]; exact hR3.2.2.1 i hi
                  · have := hR3.2.2.2.2.1 i j hij hj
                    rw [gtp_iff] at this ⊢
                    rw [ee _ (gg i (by omega)), ee _ (gg j hj)]
                    exact this
                | true =>
                  simp only [Bool.true_eq_false, if_false]
                  refine c_readOne hC3.1 hW (pts' := pfx S (p + 1)) (by omega) hR3 (fun c => by have := hpl p (by omega) c; omega) (fun c => by have := hpl (p + 1) (by omega) c; omega) (fun c hc hq => by rw [pe c (by simpa using hq), e4, Bool.true_and]) (fun g A4 r1 r2 => ?_)
                  rintro _ rfl
                  exact hr2 A4 ⟨⟨g, r1⟩, fun j j1 j2 => (r2 j j1 j2).trans (k3 j j1 j2), ffn⟩
            · rintro r2 A3 ⟨-, k3, hff⟩
              dsimp only
              simp (disch := omega) only [zcmp, zari, z00, zm1, le_n, lt_n, eq_n, n_add, n_mul, n_c, n_in, true_and, and_true, if_true, if_false, bi_0, bi_1, ite_true, ite_false, Bool.true_eq_false, Bool.false_eq_true, hC2.2.1.2.2.1, Nat.le_refl]
              refine hm (fun J' E' hM' => ?_)
              rw [hff]
              exact hK _ _ _ _ _ (keep k1 k3) hM'
        · simp only [h4, if_false]
          unfold wX10_read
          rintro _ rfl
          rw [ht5, e2]
          have h49 : (9 : Int32) < y := by rw [lt_i]; rw [le_i] at h4; exact Int.not_le.mp h4
          simp only [Bool.not_false, bi_t, z00, if_false, m_within, h0, h49, if_true]
          exact hK _ _ _ _ _ hC0 hM
end
