-- rows of no more than some
def dn (s : Nat → Nat) (n frm : Nat) : Nat → Nat
  | 0 => 0
  | e + 1 => if e + 1 ≤ frm ∨ bnd s n (e + 1) = true then e + 1 else dn s n frm e
theorem dn_spec {s : Nat → Nat} {n frm : Nat} (hb : bnd s n frm = true) : ∀ e, frm ≤ e → frm ≤ dn s n frm e ∧ dn s n frm e ≤ e ∧ bnd s n (dn s n frm e) = true ∧ ∀ e', e' ≤ e → bnd s n e' = true → e' ≤ dn s n frm e
  | 0, h => ⟨h, Nat.le_refl _, by simp [dn, bnd], fun e' h1 _ => h1⟩
  | e + 1, h => by
    rw [dn]
    by_cases c : e + 1 ≤ frm ∨ bnd s n (e + 1) = true
    · rw [if_pos c]
      refine ⟨h, Nat.le_refl _, ?_, fun e' h1 _ => h1⟩
      rcases c with c | c
      · rw [show e + 1 = frm by omega]; exact hb
      · exact c
    · rw [if_neg c]
      have c1 : ¬ e + 1 ≤ frm := fun q => c (Or.inl q)
      obtain ⟨a1, a2, a3, a4⟩ := dn_spec hb e (by omega)
      refine ⟨a1, by omega, a3, fun e' h1 h2 => ?_⟩
      by_cases d : e' = e + 1
      · rw [d] at h2; exact absurd (Or.inr h2) c
      · exact a4 e' (by omega) h2
def gr (s : Nat → Nat) (n L : Nat) : Nat → Nat
  | 0 => 0
  | r + 1 => dn s n (gr s n L r) (mn (gr s n L r + L) n)
theorem mn_ge {a b c : Nat} (h1 : c ≤ a) (h2 : c ≤ b) : c ≤ mn a b := by unfold mn; split <;> omega
theorem grw_ok {s : Nat → Nat} {n L : Nat} : ∀ r, bnd s n (gr s n L r) = true ∧ gr s n L r ≤ n
  | 0 => ⟨by simp [gr, bnd], Nat.zero_le _⟩
  | r + 1 => by
    obtain ⟨a, b⟩ := grw_ok (s := s) (n := n) (L := L) r
    obtain ⟨a1, a2, a3, a4⟩ := dn_spec a (mn (gr s n L r + L) n) (mn_ge (by omega) b)
    exact ⟨a3, Nat.le_trans a2 (mn_le _ _).1⟩
theorem gr_spec {s : Nat → Nat} {n L : Nat} (r : Nat) : gr s n L r ≤ gr s n L (r + 1) ∧ gr s n L (r + 1) ≤ gr s n L r + L ∧ ∀ e, e ≤ gr s n L r + L → e ≤ n → bnd s n e = true → e ≤ gr s n L (r + 1) := by
  obtain ⟨a, b⟩ := grw_ok (s := s) (n := n) (L := L) r
  obtain ⟨a1, a2, a3, a4⟩ := dn_spec a (mn (gr s n L r + L) n) (mn_ge (by omega) b)
  exact ⟨a1, Nat.le_trans a2 (mn_le _ _).2, fun e h1 h2 h3 => a4 e (mn_ge h1 h2) h3⟩
theorem gr_mono {s : Nat → Nat} {n L r : Nat} : ∀ {t : Nat}, r ≤ t → gr s n L r ≤ gr s n L t := by
  intro t h
  obtain ⟨m, rfl⟩ : ∃ m, t = r + m := ⟨t - r, by omega⟩
  induction m with
  | zero => exact Nat.le_refl _
  | succ m ih => exact Nat.le_trans (ih (by omega)) (gr_spec (r + m)).1
theorem gr_stuck {s : Nat → Nat} {n L v : Nat} (hs : srt s n) (hv : L < hst s n v) : ∀ r, gr s n L r ≤ cum s n v
  | 0 => Nat.zero_le _
  | r + 1 => by
    have a := gr_stuck hs hv r
    have b := gr_spec (s := s) (n := n) (L := L) r
    rcases Nat.lt_or_ge (cum s n v) (gr s n L (r + 1)) with q | q
    · have c := bnd_gap hs (grw_ok (s := s) (n := n) (L := L) (r + 1)).1 q
      rw [cum_succ] at c
      omega
    · exact q
theorem gr_z (s : Nat → Nat) (n : Nat) : ∀ r, gr s n 0 r = 0
  | 0 => rfl
  | r + 1 => by have a := gr_z s n r; have b := (gr_spec (s := s) (n := n) (L := 0) r).2.1; omega
section
variable {S : SS} {J : Nat → Int32} {E : Nat → Nat → Int32} {I : Nat → Int32} {L : Nat → Int64} {A : Nat → Nat → Int32} {B : Nat → Nat → Int64}
theorem c_endOfRow {s : Nat → Nat} {n frm l : Nat} (h : RV I A s n) (hn : n ≤ 40) (hf : frm ≤ n) (hl : l ≤ 40) {post : Int32 → Prop} (hh : post (nI (dn s n frm (mn (frm + l) n)))) : wX4_endOfRow I L A B (nI frm) (nI l) post := by
  unfold wX4_endOfRow
  simp (disch := omega) only [zcmp, zari, z00, zm1, le_n, lt_n, eq_n, n_add, n_mul, n_c, n_in, true_and, and_true, if_true, if_false, bi_0, bi_1, ite_true, ite_false, Bool.true_eq_false, Bool.false_eq_true, h.1]
  have e4 : (if n < frm + l then nI n else nI (frm + l)) = nI (mn (frm + l) n) := by unfold mn; split <;> rfl
  rw [e4]
  rintro _ rfl
  have hmn := (mn_le (frm + l) n).1
  refine lfix_down (fun e (_ : Unit) => nI e) (fun e _ => e ≤ n ∧ dn s n frm e = dn s n frm (mn (frm + l) n)) _ () ⟨hmn, rfl⟩ ?_
  rintro r e _ ⟨he, hJ⟩ hr
  have fin : e ≤ frm ∨ bnd s n e = true → post (nI e) := fun q => by
    have : dn s n frm e = e := by
      cases e with
      | zero => rfl
      | succ e => rw [dn, if_pos q]
    rw [← hJ, this] at hh
    exact hh
  simp (disch := omega) only [zcmp, zari, z00, zm1, le_n, lt_n, eq_n, n_add, n_mul, n_c, n_in, true_and, and_true, if_true, if_false, bi_0, bi_1, ite_true, ite_false, Bool.true_eq_false, Bool.false_eq_true]
  by_cases c1 : e ≤ frm
  · simp only [c1, if_true]; exact fin (Or.inl c1)
  · simp only [c1, if_false]
    by_cases c2 : n ≤ e
    · simp only [c2, if_true]; exact fin (Or.inr (by simp [bnd, c2]))
    · simp only [c2, if_false]
      rw [zsub.1 e (by omega), zsub.2.1 e (by omega)]
      simp (disch := omega) only [zcmp, zari, z00, zm1, le_n, lt_n, eq_n, n_add, n_mul, n_c, n_in, true_and, and_true, if_true, if_false, bi_0, bi_1, ite_true, ite_false, Bool.true_eq_false, Bool.false_eq_true, h.2.1 e (by omega), h.2.1 (e - 1) (by omega), sv_eq (h.2.2.1 e (by omega)) (h.2.2.1 (e - 1) (by omega))]
      by_cases c3 : s e = s (e - 1)
      · simp only [c3, if_true]
        rintro _ rfl
        refine hr (e - 1) () (by omega) ⟨by omega, ?_⟩
        obtain ⟨m, rfl⟩ : ∃ m, e = m + 1 := ⟨e - 1, by omega⟩
        rw [← hJ, Nat.add_sub_cancel, dn, if_neg]
        rintro (q | q)
        · exact c1 q
        · unfold bnd at q
          rw [c3] at q
          simp at q
          omega
      · simp only [c3, if_false]
        exact fin (Or.inr (by simp [bnd, c3]))
theorem c_fits {s : Nat → Nat} {n k l : Nat} (h : RV I A s n) (hn : n ≤ 40) (hk : k ≤ 8) (hl : l ≤ 40) {post : Int32 → Prop} (hh : post (bi (decide (n ≤ gr s n l k)))) : wX4_fits I L A B (nI k) (nI l) post := by
  unfold wX4_fits
  refine lfix_for k (fun b (y : Int32) => (nI b, y)) (fun b y => y = nI (gr s n l b)) 0 _ (Nat.zero_le _) rfl ?_ ?_
  · rintro r b _ hb rfl hr
    dsimp only
    simp (disch := omega) only [zcmp, zari, z00, zm1, le_n, lt_n, eq_n, n_add, n_mul, n_c, n_in, true_and, and_true, if_true, if_false, bi_0, bi_1, ite_true, ite_false, Bool.true_eq_false, Bool.false_eq_true, show ¬ k ≤ b by omega]
    refine c_endOfRow h hn (grw_ok b).2 hl ?_
    rintro _ rfl
    exact hr _ rfl
  · rintro r _ rfl
    have := (grw_ok (s := s) (n := n) (L := l) k).2
    dsimp only
    simp (disch := omega) only [zcmp, zari, z00, zm1, le_n, lt_n, eq_n, n_add, n_mul, n_c, n_in, true_and, and_true, if_true, if_false, bi_0, bi_1, ite_true, ite_false, Bool.true_eq_false, Bool.false_eq_true, Nat.le_refl, h.1]
    by_cases e : gr s n l k < n
    · simp only [e, if_true]
      rw [show decide (n ≤ gr s n l k) = false by simp; omega] at hh
      exact hh
    · simp only [e, if_false]
      rw [show decide (n ≤ gr s n l k) = true by simp; omega] at hh
      exact hh
def flt (s : Nat → Nat) (n k : Nat) : Nat := (ff (fun l => decide (n ≤ gr s n l k)) n).getD n
theorem c_flattest {s : Nat → Nat} {n k : Nat} (h : RV I A s n) (hn : n ≤ 40) (hk : k ≤ 8) {post : Int32 → Prop} (hh : post (nI (flt s n k))) : wX4_flattest I L A B (nI k) post := by
  unfold wX4_flattest
  refine lfix_for n (fun l (_ : Unit) => nI l) (fun l _ => ff (fun l => decide (n ≤ gr s n l k)) l = none) 0 () (Nat.zero_le _) rfl ?_ ?_
  · rintro r l _ hl hJ hr
    simp (disch := omega) only [zcmp, zari, z00, zm1, le_n, lt_n, eq_n, n_add, n_mul, n_c, n_in, true_and, and_true, if_true, if_false, bi_0, bi_1, ite_true, ite_false, Bool.true_eq_false, Bool.false_eq_true, h.1, show ¬ n ≤ l by omega]
    refine c_fits h hn hk (by omega) ?_
    simp (disch := omega) only [zcmp, zari, z00, zm1, le_n, lt_n, eq_n, n_add, n_mul, n_c, n_in, true_and, and_true, if_true, if_false, bi_0, bi_1, ite_true, ite_false, Bool.true_eq_false, Bool.false_eq_true]
    by_cases e : n ≤ gr s n l k
    · simp only [e, decide_true, Bool.true_eq_false, if_false]
      have : ff (fun l => decide (n ≤ gr s n l k)) (l + 1) = some l := by rw [ff, hJ]; simp [e]
      unfold flt at hh
      rw [ff_mono this n (by omega)] at hh
      exact hh
    · simp only [e, decide_false, if_true]
      rintro _ rfl
      exact hr () (by rw [ff, hJ]; simp [e])
  · rintro r _ hJ
    simp (disch := omega) only [zcmp, zari, z00, zm1, le_n, lt_n, eq_n, n_add, n_mul, n_c, n_in, true_and, and_true, if_true, if_false, bi_0, bi_1, ite_true, ite_false, Bool.true_eq_false, Bool.false_eq_true, h.1, Nat.le_refl]
    unfold flt at hh
    rw [hJ] at hh
    exact hh
theorem m_rowsBy {s : Nat → Nat} {n l : Nat} (e12 : ∀ v, v < 1999 → E 12 v = nI (hst s n v)) (hs : srt s n) (hn : n ≤ 40) (hn1 : 1 ≤ n) (hl : l ≤ 40) {post : Int32 → Prop} (h : ∀ R, R < 2 ^ 20 → (∀ k, k ≤ 8 → (R ≤ k ↔ n ≤ gr s n l k)) → post (nI R)) : wX10_rowsBy J E (nI l) post := by
  unfold wX10_rowsBy
  refine lfix_for 1999 (fun v (y : Nat × Nat) => (nI v, nI y.1, nI y.2)) (fun v y => (cum s n v = 0 ∧ y.2 = 0 ∧ y.1 = l) ∨ (1 ≤ y.2 ∧ y.2 ≤ v ∧ gr s n l (y.2 - 1) + y.1 = cum s n v ∧ 1 ≤ y.1 ∧ y.1 ≤ l)) 0 (l, 0) (Nat.zero_le _) (Or.inl ⟨cum_0 s n, rfl, rfl⟩) ?_ ?_
  · rintro r v ⟨i, R⟩ hv hJ hr
    dsimp only at hJ ⊢
    have hh := hst_le s n v
    have hcs := cum_succ s n v
    have hcn := cum_le s n (v + 1)
    have hi : i ≤ 40 := by omega
    simp (disch := omega) only [zcmp, zari, z00, zm1, le_n, lt_n, eq_n, n_add, n_mul, n_c, n_in, true_and, and_true, if_true, if_false, bi_0, bi_1, ite_true, ite_false, Bool.true_eq_false, Bool.false_eq_true, show ¬ 1999 ≤ v by omega, e12 v hv]
    by_cases e1 : hst s n v ≤ l
    · simp only [e1, if_true]
      refine jn_have (fun z => ∃ i' R', z = (nI i', nI R') ∧ i' + hst s n v ≤ 80 ∧ ((cum s n (v + 1) = 0 ∧ R' = 0 ∧ i' + hst s n v = l) ∨ (1 ≤ R' ∧ R' ≤ v + 1 ∧ gr s n l (R' - 1) + (i' + hst s n v) = cum s n (v + 1) ∧ 1 ≤ i' + hst s n v ∧ i' + hst s n v ≤ l))) ?_ ?_
      · rintro _ ⟨i', R', rfl, hb, hq⟩
        dsimp only
        simp (disch := omega) only [zcmp, zari, z00, zm1, le_n, lt_n, eq_n, n_add, n_mul, n_c, n_in, true_and, and_true, if_true, if_false, bi_0, bi_1, ite_true, ite_false, Bool.true_eq_false, Bool.false_eq_true]
        rintro _ rfl _ rfl
        exact hr (i' + hst s n v, R') hq
      · intro k1 h1
        simp (disch := omega) only [zcmp, zari, z00, zm1, le_n, lt_n, eq_n, n_add, n_mul, n_c, n_in, true_and, and_true, if_true, if_false, bi_0, bi_1, ite_true, ite_false, Bool.true_eq_false, Bool.false_eq_true, Nat.le_zero]
        by_cases e2 : hst s n v = 0
        · simp only [e2, if_true]
          refine h1 _ ⟨i, R, rfl, by omega, ?_⟩
          rw [hcs, e2]
          rcases hJ with ⟨a, b, c⟩ | ⟨a, b, c, d, f⟩
          · exact Or.inl ⟨by omega, b, by omega⟩
          · exact Or.inr ⟨a, by omega, by omega, by omega, by omega⟩
        · simp only [e2, if_false]
          by_cases e3 : i + hst s n v ≤ l
          · simp only [e3, if_true]
            refine h1 _ ⟨i, R, rfl, by omega, ?_⟩
            rcases hJ with ⟨a, b, c⟩ | ⟨a, b, c, d, f⟩
            · omega
            · exact Or.inr ⟨a, by omega, by omega, by omega, e3⟩
          · simp only [e3, if_false]
            rintro _ rfl
            refine h1 _ ⟨0, R + 1, rfl, by omega, Or.inr ⟨by omega, ?_, ?_, by omega, by omega⟩⟩
            · rcases hJ with ⟨a, b, c⟩ | ⟨a, b, c, d, f⟩ <;> omega
            · rw [Nat.add_sub_cancel]
              rcases hJ with ⟨a, b, c⟩ | ⟨a, b, c, d, f⟩
              · rw [b]
                show 0 + _ = _
                omega
              · have : gr s n l R = cum s n v := by
                  obtain ⟨R0, rfl⟩ : ∃ R0, R = R0 + 1 := ⟨R - 1, by omega⟩
                  rw [Nat.add_sub_cancel] at c
                  obtain ⟨g1, g2, g3⟩ := gr_spec (s := s) (n := n) (L := l) R0
                  have p1 := g3 (cum s n v) (by omega) (cum_le _ _ _) (bnd_cum hs v)
                  rcases Nat.lt_or_ge (cum s n v) (gr s n l (R0 + 1)) with q | q
                  · have := bnd_gap hs (grw_ok (s := s) (n := n) (L := l) (R0 + 1)).1 q
                    omega
                  · omega
                omega
    · simp only [e1, if_false]
      have := h 1999 (by omega) (fun k hk => ⟨fun q => by omega, fun q => by
        have := gr_stuck (n := n) (L := l) (v := v) hs (by omega) k
        omega⟩)
      exact this
  · rintro r ⟨i, R⟩ hJ
    dsimp only at hJ ⊢
    have e19 : (1999 : Int32) ≤ nI 1999 := by decide
    rw [if_pos e19]
    rw [cum_top hs (Nat.le_refl 1999)] at hJ
    rcases hJ with ⟨a, b, c⟩ | ⟨a, b, c, d, f⟩
    · omega
    · refine h R (by omega) (fun k hk => ?_)
      obtain ⟨R0, rfl⟩ : ∃ R0, R = R0 + 1 := ⟨R - 1, by omega⟩
      rw [Nat.add_sub_cancel] at c
      have hR : gr s n l (R0 + 1) = n := Nat.le_antisymm (grw_ok _).2 ((gr_spec (s := s) (n := n) (L := l) R0).2.2 n (by omega) (Nat.le_refl _) (by simp [bnd]))
      constructor
      · intro q
        have := gr_mono (s := s) (n := n) (L := l) q
        omega
      · intro q
        rcases Nat.lt_or_ge R0 k with q2 | q2
        · exact q2
        · have := gr_mono (s := s) (n := n) (L := l) q2
          omega
theorem t_even (hC : RC S I L A B) (hM : RM S J E) (hW : wf S) (x y : Int32) {K : Int32 → Int32 → (Nat → Int32) → (Nat → Nat → Int32) → (Nat → Int32) → (Nat → Nat → Int32) → Prop} (hK : ∀ r I' A' J' E', RC S I' L A' B → RM S J' E' → K r r I' A' J' E') : wX9_even I L A B x y (fun r I' A' => wX10_even J E x y (fun r' J' E' => K r r' I' A' J' E')) := by
  have hn := hW.1
  have hM := RM_t hM 0
  unfold wX9_even
  rcases ix x (n := nA S) (by omega) with h | ⟨a, ha, rfl⟩
  · rw [c_canBin_o hC h]
    simp only [z00, if_true]
    unfold wX10_even
    rintro _ rfl
    rw [m_isCut_o hM h]
    simp only [z00, if_true]
    exact hK _ _ _ _ _ hC hM
  · rw [c_canBin hC hW ha]
    have no : (kd S a = 2 → y < 1 ∨ 8 < y) → wX10_even J E (nI a) y (fun r' J' E' => K (-1) r' I A J' E') := by
      intro q
      unfold wX10_even
      rintro _ rfl
      rw [m_isCut hM hW ha]
      by_cases e : kd S a = 2
      · rw [if_pos e]
        by_cases e1 : y < 1
        · simp only [e1, if_true]; exact hK _ _ _ _ _ hC hM
        · rcases q e with q | q
          · exact absurd q e1
          · simp only [e1, q, if_true, if_false]; exact hK _ _ _ _ _ hC hM
      · rw [if_neg e]
        simp only [if_true]; exact hK _ _ _ _ _ hC hM
    by_cases e : kd S a = 2
    · rw [if_pos e]
      by_cases e1 : y < 1
      · simp only [e1, if_true]; exact no (fun _ => Or.inl e1)
      · by_cases e2 : 8 < y
        · simp only [e1, e2, if_true, if_false]; exact no (fun _ => Or.inr e2)
        · obtain ⟨k, k1, k2, rfl⟩ := cut_k e1 e2
          simp only [e1, e2, if_false, z00]
          refine c_lift1 hC.2.1 hC.2.2.1 hC.2.2.2.2 hW ha (fun m hm => ?_)
          refine c_fillRow hC hW ha hm (fun s I' A' r1 r2 r3 r4 => ?_)
          have hn40 : fb_ct (qn S a a) (nD S) ≤ 40 := Nat.le_trans (fb_ct_le _ _) (by omega)
          refine c_flattest r1 hn40 k2 ?_
          unfold wX10_even
          rintro _ rfl
          rw [m_isCut hM hW ha]
          simp only [e, e1, e2, if_true, if_false, z00]
          refine m_numbersA hM hW ha e (fun J1 E1 hM1 j6 e12 j0 => ?_)
          have hs := RV_srt r1
          have e12 : ∀ v, v < 1999 → E1 12 v = nI (hst s (fb_ct (qn S a a) (nD S)) v) := fun v hv => (e12 v hv).trans (by rw [← r2 v]; rfl)
          revert r1 r2 hn40 j6 hs e12
          generalize fb_ct (qn S a a) (nD S) = n
          intro r1 r2 hn40 j6 hs e12
          have fin := hK (nI (flt s n k)) _ _ _ _ (keep_row hC hW r3 r4) hM1
          refine lfix_for n (fun l (_ : Unit) => nI l) (fun l _ => ff (fun l => decide (n ≤ gr s n l k)) l = none) 0 () (Nat.zero_le _) rfl ?_ ?_
          · rintro r l _ hl hJ hr
            simp (disch := omega) only [zcmp, zari, z00, zm1, le_n, lt_n, eq_n, n_add, n_mul, n_c, n_in, true_and, and_true, if_true, if_false, bi_0, bi_1, ite_true, ite_false, Bool.true_eq_false, Bool.false_eq_true, j6, Nat.le_zero, show ¬ n = 0 by omega]
            by_cases e4 : l = 0
            · subst e4
              simp (disch := omega) only [zcmp, zari, z00, zm1, le_n, lt_n, eq_n, n_add, n_mul, n_c, n_in, true_and, and_true, if_true, if_false, bi_0, bi_1, ite_true, ite_false, Bool.true_eq_false, Bool.false_eq_true]
              rintro _ rfl
              exact hr () (by rw [ff, hJ, gr_z]; simp; omega)
            · simp only [e4, if_false]
              refine m_rowsBy e12 hs hn40 (by omega) (by omega) (fun R hR hq => ?_)
              simp (disch := omega) only [zcmp, zari, z00, zm1, le_n, lt_n, eq_n, n_add, n_mul, n_c, n_in, true_and, and_true, if_true, if_false, bi_0, bi_1, ite_true, ite_false, Bool.true_eq_false, Bool.false_eq_true]
              by_cases e5 : R ≤ k
              · simp only [e5, if_true]
                have : ff (fun l => decide (n ≤ gr s n l k)) (l + 1) = some l := by rw [ff, hJ]; simp [(hq k k2).mp e5]
                have eq : flt s n k = l := by unfold flt; rw [ff_mono this n (by omega)]; rfl
                rw [eq] at fin ⊢
                exact fin
              · simp only [e5, if_false]
                rintro _ rfl
                exact hr () (by rw [ff, hJ]; simp; have := (hq k k2); omega)
          · rintro r _ hJ
            have eq : flt s n k = n := by unfold flt; rw [hJ]; rfl
            rw [eq] at fin ⊢
            simp (disch := omega) only [zcmp, zari, z00, zm1, le_n, lt_n, eq_n, n_add, n_mul, n_c, n_in, true_and, and_true, if_true, if_false, bi_0, bi_1, ite_true, ite_false, Bool.true_eq_false, Bool.false_eq_true, j6, Nat.le_zero]
            by_cases e4 : n = 0
            · simp only [e4, if_true]
              rw [e4] at fin
              exact fin
            · rw [if_neg e4, if_neg e4]
              refine m_rowsBy e12 hs hn40 (by omega) (by omega) (fun R hR hq => ?_)
              have e5 : R ≤ k := by
                refine (hq k k2).mpr ?_
                have g1 := gr_mono (s := s) (n := n) (L := n) k1
                have g2 := (gr_spec (s := s) (n := n) (L := n) 0).2.2 n (by omega) (Nat.le_refl _) (by simp [bnd])
                exact Nat.le_trans g2 g1
              simp (disch := omega) only [zcmp, zari, z00, zm1, le_n, lt_n, eq_n, n_add, n_mul, n_c, n_in, true_and, and_true, if_true, if_false, bi_0, bi_1, ite_true, ite_false, Bool.true_eq_false, Bool.false_eq_true, e5]
              exact fin
    · rw [if_neg e]
      simp only [if_true]
      exact no (fun q => absurd q e)
end
