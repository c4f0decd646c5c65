section
variable {S : SS} {J : Nat → Int32} {E : Nat → Nat → Int32} {I : Nat → Int32} {L : Nat → Int64} {A : Nat → Nat → Int32} {B : Nat → Nat → Int64}
def mln (S : SS) (c : Nat) (par : Option Nat) (t : Nat) : Nat := (chn (mvu (up S) c par) 12 (some t)).length
theorem m_levelMv {J0 : Nat → Int32} {E1 : Nat → Nat → Int32} {c : Nat} {par : Option Nat} (hW : wf S) (hc : c < nC S) (hp : ∀ p, par = some p → p < nC S) (hpc : c ∉ chn (up S) 6 par) (h3 : ∀ t, t < nC S → E1 3 t = uI (mvu (up S) c par t)) {t : Nat} (ht : t < nC S) {post : Int32 → Prop} (h : post (nI (mln S c par t - 1))) : wX10_level J0 E1 (nI t) post := by
  have hn := hW.1
  have he : ends (mvu (up S) c par) 11 (mvu (up S) c par t) := (mv_chn hW hc hp hpc ht).1
  have hu : ∀ t, t < nC S → ∀ p, mvu (up S) c par t = some p → p < nC S := fun t ht p q => by
    have q : (if t = c then par else up S t) = some p := q
    by_cases e : t = c
    · rw [if_pos e] at q; exact hp p q
    · rw [if_neg e] at q; exact up_ok hW ht q
  unfold wX10_level
  refine ⟨vp_in_nI (by omega) (by decide), ?_⟩
  rintro _ rfl
  rw [n_c (by omega), h3 t ht]
  refine ⟨_, m_level_aux (S := sMv S c par) (E := E1) h3 hn.2.1 hu post 11 (mvu (up S) c par t) 0 he (hu t ht) ?_⟩
  have e : mln S c par t = (chn (mvu (up S) c par) 11 (mvu (up S) c par t)).length + 1 := by unfold mln; rw [chn, List.length_cons]
  rw [Nat.zero_add]
  rw [e, Nat.add_sub_cancel] at h
  exact h
theorem mln_le (hW : wf S) {c : Nat} {par : Option Nat} (hc : c < nC S) (hp : ∀ p, par = some p → p < nC S) (hpc : c ∉ chn (up S) 6 par) {t : Nat} (ht : t < nC S) : (inb S t c = false ∧ mln S c par t ≤ 6) ∨ (inb S t c = true ∧ lev S c ≤ lev S t ∧ mln S c par t + lev S c = lev S t + 1 + (chn (up S) 6 par).length) := by
  have h0 := (up_ends hW ht).2.2
  rcases (mv_chn hW hc hp hpc ht).2 with ⟨h1, h2⟩ | ⟨h1, pre, h2, h3, h4⟩
  · refine Or.inl ⟨h1, ?_⟩
    unfold mln
    rw [h2]
    exact chn_len 6 _
  · refine Or.inr ⟨h1, ?_⟩
    unfold mln lev
    rw [h4]
    have h5 := congrArg List.length (h0.symm.trans h3)
    simp only [List.length_cons, List.length_append] at h5 ⊢
    omega
/-- the reference, where a move may be tried -/
theorem m_move {c : Nat} {par : Option Nat} (hM : RM S J E) (hW : wf S) (hc : c < nC S) (hp : ∀ p, par = some p → p < nC S ∧ ax S p = ax S c) (hpc : c ∉ chn (up S) 6 par) {K2 : Int32 → (Nat → Int32) → (Nat → Nat → Int32) → Prop} (h0 : (∃ t, t < nC S ∧ 6 < mln S c par t) → ∀ J' E', RM S J' E' → K2 0 J' E') (h1 : (∀ t, t < nC S → mln S c par t ≤ 6) → ∀ J' E', RM (sMv S c par) J' E' → K2 1 J' E') : wX10_move J E (nI c) (uI par) K2 := by
  have hn := hW.1
  have hM := RM_t hM 0
  have hp1 : ∀ p, par = some p → p < nC S := fun p q => (hp p q).1
  have hax := (hW.2.2.1 c hc).1
  unfold wX10_move
  rintro _ rfl
  rw [m_isCat hM hW hc]
  refine ite_n (by decide) ⟨vp_in_nI (by omega) (by decide), ?_⟩
  rw [n_c (by omega), hM.2.2.1 c hc]
  have core : (∀ v3 : Int32, v3 = E 3 c → vp_in (nI c) 40 ∧ (∀ A_1, A_1 = va_up E 3 (upd (E 3) c (uI par)) → ∃ n, lfix (fun (r : (Int32 × Int32) → Prop) (v5, v4) => if (va_up J 0 0 2) ≤ v5 then (jn (fun (t : Int32) => vp_in (nI c) 40 ∧ (∀ A_2, A_2 = va_up A_1 3 (upd (A_1 3) c t) → wX10_owns (va_up J 0 0) A_2  (fun A_3 => if v4 = 0 then (K2 1 (va_up J 0 0) A_3) else (K2 0 (va_up J 0 0) A_3)))) (fun k_1 => if v4 = 0 then (k_1 (uI par)) else (k_1 v3))) else (jn (fun (t_1 : Int32) => ∀ v5_1 : Int32, v5_1 = v5 + 1 → r (v5_1, t_1)) (fun k_2 => jn (fun (_ : Unit) => k_2 1) (fun k_3 => if v4 = 0 then (wX10_level (va_up J 0 0) A_1 v5 (fun r79 => if r79 ≤ 5 then (k_2 0) else (k_3 ()))) else (k_3 ()))))) n (0, 0))) := by
    rintro _ rfl
    refine ⟨vp_in_nI (by omega) (by decide), ?_⟩
    rintro E1 eE
    have e3 : E1 3 = upd (E 3) c (uI par) := by rw [eE, up_s]
    have eu : ∀ j, j ≠ 3 → E1 j = E j := fun j hj => by rw [eE, up_n _ _ hj]
    have h3 : ∀ t, t < nC S → E1 3 t = uI (mvu (up S) c par t) := fun t ht => by
      rw [e3]
      show _ = uI (if t = c then par else up S t)
      by_cases e : t = c
      · rw [e, ud_s, if_pos rfl]
      · rw [ud_n _ _ e, if_neg e]; exact hM.2.2.2.1 t ht
    clear eE
    refine lfix_for (nC S) (fun k (_ : Unit) => (nI k, bi (exb (fun t => decide (6 < mln S c par t)) k))) (fun _ _ => True) 0 () (Nat.zero_le _) trivial ?_ ?_
    · rintro r k _ hk _ hr
      dsimp only
      rw [hM.1.2.1, if_neg (by rw [le_n (by omega) (by omega)]; omega)]
      simp only [jn, bi_0]
      have hr := hr () trivial
      rw [exb] at hr
      cases e : exb (fun t => decide (6 < mln S c par t)) k with
      | true =>
        rw [if_neg (by decide)]
        rintro _ rfl
        rw [n_s]
        rw [e, Bool.true_or] at hr
        exact hr
      | false =>
        rw [if_pos rfl]
        rw [e, Bool.false_or] at hr
        refine m_levelMv hW hc hp1 hpc h3 hk ?_
        have h12 : mln S c par k ≤ 12 := chn_len 12 _
        have hle : (nI (mln S c par k - 1) ≤ 5) = (mln S c par k - 1 ≤ 5) := le_n (by omega) (by decide)
        simp only [hle]
        by_cases q : mln S c par k - 1 ≤ 5
        · rw [if_pos q]
          rintro _ rfl
          rw [n_s]
          rw [decide_eq_false (by omega)] at hr
          exact hr
        · rw [if_neg q]
          rintro _ rfl
          rw [n_s]
          rw [decide_eq_true (by omega)] at hr
          exact hr
    · rintro r _ _
      dsimp only
      rw [hM.1.2.1, if_pos (by rw [le_n (by omega) (by omega)]; omega)]
      simp only [jn, bi_0]
      obtain ⟨m1, m2, m3, m4, m5, m6, m7, m8, m9, m10, m11, m12⟩ := hM
      cases e : exb (fun t => decide (6 < mln S c par t)) (nC S) with
      | true =>
        rw [if_neg (by decide)]
        refine ⟨vp_in_nI (by omega) (by decide), ?_⟩
        rintro E2 eE2
        have e23 : E2 3 = upd (E1 3) c (E 3 c) := by rw [eE2, up_s]
        have e2u : ∀ j, j ≠ 3 → E2 j = E j := fun j hj => by rw [eE2, up_n _ _ hj]; exact eu j hj
        have h23 : ∀ t, t < nC S → E2 3 t = uI (up S t) := fun t ht => by
          rw [e23]
          by_cases e : t = c
          · rw [e, ud_s]; exact m4 c hc
          · rw [ud_n _ _ e, e3, ud_n _ _ e]; exact m4 t ht
        refine m_owns hW m1.2.1 m1.2.2.1 (by rw [e2u 6 (by decide)]; exact m7) h23 (fun f hf => ?_)
        rw [if_neg (by decide)]
        have u : ∀ k, k ≠ 3 → k ≠ 10 → va_up E2 10 f k = E k := fun k h8 h9 => by rw [up_n _ _ h9, e2u _ h8]
        obtain ⟨t, ht1, ht2⟩ := exb_iff.mp e
        refine h0 ⟨t, ht1, by simpa using ht2⟩ _ _ ?_
        exact ⟨m1, by rw [u 1 (by decide) (by decide)]; exact m2, by rw [u 2 (by decide) (by decide)]; exact m3, by rw [up_n _ _ (by decide)]; exact h23, by rw [u 4 (by decide) (by decide)]; exact m5, by rw [u 5 (by decide) (by decide)]; exact m6, by rw [u 6 (by decide) (by decide)]; exact m7, by rw [u 8 (by decide) (by decide)]; exact m8, by rw [u 7 (by decide) (by decide)]; exact m9, by rw [up_s]; exact hf, by rw [u 9 (by decide) (by decide)]; exact m11, by rw [u 9 (by decide) (by decide)]; exact m12⟩
      | false =>
        rw [if_pos rfl]
        have hl : ∀ t, t < nC S → mln S c par t ≤ 6 := fun t ht => by
          refine Nat.le_of_not_lt (fun q => ?_)
          have : exb (fun t => decide (6 < mln S c par t)) (nC S) = true := exb_iff.mpr ⟨t, ht, by simpa using q⟩
          rw [e] at this
          cases this
        have hW' := wf_mv hW hc hp hpc hl
        refine ⟨vp_in_nI (by omega) (by decide), ?_⟩
        rintro E2 eE2
        have e23 : E2 3 = upd (E1 3) c (uI par) := by rw [eE2, up_s]
        have e2u : ∀ j, j ≠ 3 → E2 j = E j := fun j hj => by rw [eE2, up_n _ _ hj]; exact eu j hj
        have h23 : ∀ t, t < nC (sMv S c par) → E2 3 t = uI (up (sMv S c par) t) := fun t ht => by
          rw [e23]
          by_cases e : t = c
          · rw [e, ud_s]
            show _ = uI (if c = c then par else up S c)
            rw [if_pos rfl]
          · rw [ud_n _ _ e]; exact h3 t ht
        refine m_owns (S := sMv S c par) hW' m1.2.1 m1.2.2.1 (by rw [e2u 6 (by decide)]; exact m7) h23 (fun f hf => ?_)
        rw [if_pos rfl]
        have u : ∀ k, k ≠ 3 → k ≠ 10 → va_up E2 10 f k = E k := fun k h8 h9 => by rw [up_n _ _ h9, e2u _ h8]
        refine h1 hl _ _ ?_
        exact ⟨m1, by rw [u 1 (by decide) (by decide)]; exact m2, by rw [u 2 (by decide) (by decide)]; exact m3, by rw [up_n _ _ (by decide)]; exact h23, by rw [u 4 (by decide) (by decide)]; exact m5, by rw [u 5 (by decide) (by decide)]; exact m6, by rw [u 6 (by decide) (by decide)]; exact m7, by rw [u 8 (by decide) (by decide)]; exact m8, by rw [u 7 (by decide) (by decide)]; exact m9, by rw [up_s]; exact hf, by rw [u 9 (by decide) (by decide)]; exact m11, by rw [u 9 (by decide) (by decide)]; exact m12⟩
  unfold wX10_canBe
  cases par with
  | none =>
    rw [if_pos uI_n]
    refine ite_n (by decide) ?_
    simp only [jn]
    rw [if_pos (show uI none < 0 by decide)]
    exact ⟨vp_in_nI (by omega) (by decide), core⟩
  | some p =>
    have hp0 := hp p rfl
    rw [uI_s] at core ⊢
    rw [if_neg (show ¬ nI p = -1 by rw [n_eqm1 (by omega)]; exact fun q => q), m_isCat hM hW hp0.1]
    refine ite_n (by decide) ?_
    refine ⟨vp_in_nI (by omega) (by decide), ?_⟩
    rw [n_c (show p < 2 ^ 31 by omega), hM.2.2.1 p hp0.1, hp0.2, if_pos rfl]
    refine ite_n (by decide) ?_
    simp only [jn]
    rw [if_neg (nI_pos (show p < 2 ^ 31 by omega))]
    refine m_isIn hM hW hp0.1 hc ?_
    have : inb S p c = false := by unfold inb; simpa using hpc
    rw [this, bi_f, if_pos rfl]
    exact ⟨vp_in_nI (by omega) (by decide), core⟩
theorem m_move_no {c : Nat} {y : Int32} (hM : RM S J E) (hW : wf S) (hc : c < nC S) (hno : ¬ ∃ par, y = uI par ∧ (∀ p, par = some p → p < nC S ∧ ax S p = ax S c) ∧ c ∉ chn (up S) 6 par) {K2 : Int32 → (Nat → Int32) → (Nat → Nat → Int32) → Prop} (h0 : ∀ J' E', RM S J' E' → K2 0 J' E') : wX10_move J E (nI c) y K2 := by
  have hn := hW.1
  have hM := RM_t hM 0
  have hax := (hW.2.2.1 c hc).1
  have bad := h0 _ _ hM
  unfold wX10_move
  rintro _ rfl
  rw [m_isCat hM hW hc]
  refine ite_n (by decide) ⟨vp_in_nI (by omega) (by decide), ?_⟩
  rw [n_c (by omega), hM.2.2.1 c hc]
  unfold wX10_canBe
  by_cases ey : y = -1
  · exact absurd ⟨none, ey, fun p hp => (nomatch hp), by rw [chn_none]; simp⟩ hno
  · rw [if_neg ey]
    rcases ix y (n := nC S) (by omega) with h | ⟨p, hp, rfl⟩
    · rw [m_isCat_o hM h]
      simp only [if_true]
      exact bad
    · rw [m_isCat hM hW hp]
      refine ite_n (by decide) ?_
      refine ⟨vp_in_nI (by omega) (by decide), ?_⟩
      have haxp := (hW.2.2.1 p hp).1
      rw [n_c (show p < 2 ^ 31 by omega), hM.2.2.1 p hp]
      simp only [eq_n (show ax S p < 2 ^ 31 by omega) (show ax S c < 2 ^ 31 by omega)]
      by_cases c2 : ax S p = ax S c
      · rw [if_pos c2]
        refine ite_n (by decide) ?_
        simp only [jn]
        rw [if_neg (nI_pos (show p < 2 ^ 31 by omega))]
        refine m_isIn hM hW hp hc ?_
        cases e : inb S p c with
        | true => rw [bi_t]; exact ite_n (by decide) bad
        | false =>
          refine absurd ⟨some p, rfl, fun p' hp' => by cases hp'; exact ⟨hp, c2⟩, ?_⟩ hno
          unfold inb at e
          simpa using e
      · rw [if_neg c2]
        simp only [if_true]
        exact bad
theorem t_move (hC : RC S I L A B) (hM : RM S J E) (hW : wf S) (x y : Int32) {K : Int32 → Int32 → (Nat → Nat → Int32) → (Nat → Nat → Int64) → (Nat → Int32) → (Nat → Nat → Int32) → Prop} (hK : ∀ r S' A' B' J' E', RC S' I L A' B' → RM S' J' E' → wf S' → K r r A' B' J' E') : wX9_move I L A B x y (fun r A' B' => wX10_move J E x y (fun r' J' E' => K r r' A' B' J' E')) := by
  have hn := hW.1
  obtain ⟨hF, hD, hX, hT, hP⟩ := hC
  have hC0 : RC S I L A B := ⟨hF, hD, hX, hT, hP⟩
  have hwl := hW.2.2.2.2.2.2.2.2.2.2.1
  unfold wX9_move
  rcases ix x (n := nC S) (by omega) with h | ⟨c, hc, rfl⟩
  · rw [c_knC_o hF h]
    simp only [if_true]
    have hM := RM_t hM 0
    unfold wX10_move
    rintro _ rfl
    rw [m_isCat_o hM h]
    simp only [if_true]
    exact hK _ S _ _ _ _ hC0 hM hW
  · rw [c_knC hF hW hc]
    refine ite_n (by decide) ⟨vp_in_nI (by omega) (by decide), ?_⟩
    have hax := (hW.2.2.1 c hc).1
    rw [n_c (by omega), hF.2.1 c hc]
    have no : (¬ ∃ par, y = uI par ∧ (∀ p, par = some p → p < nC S ∧ ax S p = ax S c) ∧ c ∉ chn (up S) 6 par) → wX10_move J E (nI c) y (fun r' J' E' => K 0 r' A B J' E') := fun q => m_move_no hM hW hc q (fun J' E' h9 => hK 0 S _ _ _ _ hC0 h9 hW)
    have nop : ∀ p, p < nC S → y = nI p → (ax S p = ax S c → inb S p c = true) → wX10_move J E (nI c) y (fun r' J' E' => K 0 r' A B J' E') := fun p hp ey q => no (by
      rintro ⟨par', h1, h2, h3⟩
      rw [ey] at h1
      have h4 : (uI (some p) = uI par') = (some p = par') := uI_inj (fun p' q' => by cases q'; omega) (fun p' q' => by have := h2 p' q'; omega)
      have h5 : some p = par' := by rw [← h4]; exact h1
      subst h5
      have h6 := q (h2 p rfl).2
      unfold inb at h6
      exact h3 (by simpa using h6))
    have go : ∀ par, y = uI par → (∀ p, par = some p → p < nC S ∧ ax S p = ax S c) → c ∉ chn (up S) 6 par → wX2_levelBelow I L A B y (fun r63 => wX2_height I L A B (nI c) (fun r71 => if (r63 + r71) ≤ 5 then (wX2_hang I L A B (nI c) y (fun A_1 B_1 => wX7_renew I L A_1 B_1  (fun B_2 => wX10_move J E (nI c) y (fun r' J' E' => K 1 r' A_1 B_2 J' E')))) else (wX10_move J E (nI c) y (fun r' J' E' => K 0 r' A B J' E')))) := by
      intro par ey hp hpc
      have hp1 : ∀ p, par = some p → p < nC S := fun p q => (hp p q).1
      rw [ey]
      refine c_levelBelow hF hW hp1 ?_
      refine c_height hF hW hc (fun m hm h1 h2 => ?_)
      have hl6 := chn_len (up := up S) 6 par
      rw [n_add]
      have e5 : (nI ((chn (up S) 6 par).length + m) ≤ 5) = ((chn (up S) 6 par).length + m ≤ 5) := le_n (by omega) (by decide)
      simp only [e5]
      by_cases c5 : (chn (up S) 6 par).length + m ≤ 5
      · rw [if_pos c5]
        have hl : ∀ t, t < nC S → mln S c par t ≤ 6 := fun t ht => by
          rcases mln_le hW hc hp1 hpc ht with q | ⟨q1, q2, q3⟩
          · exact q.2
          · have := h1 t ht q1; omega
        have hW' := wf_mv hW hc hp hpc hl
        refine c_hang hF hW hc hp1 hpc hl hW' (fun A1 B1 hF' au => ?_)
        have hD' : RD (sMv S c par) I L A1 := by
          obtain ⟨g1, g2, g3, g4, g5⟩ := hD
          exact ⟨g1, g2, g3, by rw [au 41 (by decide)]; exact g4, by rw [au 43 (by decide)]; exact g5⟩
        have hX' : RX (sMv S c par) I L A1 := by
          obtain ⟨g1, g2, g3, g4, g5⟩ := hX
          exact ⟨g1, g2, g3, fun b d v hb hd hv => by rw [au _ (by omega)]; exact g4 b d v hb hd hv, fun b hb => cSl_to hwl (fun _ _ => rfl) (g5 b hb) rfl rfl rfl (au _ (by omega)) (au _ (by omega))⟩
        have hT' : RT (sMv S c par) I L A1 := RT_to hW (fun _ _ => rfl) (Nat.le_refl _) rfl rfl (fun _ _ => rfl) (fun _ _ _ => rfl) (fun j hj => au _ (by omega)) hT
        refine c_renew hF' hD' hX' hW' (fun B2 r1 r2 => ?_)
        refine m_move hM hW hc hp hpc (fun q => ?_) (fun _ J' E' h9 => hK 1 (sMv S c par) _ _ _ _ ⟨r1, hD', hX', hT', r2⟩ h9 hW')
        obtain ⟨t, ht, q⟩ := q
        have := hl t ht
        omega
      · rw [if_neg c5]
        refine m_move hM hW hc hp hpc (fun _ J' E' h9 => hK 0 S _ _ _ _ hC0 h9 hW) (fun q => ?_)
        obtain ⟨t, ht, h3, h4⟩ := h2
        have := q t ht
        rcases mln_le hW hc hp1 hpc ht with q | ⟨q1, q2, q3⟩
        · rw [h3] at q; cases q.1
        · omega
    unfold wX9_canStandBelow
    by_cases ey : y = -1
    · rw [if_pos ey]
      refine ite_n (by decide) ?_
      rw [if_neg (show ¬ y = nI c by rw [ey]; intro q; have q2 := n_eqm1 (show c < 2 ^ 31 by omega); rw [← q2]; exact q.symm)]
      simp only [jn]
      rw [if_pos ey]
      exact go none ey (fun p hp => nomatch hp) (by rw [chn_none]; simp)
    · rw [if_neg ey]
      rcases ix y (n := nC S) (by omega) with h | ⟨p, hp, ep⟩
      · rw [c_knC_o hF h]
        simp only [if_true]
        refine no ?_
        rintro ⟨par', h1, h2, h3⟩
        cases par' with
        | none => exact ey h1
        | some p =>
          rw [h1, uI_s] at h
          exact ou_not (h2 p rfl).1 (by omega) h
      · rw [ep, c_knC hF hW hp]
        refine ite_n (by decide) ⟨vp_in_nI (by omega) (by decide), ?_⟩
        have haxp := (hW.2.2.1 p hp).1
        rw [n_c (show p < 2 ^ 31 by omega), hF.2.1 p hp]
        simp only [eq_n (show ax S p < 2 ^ 31 by omega) (show ax S c < 2 ^ 31 by omega)]
        by_cases c2 : ax S p = ax S c
        · rw [if_pos c2]
          refine ite_n (by decide) ?_
          simp only [eq_n (show p < 2 ^ 31 by omega) (show c < 2 ^ 31 by omega)]
          by_cases c3 : p = c
          · rw [if_pos c3]
            have := nop p hp ep (fun _ => by rw [c3]; exact inb_self S c)
            rw [ep] at this
            exact this
          · rw [if_neg c3]
            simp only [jn]
            rw [if_neg (show ¬ nI p = -1 by rw [n_eqm1 (by omega)]; exact fun q => q)]
            refine ⟨vp_in_nI (by omega) (by decide), ?_⟩
            rw [bs_in _ (show p < 64 by omega), hF.2.2.2.1 c hc p (by omega)]
            dsimp only
            have e9 : (decide (p < nC S) && !(p == c) && inb S p c) = inb S p c := by rw [bqf c3]; simp [hp]
            simp only [e9]
            cases e : inb S p c with
            | true =>
              rw [if_neg (by simp [bi])]
              have := nop p hp ep (fun _ => e)
              rw [ep] at this
              exact this
            | false =>
              rw [if_pos (by simp [bi])]
              have := go (some p) ep (fun p' hp' => by cases hp'; exact ⟨hp, c2⟩) (by unfold inb at e; simpa using e)
              rw [ep] at this
              exact this
        · rw [if_neg c2]
          simp only [if_true]
          have := nop p hp ep (fun q => absurd q c2)
          rw [ep] at this
          exact this
end
