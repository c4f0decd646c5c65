section
variable {S : SS} {J : Nat → Int32} {E : Nat → Nat → Int32} {I : Nat → Int32} {L : Nat → Int64} {A : Nat → Nat → Int32} {B : Nat → Nat → Int64}
theorem rSl_move {sl : Sl} {b b' : Nat} {f g : Nat → Int32} (hl : ∀ a, (sl.2.2 a).length ≤ 3) (h : rSl sl b f) (hg : ∀ i, i < 80 → g (b' + i) = f (b + i)) : rSl sl b' g := by
  refine ⟨fun c hc => ?_, fun x hx => ?_, fun x hx => ?_, fun x hx j hj => ?_⟩
  · rw [hg c (by omega)]; exact h.1 c hc
  · rw [Nat.add_assoc, hg _ (by omega), ← Nat.add_assoc]; exact h.2.1 x hx
  · rw [Nat.add_assoc, hg _ (by omega), ← Nat.add_assoc]; exact h.2.2.1 x hx
  · have hj3 := hl x
    have q2 := h.2.2.2 x hx j hj
    rw [show b' + 50 + 2 * (3 * x + j) + 1 = b' + (50 + 2 * (3 * x + j) + 1) by omega, show b' + 50 + 2 * (3 * x + j) = b' + (50 + 2 * (3 * x + j)) by omega, hg _ (by omega), hg _ (by omega), ← Nat.add_assoc, ← Nat.add_assoc, ← Nat.add_assoc]
    exact q2
theorem rSl_se {sl : Sl} {b c : Nat} {f : Nat → Int32} (h : rSl sl b f) (hc : c < 40) (v : Bool) : rSl (seS sl c v) b (upd f (b + c) (bi v)) := by
  refine ⟨fun i hi => ?_, fun x hx => ?_, fun x hx => ?_, fun x hx j hj => ?_⟩
  · by_cases e : i = c
    · subst e; rw [ud_s]; simp [seS]
    · rw [ud_n _ _ (by omega), h.1 i hi]; simp [seS, e]
  · rw [ud_n _ _ (by omega)]; exact h.2.1 x hx
  · rw [ud_n _ _ (by omega)]; exact h.2.2.1 x hx
  · rw [ud_n _ _ (by omega), ud_n _ _ (by omega)]; exact h.2.2.2 x hx j hj
theorem m_click (hM : RM S J E) (hW : wf S) {c w : Nat} (hc : c < nC S) (hw2 : w ≤ 2) {post : Int32 → (Nat → Int32) → (Nat → Nat → Int32) → Prop} (h : ∀ J' E', RM S J' E' → post (nI (fb_ct (fun d => nea S (clk S c w) d 9) (nD S))) J' E') : wX10_click J E (nI c) (nI w) post := by
  have hn := hW.1
  have hM := RM_t hM 0
  have ha := (hW.2.2.1 c hc).1
  have hkx := hW.2.1 _ ha
  have hw := hW.2.2.2.2.2.2.2.2.2.2.1
  unfold wX10_click
  rintro _ rfl
  rw [m_isCat hM hW hc]
  simp (disch := omega) only [zcmp, zari, z00, zm1, le_n, lt_n, eq_n, n_add, n_mul, n_c, n_in, true_and, and_true, if_true, if_false, bi_0, bi_1, ite_true, ite_false, Bool.true_eq_false, Bool.false_eq_true, m_within, show ¬ w < 0 by omega, show ¬ 2 < w by omega]
  refine m_copies (b1 := 0) (b2 := 1360) (by omega) (by omega) (by omega) (fun f g1 g2 => ?_)
  have hs0 : rSl (se S) 1360 f := rSl_move hw.2.2.2 hM.2.2.2.2.2.2.2.2.2.2.1 g1
  have hM1 : RM S (va_up J 0 0) (va_up E 9 f) := RM_9 hW hM (fun i hi => g2 i (by omega))
  refine jn_have (fun E2 => ∃ f2 sl, E2 = va_up E 9 f2 ∧ (∀ i, i < 1360 → f2 i = E 9 i) ∧ rSl sl 1360 f2 ∧ wfl S sl ∧ clk S c w = seS sl c (!(w == 2))) ?_ ?_
  · rintro _ ⟨f2, sl, rfl, j1, j2, j3, j4⟩
    refine jn_have (fun t => t = bi (!(w == 2))) ?_ ?_
    · rintro _ rfl
      simp (disch := omega) only [zcmp, zari, z00, zm1, le_n, lt_n, eq_n, n_add, n_mul, n_c, n_in, true_and, and_true, if_true, if_false, bi_0, bi_1, ite_true, ite_false, Bool.true_eq_false, Bool.false_eq_true, up_s, va_uu]
      rintro _ rfl
      have hM3 : RM S (va_up J 0 0) (va_up E 9 (upd f2 (1360 + c) (bi (!(w == 2))))) := RM_9 hW hM (fun i hi => by rw [ud_n _ _ (by omega)]; exact j1 i hi)
      refine m_hitsBy (b := 1360) (sl := clk S c w) hM3 hW (by rw [up_s, j4]; exact rSl_se j2 (by omega) _) (clk_wfl hW hc w).2.2.2 (by omega) ?_
      exact h _ _ hM3
    · intro k hk
      by_cases e : w = 2
      · simp only [e, if_true]; exact hk _ (by simp [e, bi])
      · simp only [e, if_false]; exact hk _ (by simp [e, bi])
  · intro k hk
    have base : ¬ (w = 0 ∧ kd S (ax S c) = 0) → k (va_up E 9 f) := fun hne => hk _ ⟨f, se S, rfl, fun i hi => g2 i (by omega), hs0, hw, by unfold clk; rw [if_neg hne]⟩
    by_cases e : w = 0
    · simp only [e, if_true]
      rw [up_n _ _ (show (2 : Nat) ≠ 9 by decide), up_n _ _ (show (1 : Nat) ≠ 9 by decide), hM.2.2.1 c hc]
      simp (disch := omega) only [zcmp, zari, z00, zm1, le_n, lt_n, eq_n, n_add, n_mul, n_c, n_in, true_and, and_true, if_true, if_false, bi_0, bi_1, ite_true, ite_false, Bool.true_eq_false, Bool.false_eq_true, hM.2.1 _ ha]
      by_cases e2 : kd S (ax S c) = 0
      · simp only [e2, if_true]
        refine m_opens (E := va_up E 9 f) (b := 1360) hM1.2.2.1 hM1.1.2.1 hW (by rw [up_s]; exact hs0) hw (by omega) ha (fun f2 h2 k2 => ?_)
        rw [va_uu]
        rw [up_s] at k2
        exact hk _ ⟨f2, opS S (se S) (ax S c), rfl, fun i hi => by rw [k2 i (by omega), g2 i (by omega)], h2, opS_wfl hw _, by unfold clk; rw [if_pos ⟨e, e2⟩, e]; rfl⟩
      · simp only [e2, if_false]
        exact base (fun q => e2 q.2)
    · simp only [e, if_false]
      exact base (fun q => e q.1)
theorem t_click (hC : RC S I L A B) (hM : RM S J E) (hW : wf S) (x y : Int32) {K : Int32 → Int32 → (Nat → Int32) → (Nat → Int64) → (Nat → Nat → Int32) → (Nat → Int32) → (Nat → Nat → Int32) → Prop} (hK : ∀ r I' L' A' J' E', RC S I' L' A' B → RM S J' E' → K r r I' L' A' J' E') : wX9_click I L A B x y (fun r I' L' A' => wX10_click J E x y (fun r' J' E' => K r r' I' L' A' J' E')) := by
  have hn := hW.1
  have hM0 := RM_t hM 0
  rcases ix x (n := nC S) (by omega) with h | ⟨c, hc, rfl⟩
  · unfold wX9_click wX10_click
    rw [c_knC_o hC.1 h]
    simp only [if_true]
    rintro _ rfl
    rw [m_isCat_o hM0 h]
    simp only [if_true]
    exact hK _ _ _ _ _ _ hC hM0
  · have bad : (y < 0 ∨ (¬ y < 0 ∧ ¬ y ≤ 2)) → wX9_click I L A B (nI c) y (fun r I' L' A' => wX10_click J E (nI c) y (fun r' J' E' => K r r' I' L' A' J' E')) := by
      intro hb
      have g := hK (-1) _ _ _ _ _ hC hM0
      unfold wX9_click wX10_click
      rw [c_knC hC.1 hW hc]
      simp (disch := omega) only [zcmp, zari, z00, zm1, le_n, lt_n, eq_n, n_add, n_mul, n_c, n_in, true_and, and_true, if_true, if_false, bi_0, bi_1, ite_true, ite_false, Bool.true_eq_false, Bool.false_eq_true]
      rcases hb with hb | ⟨hb, hb2⟩
      · simp only [hb, if_true]
        rintro _ rfl
        rw [m_isCat hM0 hW hc]
        simp (disch := omega) only [zcmp, zari, z00, zm1, le_n, lt_n, eq_n, n_add, n_mul, n_c, n_in, true_and, and_true, if_true, if_false, bi_0, bi_1, ite_true, ite_false, Bool.true_eq_false, Bool.false_eq_true, m_within, hb]
        exact g
      · simp only [hb, hb2, if_false]
        rintro _ rfl
        rw [m_isCat hM0 hW hc]
        simp (disch := omega) only [zcmp, zari, z00, zm1, le_n, lt_n, eq_n, n_add, n_mul, n_c, n_in, true_and, and_true, if_true, if_false, bi_0, bi_1, ite_true, ite_false, Bool.true_eq_false, Bool.false_eq_true, m_within, hb, n_gt (x := 2), hb2, not_false_eq_true]
        exact g
    have good : ∀ w, w ≤ 2 → wX9_click I L A B (nI c) (nI w) (fun r I' L' A' => wX10_click J E (nI c) (nI w) (fun r' J' E' => K r r' I' L' A' J' E')) := fun w hw => c_click hC hW hc hw (fun I' L' A' hC' => m_click hM hW hc hw (fun J' E' hM' => hK _ _ _ _ _ _ hC' hM'))
    rcases w2 y with h | ⟨-, -, h | h | h⟩ | h
    · exact bad (Or.inl h)
    · rw [h]; exact good 0 (by omega)
    · rw [h]; exact good 1 (by omega)
    · rw [h]; exact good 2 (by omega)
    · exact bad (Or.inr h)
end
