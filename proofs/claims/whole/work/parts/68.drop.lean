section
variable {S : SS} {J J' : Nat → Int32} {E : Nat → Nat → Int32} {I I1 I2 : Nat → Int32} {L L1 L2 : Nat → Int64} {A A1 A2 : Nat → Nat → Int32} {B B' : Nat → Nat → Int64}
theorem er_len {l : List (Int32 × Int32)} {i : Nat} (h : i < l.length) : (l.eraseIdx i).length = l.length - 1 := by rw [List.length_eraseIdx, if_pos h]
theorem er_get (l : List (Int32 × Int32)) (i j : Nat) : (l.eraseIdx i).getD j (0, 0) = if j < i then l.getD j (0, 0) else l.getD (j + 1) (0, 0) := by
  rw [List.getD_eq_getElem?_getD, List.getD_eq_getElem?_getD, List.getD_eq_getElem?_getD, List.getElem?_eraseIdx]
  split <;> rfl
theorem t_drop (hC : RC S I L A B) (hM : RM S J E) (hW : wf S) (x y : Int32) {K : Int32 → Int32 → (Nat → Int32) → (Nat → Int64) → (Nat → Nat → Int32) → (Nat → Nat → Int64) → (Nat → Int32) → (Nat → Nat → Int32) → Prop} (hK : ∀ r S' I' L' A' B' J' E', RC S' I' L' A' B' → RM S' J' E' → wf S' → K r r I' L' A' B' J' E') : wX9_drop I L A B x y (fun r I' L' A' B' => wX10_drop J E x y (fun r' J' E' => K r r' I' L' A' B' J' E')) := by
  have hn := hW.1
  have hM := RM_t hM 0
  have hwl := hW.2.2.2.2.2.2.2.2.2.2.1
  obtain ⟨hF, hD, hX, hT, hP⟩ := hC
  have hC0 : RC S I L A B := ⟨hF, hD, hX, hT, hP⟩
  unfold wX9_drop
  rcases ix x (n := nA S) (by omega) with h | ⟨a, ha, rfl⟩
  · rw [c_isNum_o hX h]
    simp only [if_true]
    unfold wX10_drop
    rintro _ rfl
    rw [m_isNum_o hM h]
    simp only [if_true]
    exact hK _ S _ _ _ _ _ _ hC0 hM hW
  · rw [c_isNum hX hW ha]
    simp only [bi_0]
    have rs := hM.2.2.2.2.2.2.2.2.2.2.1
    have hl3 := hwl.2.2.2 a
    have m9 : E 9 (45 + a) = nI ((se S).2.2 a).length := by
      have := rs.2.2.1 a (by omega)
      rw [Nat.zero_add] at this; exact this
    have e45 : (45 : Int32) + nI a = nI (45 + a) := n_add 45 a
    by_cases c1 : kd S a = 2
    · rw [if_neg (by simp [c1])]
      refine ⟨vp_in_nI (by omega) (by decide), ?_⟩
      have no : ¬ (∃ i, y = nI i ∧ i < ((se S).2.2 a).length) → wX10_drop J E (nI a) y (fun r' J' E' => K 0 r' I L A B J' E') := by
        intro q
        unfold wX10_drop
        rintro _ rfl
        rw [m_isNum hM hW ha]
        simp only [bi_0]
        rw [if_neg (by simp [c1])]
        by_cases c2 : y < 0
        · rw [if_pos c2]; exact hK _ S _ _ _ _ _ _ hC0 hM hW
        · rw [if_neg c2, e45]
          refine ⟨vp_in_nI (by omega) (by decide), ?_⟩
          rw [n_c (by omega), m9]
          obtain ⟨i, hi, rfl⟩ := nI_of c2
          rw [if_neg (by rw [lt_n hi (by omega)]; exact fun q2 => q ⟨i, rfl, q2⟩)]
          exact hK _ S _ _ _ _ _ _ hC0 hM hW
      by_cases c2 : y < 0
      · rw [if_pos c2]
        refine no (fun ⟨i, q1, q2⟩ => ?_)
        rw [q1] at c2
        exact absurd c2 (nI_pos (by omega))
      · rw [if_neg c2]
        obtain ⟨i, hi, rfl⟩ := nI_of c2
        rw [n_c (by omega), (hX.2.2.2.2 a (by omega)).2.2.1]
        simp only [lt_n hi (show ((se S).2.2 a).length < 2 ^ 31 by omega)]
        by_cases c3 : i < ((se S).2.2 a).length
        · rw [if_pos c3]
          have hle := er_len c3
          have hag : agr S (se S) (slR (se S) a (((se S).2.2 a).eraseIdx i)) a := slR_agr _ _ _
          have hwl' : wfl S (slR (se S) a (((se S).2.2 a).eraseIdx i)) := slR_wfl hwl ha c1 (by omega)
          have hrg : ∀ j, rg (slR (se S) a (((se S).2.2 a).eraseIdx i)) a j = if j < i then rg (se S) a j else rg (se S) a (j + 1) := fun j => by
            unfold rg
            rw [slR_a, er_get]
          refine c_note hC0 hW ha (fun I1 L1 A1 n1 n2 n3 n4 => ?_)
          obtain ⟨g1, g2, g3, g4⟩ := hX.2.2.2.2 a (by omega)
          have i36 : I1 (9 + a + 5 + 22) = nI ((se S).2.2 a).length := by rw [n1 (9 + a + 5 + 22) (by omega) (by omega) (by omega) (by omega), g3]
          have g5 : ∀ j, j < ((se S).2.2 a).length → A1 (9 + a + 5 + 45) j = (rg (se S) a j).1 ∧ A1 (9 + a + 5 + 67) j = (rg (se S) a j).2 := fun j hj => by rw [n3 _ (by omega) (by omega) (by omega), n3 _ (by omega) (by omega) (by omega)]; exact g4 j hj
          unfold wX5_dropRange
          refine lfix_for (((se S).2.2 a).length - 1) (fun k (y : Nat → Nat → Int32) => (nI k, y)) (fun k y => i ≤ k ∧ (∀ k, k ≠ 9 + a + 5 + 45 → k ≠ 9 + a + 5 + 67 → y k = A1 k) ∧ ∀ j, j < ((se S).2.2 a).length → y (9 + a + 5 + 45) j = (rg (se S) a (if j < i then j else if j < k then j + 1 else j)).1 ∧ y (9 + a + 5 + 67) j = (rg (se S) a (if j < i then j else if j < k then j + 1 else j)).2) i A1 (by omega) ⟨Nat.le_refl _, fun _ _ _ => rfl, fun j hj => ?_⟩ ?_ ?_
          · by_cases q : j < i
            · rw [if_pos q]; exact g5 j hj
            · rw [if_neg q, if_neg q]; exact g5 j hj
          · rintro r k y hk ⟨k0, k1, k2⟩ hr
            dsimp only
            have k3 := k2 (k + 1) (by omega)
            rw [if_neg (by omega), if_neg (by omega)] at k3
            simp (disch := omega) only [zcmp, zari, z00, zm1, le_n, lt_n, eq_n, n_add, n_mul, n_c, n_in, true_and, and_true, if_true, if_false, bi_0, bi_1, ite_true, ite_false, Bool.true_eq_false, Bool.false_eq_true, i36, show ¬ ((se S).2.2 a).length ≤ k + 1 by omega]
            rintro _ rfl _ rfl _ rfl
            rw [up_n y _ (show 9 + a + 5 + 67 ≠ 9 + a + 5 + 45 by omega)]
            refine hr _ ⟨by omega, fun j h1 h2 => by rw [up_n _ _ h2, up_n _ _ h1]; exact k1 j h1 h2, fun j hj => ?_⟩
            rw [up_n _ _ (show 9 + a + 5 + 45 ≠ 9 + a + 5 + 67 by omega), up_s, up_s]
            by_cases q : j = k
            · rw [q, ud_s, ud_s, if_neg (by omega), if_pos (by omega)]; exact k3
            · rw [ud_n _ _ q, ud_n _ _ q]
              have := k2 j hj
              by_cases q1 : j < i
              · rw [if_pos q1] at this ⊢; exact this
              · rw [if_neg q1] at this ⊢
                by_cases q2 : j < k
                · rw [if_pos q2] at this; rw [if_pos (by omega)]; exact this
                · rw [if_neg q2] at this; rw [if_neg (by omega)]; exact this
          · rintro r y ⟨k0, k1, k2⟩
            dsimp only
            rw [i36, show nI (((se S).2.2 a).length - 1) + 1 = nI ((se S).2.2 a).length by rw [show nI (((se S).2.2 a).length - 1) + 1 = nI (((se S).2.2 a).length - 1 + 1) from n_add _ 1, Nat.sub_add_cancel (by omega)], if_pos (Int32.le_refl _), zsub.1 _ (by omega)]
            rintro _ rfl
            obtain ⟨q1, q2, q3, q4⟩ := RC_se (I2 := va_up I1 (9 + a + 5 + 22) (nI (((se S).2.2 a).length - 1))) (L2 := L1) (A2 := y) hC0 hW ha hwl' hag n1 n2 n3 (n4 _ hag) (fun k _ hk => up_n _ _ hk) (fun _ _ => rfl) k1 (by
              refine ⟨by rw [n2 _ (by omega)]; exact g1, by rw [up_n _ _ (by omega), n1 _ (by omega) (by omega) (by omega) (by omega)]; exact g2, by rw [up_s, slR_a, hle], fun j hj => ?_⟩
              rw [slR_a, hle] at hj
              have := k2 j (by omega)
              rw [hrg j]
              by_cases q : j < i
              · rw [if_pos q] at this ⊢; exact this
              · rw [if_neg q, if_pos hj] at this
                rw [if_neg q]; exact this)
            have hW' := wf_se hW hwl'
            refine c_renew q1 q2 q3 hW' (fun B1 r1 r2 => ?_)
            unfold wX10_drop
            rintro _ rfl
            rw [m_isNum hM hW ha]
            simp only [bi_0]
            rw [if_neg (by simp [c1]), if_neg c2, e45]
            refine ⟨vp_in_nI (by omega) (by decide), ?_⟩
            rw [n_c (by omega), m9, if_pos (by rw [lt_n hi (by omega)]; exact c3)]
            refine m_keeps hM hW (fun J' f f1 f2 f3 f4 => ?_)
            refine ⟨vp_in_nI (by omega) (by decide), vp_in_nI (by omega) (by decide), ?_⟩
            rw [up_s, f3 (45 + a) (by omega), m9, zsub.1 _ (by omega), va_uu]
            rintro _ rfl
            rw [show (50 : Int32) + 6 * nI a = nI (50 + 6 * a) by rw [show (50 : Int32) = nI 50 from rfl, show (6 : Int32) = nI 6 from rfl, n_mul, n_add], show (2 : Int32) * nI i = nI (2 * i) by rw [show (2 : Int32) = nI 2 from rfl, n_mul]]
            rintro _ rfl _ rfl
            have f9 : ∀ j, j < 2 * ((se S).2.2 a).length → f (50 + 6 * a + j) = E 9 (50 + 6 * a + j) := fun j hj => f3 _ (by omega)
            refine lfix_for (2 * (((se S).2.2 a).length - 1)) (fun k (g : Nat → Int32) => (nI k, va_up E 9 g)) (fun k g => 2 * i ≤ k ∧ g (45 + a) = nI (((se S).2.2 a).length - 1) ∧ (∀ j, j ≠ 45 + a → ¬ (50 + 6 * a ≤ j ∧ j < 50 + 6 * a + 6) → g j = f j) ∧ ∀ j, j < 2 * ((se S).2.2 a).length → g (50 + 6 * a + j) = if j < 2 * i then E 9 (50 + 6 * a + j) else if j < k then E 9 (50 + 6 * a + j + 2) else E 9 (50 + 6 * a + j)) (2 * i) (upd f (45 + a) (nI (((se S).2.2 a).length - 1))) (by omega) ⟨Nat.le_refl _, ud_s _ _ _, fun j h1 _ => ud_n _ _ h1, fun j hj => ?_⟩ ?_ ?_
            · rw [ud_n _ _ (by omega), f9 j hj]
              by_cases q : j < 2 * i
              · rw [if_pos q]
              · rw [if_neg q, if_neg q]
            · rintro r k g hk ⟨t0, t1, t2, t3⟩ hr
              dsimp only
              refine ⟨vp_in_nI (by omega) (by decide), ?_⟩
              have t4 := t3 (k + 2) (by omega)
              rw [if_neg (by omega), if_neg (by omega)] at t4
              refine ite_n (show ¬ 2 * va_up E 9 g 9 (45 + a) ≤ nI k by rw [up_s, t1]; simp (disch := omega) only [zcmp, zari, z00, zm1, le_n, lt_n, eq_n, n_add, n_mul, n_c, n_in, true_and, and_true, if_true, if_false, bi_0, bi_1, ite_true, ite_false, Bool.true_eq_false, Bool.false_eq_true]; omega) ?_
              simp (disch := omega) only [zcmp, zari, z00, zm1, le_n, lt_n, eq_n, n_add, n_mul, n_c, n_in, true_and, and_true, if_true, if_false, bi_0, bi_1, ite_true, ite_false, Bool.true_eq_false, Bool.false_eq_true, show 50 + 6 * a + k + 2 < 1440 by omega]
              rintro _ rfl _ rfl
              rw [va_uu, up_s]
              refine hr _ ⟨by omega, by rw [ud_n _ _ (by omega)]; exact t1, fun j h1 h2 => by rw [ud_n _ _ (by omega)]; exact t2 j h1 h2, fun j hj => ?_⟩
              by_cases q : j = k
              · rw [q, ud_s, if_neg (by omega), if_pos (by omega)]
                exact t4
              · rw [ud_n _ _ (by omega), t3 j hj]
                by_cases q1 : j < 2 * i
                · rw [if_pos q1, if_pos q1]
                · rw [if_neg q1, if_neg q1]
                  by_cases q2 : j < k
                  · rw [if_pos q2, if_pos (show j < k + 1 by omega)]
                  · rw [if_neg q2, if_neg (show ¬ j < k + 1 by omega)]
            · rintro r g ⟨t0, t1, t2, t3⟩
              dsimp only
              refine ⟨vp_in_nI (by omega) (by decide), ?_⟩
              refine ite_p (show 2 * va_up E 9 g 9 (45 + a) ≤ nI (2 * (((se S).2.2 a).length - 1)) by rw [up_s, t1]; simp (disch := omega) only [zcmp, zari, z00, zm1, le_n, lt_n, eq_n, n_add, n_mul, n_c, n_in, true_and, and_true, if_true, if_false, bi_0, bi_1, ite_true, ite_false, Bool.true_eq_false, Bool.false_eq_true]; omega) ?_
              refine hK _ (sSe S (slR (se S) a (((se S).2.2 a).eraseIdx i))) _ _ _ _ _ _ ⟨r1, q2, q3, q4, r2⟩ (RM_se hM f1 f2 f4 (se_len hW) (fun j hj => t2 j (by omega) (by omega)) ?_) hW'
              refine rSl_ax (a := a) rs hwl.2.2.2 (by omega) rfl (fun b hb => ⟨rfl, if_neg hb⟩) (fun j h1 h2 h3 h4 => by rw [t2 j h3 h4]; exact f3 j h1) ?_ (by rw [t1, slR_a, hle]) (fun j hj => ?_)
              · rw [t2 _ (by omega) (by omega), f3 _ (by omega)]
                have := rs.2.1 a (by omega); rw [Nat.zero_add] at this; exact this
              · rw [slR_a, hle] at hj
                have u1 := t3 (2 * j) (by omega)
                have u2 := t3 (2 * j + 1) (by omega)
                rw [hrg j, u1, Nat.add_assoc (50 + 6 * a) (2 * j) 1, u2]
                by_cases q : j < i
                · rw [if_pos q, if_pos (by omega), if_pos (by omega)]
                  have := rs.2.2.2 a (by omega) j (by omega)
                  rw [show 0 + 50 + 2 * (3 * a + j) = 50 + 6 * a + 2 * j by omega] at this
                  exact this
                · rw [if_neg q, if_neg (by omega), if_pos (by omega), if_neg (by omega), if_pos (by omega)]
                  have := rs.2.2.2 a (by omega) (j + 1) (by omega)
                  rw [show 0 + 50 + 2 * (3 * a + (j + 1)) = 50 + 6 * a + 2 * j + 2 by omega] at this
                  rw [show 50 + 6 * a + (2 * j + 1) + 2 = 50 + 6 * a + 2 * j + 2 + 1 by omega]
                  exact this
        · rw [if_neg c3]
          refine no (fun ⟨i', q1, q2⟩ => c3 ?_)
          rw [eq_n hi (by omega)] at q1; omega
    · rw [if_pos (by simp [c1])]
      unfold wX10_drop
      rintro _ rfl
      rw [m_isNum hM hW ha]
      simp only [bi_0]
      rw [if_pos (by simp [c1])]
      exact hK _ S _ _ _ _ _ _ hC0 hM hW
end
