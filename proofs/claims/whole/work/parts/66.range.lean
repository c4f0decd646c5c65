section
variable {S : SS} {J J' : Nat → Int32} {E : Nat → Nat → Int32} {I I1 I2 : Nat → Int32} {L L1 L2 : Nat → Int64} {A A1 A2 : Nat → Nat → Int32} {B B' : Nat → Nat → Int64}
abbrev slR (sl : Sl) (a : Nat) (l : List (Int32 × Int32)) : Sl := (sl.1, sl.2.1, fun b => if b = a then l else sl.2.2 b)
theorem slR_a (sl : Sl) (a : Nat) (l : List (Int32 × Int32)) : (slR sl a l).2.2 a = l := if_pos rfl
theorem slR_agr (sl : Sl) (a : Nat) (l : List (Int32 × Int32)) : agr S sl (slR sl a l) a := ⟨fun _ _ => rfl, fun b hb => ⟨rfl, (if_neg hb).symm⟩⟩
theorem slR_wfl {sl : Sl} {a : Nat} {l : List (Int32 × Int32)} (h : wfl S sl) (ha : a < nA S) (hk : kd S a = 2) (hl : l.length ≤ 3) : wfl S (slR sl a l) := by
  refine ⟨h.1, h.2.1, fun b hb => ?_, fun b => ?_⟩
  · by_cases q : b = a
    · rw [q]; exact ⟨ha, hk⟩
    · have : (if b = a then l else sl.2.2 b) ≠ [] := hb
      rw [if_neg q] at this; exact h.2.2.1 b this
  · show (if b = a then l else sl.2.2 b).length ≤ 3
    by_cases q : b = a
    · rw [if_pos q]; exact hl
    · rw [if_neg q]; exact h.2.2.2 b
theorem t_range (hC : RC S I L A B) (hM : RM S J E) (hW : wf S) (x y z : Int32) {K : Int32 → Int32 → (Nat → Int32) → (Nat → Int64) → (Nat → Nat → Int32) → (Nat → Nat → Int64) → (Nat → Int32) → (Nat → Nat → Int32) → Prop} (hK : ∀ r S' I' L' A' B' J' E', RC S' I' L' A' B' → RM S' J' E' → wf S' → K r r I' L' A' B' J' E') : wX9_range I L A B x y z (fun r I' L' A' B' => wX10_range J E x y z (fun r' J' E' => K r r' I' L' A' B' J' E')) := by
  have hn := hW.1
  have hM := RM_t hM 0
  have hwl := hW.2.2.2.2.2.2.2.2.2.2.1
  obtain ⟨hF, hD, hX, hT, hP⟩ := hC
  have hC0 : RC S I L A B := ⟨hF, hD, hX, hT, hP⟩
  unfold wX9_range
  rcases ix x (n := nA S) (by omega) with h | ⟨a, ha, rfl⟩
  · rw [c_isNum_o hX h]
    simp only [if_true]
    unfold wX10_range
    rintro _ rfl
    rw [m_isNum_o hM h]
    simp only [if_true]
    exact hK _ S _ _ _ _ _ _ hC0 hM hW
  · rw [c_isNum hX hW ha]
    simp only [bi_0]
    have rs := hM.2.2.2.2.2.2.2.2.2.2.1
    have hl3 := hwl.2.2.2 a
    have m9 : E 9 (45 + a) = nI ((se S).2.2 a).length := by
      have := rs.2.2.1 a (by omega)
      rw [Nat.zero_add] at this; exact this
    have e45 : (45 : Int32) + nI a = nI (45 + a) := n_add 45 a
    have e3 : (nI ((se S).2.2 a).length = 3) = (((se S).2.2 a).length = 3) := eq_n (by omega) (by decide)
    have mgo : ∀ {K2 : Int32 → (Nat → Int32) → (Nat → Nat → Int32) → Prop}, ((kd S a = 2 → y ≤ z → ((se S).2.2 a).length = 3) → K2 (-1) (va_up J 0 0) E) → (kd S a = 2 → y ≤ z → ((se S).2.2 a).length < 3 → ∀ J' f, (∀ k, k ≠ 4 → J' k = J k ∨ k = 0) → RM S (va_up J 0 0) E → (∀ k, k ≠ 4 → J' k = va_up J 0 0 k) → J' 4 = nI ((se S :: hi S).take 16).length → (∀ i, i < 80 → f i = E 9 i) → (∀ k sl, ((se S :: hi S).take 16)[k]? = some sl → rSl sl (80 + 80 * (((se S :: hi S).take 16).length - 1 - k)) f) → K2 (nI ((se S).2.2 a).length) J' (va_up E 9 (upd (upd (upd f (50 + 2 * (3 * a + ((se S).2.2 a).length)) y) (50 + 2 * (3 * a + ((se S).2.2 a).length) + 1) z) (45 + a) (nI (((se S).2.2 a).length + 1))))) → wX10_range J E (nI a) y z (fun r' J' E' => K2 r' J' E') := by
      intro K2 h1 h2
      unfold wX10_range
      rintro _ rfl
      rw [m_isNum hM hW ha]
      simp only [bi_0]
      by_cases c1 : kd S a = 2
      · rw [if_neg (by simp [c1])]
        by_cases c2 : z < y
        · rw [if_pos c2]
          refine h1 (fun _ q => ?_)
          rw [le_i] at q; rw [lt_i] at c2; omega
        · rw [if_neg c2]
          have c2' : y ≤ z := by rw [le_i]; rw [lt_i] at c2; omega
          rw [e45]
          refine ⟨vp_in_nI (by omega) (by decide), ?_⟩
          rw [n_c (by omega), m9]
          simp only [e3]
          by_cases c3 : ((se S).2.2 a).length = 3
          · rw [if_pos c3]; exact h1 (fun _ _ => c3)
          · rw [if_neg c3]
            refine m_keeps hM hW (fun J' f k1 k2 k3 k4 => ?_)
            refine ⟨vp_in_nI (by omega) (by decide), ?_⟩
            rw [up_s, k3 (45 + a) (by omega), m9]
            rintro _ rfl _ rfl
            rw [show (50 : Int32) + 2 * (3 * nI a + nI ((se S).2.2 a).length) = nI (50 + 2 * (3 * a + ((se S).2.2 a).length)) by simp (disch := omega) only [zcmp, zari, z00, zm1, le_n, lt_n, eq_n, n_add, n_mul, n_c, n_in, true_and, and_true, if_true, if_false, bi_0, bi_1, ite_true, ite_false, Bool.true_eq_false, Bool.false_eq_true]]
            refine ⟨vp_in_nI (by omega) (by decide), ?_⟩
            rintro _ rfl
            rw [show nI (50 + 2 * (3 * a + ((se S).2.2 a).length)) + 1 = nI (50 + 2 * (3 * a + ((se S).2.2 a).length) + 1) from n_add _ 1]
            refine ⟨vp_in_nI (by omega) (by decide), ?_⟩
            rintro _ rfl
            refine ⟨vp_in_nI (by omega) (by decide), vp_in_nI (by omega) (by decide), ?_⟩
            rintro _ rfl
            rw [n_c (by omega), n_c (by omega), up_s, up_s, va_uu, va_uu, va_uu, ud_n _ _ (by omega), ud_n _ _ (by omega), k3 (45 + a) (by omega), m9, show nI ((se S).2.2 a).length + 1 = nI (((se S).2.2 a).length + 1) from n_add _ 1]
            exact h2 c1 c2' (by omega) J' f (fun k hk => by by_cases q : k = 0; exact Or.inr q; exact Or.inl ((k1 k hk).trans (up_n _ _ q))) hM k1 k2 k3 k4
      · rw [if_pos (by simp [c1])]
        exact h1 (fun q => absurd q c1)
    by_cases c1 : kd S a = 2
    · rw [if_neg (by simp [c1])]
      by_cases c2 : y ≤ z
      · rw [if_pos c2]
        refine ⟨vp_in_nI (by omega) (by decide), ?_⟩
        rw [n_c (by omega), (hX.2.2.2.2 a (by omega)).2.2.1]
        have e3' : (nI ((se S).2.2 a).length < 3) = (((se S).2.2 a).length < 3) := lt_n (by omega) (by decide)
        simp only [e3']
        by_cases c3 : ((se S).2.2 a).length < 3
        · rw [if_pos c3]
          have hag : agr S (se S) (slR (se S) a ((se S).2.2 a ++ [(y, z)])) a := slR_agr _ _ _
          have hwl' : wfl S (slR (se S) a ((se S).2.2 a ++ [(y, z)])) := slR_wfl hwl ha c1 (by rw [List.length_append, List.length_singleton]; omega)
          have hle : ((se S).2.2 a ++ [(y, z)]).length = ((se S).2.2 a).length + 1 := by rw [List.length_append, List.length_singleton]
          have hrg : ∀ j, j < ((se S).2.2 a).length + 1 → rg (slR (se S) a ((se S).2.2 a ++ [(y, z)])) a j = if j = ((se S).2.2 a).length then (y, z) else rg (se S) a j := fun j hj => by
            unfold rg
            rw [slR_a, List.getD_eq_getElem?_getD, List.getD_eq_getElem?_getD]
            by_cases q : j = ((se S).2.2 a).length
            · rw [if_pos q, q, List.getElem?_append_right (Nat.le_refl _), Nat.sub_self]; rfl
            · rw [if_neg q, List.getElem?_append_left (by omega)]
          refine c_note hC0 hW ha (fun I1 L1 A1 n1 n2 n3 n4 => ?_)
          unfold wX5_addRange
          obtain ⟨g1, g2, g3, g4⟩ := hX.2.2.2.2 a (by omega)
          rw [n1 (9 + a + 5 + 22) (by omega) (by omega) (by omega) (by omega), g3]
          have e3'' : (3 ≤ nI ((se S).2.2 a).length) = (3 ≤ ((se S).2.2 a).length) := le_n (by decide) (by omega)
          simp only [e3'']
          rw [if_neg (by omega)]
          refine ⟨vp_in_nI (by omega) (by decide), ?_⟩
          rintro _ rfl
          refine ⟨vp_in_nI (by omega) (by decide), ?_⟩
          rintro _ rfl _ rfl
          rw [n_c (by omega), up_n A1 _ (show 9 + a + 5 + 67 ≠ 9 + a + 5 + 45 by omega), show nI ((se S).2.2 a).length + 1 = nI (((se S).2.2 a).length + 1) from n_add _ 1]
          have au1 : ∀ k, k ≠ 9 + a + 5 + 45 → k ≠ 9 + a + 5 + 67 → va_up (va_up A1 (9 + a + 5 + 45) (upd (A1 (9 + a + 5 + 45)) ((se S).2.2 a).length y)) (9 + a + 5 + 67) (upd (A1 (9 + a + 5 + 67)) ((se S).2.2 a).length z) k = A1 k := fun k h1 h2 => by rw [up_n _ _ h2, up_n _ _ h1]
          obtain ⟨q1, q2, q3, q4⟩ := RC_se (I2 := va_up I1 (9 + a + 5 + 22) (nI (((se S).2.2 a).length + 1))) (L2 := L1) (A2 := va_up (va_up A1 (9 + a + 5 + 45) (upd (A1 (9 + a + 5 + 45)) ((se S).2.2 a).length y)) (9 + a + 5 + 67) (upd (A1 (9 + a + 5 + 67)) ((se S).2.2 a).length z)) hC0 hW ha hwl' hag n1 n2 n3 (n4 _ hag) (fun k _ hk => up_n _ _ hk) (fun _ _ => rfl) au1 (by
            refine ⟨by rw [n2 _ (by omega)]; exact g1, by rw [up_n _ _ (by omega), n1 _ (by omega) (by omega) (by omega) (by omega)]; exact g2, by rw [up_s, slR_a, hle], fun j hj => ?_⟩
            rw [slR_a, hle] at hj
            rw [up_n _ _ (show 9 + a + 5 + 45 ≠ 9 + a + 5 + 67 by omega), up_s, up_s, hrg j hj]
            by_cases q : j = ((se S).2.2 a).length
            · rw [if_pos q, q, ud_s, ud_s]; exact ⟨rfl, rfl⟩
            · rw [if_neg q, ud_n _ _ q, ud_n _ _ q, n3 _ (by omega) (by omega) (by omega), n3 _ (by omega) (by omega) (by omega)]; exact g4 j (by omega))
          have hW' := wf_se hW hwl'
          refine c_renew q1 q2 q3 hW' (fun B1 r1 r2 => ?_)
          rw [up_s, zsub.1 _ (by omega), Nat.add_sub_cancel]
          refine mgo (fun q => absurd (q c1 c2) (by omega)) (fun _ _ _ J' f _ hM2 k1 k2 k3 k4 => ?_)
          refine hK _ (sSe S (slR (se S) a ((se S).2.2 a ++ [(y, z)]))) _ _ _ _ _ _ ⟨r1, q2, q3, q4, r2⟩ (RM_se hM2 k1 k2 k4 (se_len hW) (fun i hi => by rw [ud_n _ _ (by omega), ud_n _ _ (by omega), ud_n _ _ (by omega)]) ?_) hW'
          refine rSl_ax (a := a) rs hwl.2.2.2 (by omega) rfl (fun b hb => ⟨rfl, if_neg hb⟩) (fun i h1 h2 h3 h4 => by rw [ud_n _ _ h3, ud_n _ _ (by omega), ud_n _ _ (by omega)]; exact k3 i h1) ?_ ?_ (fun j hj => ?_)
          · rw [ud_n _ _ (by omega), ud_n _ _ (by omega), ud_n _ _ (by omega), k3 _ (by omega)]
            have := rs.2.1 a (by omega); rw [Nat.zero_add] at this; exact this
          · rw [ud_s, slR_a, hle]
          · rw [slR_a, hle] at hj
            rw [hrg j hj]
            by_cases q : j = ((se S).2.2 a).length
            · rw [if_pos q, q, ud_n _ _ (by omega), ud_n _ _ (by omega), show 50 + 6 * a + 2 * ((se S).2.2 a).length = 50 + 2 * (3 * a + ((se S).2.2 a).length) by omega, ud_s, ud_n _ _ (by omega), ud_s]
              exact ⟨rfl, rfl⟩
            · rw [if_neg q, ud_n _ _ (by omega), ud_n _ _ (by omega), ud_n _ _ (by omega), ud_n _ _ (by omega), ud_n _ _ (by omega), ud_n _ _ (by omega), k3 _ (by omega), k3 _ (by omega)]
              have := rs.2.2.2 a (by omega) j (by omega)
              rw [show 0 + 50 + 2 * (3 * a + j) = 50 + 6 * a + 2 * j by omega] at this
              exact this
        · rw [if_neg c3]
          exact mgo (fun _ => hK _ S _ _ _ _ _ _ hC0 hM hW) (fun _ _ q => absurd q c3)
      · rw [if_neg c2]
        exact mgo (fun _ => hK _ S _ _ _ _ _ _ hC0 hM hW) (fun _ q => absurd q c2)
    · rw [if_pos (by simp [c1])]
      exact mgo (fun _ => hK _ S _ _ _ _ _ _ hC0 hM hW) (fun q => absurd q c1)
end
