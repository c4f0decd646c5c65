section
variable {S : SS} {J J' : Nat → Int32} {E : Nat → Nat → Int32} {I I1 I2 : Nat → Int32} {L L1 L2 : Nat → Int64} {A A1 A2 : Nat → Nat → Int32} {B B' : Nat → Nat → Int64}
theorem ebi (p q : Bool) : (bi p = bi q) = (p = q) := by cases p <;> cases q <;> simp [bi]
/-- what a selection of another axis keeps -/
theorem rSl_ax {sl sl' : Sl} {a : Nat} {f g : Nat → Int32} (h : rSl sl 0 f) (hl : ∀ a, (sl.2.2 a).length ≤ 3) (ha : a < 5) (hc : sl'.1 = sl.1) (h1 : ∀ b, b ≠ a → sl'.2.1 b = sl.2.1 b ∧ sl'.2.2 b = sl.2.2 b) (hg : ∀ i, i < 80 → i ≠ 40 + a → i ≠ 45 + a → ¬ (50 + 6 * a ≤ i ∧ i < 50 + 6 * a + 6) → g i = f i) (g1 : g (40 + a) = bi (sl'.2.1 a)) (g2 : g (45 + a) = nI (sl'.2.2 a).length) (g3 : ∀ j, j < (sl'.2.2 a).length → g (50 + 6 * a + 2 * j) = (rg sl' a j).1 ∧ g (50 + 6 * a + 2 * j + 1) = (rg sl' a j).2) : rSl sl' 0 g := by
  obtain ⟨a1, a2, a3, a4⟩ := h
  refine ⟨fun c hc' => ?_, fun b hb => ?_, fun b hb => ?_, fun b hb j hj => ?_⟩
  · rw [hg _ (by omega) (by omega) (by omega) (by omega), hc]; exact a1 c hc'
  · by_cases e : b = a
    · rw [e, Nat.zero_add]; exact g1
    · rw [hg _ (by omega) (by omega) (by omega) (by omega), (h1 b e).1]; exact a2 b hb
  · by_cases e : b = a
    · rw [e, Nat.zero_add]; exact g2
    · rw [hg _ (by omega) (by omega) (by omega) (by omega), (h1 b e).2]; exact a3 b hb
  · by_cases e : b = a
    · subst e
      rw [show 0 + 50 + 2 * (3 * b + j) = 50 + 6 * b + 2 * j by omega]
      exact g3 j hj
    · have h3 := hl b
      rw [(h1 b e).2] at hj
      have := a4 b hb j hj
      rw [hg _ (by omega) (by omega) (by omega) (by omega), hg _ (by omega) (by omega) (by omega) (by omega)]
      unfold rg at this ⊢
      rw [(h1 b e).2]; exact this
abbrev slM (sl : Sl) (a : Nat) (v : Bool) : Sl := (sl.1, (fun b => if b = a then v else sl.2.1 b), sl.2.2)
theorem t_missing (hC : RC S I L A B) (hM : RM S J E) (hW : wf S) (x : Int32) (v : Bool) {K : Int32 → Int32 → (Nat → Int32) → (Nat → Int64) → (Nat → Nat → Int32) → (Nat → Nat → Int64) → (Nat → Int32) → (Nat → Nat → Int32) → Prop} (hK : ∀ r S' I' L' A' B' J' E', RC S' I' L' A' B' → RM S' J' E' → wf S' → K r r I' L' A' B' J' E') : wX9_missing I L A B x (bi v) (fun r I' L' A' B' => wX10_missing J E x (bi v) (fun r' J' E' => K r r' I' L' A' B' J' E')) := by
  have hn := hW.1
  have hM := RM_t hM 0
  have hwl := hW.2.2.2.2.2.2.2.2.2.2.1
  obtain ⟨hF, hD, hX, hT, hP⟩ := hC
  have hC0 : RC S I L A B := ⟨hF, hD, hX, hT, hP⟩
  unfold wX9_missing
  rcases ix x (n := nA S) (by omega) with h | ⟨a, ha, rfl⟩
  · rw [c_knA_o hX h]
    simp only [if_true]
    unfold wX10_missing
    rintro _ rfl
    rw [m_isAxis_o hM h]
    simp only [if_true]
    exact hK _ S _ _ _ _ _ _ hC0 hM hW
  · rw [c_knA hX hW ha]
    refine ite_n (by decide) ?_
    have rs := hM.2.2.2.2.2.2.2.2.2.2.1
    have m9 : E 9 (40 + a) = bi ((se S).2.1 a) := by
      have := rs.2.1 a (by omega)
      rw [Nat.zero_add] at this; exact this
    refine ⟨vp_in_nI (by omega) (by decide), ?_⟩
    rw [n_c (by omega), (hX.2.2.2.2 a (by omega)).2.1]
    simp only [ebi]
    have e40 : (40 : Int32) + nI a = nI (40 + a) := n_add 40 a
    have mgo : ∀ {K2 : Int32 → (Nat → Int32) → (Nat → Nat → Int32) → Prop}, ((se S).2.1 a = v → K2 0 (va_up J 0 0) E) → ((se S).2.1 a ≠ v → wX10_keeps (va_up J 0 0) E (fun I_2 A_1 => ∀ A_2, A_2 = va_up A_1 9 (upd (A_1 9) (40 + a) (bi v)) → K2 1 I_2 A_2)) → wX10_missing J E (nI a) (bi v) (fun r' J' E' => K2 r' J' E') := by
      intro K2 h1 h2
      unfold wX10_missing
      rintro _ rfl
      rw [m_isAxis hM hW ha, e40]
      refine ite_n (by decide) ⟨vp_in_nI (by omega) (by decide), ?_⟩
      rw [n_c (by omega), m9]
      refine jn_have (fun t => t = bi ((se S).2.1 a)) ?_ ?_
      · rintro _ rfl
        simp only [ebi]
        by_cases e : (se S).2.1 a = v
        · rw [if_pos e]; exact h1 e
        · rw [if_neg e]
          have := h2 e
          simp only [jn, vp_in_nI (show 40 + a < 1440 by omega) (by decide), true_and]
          cases v <;> exact this
      · intro k hk
        cases q : (se S).2.1 a <;> rw [q] at hk
        · exact ite_n (by decide) (hk _ rfl)
        · exact ite_p (by decide) (hk _ rfl)
    by_cases e : (se S).2.1 a = v
    · rw [if_pos e]
      exact mgo (fun _ => hK _ S _ _ _ _ _ _ hC0 hM hW) (fun q => absurd e q)
    · rw [if_neg e]
      have hag : agr S (se S) (slM (se S) a v) a := ⟨fun _ _ => rfl, fun b hb => ⟨(if_neg hb).symm, rfl⟩⟩
      have hwl' : wfl S (slM (se S) a v) := ⟨hwl.1, fun b h' => by
        by_cases q : b = a
        · rw [q]; exact ha
        · have : (if b = a then v else (se S).2.1 b) = true := h'
          rw [if_neg q] at this; exact hwl.2.1 b this, hwl.2.2⟩
      refine c_note hC0 hW ha (fun I1 L1 A1 n1 n2 n3 n4 => ?_)
      refine ⟨bi_zb, ?_⟩
      rintro _ rfl
      obtain ⟨q1, q2, q3, q4⟩ := RC_se (I2 := va_up I1 (9 + a + 5) (bi v)) (L2 := L1) (A2 := A1) hC0 hW ha hwl' hag n1 n2 n3 (n4 _ hag) (fun k hk _ => up_n _ _ hk) (fun _ _ => rfl) (fun _ _ _ => rfl) (by
        obtain ⟨g1, g2, g3, g4⟩ := hX.2.2.2.2 a (by omega)
        refine ⟨by rw [n2 _ (by omega)]; exact g1, ?_, by rw [up_n _ _ (by omega), n1 _ (by omega) (by omega) (by omega) (by omega)]; exact g3, fun j hj => by rw [n3 _ (by omega) (by omega) (by omega), n3 _ (by omega) (by omega) (by omega)]; exact g4 j hj⟩
        rw [up_s]
        show bi v = bi (if a = a then v else (se S).2.1 a)
        rw [if_pos rfl])
      have hW' := wf_se hW hwl'
      refine c_renew q1 q2 q3 hW' (fun B1 r1 r2 => ?_)
      refine mgo (fun q => absurd q e) (fun _ => ?_)
      refine m_keeps hM hW (fun J' f k1 k2 k3 k4 => ?_)
      rintro _ rfl
      rw [up_s, va_uu]
      refine hK _ (sSe S (slM (se S) a v)) _ _ _ _ _ _ ⟨r1, q2, q3, q4, r2⟩ (RM_se hM k1 k2 k4 (se_len hW) (fun i hi => ud_n _ _ (by omega)) ?_) hW'
      have h3 := hwl.2.2.2 a
      refine rSl_ax (a := a) rs hwl.2.2.2 (by omega) rfl (fun b hb => ⟨if_neg hb, rfl⟩) (fun i h1 h2 h3 h4 => by rw [ud_n _ _ h2]; exact k3 i h1) ?_ ?_ (fun j hj => ?_)
      · rw [ud_s]
        show bi v = bi (if a = a then v else (se S).2.1 a)
        rw [if_pos rfl]
      · rw [ud_n _ _ (by omega), k3 _ (by omega)]
        have := rs.2.2.1 a (by omega); rw [Nat.zero_add] at this; exact this
      · have hj' : j < ((se S).2.2 a).length := hj
        have := rs.2.2.2 a (by omega) j hj'
        rw [ud_n _ _ (by omega), ud_n _ _ (by omega), k3 _ (by omega), k3 _ (by omega)]
        rw [show 0 + 50 + 2 * (3 * a + j) = 50 + 6 * a + 2 * j by omega] at this
        exact this
theorem t_open (hC : RC S I L A B) (hM : RM S J E) (hW : wf S) (x : Int32) {K : Int32 → Int32 → (Nat → Int32) → (Nat → Int64) → (Nat → Nat → Int32) → (Nat → Nat → Int64) → (Nat → Int32) → (Nat → Nat → Int32) → Prop} (hK : ∀ r S' I' L' A' B' J' E', RC S' I' L' A' B' → RM S' J' E' → wf S' → K r r I' L' A' B' J' E') : wX9_open I L A B x (fun r I' L' A' B' => wX10_open J E x (fun r' J' E' => K r r' I' L' A' B' J' E')) := by
  have hn := hW.1
  have hM := RM_t hM 0
  have hwl := hW.2.2.2.2.2.2.2.2.2.2.1
  obtain ⟨hF, hD, hX, hT, hP⟩ := hC
  have hC0 : RC S I L A B := ⟨hF, hD, hX, hT, hP⟩
  unfold wX9_open
  rcases ix x (n := nA S) (by omega) with h | ⟨a, ha, rfl⟩
  · rw [c_knA_o hX h]
    simp only [if_true]
    unfold wX10_open
    rintro _ rfl
    rw [m_isAxis_o hM h]
    simp only [if_true]
    exact hK _ S _ _ _ _ _ _ hC0 hM hW
  · rw [c_knA hX hW ha]
    refine ite_n (by decide) ?_
    have rs := hM.2.2.2.2.2.2.2.2.2.2.1
    refine ⟨vp_in_nI (by omega) (by decide), ?_⟩
    rw [n_c (by omega), c_selOpen hW hwl.2.2.2 hwl.1 (hX.2.2.2.2 a (by omega))]
    simp only [bi_0]
    have mgo : ∀ {K2 : Int32 → (Nat → Int32) → (Nat → Nat → Int32) → Prop}, (opn S (se S) a = true → K2 0 (va_up J 0 0) E) → (opn S (se S) a = false → wX10_keeps (va_up J 0 0) E (fun I_2 A_1 => wX10_opens I_2 A_1 0 (nI a) (fun A_2 => K2 1 I_2 A_2))) → wX10_open J E (nI a) (fun r' J' E' => K2 r' J' E') := by
      intro K2 h1 h2
      unfold wX10_open
      rintro _ rfl
      rw [m_isAxis hM hW ha]
      refine ite_n (by decide) ?_
      refine m_isOpen (b := 0) hM hW rs hwl.2.2.2 (by omega) ha ?_
      simp only [bi_0]
      by_cases e : opn S (se S) a = false
      · rw [if_pos e]; exact h2 e
      · rw [if_neg e]; exact h1 (by simpa using e)
    by_cases e : opn S (se S) a = false
    · rw [if_pos e]
      have hag : agr S (se S) (opS S (se S) a) a := ⟨fun c hc => by
        show (se S).1 c = (!(ax S c == a) && (se S).1 c)
        rw [bqf hc]; rfl, fun b hb => ⟨by
        show (se S).2.1 b = (!(b == a) && (se S).2.1 b)
        rw [bqf hb]; rfl, by
        show (se S).2.2 b = if b = a then [] else (se S).2.2 b
        rw [if_neg hb]⟩⟩
      have hwl' := opS_wfl hwl a
      refine c_note hC0 hW ha (fun I1 L1 A1 n1 n2 n3 n4 => ?_)
      unfold wX5_clear
      rintro _ rfl _ rfl _ rfl
      obtain ⟨q1, q2, q3, q4⟩ := RC_se (I2 := va_up (va_up I1 (9 + a + 5) 0) (9 + a + 5 + 22) 0) (L2 := va_up L1 (9 + a + 5) 0) (A2 := A1) hC0 hW ha hwl' hag n1 n2 n3 (n4 _ hag) (fun k h1 h2 => by rw [up_n _ _ h2, up_n _ _ h1]) (fun k hk => up_n _ _ hk) (fun _ _ _ => rfl) (by
        have e1 : (opS S (se S) a).2.1 a = false := by simp [opS]
        have e2 : (opS S (se S) a).2.2 a = [] := by simp [opS]
        refine ⟨fun i hi => ?_, by rw [up_n _ _ (by omega), up_s, e1]; rfl, by rw [up_s, e2]; rfl, fun j hj => by rw [e2] at hj; exact absurd hj (Nat.not_lt_zero j)⟩
        rw [up_s, tb_0]
        show false = (ax S i == a && (!(ax S i == a) && (se S).1 i))
        cases (ax S i == a) <;> rfl)
      have hW' := wf_se hW hwl'
      refine c_renew q1 q2 q3 hW' (fun B1 r1 r2 => ?_)
      refine mgo (fun q => by rw [e] at q; cases q) (fun _ => ?_)
      refine m_keeps hM hW (fun J' f k1 k2 k3 k4 => ?_)
      have hf0 : rSl (se S) 0 (va_up E 9 f 9) := by rw [up_s]; exact rSl_to hwl.2.2.2 rs (fun i _ hi => k3 i (by omega))
      refine m_opens (S := S) (b := 0) (fun c hc => by rw [up_n _ _ (by decide)]; exact hM.2.2.1 c hc) (by rw [k1 2 (by decide)]; exact hM.1.2.1) hW hf0 hwl (by omega) ha (fun g g1 g2 => ?_)
      rw [va_uu]
      rw [up_s] at g2
      exact hK _ (sSe S (opS S (se S) a)) _ _ _ _ _ _ ⟨r1, q2, q3, q4, r2⟩ (RM_se hM k1 k2 k4 (se_len hW) (fun i hi => g2 i (by omega)) g1) hW'
    · rw [if_neg e]
      exact mgo (fun _ => hK _ S _ _ _ _ _ _ hC0 hM hW) (fun q => absurd q e)
end
