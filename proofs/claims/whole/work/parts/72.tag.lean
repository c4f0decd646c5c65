section
variable {S : SS} {J : Nat → Int32} {E : Nat → Nat → Int32} {I : Nat → Int32} {L : Nat → Int64} {A : Nat → Nat → Int32} {B : Nat → Nat → Int64}
abbrev sTg (S : SS) (d c : Nat) (v : Bool) : SS := (S.1, kd S, ax S, up S, sc S, th S, (fun d' c' => if d' = d ∧ c' = c then v else tg S d' c'), nm S, od S, se S, hi S)
theorem has_tg {d c : Nat} {v : Bool} {d' e : Nat} (h : inb S c e = false) : has (sTg S d c v) d' e = has S d' e := by
  show exb (fun t => (if d' = d ∧ t = c then v else tg S d' t) && inb S t e) (nC S) = exb (fun t => tg S d' t && inb S t e) (nC S)
  refine exb_cong (fun t _ => ?_)
  by_cases q : t = c
  · rw [q, h, Bool.and_false, Bool.and_false]
  · rw [if_neg (fun q2 => q q2.2)]
theorem t_tag (hC : RC S I L A B) (hM : RM S J E) (hW : wf S) (x y : Int32) (v : Bool) {K : Int32 → Int32 → (Nat → Nat → Int64) → (Nat → Int32) → (Nat → Nat → Int32) → Prop} (hK : ∀ r S' B' J' E', RC S' I L A B' → RM S' J' E' → wf S' → K r r B' J' E') : wX9_tag I L A B x y (bi v) (fun r B' => wX10_tag J E x y (bi v) (fun r' J' E' => K r r' B' J' E')) := by
  have hn := hW.1
  have hM := RM_t hM 0
  obtain ⟨hF, hD, hX, hT, hP⟩ := hC
  have hC0 : RC S I L A B := ⟨hF, hD, hX, hT, hP⟩
  unfold wX9_tag
  rcases ix x (n := nD S) (by omega) with h | ⟨d, hd, rfl⟩
  · rw [c_isThere_o hD h]
    simp only [if_true]
    unfold wX10_tag
    rintro _ rfl
    rw [m_isThere_o hM h]
    simp only [if_true]
    exact hK _ S _ _ _ hC0 hM hW
  · rw [c_isThere hD hW hd]
    simp only [bi_0]
    cases e1 : th S d with
    | false =>
      simp only [if_true]
      unfold wX10_tag
      rintro _ rfl
      rw [m_isThere hM hW hd, e1]
      simp only [bi_f, if_true]
      exact hK _ S _ _ _ hC0 hM hW
    | true =>
      simp only [Bool.true_eq_false, if_false]
      have mth : ∀ {post : Int32 → Prop}, wX10_isThere (va_up J 0 0) E (nI d) post = post 1 := by intro post; rw [m_isThere hM hW hd, e1]; rfl
      rcases ix y (n := nC S) (by omega) with h | ⟨c, hc, rfl⟩
      · rw [c_knC_o hF h]
        simp only [if_true]
        unfold wX10_tag
        rintro _ rfl
        rw [mth, m_isCat_o hM h]
        simp only [z00, if_true, if_false]
        exact hK _ S _ _ _ hC0 hM hW
      · rw [c_knC hF hW hc]
        refine ite_n (by decide) ⟨vp_in_nI (by omega) (by decide), ?_⟩
        have h6 := hM.2.2.2.2.2.2.1
        have e40 : (40 : Int32) * nI d + nI c = nI (40 * d + c) := by rw [show (40 : Int32) = nI 40 from rfl, n_mul, n_add]
        have mgo : ∀ {K2 : Int32 → (Nat → Int32) → (Nat → Nat → Int32) → Prop}, (tg S d c = v → K2 0 (va_up J 0 0) E) → (tg S d c ≠ v → wX10_owns (va_up J 0 0) (va_up E 6 (upd (E 6) (40 * d + c) (bi v))) (fun A_2 => K2 1 (va_up J 0 0) A_2)) → wX10_tag J E (nI d) (nI c) (bi v) (fun r' J' E' => K2 r' J' E') := by
          intro K2 h1 h2
          unfold wX10_tag
          rintro _ rfl
          rw [mth]
          refine ite_n (by decide) ?_
          rw [m_isCat hM hW hc]
          refine ite_n (by decide) ?_
          rw [e40]
          refine ⟨vp_in_nI (by omega) (by decide), ?_⟩
          rw [n_c (by omega), h6 d c (by omega) (by omega)]
          simp only [ebi]
          by_cases e : tg S d c = v
          · rw [if_pos e]; exact h1 e
          · rw [if_neg e]
            refine ⟨vp_in_nI (by omega) (by decide), ?_⟩
            rintro _ rfl
            rw [bi_nar]
            exact h2 e
        rw [n_c (by omega), bs_in _ (show d < 64 by omega), hF.2.2.2.2.1 c hc d (by omega)]
        simp only [ebi]
        by_cases e : tg S d c = v
        · rw [if_pos e]
          exact mgo (fun _ => hK _ S _ _ _ hC0 hM hW) (fun q => absurd e q)
        · rw [if_neg e]
          have ev : v = !tg S d c := by cases q : tg S d c <;> cases v <;> simp [q] at e ⊢
          have hW' : wf (sTg S d c v) := by
            obtain ⟨w1, w2, w3, w4, w5, w6, w7⟩ := hW
            refine ⟨w1, w2, w3, w4, w5, fun d' c' h9 => ?_, w7⟩
            have h9 : (if d' = d ∧ c' = c then v else tg S d' c') = true := h9
            by_cases q : d' = d ∧ c' = c
            · rw [q.1, q.2]; exact ⟨hd, hc⟩
            · rw [if_neg q] at h9; exact w6 d' c' h9
          unfold wX2_turnTag
          refine ⟨vp_in_nI (by omega) (by decide), ?_⟩
          rw [bs_bit]
          refine ⟨vp_in_nI (by omega) (by decide), ?_⟩
          rintro _ rfl
          rw [n_c (by omega)]
          obtain ⟨f1, f2, f3, f4, f5, f6, f7⟩ := hF
          refine c_gather (S := sTg S d c v) (x := some c) f1 hW' f3 (fun e he => by rw [up_n _ _ (by decide)]; exact f4 e he) (fun e he => ?_) (fun p hp => by cases hp; exact hc) (fun e he hne => ?_) (fun B' k1 k2 k3 => ?_)
          · rw [up_s]
            by_cases q : e = c
            · rw [q, ul_s]
              intro i hi
              rw [tb_xor, tb_bt1 (by omega), f5 c hc i hi]
              show (tg S i c ^^ decide (i = d)) = if i = d ∧ c = c then v else tg S i c
              by_cases q2 : i = d
              · rw [q2, if_pos ⟨rfl, rfl⟩, ev]; simp
              · rw [if_neg (fun q3 => q2 q3.1)]; simp [q2]
            · rw [ul_n _ _ q]
              refine bm_to (f5 e he) (fun i _ => ?_)
              show tg S i e = if i = d ∧ e = c then v else tg S i e
              rw [if_neg (fun q3 => q q3.2)]
          · rw [up_n _ _ (by decide)]
            refine bm_to (f6 e he) (fun i _ => ?_)
            exact (has_tg (by show decide (e ∈ chn (up S) 6 (some c)) = false; simpa using hne)).symm
          · have hF' : RF (sTg S d c v) I A B' := by
              refine ⟨f1, f2, f3, fun e he => by rw [k2 38 (by decide), up_n _ _ (by decide)]; exact f4 e he, fun e he => ?_, fun e he => ?_, fun e h8 h9 => ?_⟩
              · rw [k2 39 (by decide), up_s]
                by_cases q : e = c
                · rw [q, ul_s]
                  intro i hi
                  rw [tb_xor, tb_bt1 (by omega), f5 c hc i hi]
                  show (tg S i c ^^ decide (i = d)) = if i = d ∧ c = c then v else tg S i c
                  by_cases q2 : i = d
                  · rw [q2, if_pos ⟨rfl, rfl⟩, ev]; simp
                  · rw [if_neg (fun q3 => q2 q3.1)]; simp [q2]
                · rw [ul_n _ _ q]
                  refine bm_to (f5 e he) (fun i _ => ?_)
                  show tg S i e = if i = d ∧ e = c then v else tg S i e
                  rw [if_neg (fun q3 => q q3.2)]
              · refine k1 e he ?_
                by_cases q : e ∈ chn (up S) 6 (some c)
                · exact Or.inl q
                · refine Or.inr ?_
                  rw [up_n _ _ (by decide)]
                  refine bm_to (f6 e he) (fun i _ => ?_)
                  exact (has_tg (by show decide (e ∈ chn (up S) 6 (some c)) = false; simpa using q)).symm
              · have h8' : nC S ≤ e := h8
                have := f7 e h8 h9
                rw [k2 38 (by decide), k2 39 (by decide), k3 e h8, up_n _ _ (by decide), up_s, ul_n _ _ (by omega), up_n _ _ (by decide)]
                exact this
            refine c_renew hF' hD hX hW' (fun B1 r1 r2 => ?_)
            refine mgo (fun q => absurd q e) (fun _ => ?_)
            have h6' : ∀ d' c', d' < 40 → c' < 40 → va_up E 6 (upd (E 6) (40 * d + c) (bi v)) 6 (40 * d' + c') = bi (tg (sTg S d c v) d' c') := fun d' c' h8 h9 => by
              rw [up_s]
              show _ = bi (if d' = d ∧ c' = c then v else tg S d' c')
              by_cases q : d' = d ∧ c' = c
              · rw [if_pos q, q.1, q.2, ud_s]
              · rw [if_neg q, ud_n _ _ (by omega)]; exact h6 d' c' h8 h9
            refine m_owns (S := sTg S d c v) hW' hM.1.2.1 hM.1.2.2.1 h6' (fun e he => by rw [up_n _ _ (by decide)]; exact hM.2.2.2.1 e he) (fun f hf => ?_)
            refine hK _ (sTg S d c v) _ _ _ ⟨r1, hD, hX, hT, r2⟩ ?_ hW'
            obtain ⟨m1, m2, m3, m4, m5, m6, m7, m8, m9, m10, m11, m12⟩ := hM
            have u : ∀ k, k ≠ 6 → k ≠ 10 → va_up (va_up E 6 (upd (E 6) (40 * d + c) (bi v))) 10 f k = E k := fun k h8 h9 => by rw [up_n _ _ h9, up_n _ _ h8]
            exact ⟨m1, by rw [u 1 (by decide) (by decide)]; exact m2, by rw [u 2 (by decide) (by decide)]; exact m3, by rw [u 3 (by decide) (by decide)]; exact m4, by rw [u 4 (by decide) (by decide)]; exact m5, by rw [u 5 (by decide) (by decide)]; exact m6, by rw [up_n _ _ (by decide)]; exact h6', by rw [u 8 (by decide) (by decide)]; exact m8, by rw [u 7 (by decide) (by decide)]; exact m9, by rw [up_s]; exact hf, by rw [u 9 (by decide) (by decide)]; exact m11, by rw [u 9 (by decide) (by decide)]; exact m12⟩
end
