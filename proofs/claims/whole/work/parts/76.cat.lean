section
variable {S : SS} {J : Nat → Int32} {E : Nat → Nat → Int32} {I : Nat → Int32} {L : Nat → Int64} {A : Nat → Nat → Int32} {B : Nat → Nat → Int64}
theorem chn_len {up : Nat → Option Nat} : ∀ (F : Nat) (x : Option Nat), (chn up F x).length ≤ F
  | 0, _ => Nat.le_refl _
  | F + 1, none => Nat.zero_le _
  | F + 1, some p => by rw [chn, List.length_cons]; have := chn_len (up := up) F (up p); omega
theorem lev_ok (hW : wf S) {p : Nat} (hp : p < nC S) : (chn (up S) 6 (some p)).length = (chn (up S) 6 (up S p)).length + 1 ∧ (chn (up S) 6 (up S p)).length ≤ 5 := by
  have he : ends (up S) 5 (up S p) := (hW.2.2.1 p hp).2.2.1
  have h2 := (ends_more he 6 (by omega)).2
  have h3 := chn_len (up := up S) 5 (up S p)
  rw [h2]
  exact ⟨by rw [chn, List.length_cons], h3⟩
theorem t_category (hC : RC S I L A B) (hM : RM S J E) (hW : wf S) (x y : Int32) {K : Int32 → Int32 → (Nat → Int32) → (Nat → Nat → Int32) → (Nat → Nat → Int64) → (Nat → Int32) → (Nat → Nat → Int32) → Prop} (hK : ∀ r S' I' A' B' J' E', RC S' I' L A' B' → RM S' J' E' → wf S' → K r r I' A' B' J' E') : wX9_category I L A B x y (fun r I' A' B' => wX10_category J E x y (fun r' J' E' => K r r' I' A' B' J' E')) := by
  have hn := hW.1
  have hM := RM_t hM 0
  obtain ⟨hF, hD, hX, hT, hP⟩ := hC
  have hC0 : RC S I L A B := ⟨hF, hD, hX, hT, hP⟩
  have hwl := hW.2.2.2.2.2.2.2.2.2.2.1
  unfold wX9_category
  rcases ix x (n := nA S) (by omega) with h | ⟨a, ha, rfl⟩
  · rw [c_isTree_o hX h]
    simp only [if_true]
    unfold wX10_category
    rintro _ rfl
    rw [m_isTree_o hM h]
    simp only [if_true]
    exact hK _ S _ _ _ _ _ hC0 hM hW
  · rw [c_isTree hX hW ha]
    simp only [bi_0]
    by_cases ek : kd S a = 2
    · rw [if_pos (by simp [ek])]
      unfold wX10_category
      rintro _ rfl
      rw [m_isTree hM hW ha]
      simp only [bi_0]
      rw [if_pos (by simp [ek])]
      exact hK _ S _ _ _ _ _ hC0 hM hW
    · rw [if_neg (by simp [ek])]
      have e40 : (40 ≤ nI (nC S)) = (40 ≤ nC S) := le_n (by decide) (by omega)
      have e40' : (nI (nC S) = 40) = (nC S = 40) := eq_n (by omega) (by decide)
      -- what the reference says, by cases
      have mno : (¬ ∃ par, y = uI par ∧ (∀ p, par = some p → p < nC S ∧ ax S p = a) ∧ nC S < 40 ∧ (chn (up S) 6 par).length ≤ 5) → wX10_category J E (nI a) y (fun r' J' E' => K (-1) r' I A B J' E') := by
        intro q
        unfold wX10_category
        rintro _ rfl
        rw [m_isTree hM hW ha]
        simp only [bi_0]
        rw [if_neg (by simp [ek])]
        have bad := hK (-1) S _ _ _ _ _ hC0 hM hW
        unfold wX10_canBe
        by_cases ey : y = -1
        · rw [if_pos ey]
          refine ite_n (by decide) ?_
          rw [hM.1.2.1]
          simp only [e40']
          by_cases c1 : nC S = 40
          · rw [if_pos c1]; exact bad
          · exact absurd ⟨none, ey, fun p hp => (nomatch hp), by omega, by rw [chn_none]; exact Nat.zero_le _⟩ q
        · rw [if_neg ey]
          rcases ix y (n := nC S) (by omega) with h | ⟨p, hp, rfl⟩
          · rw [m_isCat_o hM h]
            simp only [if_true]
            exact bad
          · rw [m_isCat hM hW hp]
            refine ite_n (by decide) ?_
            refine ⟨vp_in_nI (by omega) (by decide), ?_⟩
            have hax := (hW.2.2.1 p hp).1
            rw [n_c (by omega), hM.2.2.1 p hp]
            simp only [eq_n (show ax S p < 2 ^ 31 by omega) (show a < 2 ^ 31 by omega)]
            by_cases c2 : ax S p = a
            · rw [if_pos c2]
              refine ite_n (by decide) ?_
              rw [hM.1.2.1]
              simp only [e40']
              by_cases c1 : nC S = 40
              · rw [if_pos c1]; exact bad
              · rw [if_neg c1]
                simp only [jn]
                rw [if_neg (nI_pos (show p < 2 ^ 31 by omega))]
                refine m_level hM hW hp ?_
                have lv := lev_ok hW hp
                have e5 : (nI (chn (up S) 6 (up S p)).length = 5) = ((chn (up S) 6 (up S p)).length = 5) := eq_n (by omega) (by decide)
                simp only [e5]
                by_cases c3 : (chn (up S) 6 (up S p)).length = 5
                · rw [if_pos c3]; exact bad
                · exact absurd ⟨some p, rfl, fun p' hp' => by cases hp'; exact ⟨hp, c2⟩, by omega, by omega⟩ q
            · rw [if_neg c2]
              simp only [if_true]
              exact bad
      have key : ∀ par par', uI par = uI par' → (∀ p, par = some p → p < nC S) → (∀ p, par' = some p → p < nC S) → par = par' := fun par par' h h1 h2 => by
        rw [uI_inj (fun p q => by have := h1 p q; omega) (fun p q => by have := h2 p q; omega)] at h
        exact h
      have go : ∀ par, y = uI par → (∀ p, par = some p → p < nC S ∧ ax S p = a) → nC S < 40 → wX2_levelBelow I L A B y (fun r39 => if r39 ≤ 5 then (wX2_grow I L A B (nI a) y (fun r54 I_1 A_1 B_1 => wX10_category J E (nI a) y (fun r' J' E' => K r54 r' I_1 A_1 B_1 J' E'))) else wX10_category J E (nI a) y (fun r' J' E' => K (-1) r' I A B J' E')) := by
        intro par ey hp h40
        have hp1 : ∀ p, par = some p → p < nC S := fun p h => (hp p h).1
        have hl6 := chn_len (up := up S) 6 par
        have e5 : (nI (chn (up S) 6 par).length ≤ 5) = ((chn (up S) 6 par).length ≤ 5) := le_n (by omega) (by decide)
        rw [ey]
        refine c_levelBelow hF hW hp1 ?_
        simp only [e5]
        by_cases c5 : (chn (up S) 6 par).length ≤ 5
        · rw [if_pos c5]
          have hend : ends (up S) 6 par := by
            cases par with
            | none => exact trivial
            | some p => exact (hW.2.2.1 p (hp p rfl).1).2.2.1
          have hW' := wf_ca hW h40 ha ek hp c5
          have ca6 := fun F => chn_ca (S := S) hW (a := a) (par := par) F par hp1
          have nin : nC S ∉ chn (up S) 6 par := fun q => by have := chn_lt hW 6 par hp1 _ q; omega
          unfold wX2_grow
          rw [hF.1]
          rintro _ rfl _ rfl
          refine ⟨vp_in_nI h40 (by decide), ?_⟩
          rintro _ rfl
          refine ⟨vp_in_nI h40 (by decide), ?_⟩
          rintro _ rfl
          rw [n_c (by omega), bs_bit, show nI (nC S) + 1 = nI (nC S + 1) from n_add _ 1]
          obtain ⟨f1, f2, f3, f4, f5, f6, f7⟩ := hF
          have a36 : va_up (va_up A 36 (upd (A 36) (nC S) (nI a))) 37 (upd (va_up A 36 (upd (A 36) (nC S) (nI a)) 37) (nC S) (uI par)) 36 = upd (A 36) (nC S) (nI a) := by rw [up_n _ _ (by decide), up_s]
          have a37 : va_up (va_up A 36 (upd (A 36) (nC S) (nI a))) 37 (upd (va_up A 36 (upd (A 36) (nC S) (nI a)) 37) (nC S) (uI par)) 37 = upd (A 37) (nC S) (uI par) := by rw [up_s, up_n _ _ (by decide)]
          have au : ∀ j, j ≠ 36 → j ≠ 37 → va_up (va_up A 36 (upd (A 36) (nC S) (nI a))) 37 (upd (va_up A 36 (upd (A 36) (nC S) (nI a)) 37) (nC S) (uI par)) j = A j := fun j h1 h2 => by rw [up_n _ _ h2, up_n _ _ h1]
          generalize va_up (va_up A 36 (upd (A 36) (nC S) (nI a))) 37 (upd (va_up A 36 (upd (A 36) (nC S) (nI a)) 37) (nC S) (uI par)) = A1 at a36 a37 au ⊢
          have h37 : ∀ c, c < nC (sCa S a par) → A1 37 c = uI (up (sCa S a par) c) := fun c hc => by
            have hc' : c < nC S + 1 := hc
            rw [a37]
            by_cases e : c = nC S
            · rw [e, ud_s, up_new]
            · rw [ud_n _ _ e, up_old (by omega)]; exact f3 c (by omega)
          refine c_hangUnder (S := sCa S a par) (up_s _ _ _) hW' h37 (fun p q => Nat.lt_succ_of_lt (hp1 p q)) (fun B' k1 k2 => ?_)
          have k1 : ∀ e, B' 38 e = if e ∈ chn (up S) 6 par then B 38 e ||| bt1 (nC S) else B 38 e := fun e => by rw [k1 e, (ca6 6).1]
          have iu : ∀ j, j ≠ 1 → va_up I 1 (nI (nC S + 1)) j = I j := fun j h1 => up_n _ _ h1
          have i1 : va_up I 1 (nI (nC S + 1)) 1 = nI (nC S + 1) := up_s _ _ _
          generalize va_up I 1 (nI (nC S + 1)) = I1 at iu i1 ⊢
          have inew : ∀ e, e < nC S → inb (sCa S a par) (nC S) e = decide (e ∈ chn (up S) 6 par) := fun e he => by
            unfold inb
            rw [chn, up_new, (ca6 5).1, (ends_more (ends_short hend c5) 6 (by omega)).2]
            have : e ≠ nC S := by omega
            simp [this]
          have hF' : RF (sCa S a par) I1 A1 B' := by
            refine ⟨i1, fun c hc => ?_, h37, fun c hc => ?_, fun c hc => ?_, fun c hc => ?_, fun c h8 h9 => ?_⟩
            · have hc' : c < nC S + 1 := hc
              rw [a36]
              by_cases e : c = nC S
              · rw [e, ud_s, ax_new]
              · rw [ud_n _ _ e, ax_old (by omega)]; exact f2 c (by omega)
            · have hc' : c < nC S + 1 := hc
              rw [k1 c]
              by_cases e : c = nC S
              · rw [e, if_neg nin, (f7 (nC S) (Nat.le_refl _) h40).1]
                refine bm_0 (fun t _ => ?_)
                show (decide (t < nC S + 1) && !(t == nC S) && inb (sCa S a par) t (nC S)) = false
                by_cases e2 : t < nC S
                · rw [inb_old hW e2]
                  cases q : inb S t (nC S) with
                  | false => rw [Bool.and_false]
                  | true => have := inb_lt hW e2 q; omega
                · by_cases e3 : t = nC S
                  · simp [e3]
                  · simp [show ¬ t < nC S + 1 by omega]
              · have hc1 : c < nC S := by omega
                intro t ht
                show _ = (decide (t < nC S + 1) && !(t == c) && inb (sCa S a par) t c)
                have hb := f4 c hc1 t ht
                by_cases e3 : t = nC S
                · rw [e3, inew c hc1]
                  by_cases e4 : c ∈ chn (up S) 6 par
                  · rw [if_pos e4, tb_or, tb_bt1 (by omega)]
                    simp [e4, show ¬ nC S = c by omega]
                  · rw [if_neg e4, ← e3, hb, e3]
                    simp [e4]
                · have e5 : tb (if c ∈ chn (up S) 6 par then B 38 c ||| bt1 (nC S) else B 38 c) t = tb (B 38 c) t := by
                    split
                    · rw [tb_or, tb_bt1 (by omega)]; simp [e3]
                    · rfl
                  rw [e5, hb]
                  by_cases e2 : t < nC S
                  · rw [inb_old hW e2]; simp [e2, show t < nC S + 1 by omega]
                  · simp [e2, show ¬ t < nC S + 1 by omega]
            · have hc' : c < nC S + 1 := hc
              rw [k2 39 (by decide)]
              by_cases e : c = nC S
              · rw [e, (f7 (nC S) (Nat.le_refl _) h40).2.1]
                exact bm_0 (fun t _ => tg_out hW t)
              · exact f5 c (by omega)
            · have hc' : c < nC S + 1 := hc
              rw [k2 40 (by decide)]
              by_cases e : c = nC S
              · rw [e, (f7 (nC S) (Nat.le_refl _) h40).2.2]
                refine bm_0 (fun t _ => ?_)
                rw [has_ca hW]
                cases q : has S t (nC S) with
                | false => rfl
                | true =>
                  obtain ⟨t', h1, h2⟩ := exb_iff.mp q
                  have h3 : inb S t' (nC S) = true := (Bool.and_eq_true_iff.mp h2).2
                  have := inb_lt hW h1 h3
                  omega
              · refine bm_to (f6 c (by omega)) (fun t _ => ?_)
                rw [has_ca hW]
            · have h8' : nC S + 1 ≤ c := h8
              have q : c ∉ chn (up S) 6 par := fun q => by have := chn_lt hW 6 par hp1 _ q; omega
              rw [k1 c, if_neg q, k2 39 (by decide), k2 40 (by decide)]
              exact f7 c (by omega) h9
          have hD' : RD (sCa S a par) I1 L A1 := by
            obtain ⟨g1, g2, g3, g4, g5⟩ := hD
            exact ⟨by rw [iu 2 (by decide)]; exact g1, g2, by rw [iu 7 (by decide)]; exact g3, by rw [au 41 (by decide) (by decide)]; exact g4, by rw [au 43 (by decide) (by decide)]; exact g5⟩
          have hX' : RX (sCa S a par) I1 L A1 := by
            obtain ⟨g1, g2, g3, g4, g5⟩ := hX
            exact ⟨by rw [iu 3 (by decide)]; exact g1, fun b hb => by rw [iu _ (by omega)]; exact g2 b hb, g3, fun b d v hb hd hv => by rw [au _ (by omega) (by omega)]; exact g4 b d v hb hd hv, fun b hb => cSl_to hwl (fun c hc => ax_old hc) (g5 b hb) (iu _ (by omega)) (iu _ (by omega)) rfl (au _ (by omega) (by omega)) (au _ (by omega) (by omega))⟩
          have hT' : RT (sCa S a par) I1 L A1 := RT_to hW (fun c hc => ax_old hc) (Nat.le_refl _) rfl rfl (fun j hj => iu _ (by omega)) (fun _ _ _ => rfl) (fun j hj => au _ (by omega) (by omega)) hT
          have hP' : RP (sCa S a par) B' := fun b hb => by
            rw [k2 46 (by decide)]
            refine bm_to (hP b hb) (fun d _ => ?_)
            show (th S d && pas S (se S) d b) = (th S d && pas (sCa S a par) (se S) d b)
            rw [pas_ca hW hwl]
          -- the reference
          unfold wX10_category
          rintro _ rfl
          rw [m_isTree hM hW ha]
          simp only [bi_0]
          rw [if_neg (by simp [ek])]
          have fin : ∀ {K2 : Int32 → (Nat → Int32) → (Nat → Nat → Int32) → Prop}, (∀ J' E', RM (sCa S a par) J' E' → K2 (nI (nC S)) J' E') → (vp_in (va_up J 0 0 2) 40 ∧ (∀ A_1, A_1 = va_up E 2 (upd (E 2) (va_up J 0 0 2).toNatClampNeg (nI a)) → vp_in (va_up J 0 0 2) 40 ∧ (∀ A_2, A_2 = va_up A_1 3 (upd (A_1 3) (va_up J 0 0 2).toNatClampNeg (uI par)) → (∀ I_2, I_2 = va_up (va_up J 0 0) 2 ((va_up J 0 0 2) + 1) → K2 ((I_2 2) - 1) I_2 A_2)))) := by
            intro K2 h2
            rw [hM.1.2.1]
            refine ⟨vp_in_nI h40 (by decide), ?_⟩
            rintro _ rfl
            refine ⟨vp_in_nI h40 (by decide), ?_⟩
            rintro _ rfl _ rfl
            rw [up_s, show nI (nC S) + 1 = nI (nC S + 1) from n_add _ 1, zsub.1 _ (by omega), n_c (by omega), Nat.add_sub_cancel]
            refine h2 _ _ ?_
            have m36 : va_up (va_up E 2 (upd (E 2) (nC S) (nI a))) 3 (upd (va_up E 2 (upd (E 2) (nC S) (nI a)) 3) (nC S) (uI par)) 2 = upd (E 2) (nC S) (nI a) := by rw [up_n _ _ (by decide), up_s]
            have m37 : va_up (va_up E 2 (upd (E 2) (nC S) (nI a))) 3 (upd (va_up E 2 (upd (E 2) (nC S) (nI a)) 3) (nC S) (uI par)) 3 = upd (E 3) (nC S) (uI par) := by rw [up_s, up_n _ _ (by decide)]
            have mu : ∀ j, j ≠ 2 → j ≠ 3 → va_up (va_up E 2 (upd (E 2) (nC S) (nI a))) 3 (upd (va_up E 2 (upd (E 2) (nC S) (nI a)) 3) (nC S) (uI par)) j = E j := fun j h1 h2 => by rw [up_n _ _ h2, up_n _ _ h1]
            generalize va_up (va_up E 2 (upd (E 2) (nC S) (nI a))) 3 (upd (va_up E 2 (upd (E 2) (nC S) (nI a)) 3) (nC S) (uI par)) = E1 at m36 m37 mu ⊢
            obtain ⟨m1, m2, m3, m4, m5, m6, m7, m8, m9, m10, m11, m12⟩ := hM
            refine ⟨⟨by rw [up_n _ _ (by decide)]; exact m1.1, up_s _ _ _, by rw [up_n _ _ (by decide)]; exact m1.2.2.1, by rw [up_n _ _ (by decide)]; exact m1.2.2.2⟩, by rw [mu 1 (by decide) (by decide)]; exact m2, fun c hc => ?_, fun c hc => ?_, by rw [mu 4 (by decide) (by decide)]; exact m5, by rw [mu 5 (by decide) (by decide)]; exact m6, by rw [mu 6 (by decide) (by decide)]; exact m7, by rw [mu 8 (by decide) (by decide)]; exact m8, by rw [mu 7 (by decide) (by decide)]; exact m9, fun d c hd hc => ?_, by rw [mu 9 (by decide) (by decide)]; exact m11, by rw [mu 9 (by decide) (by decide)]; exact m12⟩
            · have hc' : c < nC S + 1 := hc
              rw [m36]
              by_cases e : c = nC S
              · rw [e, ud_s, ax_new]
              · rw [ud_n _ _ e, ax_old (by omega)]; exact m3 c (by omega)
            · have hc' : c < nC S + 1 := hc
              rw [m37]
              by_cases e : c = nC S
              · rw [e, ud_s, up_new]
              · rw [ud_n _ _ e, up_old (by omega)]; exact m4 c (by omega)
            · rw [mu 10 (by decide) (by decide), has_ca hW]; exact m10 d c hd hc
          have fin2 := fin (K2 := fun r' J' E' => K (nI (nC S)) r' I1 A1 B' J' E') (fun J' E' h9 => hK (nI (nC S)) (sCa S a par) I1 A1 B' J' E' ⟨hF', hD', hX', hT', hP'⟩ h9 hW')
          unfold wX10_canBe
          cases par with
          | none =>
            rw [if_pos uI_n]
            refine ite_n (by decide) ?_
            rw [if_neg (by rw [hM.1.2.1, e40']; omega)]
            simp only [jn]
            rw [if_pos (show uI none < 0 by decide)]
            exact fin2
          | some p =>
            have hp0 := hp p rfl
            rw [uI_s]
            rw [if_neg (show ¬ nI p = -1 by rw [n_eqm1 (by omega)]; exact fun q => q), m_isCat hM hW hp0.1]
            refine ite_n (by decide) ?_
            refine ⟨vp_in_nI (by omega) (by decide), ?_⟩
            rw [n_c (by omega), hM.2.2.1 p hp0.1, hp0.2, if_pos rfl]
            refine ite_n (by decide) ?_
            rw [if_neg (by rw [hM.1.2.1, e40']; omega)]
            simp only [jn]
            rw [if_neg (nI_pos (show p < 2 ^ 31 by omega))]
            refine m_level hM hW hp0.1 ?_
            have lv := lev_ok hW hp0.1
            have e5 : (nI (chn (up S) 6 (up S p)).length = 5) = ((chn (up S) 6 (up S p)).length = 5) := eq_n (by omega) (by decide)
            simp only [e5]
            rw [if_neg (by omega)]
            exact fin2
        · rw [if_neg c5, ← ey]
          refine mno ?_
          rintro ⟨par', h1, h2, h3, h4⟩
          rw [← key par par' (ey.symm.trans h1) hp1 (fun p q => (h2 p q).1)] at h4
          exact c5 h4
      rw [hF.1]
      simp only [e40]
      by_cases c1 : 40 ≤ nC S
      · rw [if_pos c1]; exact mno (fun ⟨_, _, _, q, _⟩ => by omega)
      rw [if_neg c1]
      unfold wX9_canStandBelow
      by_cases ey : y = -1
      · rw [if_pos ey]; refine ite_n (by decide) ?_; exact go none ey (fun p hp => nomatch hp) (by omega)
      · rw [if_neg ey]
        rcases ix y (n := nC S) (by omega) with h | ⟨p, hp, rfl⟩
        · rw [c_knC_o hF h]
          simp only [if_true]
          refine mno ?_
          rintro ⟨par', h1, h2, h3, h4⟩
          cases par' with
          | none => exact ey h1
          | some p =>
            rw [h1, uI_s] at h
            exact ou_not (h2 p rfl).1 (by omega) h
        · rw [c_knC hF hW hp]
          refine ite_n (by decide) ⟨vp_in_nI (by omega) (by decide), ?_⟩
          have hax := (hW.2.2.1 p hp).1
          rw [n_c (by omega), hF.2.1 p hp]
          simp only [eq_n (show ax S p < 2 ^ 31 by omega) (show a < 2 ^ 31 by omega)]
          by_cases c2 : ax S p = a
          · rw [if_pos c2]
            refine ite_n (by decide) ?_
            exact go (some p) rfl (fun p' hp' => by cases hp'; exact ⟨hp, c2⟩) (by omega)
          · rw [if_neg c2]
            simp only [if_true]
            refine mno ?_
            rintro ⟨par', h1, h2, h3, h4⟩
            have := key (some p) par' h1 (fun p' hp' => by cases hp'; exact hp) (fun p q => (h2 p q).1)
            subst this
            exact c2 (h2 p rfl).2
end
