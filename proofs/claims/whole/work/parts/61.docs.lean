section
variable {S : SS} {J : Nat → Int32} {E : Nat → Nat → Int32} {I I' : Nat → Int32} {L L' : Nat → Int64} {A A' : Nat → Nat → Int32} {B B' : Nat → Nat → Int64}
-- a new axis
abbrev sAx (S : SS) (k : Nat) : SS := ((nA S + 1, nC S, nD S), (fun a => if a = nA S then k else kd S a), ax S, up S, sc S, th S, tg S, nm S, od S, se S, hi S)
theorem kd_old {k a : Nat} (h : a < nA S) : kd (sAx S k) a = kd S a := if_neg (show ¬ a = nA S by omega)
theorem wf_ax (hW : wf S) {k : Nat} (hk : k ≤ 2) (hA : nA S < 5) : wf (sAx S k) := by
  obtain ⟨w1, w2, w3, w4, w5, w6, w7, w8, w9, w10, w11, w12, w13⟩ := hW
  have wl : ∀ sl, wfl S sl → wfl (sAx S k) sl := fun sl h => ⟨h.1, fun a ha => Nat.lt_succ_of_lt (h.2.1 a ha), fun a ha => ⟨Nat.lt_succ_of_lt (h.2.2.1 a ha).1, by rw [kd_old (h.2.2.1 a ha).1]; exact (h.2.2.1 a ha).2⟩, h.2.2.2⟩
  refine ⟨⟨by show nA S + 1 ≤ 5; omega, w1.2⟩, fun a ha => ?_, fun c hc => ?_, w4, w5, w6, fun d a v hv => ?_, w8, w9, w10, wl _ w11, fun sl hs => wl sl (w12 sl hs), w13⟩
  · have ha' : a < nA S + 1 := ha
    by_cases e : a = nA S
    · show (if a = nA S then k else kd S a) ≤ 2
      rw [if_pos e]; exact hk
    · rw [kd_old (by omega)]; exact w2 a (by omega)
  · obtain ⟨a1, a2, a3⟩ := w3 c hc
    exact ⟨Nat.lt_succ_of_lt a1, by rw [kd_old a1]; exact a2, a3⟩
  · obtain ⟨a1, a2, a3, a4⟩ := w7 d a v hv
    exact ⟨a1, Nat.lt_succ_of_lt a2, by rw [kd_old a2]; exact a3, a4⟩
theorem t_axis (hC : RC S I L A B) (hM : RM S J E) (hW : wf S) (x : Int32) {K : Int32 → Int32 → (Nat → Int32) → (Nat → Nat → Int64) → (Nat → Int32) → (Nat → Nat → Int32) → Prop} (hK : ∀ r S' I' B' J' E', RC S' I' L A B' → RM S' J' E' → wf S' → K r r I' B' J' E') : wX9_axis I L A B x (fun r I' B' => wX10_axis J E x (fun r' J' E' => K r r' I' B' J' E')) := by
  have hn := hW.1
  have hM := RM_t hM 0
  obtain ⟨hF, hD, hX, hT, hP⟩ := hC
  have hC0 : RC S I L A B := ⟨hF, hD, hX, hT, hP⟩
  unfold wX9_axis wX10_axis
  by_cases h0 : x < 0
  · simp only [h0, if_true]
    rintro _ rfl
    simp only [m_within, h0, if_true]
    exact hK _ S _ _ _ _ hC0 hM hW
  · by_cases h2 : 2 < x
    · simp only [h0, h2, if_true, if_false]
      rintro _ rfl
      simp only [m_within, h0, h2, if_true, if_false]
      exact hK _ S _ _ _ _ hC0 hM hW
    · simp only [h0, h2, if_false]
      have e5 : (nI (nA S) < 5) = (nA S < 5) := lt_n (by omega) (by decide)
      have e6 : (nI (nA S) = 5) = (nA S = 5) := eq_n (by omega) (by decide)
      rw [hX.1]
      simp only [e5]
      by_cases h5 : nA S < 5
      · rw [if_pos h5]
        obtain ⟨k, hk, rfl⟩ := nI_of h0
        simp (disch := omega) only [zcmp, zari, z00, zm1, le_n, lt_n, eq_n, n_add, n_mul, n_c, n_in, true_and, and_true, if_true, if_false, bi_0, bi_1, ite_true, ite_false, Bool.true_eq_false, Bool.false_eq_true] at h2
        unfold wX7_addAxis
        rw [hX.1]
        rintro _ rfl _ rfl
        refine ⟨vp_in_nI h5 (by decide), ?_⟩
        rintro _ rfl
        rw [n_c (by omega), show nI (nA S) + 1 = nI (nA S + 1) from n_add _ 1]
        have hW' := wf_ax (k := k) hW (by omega) h5
        have i3 : va_up (va_up I 3 (nI (nA S + 1))) (9 + nA S) (nI k) 3 = nI (nA S + 1) := by rw [up_n _ _ (by omega), up_s]
        have iu : ∀ j, j ≠ 3 → j ≠ 9 + nA S → va_up (va_up I 3 (nI (nA S + 1))) (9 + nA S) (nI k) j = I j := fun j h1 h2 => by rw [up_n _ _ h2, up_n _ _ h1]
        have hF' : RF (sAx S k) (va_up (va_up I 3 (nI (nA S + 1))) (9 + nA S) (nI k)) A B := by
          obtain ⟨f1, f2⟩ := hF
          exact ⟨by rw [iu 1 (by decide) (by omega)]; exact f1, f2⟩
        have hD' : RD (sAx S k) (va_up (va_up I 3 (nI (nA S + 1))) (9 + nA S) (nI k)) L A := by
          obtain ⟨f1, f2, f3, f4⟩ := hD
          exact ⟨by rw [iu 2 (by decide) (by omega)]; exact f1, f2, by rw [iu 7 (by decide) (by omega)]; exact f3, f4⟩
        have hX' : RX (sAx S k) (va_up (va_up I 3 (nI (nA S + 1))) (9 + nA S) (nI k)) L A := by
          obtain ⟨f1, f2, f3, f4, f5⟩ := hX
          refine ⟨i3, fun a ha => ?_, f3, f4, fun a ha => cSl_to hW.2.2.2.2.2.2.2.2.2.2.1 (fun _ _ => rfl) (f5 a ha) (iu _ (by omega) (by omega)) (iu _ (by omega) (by omega)) rfl rfl rfl⟩
          have ha' : a < nA S + 1 := ha
          by_cases e : a = nA S
          · rw [e, up_s]
            show nI k = nI (if nA S = nA S then k else kd S (nA S))
            rw [if_pos rfl]
          · rw [iu _ (by omega) (by omega), kd_old (by omega)]; exact f2 a (by omega)
        refine c_renew hF' hD' hX' hW' (fun B1 r1 r2 => ?_)
        rintro _ rfl
        have h0' : ¬ nI k < 0 := h0
        have h2' : ¬ (2 : Int32) < nI k := by simp (disch := omega) only [zcmp, zari, z00, zm1, le_n, lt_n, eq_n, n_add, n_mul, n_c, n_in, true_and, and_true, if_true, if_false, bi_0, bi_1, ite_true, ite_false, Bool.true_eq_false, Bool.false_eq_true]; omega
        simp only [m_within, h0', h2', if_false, z00]
        rw [hM.1.1]
        simp only [e6]
        rw [if_neg (by omega)]
        refine ⟨vp_in_nI h5 (by decide), ?_⟩
        rintro _ rfl _ rfl
        rw [up_s, show nI (nA S) + 1 = nI (nA S + 1) from n_add _ 1, zsub.1 _ (by omega), n_c (by omega), Nat.add_sub_cancel]
        refine hK _ (sAx S k) _ _ _ _ ⟨r1, hD', hX', ?_, r2⟩ ?_ hW'
        · exact RT_to hW (fun _ _ => rfl) (Nat.le_succ _) rfl rfl (fun j hj => iu _ (by omega) (by omega)) (fun _ _ _ => rfl) (fun _ _ => rfl) hT
        · obtain ⟨w1, w2, w3⟩ := hM
          refine ⟨⟨up_s _ _ _, by rw [up_n _ _ (by decide)]; exact w1.2.1, by rw [up_n _ _ (by decide)]; exact w1.2.2.1, by rw [up_n _ _ (by decide)]; exact w1.2.2.2⟩, fun a ha => ?_, ?_⟩
          · have ha' : a < nA S + 1 := ha
            rw [up_s]
            by_cases e : a = nA S
            · rw [e, ud_s]
              show nI k = nI (if nA S = nA S then k else kd S (nA S))
              rw [if_pos rfl]
            · rw [ud_n _ _ e, kd_old (by omega)]; exact w2 a (by omega)
          · rw [up_n _ _ (show 2 ≠ 1 by decide), up_n _ _ (show 3 ≠ 1 by decide), up_n _ _ (show 4 ≠ 1 by decide), up_n _ _ (show 5 ≠ 1 by decide), up_n _ _ (show 6 ≠ 1 by decide), up_n _ _ (show 7 ≠ 1 by decide), up_n _ _ (show 8 ≠ 1 by decide), up_n _ _ (show 9 ≠ 1 by decide), up_n _ _ (show 10 ≠ 1 by decide)]
            exact w3
      · rw [if_neg h5]
        rintro _ rfl
        simp only [m_within, h0, h2, if_false, z00]
        rw [hM.1.1]
        simp only [e6]
        rw [if_pos (by omega)]
        exact hK _ S _ _ _ _ hC0 hM hW
-- a new document
abbrev sDo (S : SS) (v : Nat) (o : Nat → Nat) : SS := ((nA S, nC S, nD S + 1), kd S, ax S, up S, (fun d => if d < nD S then sc S d else v), (fun d => d == nD S || th S d), tg S, nm S, o, se S, hi S)
theorem nT_do (S : SS) (hW : wf S) (v : Nat) (o : Nat → Nat) : nT (sDo S v o) = nT S + 1 := by
  show fb_ct (fun d => d == nD S || th S d) (nD S + 1) = fb_ct (th S) (nD S) + 1
  rw [fb_ct_succ]
  rw [fb_ct_cong (q := th S) (fun k hk => by rw [bqf (show ¬ k = nD S by omega)]; rfl)]
  simp
theorem t_document (hC : RC S I L A B) (hM : RM S J E) (hW : wf S) (x : Int32) {K : Int32 → Int32 → (Nat → Int32) → (Nat → Int64) → (Nat → Nat → Int32) → (Nat → Nat → Int64) → (Nat → Int32) → (Nat → Nat → Int32) → Prop} (hK : ∀ r S' I' L' A' B' J' E', RC S' I' L' A' B' → RM S' J' E' → wf S' → K r r I' L' A' B' J' E') : wX9_document I L A B x (fun r I' L' A' B' => wX10_document J E x (fun r' J' E' => K r r' I' L' A' B' J' E')) := by
  have hn := hW.1
  have hM := RM_t hM 0
  obtain ⟨hF, hD, hX, hT, hP⟩ := hC
  have hC0 : RC S I L A B := ⟨hF, hD, hX, hT, hP⟩
  unfold wX9_document wX10_document
  by_cases h0 : x < 0
  · simp only [h0, if_true]
    rintro _ rfl
    simp only [m_within, h0, if_true]
    exact hK _ S _ _ _ _ _ _ hC0 hM hW
  · by_cases h2 : 99 < x
    · simp only [h0, h2, if_true, if_false]
      rintro _ rfl
      simp only [m_within, h0, h2, if_true, if_false]
      exact hK _ S _ _ _ _ _ _ hC0 hM hW
    · simp only [h0, h2, if_false]
      have e5 : (nI (nD S) < 40) = (nD S < 40) := lt_n (by omega) (by decide)
      have e6 : (nI (nD S) = 40) = (nD S = 40) := eq_n (by omega) (by decide)
      rw [hD.1]
      simp only [e5]
      by_cases h5 : nD S < 40
      · rw [if_pos h5]
        obtain ⟨v, hv, rfl⟩ := nI_of h0
        simp (disch := omega) only [zcmp, zari, z00, zm1, le_n, lt_n, eq_n, n_add, n_mul, n_c, n_in, true_and, and_true, if_true, if_false, bi_0, bi_1, ite_true, ite_false, Bool.true_eq_false, Bool.false_eq_true] at h2
        unfold wX6_lay
        rw [hD.1]
        rintro _ rfl _ rfl
        rw [bs_bit]
        rintro _ rfl
        have hnt := nT_le hW
        obtain ⟨w1, w2, w3, w4, w5, w6, w7, w8, w9, w10, w11, w12, w13⟩ := hW
        have hW : wf S := ⟨w1, w2, w3, w4, w5, w6, w7, w8, w9, w10, w11, w12, w13⟩
        have sco : ∀ d, d < nD S → (if d < nD S then sc S d else v) = sc S d := fun d hd => if_pos hd
        refine c_rkPut (k0 := 7) (pts := fun d => if d < nD S then sc S d else v) (f := od S) (n := nT S) (v := v) (Or.inl rfl) (by omega) h5 (by rw [up_n _ _ (by decide)]; exact hD.2.2.1) hD.2.2.2.1 (fun i hi => ?_) (fun i hi => ?_) (fun c => ?_) (if_neg (by omega)) (fun i j hij hj => ?_) (fun g A' g1 g2 g3 g4 g5 g6 g7 => ?_)
        · have := (w8 i hi).1; exact ⟨by omega, by omega⟩
        · have := (w8 i hi).1
          rw [sco _ this]; exact hD.2.2.2.2 _ this
        · by_cases q : c < nD S
          · rw [if_pos q]; have := w4 c q; omega
          · rw [if_neg q]; omega
        · have a1 := (w8 i (by omega)).1
          have a2 := (w8 j hj).1
          have := w9 i j hij hj
          have g9 : gtp (sc S) (od S i) (od S j) = true := this
          rw [gtp_iff] at g9 ⊢
          rw [sco _ a1, sco _ a2]
          exact g9
        · rw [show nI (nD S) + 1 = nI (nD S + 1) from n_add _ 1]
          have ent := nT_do S hW v g
          have gsome : ∀ i, i < nT S + 1 → g i < nD S + 1 ∧ (g i == nD S || th S (g i)) = true := fun i hi => by
            rcases g3 i hi with q | ⟨j, hj, q⟩
            · rw [q]; exact ⟨by omega, by simp⟩
            · rw [q]; have := w8 j hj; exact ⟨by omega, by simp [this.2]⟩
          have hW' : wf (sDo S v g) := by
            refine ⟨⟨w1.1, w1.2.1, by show nD S + 1 ≤ 40; omega⟩, w2, w3, fun d hd => ?_, fun d hd => ?_, fun d c h => ⟨Nat.lt_succ_of_lt (w6 d c h).1, (w6 d c h).2⟩, fun d a w h => ⟨Nat.lt_succ_of_lt (w7 d a w h).1, (w7 d a w h).2⟩, fun i hi => ?_, fun i j hij hj => ?_, fun d hd => ?_, w11, w12, w13⟩
            · show (if d < nD S then sc S d else v) ≤ 99
              by_cases q : d < nD S
              · rw [if_pos q]; exact w4 d q
              · rw [if_neg q]; omega
            · show d < nD S + 1
              by_cases q : d = nD S
              · omega
              · have : th S d = true := by
                  have h9 : (d == nD S || th S d) = true := hd
                  rw [bqf q] at h9; exact h9
                have := w5 d this; omega
            · rw [ent] at hi; exact gsome i hi
            · rw [ent] at hj; exact g2 i j hij hj
            · rw [ent]
              by_cases q : d = nD S
              · rw [q]; exact g5
              · have h9 : (d == nD S || th S d) = true := hd
                rw [bqf q] at h9
                obtain ⟨j, hj, e⟩ := w10 d h9
                obtain ⟨i, hi, e2⟩ := g4 j hj
                exact ⟨i, hi, by show g i = d; rw [e2, e]⟩
          have iu : ∀ j, j ≠ 2 → j ≠ 7 → va_up (va_up I 2 (nI (nD S + 1))) 7 (nI (nT S + 1)) j = I j := fun j h1 h2 => by rw [up_n _ _ h2, up_n _ _ h1]
          have lu : ∀ j, j ≠ 2 → va_up L 2 (L 2 ||| bt1 (nD S)) j = L j := fun j h => up_n _ _ h
          have hF' : RF (sDo S v g) (va_up (va_up I 2 (nI (nD S + 1))) 7 (nI (nT S + 1))) A' B := by
            obtain ⟨f1, f2, f3, f4⟩ := hF
            exact ⟨by rw [iu 1 (by decide) (by decide)]; exact f1, by rw [g7 36 (by decide) (by decide)]; exact f2, by rw [g7 37 (by decide) (by decide)]; exact f3, f4⟩
          have hD' : RD (sDo S v g) (va_up (va_up I 2 (nI (nD S + 1))) 7 (nI (nT S + 1))) (va_up L 2 (L 2 ||| bt1 (nD S))) A' := by
            refine ⟨by rw [up_n _ _ (by decide), up_s], ?_, by rw [up_s, ent], fun i hi => ?_, fun d hd => ?_⟩
            · rw [up_s]
              intro i hi
              rw [tb_or, tb_bt1 (by omega), hD.2.1 i hi]
              show (th S i || decide (i = nD S)) = (i == nD S || th S i)
              by_cases q : i = nD S
              · simp [q]
              · simp [q]
            · rw [ent] at hi; exact g1 i hi
            · show A' (7 + 36) d = nI (if d < nD S then sc S d else v)
              have hd' : d < nD S + 1 := hd
              rw [g6]
              by_cases q : d = nD S
              · rw [q, ud_s, if_neg (by omega)]
              · rw [ud_n _ _ q, if_pos (by omega)]; exact hD.2.2.2.2 d (by omega)
          have hX' : RX (sDo S v g) (va_up (va_up I 2 (nI (nD S + 1))) 7 (nI (nT S + 1))) (va_up L 2 (L 2 ||| bt1 (nD S))) A' := by
            obtain ⟨f1, f2, f3, f4, f5⟩ := hX
            refine ⟨by rw [iu 3 (by decide) (by decide)]; exact f1, fun a ha => by have ha' : a < nA S := ha
                                                                                   rw [iu _ (by omega) (by omega)]; exact f2 a ha, fun a ha => by rw [lu _ (by omega)]; exact f3 a ha, fun a d w ha hd hw => by rw [g7 _ (by omega) (by omega)]; exact f4 a d w ha hd hw, fun a ha => cSl_to w11 (fun _ _ => rfl) (f5 a ha) (iu _ (by omega) (by omega)) (iu _ (by omega) (by omega)) (lu _ (by omega)) (g7 _ (by omega) (by omega)) (g7 _ (by omega) (by omega))⟩
          refine c_renew hF' hD' hX' hW' (fun B1 r1 r2 => ?_)
          rintro _ rfl
          have h2' : ¬ (99 : Int32) < nI v := by simp (disch := omega) only [zcmp, zari, z00, zm1, le_n, lt_n, eq_n, n_add, n_mul, n_c, n_in, true_and, and_true, if_true, if_false, bi_0, bi_1, ite_true, ite_false, Bool.true_eq_false, Bool.false_eq_true]; omega
          simp only [m_within, h0, h2', if_false, z00]
          rw [hM.1.2.2.1]
          simp only [e6]
          rw [if_neg (by omega)]
          refine ⟨vp_in_nI h5 (by decide), ?_⟩
          rintro _ rfl
          refine ⟨vp_in_nI h5 (by decide), ?_⟩
          rintro _ rfl _ rfl
          rw [up_s, show nI (nD S) + 1 = nI (nD S + 1) from n_add _ 1, zsub.1 _ (by omega), n_c (by omega), Nat.add_sub_cancel, up_n E _ (show 5 ≠ 4 by decide)]
          refine hK _ (sDo S v g) _ _ _ _ _ _ ⟨r1, hD', hX', ?_, r2⟩ ?_ hW'
          · exact RT_to hW (fun _ _ => rfl) (Nat.le_refl _) rfl rfl (fun j hj => iu _ (by omega) (by omega)) (fun j h1 h2 => lu _ (by omega)) (fun j hj => g7 _ (by omega) (by omega)) hT
          · obtain ⟨m1, m2, m3, m4, m5, m6, m7, m8⟩ := hM
            have u : ∀ {f h : Nat → Int32} k, k ≠ 4 → k ≠ 5 → va_up (va_up E 4 f) 5 h k = E k := fun k h1 h2 => by rw [up_n _ _ h2, up_n _ _ h1]
            refine ⟨⟨by rw [up_n _ _ (by decide)]; exact m1.1, by rw [up_n _ _ (by decide)]; exact m1.2.1, up_s _ _ _, by rw [up_n _ _ (by decide)]; exact m1.2.2.2⟩, by rw [u 1 (by decide) (by decide)]; exact m2, by rw [u 2 (by decide) (by decide)]; exact m3, by rw [u 3 (by decide) (by decide)]; exact m4, fun d hd => ?_, fun d hd => ?_, by rw [u 6 (by decide) (by decide)]; exact m7, ?_⟩
            · have hd' : d < nD S + 1 := hd
              rw [up_n _ _ (by decide), up_s]
              show _ = nI (if d < nD S then sc S d else v)
              by_cases q : d = nD S
              · rw [q, ud_s, if_neg (by omega)]
              · rw [ud_n _ _ q, if_pos (by omega)]; exact m5 d (by omega)
            · rw [up_s]
              show _ = bi (d == nD S || th S d)
              by_cases q : d = nD S
              · rw [q, ud_s]; simp only [beq_self_eq_true, Bool.true_or]; exact bi_nar (b := true)
              · rw [ud_n _ _ q, bqf q]; exact m6 d hd
            · rw [u 7 (by decide) (by decide), u 8 (by decide) (by decide), u 9 (by decide) (by decide), u 10 (by decide) (by decide)]
              exact m8
      · rw [if_neg h5]
        rintro _ rfl
        simp only [m_within, h0, h2, if_false, z00]
        rw [hM.1.2.2.1]
        simp only [e6]
        rw [if_pos (by omega)]
        exact hK _ S _ _ _ _ _ _ hC0 hM hW
end
