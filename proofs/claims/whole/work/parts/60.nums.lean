section
variable {S : SS} {J : Nat → Int32} {E : Nat → Nat → Int32} {I I' : Nat → Int32} {L L' : Nat → Int64} {A A' : Nat → Nat → Int32} {B B' : Nat → Nat → Int64}
theorem prv_wfl (hW : wf S) (k : Nat) : wfl S (prv S k) := by
  cases k with
  | zero => exact hW.2.2.2.2.2.2.2.2.2.2.1
  | succ k =>
    show wfl S ((hi S).getD k (se S))
    rcases Nat.lt_or_ge k (hi S).length with q | q
    · rw [List.getD_eq_getElem?_getD, List.getElem?_eq_getElem q]
      exact hW.2.2.2.2.2.2.2.2.2.2.2.1 _ (List.getElem_mem q)
    · rw [List.getD_eq_getElem?_getD, List.getElem?_eq_none q]
      exact hW.2.2.2.2.2.2.2.2.2.2.1
/-- what a change leaves of a selection's cells -/
theorem cSl_to {S' : SS} {sl : Sl} {a k : Nat} (hw : wfl S sl) (hax : ∀ c, c < nC S → ax S' c = ax S c) (h : cSl S sl a k I L A) (h1 : I' k = I k) (h2 : I' (k + 22) = I (k + 22)) (h3 : L' k = L k) (h4 : A' (k + 45) = A (k + 45)) (h5 : A' (k + 67) = A (k + 67)) : cSl S' sl a k I' L' A' := by
  obtain ⟨g1, g2, g3, g4⟩ := h
  refine ⟨?_, by rw [h1]; exact g2, by rw [h2]; exact g3, fun j hj => by rw [h4, h5]; exact g4 j hj⟩
  rw [h3]
  refine bm_to g1 (fun c _ => ?_)
  cases e : sl.1 c with
  | false => simp
  | true => rw [hax c (hw.1 c e)]
theorem RT_to {S' : SS} (hW : wf S) (hax : ∀ c, c < nC S → ax S' c = ax S c) (hnA : nA S ≤ nA S') (hse : se S' = se S) (hhi : hi S' = hi S) (hI : ∀ k, (k = 0 ∨ k = 4 ∨ (20 ≤ k ∧ k < 36) ∨ (42 ≤ k ∧ k < 58)) → I' k = I k) (hL : ∀ k, 20 ≤ k → k < 36 → L' k = L k) (hA : ∀ k, (k = 47 ∨ (65 ≤ k ∧ k < 81) ∨ (87 ≤ k ∧ k < 103)) → A' k = A k) (hT : RT S I L A) : RT S' I' L' A' := by
  obtain ⟨g1, nx, g2, g3, g4⟩ := hT
  refine ⟨by rw [hI 4 (by omega), hhi]; exact g1, nx, g2, by rw [hI 0 (by omega)]; exact g3, fun k sl hk => ?_⟩
  rw [hhi] at hk
  obtain ⟨a, q1, q2, q3, q4⟩ := g4 k sl hk
  have hm : (nx + 15 - k) % 16 < 16 := Nat.mod_lt _ (by decide)
  have hw : wfl S sl := hW.2.2.2.2.2.2.2.2.2.2.2.1 _ (List.mem_of_getElem? hk)
  have hp := prv_wfl hW k
  have ep : prv S' k = prv S k := by
    cases k with
    | zero => exact hse
    | succ k => show (hi S').getD k (se S') = (hi S).getD k (se S); rw [hhi, hse]
  refine ⟨a, by omega, by rw [hA 47 (by omega)]; exact q2, cSl_to hw hax q3 (hI _ (by omega)) (hI _ (by omega)) (hL _ (by omega) (by omega)) (hA _ (by omega)) (hA _ (by omega)), ?_, fun b hb => by rw [ep]; exact q4.2 b hb⟩
  intro c hc
  rw [ep]
  rcases Nat.lt_or_ge c (nC S) with q | q
  · exact q4.1 c (by rw [← hax c q]; exact hc)
  · have e1 : sl.1 c = false := by
      cases e : sl.1 c with
      | false => rfl
      | true => have := hw.1 c e; omega
    have e2 : (prv S k).1 c = false := by
      cases e : (prv S k).1 c with
      | false => rfl
      | true => have := hp.1 c e; omega
    rw [e1, e2]
-- numbers
abbrev sNm (S : SS) (f : Nat → Nat → Option Int32) : SS := (S.1, kd S, ax S, up S, sc S, th S, tg S, f, od S, se S, hi S)
def nm1 (S : SS) (d a : Nat) (v : Option Int32) (d' a' : Nat) : Option Int32 := if d' = d ∧ a' = a then v else nm S d' a'
theorem wf_nm (hW : wf S) {d a : Nat} {v : Option Int32} (hd : d < nD S) (ha : a < nA S) (hk : kd S a = 2) (hv : ∀ w, v = some w → -999 ≤ w.toInt ∧ w.toInt ≤ 999) : wf (sNm S (nm1 S d a v)) := by
  obtain ⟨w1, w2, w3, w4, w5, w6, w7, w8⟩ := hW
  refine ⟨w1, w2, w3, w4, w5, w6, fun d' a' w hw => ?_, w8⟩
  change nm1 S d a v d' a' = some w at hw
  unfold nm1 at hw
  split at hw
  · rename_i q
    rw [q.1, q.2]
    exact ⟨hd, ha, hk, (hv w hw).1, (hv w hw).2⟩
  · exact w7 d' a' w hw
theorem RM_nm (hM : RM S J E) (hW : wf S) {d a : Nat} {v : Option Int32} (hd : d < 40) (ha : a < 5) {f g : Nat → Int32} (hf : ∀ w, v = some w → f (5 * d + a) = w) (hf2 : ∀ i, i ≠ 5 * d + a → f i = E 7 i) (hg : g (5 * d + a) = bi v.isSome) (hg2 : ∀ i, i ≠ 5 * d + a → g i = E 8 i) : RM (sNm S (nm1 S d a v)) J (va_up (va_up E 7 f) 8 g) := by
  obtain ⟨w1, w2, w3, w4, w5, w6, w7, w8, w9, w10, w11, w12⟩ := hM
  have u : ∀ k, k ≠ 7 → k ≠ 8 → va_up (va_up E 7 f) 8 g k = E k := fun k h1 h2 => by rw [up_n _ _ h2, up_n _ _ h1]
  refine ⟨w1, by rw [u 1 (by decide) (by decide)]; exact w2, by rw [u 2 (by decide) (by decide)]; exact w3, by rw [u 3 (by decide) (by decide)]; exact w4, by rw [u 4 (by decide) (by decide)]; exact w5, by rw [u 5 (by decide) (by decide)]; exact w6, by rw [u 6 (by decide) (by decide)]; exact w7, fun d' a' hd' ha' => ?_, fun d' a' w hd' ha' hw => ?_, by rw [u 10 (by decide) (by decide)]; exact w10, by rw [u 9 (by decide) (by decide)]; exact w11, by rw [u 9 (by decide) (by decide)]; exact w12⟩
  · rw [up_s]
    change g (5 * d' + a') = bi (nm1 S d a v d' a').isSome
    unfold nm1
    by_cases e : d' = d ∧ a' = a
    · rw [if_pos e, e.1, e.2]; exact hg
    · rw [if_neg e, hg2 _ (by omega)]; exact w8 d' a' hd' ha'
  · rw [up_n _ _ (by decide), up_s]
    change nm1 S d a v d' a' = some w at hw
    unfold nm1 at hw
    by_cases e : d' = d ∧ a' = a
    · rw [if_pos e] at hw
      rw [e.1, e.2]; exact hf w hw
    · rw [if_neg e] at hw
      rw [hf2 _ (by omega)]; exact w9 d' a' w hd' ha' hw
theorem RC_nm (hC : RC S I L A B) (hW : wf S) {d a : Nat} {v : Option Int32} (hd : d < 40) (ha : a < 5) {m : Int64} {f : Nat → Int32} (hm : ∀ i, i < 64 → tb m i = if i = d then v.isSome else tb (L (9 + a)) i) (hf : ∀ w, v = some w → f d = w) (hf2 : ∀ i, i ≠ d → f i = A (9 + a + 45) i) : RF (sNm S (nm1 S d a v)) I (va_up A (9 + a + 45) f) B ∧ RD (sNm S (nm1 S d a v)) I (va_up L (9 + a) m) (va_up A (9 + a + 45) f) ∧ RX (sNm S (nm1 S d a v)) I (va_up L (9 + a) m) (va_up A (9 + a + 45) f) ∧ RT (sNm S (nm1 S d a v)) I (va_up L (9 + a) m) (va_up A (9 + a + 45) f) := by
  obtain ⟨hF, hD, hX, hT, hP⟩ := hC
  refine ⟨?_, ?_, ⟨hX.1, hX.2.1, fun b hb => ?_, fun b d' w hb hd' hw => ?_, fun b hb => ?_⟩, ?_⟩
  · obtain ⟨f1, f2, f3, f4⟩ := hF
    exact ⟨f1, by rw [up_n _ _ (by omega)]; exact f2, by rw [up_n _ _ (by omega)]; exact f3, f4⟩
  · obtain ⟨f1, f2, f3, f4, f5⟩ := hD
    exact ⟨f1, by rw [up_n _ _ (by omega)]; exact f2, f3, by rw [up_n _ _ (by omega)]; exact f4, by rw [up_n _ _ (by omega)]; exact f5⟩
  · intro i hi
    change tb (va_up L (9 + a) m (9 + b)) i = (nm1 S d a v i b).isSome
    unfold nm1
    by_cases e : b = a
    · subst e
      rw [up_s, hm i hi]
      by_cases e2 : i = d
      · rw [if_pos e2, if_pos ⟨e2, rfl⟩]
      · rw [if_neg e2, if_neg (fun q => e2 q.1)]; exact hX.2.2.1 b hb i hi
    · rw [up_n _ _ (by omega), if_neg (fun q => e q.2)]; exact hX.2.2.1 b hb i hi
  · change nm1 S d a v d' b = some w at hw
    unfold nm1 at hw
    by_cases e : b = a
    · subst e
      rw [up_s]
      by_cases e2 : d' = d
      · rw [if_pos ⟨e2, rfl⟩] at hw
        rw [e2]; exact hf w hw
      · rw [if_neg (fun q => e2 q.1)] at hw
        rw [hf2 _ e2]; exact hX.2.2.2.1 b d' w hb hd' hw
    · rw [if_neg (fun q => e q.2)] at hw
      rw [up_n _ _ (by omega)]; exact hX.2.2.2.1 b d' w hb hd' hw
  · exact cSl_to hW.2.2.2.2.2.2.2.2.2.2.1 (fun _ _ => rfl) (hX.2.2.2.2 b hb) rfl rfl (up_n _ _ (by omega)) (up_n _ _ (by omega)) (up_n _ _ (by omega))
  · exact RT_to hW (fun _ _ => rfl) (Nat.le_refl _) rfl rfl (fun _ _ => rfl) (fun k h1 h2 => up_n _ _ (by omega)) (fun k hk => up_n _ _ (by omega)) hT
theorem t_number (hC : RC S I L A B) (hM : RM S J E) (hW : wf S) (x y z : Int32) {K : Int32 → Int32 → (Nat → Int64) → (Nat → Nat → Int32) → (Nat → Nat → Int64) → (Nat → Int32) → (Nat → Nat → Int32) → Prop} (hK : ∀ r S' L' A' B' J' E', RC S' I L' A' B' → RM S' J' E' → wf S' → K r r L' A' B' J' E') : wX9_number I L A B x y z (fun r L' A' B' => wX10_number J E x y z (fun r' J' E' => K r r' L' A' B' J' E')) := by
  have hn := hW.1
  have hM := RM_t hM 0
  have same := hK
  unfold wX9_number wX10_number
  rcases ix x (n := nD S) (by omega) with h | ⟨d, hd, rfl⟩
  · rw [c_isThere_o hC.2.1 h]
    simp only [if_true]
    rintro _ rfl
    rw [m_isThere_o hM h]
    simp only [if_true]
    exact hK _ S _ _ _ _ _ hC hM hW
  · rw [c_isThere hC.2.1 hW hd]
    simp only [bi_0]
    cases e1 : th S d with
    | false =>
      simp only [if_true]
      rintro _ rfl
      rw [m_isThere hM hW hd, e1]
      simp only [bi_f, if_true]
      exact hK _ S _ _ _ _ _ hC hM hW
    | true =>
      simp only [Bool.true_eq_false, if_false]
      have mth : ∀ {post : Int32 → Prop}, wX10_isThere (va_up J 0 0) E (nI d) post = post 1 := by intro post; rw [m_isThere hM hW hd, e1]; rfl
      rcases ix y (n := nA S) (by omega) with h | ⟨a, ha, rfl⟩
      · rw [c_isNum_o hC.2.2.1 h]
        simp only [if_true]
        rintro _ rfl
        rw [mth, m_isNum_o hM h]
        simp only [z00, if_true, if_false]
        exact hK _ S _ _ _ _ _ hC hM hW
      · rw [c_isNum hC.2.2.1 hW ha]
        have mnu : ∀ {post : Int32 → Prop}, wX10_isNumber (va_up J 0 0) E (nI a) post = post (bi (kd S a == 2)) := m_isNum hM hW ha _
        by_cases e2 : kd S a = 2
        · simp only [e2, beq_self_eq_true, bi_t, z00, if_false]
          by_cases e3 : z < -999
          · simp only [e3, if_true]
            rintro _ rfl
            rw [mth, mnu, e2]
            simp only [beq_self_eq_true, bi_t, z00, if_false, m_within, e3, if_true]
            exact hK _ S _ _ _ _ _ hC hM hW
          · simp only [e3, if_false]
            by_cases e4 : z ≤ 999
            · have e5 : ¬ 999 < z := by rw [lt_i]; rw [le_i] at e4; exact Int.not_lt.mpr e4
              have b1 : -999 ≤ z.toInt := by rw [lt_i, m999] at e3; omega
              have b2 : z.toInt ≤ 999 := by rw [le_i] at e4; exact e4
              simp only [e4, if_true]
              simp (disch := omega) only [zcmp, zari, z00, zm1, le_n, lt_n, eq_n, n_add, n_mul, n_c, n_in, true_and, and_true, if_true, if_false, bi_0, bi_1, ite_true, ite_false, Bool.true_eq_false, Bool.false_eq_true]
              rintro _ rfl
              rw [bs_bit]
              rintro _ rfl
              obtain ⟨q1, q2, q3, q4⟩ := RC_nm (d := d) (a := a) (v := some z) hC hW (by omega) (by omega) (m := L (9 + a) ||| bt1 d) (f := upd (A (9 + a + 45)) d z) (fun i hi => by
                rw [tb_or, tb_bt1 (by omega)]
                by_cases e : i = d
                · simp [e]
                · simp [e]) (fun w hw => by cases hw; exact ud_s _ _ _) (fun i hi => ud_n _ _ hi)
              have hW' := wf_nm (v := some z) hW hd ha e2 (fun w hw => by cases hw; exact ⟨b1, b2⟩)
              refine c_renew q1 q2 q3 hW' (fun B1 r1 r2 => ?_)
              rintro _ rfl
              rw [mth, mnu, e2]
              simp only [beq_self_eq_true, bi_t, z00, if_false, m_within, e3, e5]
              try simp (disch := omega) only [zcmp, zari, z00, zm1, le_n, lt_n, eq_n, n_add, n_mul, n_c, n_in, true_and, and_true, if_true, if_false, bi_0, bi_1, ite_true, ite_false, Bool.true_eq_false, Bool.false_eq_true, show 5 * d + a < 200 by omega]
              rintro _ rfl _ rfl
              rw [up_n E _ (show 8 ≠ 7 by decide)]
              exact hK _ _ _ _ _ _ _ ⟨r1, q2, q3, q4, r2⟩ (RM_nm (v := some z) hM hW (by omega) (by omega) (fun w hw => by cases hw; exact ud_s _ _ _) (fun i hi => ud_n _ _ hi) (by rw [ud_s]; rfl) (fun i hi => ud_n _ _ hi)) hW'
            · have e5 : 999 < z := by rw [lt_i]; rw [le_i] at e4; exact Int.not_le.mp e4
              simp only [e4, if_false]
              rintro _ rfl
              rw [mth, mnu, e2]
              simp only [beq_self_eq_true, bi_t, z00, if_false, m_within, e3, e5, if_true]
              exact hK _ S _ _ _ _ _ hC hM hW
        · simp only [bqf e2, bi_f, if_true]
          rintro _ rfl
          rw [mth, mnu, bqf e2]
          simp only [bi_f, z00, if_false, if_true]
          exact hK _ S _ _ _ _ _ hC hM hW
theorem t_unnumber (hC : RC S I L A B) (hM : RM S J E) (hW : wf S) (x y : Int32) {K : Int32 → Int32 → (Nat → Int64) → (Nat → Nat → Int64) → (Nat → Int32) → (Nat → Nat → Int32) → Prop} (hK : ∀ r S' L' B' J' E', RC S' I L' A B' → RM S' J' E' → wf S' → K r r L' B' J' E') : wX9_unnumber I L A B x y (fun r L' B' => wX10_unnumber J E x y (fun r' J' E' => K r r' L' B' J' E')) := by
  have hn := hW.1
  have hM := RM_t hM 0
  unfold wX9_unnumber wX10_unnumber wX9_hasNumber wX10_isNumbered
  rcases ix x (n := nD S) (by omega) with h | ⟨d, hd, rfl⟩
  · rw [c_isThere_o hC.2.1 h]
    simp only [if_true]
    rintro _ rfl
    rw [m_isThere_o hM h]
    simp only [if_true]
    exact hK _ S _ _ _ _ hC hM hW
  · rw [c_isThere hC.2.1 hW hd]
    simp only [bi_0]
    cases e1 : th S d with
    | false =>
      simp only [if_true]
      rintro _ rfl
      rw [m_isThere hM hW hd, e1]
      simp only [bi_f, if_true]
      exact hK _ S _ _ _ _ hC hM hW
    | true =>
      simp only [Bool.true_eq_false, if_false]
      have mth : ∀ {post : Int32 → Prop}, wX10_isThere (va_up J 0 0) E (nI d) post = post 1 := by intro post; rw [m_isThere hM hW hd, e1]; rfl
      rcases ix y (n := nA S) (by omega) with h | ⟨a, ha, rfl⟩
      · rw [c_isNum_o hC.2.2.1 h]
        simp only [if_true]
        rintro _ rfl
        rw [mth, m_isNum_o hM h]
        simp only [z00, if_true, if_false]
        exact hK _ S _ _ _ _ hC hM hW
      · rw [c_isNum hC.2.2.1 hW ha]
        have mnu : ∀ {post : Int32 → Prop}, wX10_isNumber (va_up J 0 0) E (nI a) post = post (bi (kd S a == 2)) := m_isNum hM hW ha _
        by_cases e2 : kd S a = 2
        · simp only [e2, beq_self_eq_true, bi_t, z00, if_false]
          simp (disch := omega) only [zcmp, zari, z00, zm1, le_n, lt_n, eq_n, n_add, n_mul, n_c, n_in, true_and, and_true, if_true, if_false, bi_0, bi_1, ite_true, ite_false, Bool.true_eq_false, Bool.false_eq_true, bs_in _ (show d < 64 by omega), hC.2.2.1.2.2.1 a (by omega) d (by omega)]
          have h8 := hM.2.2.2.2.2.2.2.1 d a (by omega) (by omega)
          cases e3 : (nm S d a).isSome with
          | false =>
            simp only [if_true]
            rintro _ rfl
            rw [mth, mnu, e2]
            simp only [beq_self_eq_true, bi_t, z00, if_false]
            simp (disch := omega) only [zcmp, zari, z00, zm1, le_n, lt_n, eq_n, n_add, n_mul, n_c, n_in, true_and, and_true, if_true, if_false, bi_0, bi_1, ite_true, ite_false, Bool.true_eq_false, Bool.false_eq_true, show 5 * d + a < 200 by omega, h8, e3]
            exact hK _ S _ _ _ _ hC hM hW
          | true =>
            simp only [Bool.true_eq_false, if_false, z00]
            try simp (disch := omega) only [zcmp, zari, z00, zm1, le_n, lt_n, eq_n, n_add, n_mul, n_c, n_in, true_and, and_true, if_true, if_false, bi_0, bi_1, ite_true, ite_false, Bool.true_eq_false, Bool.false_eq_true]
            rw [bs_bit]
            rintro _ rfl
            have q := RC_nm (d := d) (a := a) (v := none) hC hW (by omega) (by omega) (m := L (9 + a) &&& (bt1 d ^^^ (-1))) (f := A (9 + a + 45)) (fun i hi => by
              rw [tb_and, tb_not _ hi, tb_bt1 (by omega)]
              by_cases e : i = d
              · simp [e]
              · simp [e]) (fun w hw => (nomatch hw)) (fun i hi => rfl)
            rw [va_self] at q
            obtain ⟨q1, q2, q3, q4⟩ := q
            have hW' := wf_nm (v := none) hW hd ha e2 (fun w hw => (nomatch hw))
            refine c_renew q1 q2 q3 hW' (fun B1 r1 r2 => ?_)
            rintro _ rfl
            rw [mth, mnu, e2]
            simp only [beq_self_eq_true, bi_t, z00, if_false]
            simp (disch := omega) only [zcmp, zari, z00, zm1, le_n, lt_n, eq_n, n_add, n_mul, n_c, n_in, true_and, and_true, if_true, if_false, bi_0, bi_1, ite_true, ite_false, Bool.true_eq_false, Bool.false_eq_true, show 5 * d + a < 200 by omega, h8, e3]
            rintro _ rfl
            have q5 := RM_nm (v := none) (f := E 7) (g := upd (E 8) (5 * d + a) 0) hM hW (show d < 40 by omega) (show a < 5 by omega) (fun w hw => (nomatch hw)) (fun i hi => rfl) (by rw [ud_s]; rfl) (fun i hi => ud_n _ _ hi)
            rw [va_self] at q5
            exact hK _ _ _ _ _ _ ⟨r1, q2, q3, q4, r2⟩ q5 hW'
        · simp only [bqf e2, bi_f, if_true]
          rintro _ rfl
          rw [mth, mnu, bqf e2]
          simp only [bi_f, z00, if_false, if_true]
          exact hK _ S _ _ _ _ hC hM hW
end
