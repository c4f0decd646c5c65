section
variable {S : SS} {J J' : Nat → Int32} {E : Nat → Nat → Int32} {I I1 I2 : Nat → Int32} {L L1 L2 : Nat → Int64} {A A1 A2 : Nat → Nat → Int32} {B B' : Nat → Nat → Int64}
theorem wf_se (hW : wf S) {sl : Sl} (h : wfl S sl) : wf (sSe S sl) := by
  obtain ⟨w1, w2, w3, w4, w5, w6, w7, w8, w9, w10, w11, w12, w13⟩ := hW
  refine ⟨w1, w2, w3, w4, w5, w6, w7, w8, w9, w10, h, fun s hs => ?_, ?_⟩
  · rcases List.mem_cons.mp (List.mem_of_mem_take hs) with q | q
    · rw [q]; exact w11
    · exact w12 s q
  · show ((se S :: hi S).take 16).length ≤ 16
    rw [List.length_take]; omega
theorem RM_se (hM : RM S J E) {f g : Nat → Int32} {sl : Sl} (k1 : ∀ k, k ≠ 4 → J' k = J k) (k2 : J' 4 = nI ((se S :: hi S).take 16).length) (k4 : ∀ k sl, ((se S :: hi S).take 16)[k]? = some sl → rSl sl (80 + 80 * (((se S :: hi S).take 16).length - 1 - k)) f) (hl : ∀ s ∈ (se S :: hi S), ∀ a, (s.2.2 a).length ≤ 3) (hg : ∀ i, 80 ≤ i → g i = f i) (hs : rSl sl 0 g) : RM (sSe S sl) J' (va_up E 9 g) := by
  obtain ⟨m1, m2, m3, m4, m5, m6, m7, m8, m9, m10, m11, m12⟩ := hM
  have u : ∀ k, k ≠ 9 → va_up E 9 g k = E k := fun k h1 => up_n _ _ h1
  refine ⟨⟨by rw [k1 1 (by decide)]; exact m1.1, by rw [k1 2 (by decide)]; exact m1.2.1, by rw [k1 3 (by decide)]; exact m1.2.2.1, k2⟩, by rw [u 1 (by decide)]; exact m2, by rw [u 2 (by decide)]; exact m3, by rw [u 3 (by decide)]; exact m4, by rw [u 4 (by decide)]; exact m5, by rw [u 5 (by decide)]; exact m6, by rw [u 6 (by decide)]; exact m7, by rw [u 8 (by decide)]; exact m8, by rw [u 7 (by decide)]; exact m9, by rw [u 10 (by decide)]; exact m10, by rw [up_s]; exact hs, fun k s hk => ?_⟩
  rw [up_s]
  exact rSl_to (hl s (List.mem_of_mem_take (List.mem_of_getElem? hk))) (k4 k s hk) (fun i i1 _ => hg i (by omega))
theorem se_len (hW : wf S) : ∀ s ∈ (se S :: hi S), ∀ a, (s.2.2 a).length ≤ 3 := fun s hs => by
  rcases List.mem_cons.mp hs with q | q
  · rw [q]; exact hW.2.2.2.2.2.2.2.2.2.2.1.2.2.2
  · exact (hW.2.2.2.2.2.2.2.2.2.2.2.1 s q).2.2.2
theorem RC_se (hC : RC S I L A B) (hW : wf S) {a : Nat} (ha : a < nA S) {sl : Sl} (hwl : wfl S sl) (hag : agr S (se S) sl a) (n1 : ∀ k, k ≠ 0 → k ≠ 4 → ¬ (20 ≤ k ∧ k < 36) → ¬ (42 ≤ k ∧ k < 58) → I1 k = I k) (n2 : ∀ k, ¬ (20 ≤ k ∧ k < 36) → L1 k = L k) (n3 : ∀ k, k ≠ 47 → ¬ (65 ≤ k ∧ k < 81) → ¬ (87 ≤ k ∧ k < 103) → A1 k = A k) (n4 : RT (sSe S sl) I1 L1 A1)
    (c1 : ∀ k, k ≠ 9 + a + 5 → k ≠ 9 + a + 5 + 22 → I2 k = I1 k) (c2 : ∀ k, k ≠ 9 + a + 5 → L2 k = L1 k) (c3 : ∀ k, k ≠ 9 + a + 5 + 45 → k ≠ 9 + a + 5 + 67 → A2 k = A1 k) (hs : cSl S sl a (9 + a + 5) I2 L2 A2) : RF (sSe S sl) I2 A2 B ∧ RD (sSe S sl) I2 L2 A2 ∧ RX (sSe S sl) I2 L2 A2 ∧ RT (sSe S sl) I2 L2 A2 := by
  have hn := hW.1
  obtain ⟨hF, hD, hX, hT, hP⟩ := hC
  have i9 : ∀ k, k ≠ 0 → k ≠ 4 → ¬ (20 ≤ k ∧ k < 36) → ¬ (42 ≤ k ∧ k < 58) → k ≠ 9 + a + 5 → k ≠ 9 + a + 5 + 22 → I2 k = I k := fun k h1 h2 h3 h4 h5 h6 => (c1 k h5 h6).trans (n1 k h1 h2 h3 h4)
  have l9 : ∀ k, ¬ (20 ≤ k ∧ k < 36) → k ≠ 9 + a + 5 → L2 k = L k := fun k h1 h2 => (c2 k h2).trans (n2 k h1)
  have a9 : ∀ k, k ≠ 47 → ¬ (65 ≤ k ∧ k < 81) → ¬ (87 ≤ k ∧ k < 103) → k ≠ 9 + a + 5 + 45 → k ≠ 9 + a + 5 + 67 → A2 k = A k := fun k h1 h2 h3 h4 h5 => (c3 k h4 h5).trans (n3 k h1 h2 h3)
  refine ⟨?_, ?_, ⟨?_, fun b hb => ?_, fun b hb => ?_, fun b d w hb hd hw => ?_, fun b hb => ?_⟩, ?_⟩
  · obtain ⟨f1, f2, f3, f4⟩ := hF
    exact ⟨by rw [i9 1 (by omega) (by omega) (by omega) (by omega) (by omega) (by omega)]; exact f1, by rw [a9 36 (by omega) (by omega) (by omega) (by omega) (by omega)]; exact f2, by rw [a9 37 (by omega) (by omega) (by omega) (by omega) (by omega)]; exact f3, f4⟩
  · obtain ⟨f1, f2, f3, f4, f5⟩ := hD
    exact ⟨by rw [i9 2 (by omega) (by omega) (by omega) (by omega) (by omega) (by omega)]; exact f1, by rw [l9 2 (by omega) (by omega)]; exact f2, by rw [i9 7 (by omega) (by omega) (by omega) (by omega) (by omega) (by omega)]; exact f3, by rw [a9 41 (by omega) (by omega) (by omega) (by omega) (by omega)]; exact f4, by rw [a9 43 (by omega) (by omega) (by omega) (by omega) (by omega)]; exact f5⟩
  · rw [i9 3 (by omega) (by omega) (by omega) (by omega) (by omega) (by omega)]; exact hX.1
  · have hb' : b < nA S := hb
    rw [i9 _ (by omega) (by omega) (by omega) (by omega) (by omega) (by omega)]; exact hX.2.1 b hb
  · rw [l9 _ (by omega) (by omega)]; exact hX.2.2.1 b hb
  · rw [a9 _ (by omega) (by omega) (by omega) (by omega) (by omega)]; exact hX.2.2.2.1 b d w hb hd hw
  · by_cases e : b = a
    · rw [e]; exact cSl_to hwl (fun _ _ => rfl) hs rfl rfl rfl rfl rfl
    · obtain ⟨g1, g2, g3, g4⟩ := hX.2.2.2.2 b hb
      have hb2 := hag.2 b e
      refine ⟨?_, ?_, ?_, fun j hj => ?_⟩
      · rw [l9 _ (by omega) (by omega)]
        refine bm_to g1 (fun c _ => ?_)
        show (ax S c == b && (se S).1 c) = (ax S c == b && sl.1 c)
        by_cases q : ax S c = b
        · rw [hag.1 c (by omega)]
        · rw [bqf q]; rfl
      · rw [i9 _ (by omega) (by omega) (by omega) (by omega) (by omega) (by omega), g2]
        show bi ((se S).2.1 b) = bi (sl.2.1 b)
        rw [hb2.1]
      · rw [i9 _ (by omega) (by omega) (by omega) (by omega) (by omega) (by omega), g3]
        show nI ((se S).2.2 b).length = nI (sl.2.2 b).length
        rw [hb2.2]
      · have hj' : j < ((se S).2.2 b).length := by rw [hb2.2]; exact hj
        rw [a9 _ (by omega) (by omega) (by omega) (by omega) (by omega), a9 _ (by omega) (by omega) (by omega) (by omega) (by omega)]
        have := g4 j hj'
        unfold rg at this ⊢
        rw [hb2.2] at this
        exact this
  · exact RT_to (S := sSe S sl) (wf_se hW hwl) (fun _ _ => rfl) (Nat.le_refl _) rfl rfl (fun k hk => c1 k (by omega) (by omega)) (fun k h1 h2 => c2 k (by omega)) (fun k hk => c3 k (by omega) (by omega)) n4
abbrev slC (sl : Sl) (c : Nat) (v : Bool) : Sl := ((fun c' => if c' = c then v else sl.1 c'), sl.2)
theorem t_select (hC : RC S I L A B) (hM : RM S J E) (hW : wf S) (x : Int32) (v : Bool) {K : Int32 → Int32 → (Nat → Int32) → (Nat → Int64) → (Nat → Nat → Int32) → (Nat → Nat → Int64) → (Nat → Int32) → (Nat → Nat → Int32) → Prop} (hK : ∀ r S' I' L' A' B' J' E', RC S' I' L' A' B' → RM S' J' E' → wf S' → K r r I' L' A' B' J' E') : wX9_select I L A B x (bi v) (fun r I' L' A' B' => wX10_select J E x (bi v) (fun r' J' E' => K r r' I' L' A' B' J' E')) := by
  have hn := hW.1
  have hM := RM_t hM 0
  have hwl := hW.2.2.2.2.2.2.2.2.2.2.1
  obtain ⟨hF, hD, hX, hT, hP⟩ := hC
  have hC0 : RC S I L A B := ⟨hF, hD, hX, hT, hP⟩
  have ebi : ∀ p q : Bool, (bi p = bi q) = (p = q) := by intro p q; cases p <;> cases q <;> simp [bi]
  unfold wX9_select
  rcases ix x (n := nC S) (by omega) with h | ⟨c, hc, rfl⟩
  · rw [c_knC_o hF h]
    simp only [if_true]
    unfold wX10_select
    rintro _ rfl
    rw [m_isCat_o hM h]
    simp only [if_true]
    exact hK _ S _ _ _ _ _ _ hC0 hM hW
  · rw [c_knC hF hW hc]
    refine ite_n (by decide) ?_
    obtain ⟨w1, w2, w3, w4⟩ := hW.2.2.1 c hc
    have m9 : E 9 c = bi ((se S).1 c) := by
      have := hM.2.2.2.2.2.2.2.2.2.2.1.1 c (by omega)
      rw [Nat.zero_add] at this; exact this
    refine ⟨vp_in_nI (by omega) (by decide), ?_⟩
    rw [n_c (by omega), hF.2.1 c hc]
    rintro _ rfl
    refine ⟨vp_in_nI (by omega) (by decide), ?_⟩
    have tbc : tb (L (9 + ax S c + 5)) c = (se S).1 c := by rw [(hX.2.2.2.2 (ax S c) (by omega)).1 c (by omega)]; simp
    rw [n_c (by omega), bs_in _ (show c < 64 by omega), tbc]
    simp only [ebi]
    have mgo : ∀ {K2 : Int32 → (Nat → Int32) → (Nat → Nat → Int32) → Prop}, ((se S).1 c = v → K2 0 (va_up J 0 0) E) → ((se S).1 c ≠ v → wX10_keeps (va_up J 0 0) E (fun I_2 A_1 => ∀ A_2, A_2 = va_up A_1 9 (upd (A_1 9) c (bi v)) → K2 1 I_2 A_2)) → wX10_select J E (nI c) (bi v) (fun r' J' E' => K2 r' J' E') := by
      intro K2 h1 h2
      unfold wX10_select
      rintro _ rfl
      rw [m_isCat hM hW hc]
      refine ite_n (by decide) ⟨vp_in_nI (by omega) (by decide), ?_⟩
      rw [n_c (by omega), m9]
      refine jn_have (fun t => t = bi ((se S).1 c)) ?_ ?_
      · rintro _ rfl
        simp only [ebi]
        by_cases e : (se S).1 c = v
        · rw [if_pos e]; exact h1 e
        · rw [if_neg e]
          have := h2 e
          simp only [jn, vp_in_nI (show c < 1440 by omega) (by decide), true_and]
          cases v <;> exact this
      · intro k hk
        cases q : (se S).1 c <;> rw [q] at hk
        · exact ite_n (by decide) (hk _ rfl)
        · exact ite_p (by decide) (hk _ rfl)
    by_cases e : (se S).1 c = v
    · rw [if_pos e]
      exact mgo (fun _ => hK _ S _ _ _ _ _ _ hC0 hM hW) (fun q => absurd e q)
    · rw [if_neg e]
      have hag : agr S (se S) (slC (se S) c v) (ax S c) := ⟨fun c' hc' => by
        show _ = if c' = c then v else (se S).1 c'
        rw [if_neg (fun q => hc' (by rw [q]))], fun b _ => ⟨rfl, rfl⟩⟩
      have hwl' : wfl S (slC (se S) c v) := ⟨fun c' h' => by
        by_cases q : c' = c
        · rw [q]; exact hc
        · have : (if c' = c then v else (se S).1 c') = true := h'
          rw [if_neg q] at this; exact hwl.1 c' this, hwl.2⟩
      refine c_note hC0 hW w1 (fun I1 L1 A1 n1 n2 n3 n4 => ?_)
      rw [bs_bit]
      rintro _ rfl
      have ev : v = !(se S).1 c := by cases q : (se S).1 c <;> cases v <;> simp [q] at e ⊢
      obtain ⟨q1, q2, q3, q4⟩ := RC_se (I2 := I1) (L2 := va_up L1 (9 + ax S c + 5) (L1 (9 + ax S c + 5) ^^^ bt1 c)) (A2 := A1) hC0 hW w1 hwl' hag n1 n2 n3 (n4 _ hag) (fun _ _ _ => rfl) (fun k hk => up_n _ _ hk) (fun _ _ _ => rfl) (by
        obtain ⟨g1, g2, g3, g4⟩ := hX.2.2.2.2 (ax S c) (by omega)
        refine ⟨fun i hi => ?_, by rw [n1 _ (by omega) (by omega) (by omega) (by omega)]; exact g2, by rw [n1 _ (by omega) (by omega) (by omega) (by omega)]; exact g3, fun j hj => by rw [n3 _ (by omega) (by omega) (by omega), n3 _ (by omega) (by omega) (by omega)]; exact g4 j hj⟩
        rw [up_s, tb_xor, tb_bt1 (by omega), n2 _ (by omega), g1 i hi]
        show ((ax S i == ax S c && (se S).1 i) ^^ decide (i = c)) = (ax S i == ax S c && (if i = c then v else (se S).1 i))
        by_cases q : i = c
        · rw [q, if_pos rfl, ev]; simp
        · rw [if_neg q]; simp [q])
      have hW' := wf_se hW hwl'
      refine c_renew q1 q2 q3 hW' (fun B1 r1 r2 => ?_)
      refine mgo (fun q => absurd q e) (fun _ => ?_)
      refine m_keeps hM hW (fun J' f k1 k2 k3 k4 => ?_)
      rintro _ rfl
      rw [up_s, va_uu]
      refine hK _ (sSe S (slC (se S) c v)) _ _ _ _ _ _ ⟨r1, q2, q3, q4, r2⟩ (RM_se hM k1 k2 k4 (se_len hW) (fun i hi => ud_n _ _ (by omega)) ?_) hW'
      obtain ⟨a1, a2, a3, a4⟩ := hM.2.2.2.2.2.2.2.2.2.2.1
      refine ⟨fun c' hc' => ?_, fun a ha => ?_, fun a ha => ?_, fun a ha j hj => ?_⟩
      · show upd f c (bi v) (0 + c') = bi (if c' = c then v else (se S).1 c')
        by_cases q : c' = c
        · rw [q, Nat.zero_add, ud_s, if_pos rfl]
        · rw [Nat.zero_add, ud_n _ _ q, if_neg q, k3 c' (by omega)]
          have := a1 c' hc'; rw [Nat.zero_add] at this; exact this
      · rw [ud_n _ _ (by omega), k3 _ (by omega)]; exact a2 a ha
      · rw [ud_n _ _ (by omega), k3 _ (by omega)]; exact a3 a ha
      · have h3 := hwl.2.2.2 a
        have hj' : j < ((se S).2.2 a).length := hj
        rw [ud_n _ _ (by omega), ud_n _ _ (by omega), k3 _ (by omega), k3 _ (by omega)]; exact a4 a ha j hj
end
