section
variable {S : SS} {J : Nat → Int32} {E : Nat → Nat → Int32} {I I' : Nat → Int32} {L L' : Nat → Int64} {A A' : Nat → Nat → Int32} {B B' : Nat → Nat → Int64}
abbrev sRe (S : SS) (d p : Nat) : SS := (S.1, kd S, ax S, up S, sc S, (fun e => !(e == d) && th S e), tg S, nm S, (fun i => if i < p then od S i else od S (i + 1)), se S, hi S)
theorem nT_re (hW : wf S) {d p : Nat} (hd : th S d = true) : nT (sRe S d p) + 1 = nT S := (ct_but (hW.2.2.2.2.1 d hd) hd).symm
theorem wf_re (hW : wf S) {d p : Nat} (hp : p < nT S) (hod : od S p = d) : wf (sRe S d p) := by
  have hinj := fun i j (hi : i < nT S) (hj : j < nT S) (e : od S i = od S j) => od_inj hW hi hj e
  obtain ⟨w1, w2, w3, w4, w5, w6, w7, w8, w9, w10, w11, w12, w13⟩ := hW
  have hW : wf S := ⟨w1, w2, w3, w4, w5, w6, w7, w8, w9, w10, w11, w12, w13⟩
  have hd : th S d = true := by rw [← hod]; exact (w8 p hp).2
  have ent := nT_re (p := p) hW hd
  have o1 : ∀ i, i < p → (if i < p then od S i else od S (i + 1)) = od S i := fun i h => if_pos h
  have o2 : ∀ i, p ≤ i → (if i < p then od S i else od S (i + 1)) = od S (i + 1) := fun i h => if_neg (by omega)
  refine ⟨w1, w2, w3, w4, fun e he => ?_, w6, w7, fun i hi => ?_, fun i j hij hj => ?_, fun e he => ?_, w11, w12, w13⟩
  · have h9 : (!(e == d) && th S e) = true := he
    rw [Bool.and_eq_true] at h9
    exact w5 e h9.2
  · show (if i < p then od S i else od S (i + 1)) < nD S ∧ (!((if i < p then od S i else od S (i + 1)) == d) && th S (if i < p then od S i else od S (i + 1))) = true
    by_cases q : i < p
    · rw [o1 i q]
      have := w8 i (by omega)
      have hne : ¬ od S i = d := fun e => by have := hinj i p (by omega) hp (by rw [e, hod]); omega
      exact ⟨this.1, by rw [bqf hne, this.2]; rfl⟩
    · rw [o2 i (by omega)]
      have := w8 (i + 1) (by omega)
      have hne : ¬ od S (i + 1) = d := fun e => by have := hinj (i + 1) p (by omega) hp (by rw [e, hod]); omega
      exact ⟨this.1, by rw [bqf hne, this.2]; rfl⟩
  · show ahd S (if i < p then od S i else od S (i + 1)) (if j < p then od S j else od S (j + 1)) = true
    by_cases q : j < p
    · rw [o1 i (by omega), o1 j q]; exact w9 i j hij (by omega)
    · rw [o2 j (by omega)]
      by_cases q2 : i < p
      · rw [o1 i q2]; exact w9 i (j + 1) (by omega) (by omega)
      · rw [o2 i (by omega)]; exact w9 (i + 1) (j + 1) (by omega) (by omega)
  · have h9 : (!(e == d) && th S e) = true := he
    rw [Bool.and_eq_true] at h9
    obtain ⟨j, hj, q⟩ := w10 e h9.2
    have hne : j ≠ p := fun q2 => by
      rw [q2, hod] at q
      rw [q] at h9; simp at h9
    by_cases q2 : j < p
    · exact ⟨j, by omega, by show (if j < p then od S j else od S (j + 1)) = e; rw [o1 j q2]; exact q⟩
    · exact ⟨j - 1, by omega, by show (if j - 1 < p then od S (j - 1) else od S (j - 1 + 1)) = e; rw [o2 (j - 1) (by omega), show j - 1 + 1 = j by omega]; exact q⟩
theorem t_remove (hC : RC S I L A B) (hM : RM S J E) (hW : wf S) (x : Int32) {K : Int32 → Int32 → (Nat → Int32) → (Nat → Int64) → (Nat → Nat → Int32) → (Nat → Nat → Int64) → (Nat → Int32) → (Nat → Nat → Int32) → Prop} (hK : ∀ r S' I' L' A' B' J' E', RC S' I' L' A' B' → RM S' J' E' → wf S' → K r r I' L' A' B' J' E') : wX9_remove I L A B x (fun r I' L' A' B' => wX10_remove J E x (fun r' J' E' => K r r' I' L' A' B' J' E')) := by
  have hn := hW.1
  have hM := RM_t hM 0
  obtain ⟨hF, hD, hX, hT, hP⟩ := hC
  have hC0 : RC S I L A B := ⟨hF, hD, hX, hT, hP⟩
  unfold wX9_remove wX10_remove
  rcases ix x (n := nD S) (by omega) with h | ⟨d, hd, rfl⟩
  · rw [c_isThere_o hD h]
    simp only [if_true]
    rintro _ rfl
    rw [m_isThere_o hM h]
    simp only [if_true]
    exact hK _ S _ _ _ _ _ _ hC0 hM hW
  · rw [c_isThere hD hW hd]
    simp only [bi_0]
    cases e1 : th S d with
    | false =>
      simp only [if_true]
      rintro _ rfl
      rw [m_isThere hM hW hd, e1]
      simp only [bi_f, if_true]
      exact hK _ S _ _ _ _ _ _ hC0 hM hW
    | true =>
      simp only [Bool.true_eq_false, if_false]
      unfold wX6_discard
      rw [bs_bit]
      rintro _ rfl
      unfold wX3_take
      have hnt := nT_le hW
      obtain ⟨p, hp, hod⟩ := hW.2.2.2.2.2.2.2.2.2.1 d e1
      have hff : ff (fun k => od S k == d) (nT S) = some p := ff_uniq (by simp [hod]) hp (fun k hk q => by
        have : od S k = d := by simpa using q
        exact od_inj hW hk hp (by rw [this, hod]))
      have lu : ∀ j, j ≠ 2 → va_up L 2 (L 2 &&& (bt1 d ^^^ (-1))) j = L j := fun j h => up_n _ _ h
      have hcp : ∀ {post : Int32 → Prop}, post (nI p) → wX3_placeOf I (va_up L 2 (L 2 &&& (bt1 d ^^^ (-1)))) A B 7 (nI d) post := fun {post} h9 => by
        have := c_placeOf (L := L) (B := B) hD hW hd (post := post) (by rw [hff]; exact h9)
        exact this
      refine hcp ?_
      refine ite_n (by rw [zm1.1 p (by omega)]; exact fun q => q) ?_
      rw [hD.2.2.1, zsub.1 _ (by omega)]
      rintro _ rfl
      have ent := nT_re (S := S) (p := p) hW e1
      have hW' := wf_re hW hp hod
      refine lfix_for (nT S - 1) (fun k (y : Nat → Nat → Int32) => (nI k, y)) (fun k y => p ≤ k ∧ (∀ i, i < nT S → y 41 i = nI (if i < p then od S i else if i < k then od S (i + 1) else od S i)) ∧ ∀ j, j ≠ 41 → y j = A j) p A (by omega) ⟨Nat.le_refl _, fun i hi => ?_, fun _ _ => rfl⟩ ?_ ?_
      · rw [hD.2.2.2.1 i hi]
        by_cases q : i < p
        · rw [if_pos q]
        · rw [if_neg q, if_neg q]
      · rintro r k y hk ⟨k0, k1, k2⟩ hr
        dsimp only
        have e41 := k1 (k + 1) (by omega)
        rw [if_neg (by omega), if_neg (by omega)] at e41
        simp (disch := omega) only [zcmp, zari, z00, zm1, le_n, lt_n, eq_n, n_add, n_mul, n_c, n_in, true_and, and_true, if_true, if_false, bi_0, bi_1, ite_true, ite_false, Bool.true_eq_false, Bool.false_eq_true, up_s, show ¬ nT S - 1 ≤ k by omega, Nat.add_zero]
        rintro _ rfl _ rfl
        refine hr _ ⟨by omega, fun i hi => ?_, fun j hj => by rw [up_n _ _ hj]; exact k2 j hj⟩
        rw [up_s]
        by_cases q : i = k
        · rw [q, ud_s, if_neg (by omega), if_pos (by omega)]
          exact e41
        · rw [ud_n _ _ q, k1 i hi]
          by_cases q2 : i < p
          · rw [if_pos q2, if_pos q2]
          · rw [if_neg q2, if_neg q2]
            by_cases q3 : i < k
            · rw [if_pos q3, if_pos (by omega)]
            · rw [if_neg q3, if_neg (by omega)]
      · rintro r y ⟨k0, k1, k2⟩
        dsimp only
        simp (disch := omega) only [zcmp, zari, z00, zm1, le_n, lt_n, eq_n, n_add, n_mul, n_c, n_in, true_and, and_true, if_true, if_false, bi_0, bi_1, ite_true, ite_false, Bool.true_eq_false, Bool.false_eq_true, up_s, Nat.le_refl]
        have iu : ∀ j, j ≠ 7 → va_up I 7 (nI (nT S - 1)) j = I j := fun j h => up_n _ _ h
        have hF' : RF (sRe S d p) (va_up I 7 (nI (nT S - 1))) y B := by
          obtain ⟨f1, f2, f3, f4⟩ := hF
          exact ⟨by rw [iu 1 (by decide)]; exact f1, by rw [k2 36 (by decide)]; exact f2, by rw [k2 37 (by decide)]; exact f3, f4⟩
        have hD' : RD (sRe S d p) (va_up I 7 (nI (nT S - 1))) (va_up L 2 (L 2 &&& (bt1 d ^^^ (-1)))) y := by
          refine ⟨by rw [iu 2 (by decide)]; exact hD.1, ?_, by rw [up_s, show nT S - 1 = nT (sRe S d p) by omega], fun i hi => ?_, by rw [k2 43 (by decide)]; exact hD.2.2.2.2⟩
          · rw [up_s]
            intro i hi
            rw [tb_and, tb_not _ hi, tb_bt1 (by omega), hD.2.1 i hi]
            show (th S i && !decide (i = d)) = (!(i == d) && th S i)
            by_cases q : i = d
            · simp [q]
            · simp [q]
          · rw [k1 i (by omega)]
            show _ = nI (if i < p then od S i else od S (i + 1))
            by_cases q2 : i < p
            · rw [if_pos q2, if_pos q2]
            · rw [if_neg q2, if_neg q2, if_pos (by omega)]
        have hX' : RX (sRe S d p) (va_up I 7 (nI (nT S - 1))) (va_up L 2 (L 2 &&& (bt1 d ^^^ (-1)))) y := by
          obtain ⟨f1, f2, f3, f4, f5⟩ := hX
          refine ⟨by rw [iu 3 (by decide)]; exact f1, fun a ha => ?_, fun a ha => by rw [lu _ (by omega)]; exact f3 a ha, fun a d w ha hd hw => by rw [k2 _ (by omega)]; exact f4 a d w ha hd hw, fun a ha => cSl_to hW.2.2.2.2.2.2.2.2.2.2.1 (fun _ _ => rfl) (f5 a ha) (iu _ (by omega)) (iu _ (by omega)) (lu _ (by omega)) (k2 _ (by omega)) (k2 _ (by omega))⟩
          have ha' : a < nA S := ha
          rw [iu _ (by omega)]; exact f2 a ha
        refine c_renew hF' hD' hX' hW' (fun B1 r1 r2 => ?_)
        rintro _ rfl
        rw [m_isThere hM hW hd, e1]
        simp only [bi_t, z00, if_false]
        rintro _ rfl
        refine hK _ (sRe S d p) _ _ _ _ _ _ ⟨r1, hD', hX', ?_, r2⟩ ?_ hW'
        · exact RT_to hW (fun _ _ => rfl) (Nat.le_refl _) rfl rfl (fun j hj => iu _ (by omega)) (fun j h1 h2 => lu _ (by omega)) (fun j hj => k2 _ (by omega)) hT
        · obtain ⟨m1, m2, m3, m4, m5, m6, m7, m8⟩ := hM
          have u : ∀ {f : Nat → Int32} k, k ≠ 5 → va_up E 5 f k = E k := fun k h1 => up_n _ _ h1
          refine ⟨m1, by rw [u 1 (by decide)]; exact m2, by rw [u 2 (by decide)]; exact m3, by rw [u 3 (by decide)]; exact m4, by rw [u 4 (by decide)]; exact m5, fun e he => ?_, by rw [u 6 (by decide)]; exact m7, ?_⟩
          · rw [up_s]
            show _ = bi (!(e == d) && th S e)
            by_cases q : e = d
            · rw [q, ud_s]; simp only [beq_self_eq_true, Bool.not_true, Bool.false_and]; exact bi_nar (b := false)
            · rw [ud_n _ _ q, bqf q]; exact m6 e he
          · rw [u 7 (by decide), u 8 (by decide), u 9 (by decide), u 10 (by decide)]
            exact m8
end
