section
variable {S : SS} {J J' : Nat → Int32} {E : Nat → Nat → Int32} {I I1 I2 : Nat → Int32} {L L1 L2 : Nat → Int64} {A A1 A2 : Nat → Nat → Int32} {B B' : Nat → Nat → Int64}
abbrev sBa (S : SS) (sl : Sl) (t : List Sl) : SS := (S.1, kd S, ax S, up S, sc S, th S, tg S, nm S, od S, sl, t)
theorem t_back (hC : RC S I L A B) (hM : RM S J E) (hW : wf S) {K : Int32 → Int32 → (Nat → Int32) → (Nat → Int64) → (Nat → Nat → Int32) → (Nat → Nat → Int64) → (Nat → Int32) → (Nat → Nat → Int32) → Prop} (hK : ∀ r S' I' L' A' B' J' E', RC S' I' L' A' B' → RM S' J' E' → wf S' → K r r I' L' A' B' J' E') : wX9_back I L A B (fun r I' L' A' B' => wX10_back J E (fun r' J' E' => K r r' I' L' A' B' J' E')) := by
  have hn := hW.1
  have hM := RM_t hM 0
  have hwl := hW.2.2.2.2.2.2.2.2.2.2.1
  have hwh := hW.2.2.2.2.2.2.2.2.2.2.2.1
  have h16 := hW.2.2.2.2.2.2.2.2.2.2.2.2
  obtain ⟨hF, hD, hX, hT, hP⟩ := hC
  have hC0 : RC S I L A B := ⟨hF, hD, hX, hT, hP⟩
  have e0 : (nI (hi S).length = 0) = ((hi S).length = 0) := eq_n (by omega) (by decide)
  unfold wX9_back
  rw [hT.1]
  simp only [e0]
  cases eh : hi S with
  | nil =>
    refine ite_p rfl ?_
    unfold wX10_back
    rintro _ rfl
    rw [hM.1.2.2.2, eh, if_pos (show nI ([] : List Sl).length = 0 from rfl)]
    exact hK _ S _ _ _ _ _ _ hC0 hM hW
  | cons s0 t =>
    rw [eh] at h16 hwh
    rw [List.length_cons] at h16
    rw [if_neg (by rw [List.length_cons]; omega)]
    obtain ⟨g1, nx, g2, g3, g4⟩ := hT
    rw [eh] at g1 g4
    rw [List.length_cons] at g1
    obtain ⟨a, b1, b2, b3, b4⟩ := g4 0 s0 rfl
    rw [show (nx + 15 - 0) % 16 = (nx + 15) % 16 by omega] at b2 b3
    have hw0 : wfl S s0 := hwh _ List.mem_cons_self
    have b4 : agr S s0 (se S) a := b4
    unfold wX8_takeBack
    refine ⟨by decide, ?_⟩
    rw [g3, show nI nx + 16 - 1 = nI (nx + 15) by rw [show nI nx + 16 = nI (nx + 16) from n_add nx 16, zsub.1 _ (by omega)]; rfl, mod16 (by omega)]
    rintro _ rfl
    rw [up_n _ _ (show 4 ≠ 0 by decide), g1, zsub.1 _ (by omega), Nat.add_sub_cancel]
    rintro _ rfl
    rw [up_n _ _ (show 0 ≠ 4 by decide), up_s]
    refine ⟨vp_in_nI (Nat.mod_lt _ (by decide)) (by decide), ?_⟩
    have hnx : (nx + 15) % 16 < 16 := Nat.mod_lt _ (by decide)
    rw [n_c (by omega), b2]
    refine ⟨vp_in_nI (by omega) (by decide), vp_in_nI hnx (by decide), ?_⟩
    rw [n_c (by omega)]
    have iu : ∀ k, k ≠ 0 → k ≠ 4 → va_up (va_up I 0 (nI ((nx + 15) % 16))) 4 (nI t.length) k = I k := fun k h1 h2 => by rw [up_n _ _ h2, up_n _ _ h1]
    have hs0 : cSl S s0 a (20 + (nx + 15) % 16) (va_up (va_up I 0 (nI ((nx + 15) % 16))) 4 (nI t.length)) L A := cSl_to hw0 (fun _ _ => rfl) b3 (iu _ (by omega) (by omega)) (iu _ (by omega) (by omega)) rfl rfl rfl
    refine c_copy (k0 := 9 + a + 5) (k1 := 20 + (nx + 15) % 16) (by omega) (by omega) (by omega) hw0.2.2.2 hs0 (fun I1 L1 A1 q1 q2 q3 q4 => ?_)
    have iv : ∀ k, k ≠ 0 → k ≠ 4 → k ≠ 9 + a + 5 → k ≠ 9 + a + 5 + 22 → I1 k = I k := fun k h1 h2 h3 h4 => (q2 k h3 h4).trans (iu k h1 h2)
    have hW' : wf (sBa S s0 t) := by
      obtain ⟨w1, w2, w3, w4, w5, w6, w7, w8, w9, w10, w11, w12, w13⟩ := hW
      exact ⟨w1, w2, w3, w4, w5, w6, w7, w8, w9, w10, hw0, fun s hs => hwh s (List.mem_cons_of_mem _ hs), by show t.length ≤ 16; omega⟩
    have hF' : RF (sBa S s0 t) I1 A1 B := by
      obtain ⟨f1, f2, f3, f4⟩ := hF
      exact ⟨by rw [iv 1 (by omega) (by omega) (by omega) (by omega)]; exact f1, by rw [q4 36 (by omega) (by omega)]; exact f2, by rw [q4 37 (by omega) (by omega)]; exact f3, f4⟩
    have hD' : RD (sBa S s0 t) I1 L1 A1 := by
      obtain ⟨f1, f2, f3, f4, f5⟩ := hD
      exact ⟨by rw [iv 2 (by omega) (by omega) (by omega) (by omega)]; exact f1, by rw [q3 2 (by omega)]; exact f2, by rw [iv 7 (by omega) (by omega) (by omega) (by omega)]; exact f3, by rw [q4 41 (by omega) (by omega)]; exact f4, by rw [q4 43 (by omega) (by omega)]; exact f5⟩
    have hX' : RX (sBa S s0 t) I1 L1 A1 := by
      refine ⟨by rw [iv 3 (by omega) (by omega) (by omega) (by omega)]; exact hX.1, fun b hb => ?_, fun b hb => by rw [q3 _ (by omega)]; exact hX.2.2.1 b hb, fun b d w hb hd hw => by rw [q4 _ (by omega) (by omega)]; exact hX.2.2.2.1 b d w hb hd hw, fun b hb => ?_⟩
      · have hb' : b < nA S := hb
        rw [iv _ (by omega) (by omega) (by omega) (by omega)]; exact hX.2.1 b hb
      · by_cases e : b = a
        · rw [e]; exact cSl_to hw0 (fun _ _ => rfl) q1 rfl rfl rfl rfl rfl
        · obtain ⟨c1, c2, c3, c4⟩ := hX.2.2.2.2 b hb
          have hb2 := b4.2 b e
          refine ⟨?_, ?_, ?_, fun j hj => ?_⟩
          · rw [q3 _ (by omega)]
            refine bm_to c1 (fun c _ => ?_)
            show (ax S c == b && (se S).1 c) = (ax S c == b && s0.1 c)
            by_cases q : ax S c = b
            · rw [b4.1 c (by omega)]
            · rw [bqf q]; rfl
          · rw [iv _ (by omega) (by omega) (by omega) (by omega), c2]
            show bi ((se S).2.1 b) = bi (s0.2.1 b)
            rw [hb2.1]
          · rw [iv _ (by omega) (by omega) (by omega) (by omega), c3]
            show nI ((se S).2.2 b).length = nI (s0.2.2 b).length
            rw [hb2.2]
          · have hj' : j < ((se S).2.2 b).length := by rw [← hb2.2]; exact hj
            rw [q4 _ (by omega) (by omega), q4 _ (by omega) (by omega)]
            have := c4 j hj'
            unfold rg at this ⊢
            rw [← hb2.2] at this
            exact this
    have hT' : RT (sBa S s0 t) I1 L1 A1 := by
      refine ⟨by rw [q2 4 (by omega) (by omega), up_s], (nx + 15) % 16, hnx, by rw [q2 0 (by omega) (by omega), up_n _ _ (by decide), up_s], fun k sl hk => ?_⟩
      have hk : t[k]? = some sl := hk
      have hkl : k < t.length := (List.getElem?_eq_some_iff.mp hk).1
      obtain ⟨a', d1, d2, d3, d4⟩ := g4 (k + 1) sl (by rw [List.getElem?_cons_succ]; exact hk)
      have hw : wfl S sl := hwh _ (List.mem_cons_of_mem _ (List.mem_of_getElem? hk))
      rw [show ((nx + 15) % 16 + 15 - k) % 16 = (nx + 15 - (k + 1)) % 16 by omega]
      have hm : (nx + 15 - (k + 1)) % 16 < 16 := Nat.mod_lt _ (by decide)
      refine ⟨a', d1, by rw [q4 47 (by omega) (by omega)]; exact d2, cSl_to hw (fun _ _ => rfl) d3 (iv _ (by omega) (by omega) (by omega) (by omega)) (iv _ (by omega) (by omega) (by omega) (by omega)) (q3 _ (by omega)) (q4 _ (by omega) (by omega)) (q4 _ (by omega) (by omega)), ?_⟩
      have ep : prv (sBa S s0 t) k = prv S (k + 1) := by
        show _ = (hi S).getD k (se S)
        rw [eh]
        cases k with
        | zero => rfl
        | succ k =>
          show t.getD k s0 = (s0 :: t).getD (k + 1) (se S)
          rw [List.getD_eq_getElem?_getD, List.getD_eq_getElem?_getD, List.getElem?_cons_succ, List.getElem?_eq_getElem (by omega)]
          rfl
      rw [ep]; exact d4
    refine c_renew hF' hD' hX' hW' (fun B1 r1 r2 => ?_)
    unfold wX10_back
    rintro _ rfl
    rw [hM.1.2.2.2, eh, List.length_cons, if_neg (show ¬ nI (t.length + 1) = 0 by simp (disch := omega) only [zcmp, zari, z00, zm1, le_n, lt_n, eq_n, n_add, n_mul, n_c, n_in, true_and, and_true, if_true, if_false, bi_0, bi_1, ite_true, ite_false, Bool.true_eq_false, Bool.false_eq_true]; omega), zsub.1 _ (by omega), Nat.add_sub_cancel]
    rintro _ rfl
    rw [up_s, show (80 : Int32) + 80 * nI t.length = nI (80 + 80 * t.length) by rw [show (80 : Int32) = nI 80 from rfl, n_mul, n_add]]
    refine m_copies (b1 := 80 + 80 * t.length) (b2 := 0) (by omega) (by omega) (by omega) (fun g k1 k2 => ?_)
    have rk := hM.2.2.2.2.2.2.2.2.2.2.2
    rw [eh] at rk
    refine hK _ (sBa S s0 t) _ _ _ _ _ _ ⟨r1, hD', hX', hT', r2⟩ ?_ hW'
    obtain ⟨m1, m2, m3, m4, m5, m6, m7, m8, m9, m10, m11, m12⟩ := hM
    have u : ∀ k, k ≠ 9 → va_up E 9 g k = E k := fun k h1 => up_n _ _ h1
    refine ⟨⟨by rw [up_n _ _ (by decide)]; exact m1.1, by rw [up_n _ _ (by decide)]; exact m1.2.1, by rw [up_n _ _ (by decide)]; exact m1.2.2.1, up_s _ _ _⟩, by rw [u 1 (by decide)]; exact m2, by rw [u 2 (by decide)]; exact m3, by rw [u 3 (by decide)]; exact m4, by rw [u 4 (by decide)]; exact m5, by rw [u 5 (by decide)]; exact m6, by rw [u 6 (by decide)]; exact m7, by rw [u 8 (by decide)]; exact m8, by rw [u 7 (by decide)]; exact m9, by rw [u 10 (by decide)]; exact m10, ?_, fun k s hk => ?_⟩
    · rw [up_s]
      have r0 := rk 0 s0 rfl
      rw [List.length_cons, show t.length + 1 - 1 - 0 = t.length by omega] at r0
      obtain ⟨a1, a2, a3, a4⟩ := r0
      have sh : ∀ i, i < 80 → g (0 + i) = E 9 (80 + 80 * t.length + i) := k1
      refine ⟨fun c hc => ?_, fun b hb => ?_, fun b hb => ?_, fun b hb j hj => ?_⟩
      · rw [sh c (by omega)]; exact a1 c hc
      · rw [Nat.add_assoc, sh (40 + b) (by omega), ← Nat.add_assoc]; exact a2 b hb
      · rw [Nat.add_assoc, sh (45 + b) (by omega), ← Nat.add_assoc]; exact a3 b hb
      · have := hw0.2.2.2 b
        have hj' : j < (s0.2.2 b).length := hj
        have b9 := a4 b hb j hj
        have s1 := sh (50 + 2 * (3 * b + j)) (by omega)
        have s2 := sh (50 + 2 * (3 * b + j) + 1) (by omega)
        rw [show 0 + 50 + 2 * (3 * b + j) = 0 + (50 + 2 * (3 * b + j)) by omega, s1, show 0 + (50 + 2 * (3 * b + j)) + 1 = 0 + (50 + 2 * (3 * b + j) + 1) by omega, s2, show 80 + 80 * t.length + (50 + 2 * (3 * b + j)) = 80 + 80 * t.length + 50 + 2 * (3 * b + j) by omega, show 80 + 80 * t.length + (50 + 2 * (3 * b + j) + 1) = 80 + 80 * t.length + 50 + 2 * (3 * b + j) + 1 by omega]
        exact b9
    · rw [up_s]
      have hk : t[k]? = some s := hk
      have hkl : k < t.length := (List.getElem?_eq_some_iff.mp hk).1
      have r0 := rk (k + 1) s (by rw [List.getElem?_cons_succ]; exact hk)
      rw [List.length_cons, show t.length + 1 - 1 - (k + 1) = t.length - 1 - k by omega] at r0
      exact rSl_to (hwh _ (List.mem_cons_of_mem _ (List.mem_of_getElem? hk))).2.2.2 r0 (fun i i1 _ => k2 i (by omega))
end
