abbrev sSe (S : SS) (sl : Sl) : SS := (S.1, kd S, ax S, up S, sc S, th S, tg S, nm S, od S, sl, (se S :: hi S).take 16)
theorem tk_len {α : Type} (x : α) (l : List α) : ((x :: l).take 16).length = if 16 < l.length + 1 then 16 else l.length + 1 := by
  rw [List.length_take, List.length_cons]
  split <;> omega
theorem tk_get {α : Type} {x : α} {l : List α} {k : Nat} {y : α} (h : ((x :: l).take 16)[k]? = some y) : k < 16 ∧ (x :: l)[k]? = some y := by
  rw [List.getElem?_take] at h
  split at h
  · rename_i q; exact ⟨q, h⟩
  · cases h
section
variable {S : SS} {J : Nat → Int32} {E : Nat → Nat → Int32} {I I' : Nat → Int32} {L L' : Nat → Int64} {A A' : Nat → Nat → Int32} {B B' : Nat → Nat → Int64}
theorem mod16 {n : Nat} (h : n < 100) : nI n - nI n / 16 * 16 = nI (n % 16) := by
  rw [show (16 : Int32) = nI 16 from rfl, n_div (by omega) (by omega), n_mul, n_sub (by omega)]
  congr 1
  omega
theorem c_note (hC : RC S I L A B) (hW : wf S) {a : Nat} (ha : a < nA S) {post : (Nat → Int32) → (Nat → Int64) → (Nat → Nat → Int32) → Prop}
    (h : ∀ I1 L1 A1, (∀ k, k ≠ 0 → k ≠ 4 → ¬ (20 ≤ k ∧ k < 36) → ¬ (42 ≤ k ∧ k < 58) → I1 k = I k) → (∀ k, ¬ (20 ≤ k ∧ k < 36) → L1 k = L k) → (∀ k, k ≠ 47 → ¬ (65 ≤ k ∧ k < 81) → ¬ (87 ≤ k ∧ k < 103) → A1 k = A k) → (∀ sl', agr S (se S) sl' a → RT (sSe S sl') I1 L1 A1) → post I1 L1 A1) : wX8_note I L A B (nI a) (9 + a + 5) post := by
  obtain ⟨hF, hD, hX, hT, hP⟩ := hC
  have hn := hW.1
  have hwl := hW.2.2.2.2.2.2.2.2.2.2.1
  have h16 := hW.2.2.2.2.2.2.2.2.2.2.2.2
  obtain ⟨g1, nx, g2, g3, g4⟩ := hT
  unfold wX8_note
  rw [g3]
  simp (disch := omega) only [zcmp, zari, z00, zm1, le_n, lt_n, eq_n, n_add, n_mul, n_c, n_in, true_and, and_true, if_true, if_false, bi_0, bi_1, ite_true, ite_false, Bool.true_eq_false, Bool.false_eq_true]
  rintro _ rfl
  have hs : cSl S (se S) a (9 + a + 5) I L (va_up A 47 (upd (A 47) nx (nI a))) := cSl_to hwl (fun _ _ => rfl) (hX.2.2.2.2 a (by omega)) rfl rfl rfl (up_n _ _ (by omega)) (up_n _ _ (by omega))
  refine c_copy (k0 := 20 + nx) (k1 := 9 + a + 5) (by omega) (by omega) (by omega) hwl.2.2.2 hs (fun I1 L1 A1 q1 q2 q3 q4 => ?_)
  refine ⟨by decide, ?_⟩
  rw [q2 0 (by omega) (by omega), g3, show nI nx + 1 = nI (nx + 1) from n_add nx 1, mod16 (by omega)]
  rintro _ rfl
  rw [up_n _ _ (by decide), q2 4 (by omega) (by omega), g1, show nI (hi S).length + 1 = nI ((hi S).length + 1) from n_add _ 1]
  have e16 : ((16 : Int32) < nI ((hi S).length + 1)) = (16 < (hi S).length + 1) := lt_n (by decide) (by omega)
  simp only [e16]
  rintro _ rfl _ rfl
  have iu : ∀ k, k ≠ 0 → k ≠ 4 → k ≠ 20 + nx → k ≠ 20 + nx + 22 → va_up (va_up I1 0 (nI ((nx + 1) % 16))) 4 (if 16 < (hi S).length + 1 then 16 else nI ((hi S).length + 1)) k = I k := fun k h1 h2 h3 h4 => by rw [up_n _ _ h2, up_n _ _ h1]; exact q2 k h3 h4
  have au : ∀ k, k ≠ 47 → k ≠ 20 + nx + 45 → k ≠ 20 + nx + 67 → A1 k = A k := fun k h1 h2 h3 => by rw [q4 k h2 h3, up_n _ _ h1]
  refine h _ _ _ (fun k h1 h2 h3 h4 => iu k h1 h2 (by omega) (by omega)) (fun k hk => q3 k (by omega)) (fun k h1 h2 h3 => au k h1 (by omega) (by omega)) (fun sl' hag => ?_)
  refine ⟨?_, (nx + 1) % 16, Nat.mod_lt _ (by decide), by rw [up_n _ _ (by decide), up_s], fun k sl hk => ?_⟩
  · rw [up_s]
    show _ = nI ((se S :: hi S).take 16).length
    rw [tk_len]
    split <;> rfl
  · have hk : ((se S :: hi S).take 16)[k]? = some sl := hk
    obtain ⟨k16, hk2⟩ := tk_get hk
    have cu : ∀ j sl a', j < 16 → j ≠ nx → wfl S sl → cSl S sl a' (20 + j) I L A → cSl (sSe S sl') sl a' (20 + j) (va_up (va_up I1 0 (nI ((nx + 1) % 16))) 4 (if 16 < (hi S).length + 1 then 16 else nI ((hi S).length + 1))) L1 A1 := fun j sl a' hj hne hw hc => cSl_to hw (fun _ _ => rfl) hc (iu _ (by omega) (by omega) (by omega) (by omega)) (iu _ (by omega) (by omega) (by omega) (by omega)) (q3 _ (by omega)) (au _ (by omega) (by omega) (by omega)) (au _ (by omega) (by omega) (by omega))
    cases k with
    | zero =>
      have : sl = se S := by rw [List.getElem?_cons_zero] at hk2; cases hk2; rfl
      subst this
      rw [show ((nx + 1) % 16 + 15 - 0) % 16 = nx by omega]
      refine ⟨a, ha, ?_, ?_, hag⟩
      · rw [q4 47 (by omega) (by omega), up_s, ud_s]
      · exact cSl_to hwl (fun _ _ => rfl) q1 (by rw [up_n _ _ (by omega), up_n _ _ (by omega)]) (by rw [up_n _ _ (by omega), up_n _ _ (by omega)]) rfl rfl rfl
    | succ k =>
      rw [List.getElem?_cons_succ] at hk2
      obtain ⟨a', b1, b2, b3, b4⟩ := g4 k sl hk2
      have hw : wfl S sl := hW.2.2.2.2.2.2.2.2.2.2.2.1 _ (List.mem_of_getElem? hk2)
      rw [show ((nx + 1) % 16 + 15 - (k + 1)) % 16 = (nx + 15 - k) % 16 by omega]
      refine ⟨a', b1, ?_, cu _ sl a' (by omega) (by omega) hw b3, ?_⟩
      · rw [q4 47 (by omega) (by omega), up_s, ud_n _ _ (by omega)]; exact b2
      · have ep : prv (sSe S sl') (k + 1) = prv S k := by
          show ((se S :: hi S).take 16).getD k sl' = prv S k
          rw [List.getD_eq_getElem?_getD, List.getElem?_take, if_pos (by omega)]
          cases k with
          | zero => rfl
          | succ k =>
            rw [List.getElem?_cons_succ]
            show ((hi S)[k]?).getD sl' = (hi S).getD k (se S)
            have hkl : k + 1 < (hi S).length := (List.getElem?_eq_some_iff.mp hk2).1
            rw [List.getD_eq_getElem?_getD, List.getElem?_eq_getElem (by omega)]
            rfl
        rw [ep]; exact b4
theorem m_keeps (hM : RM S J E) (hW : wf S) {post : (Nat → Int32) → (Nat → Nat → Int32) → Prop}
    (h : ∀ J' f, (∀ k, k ≠ 4 → J' k = J k) → J' 4 = nI ((se S :: hi S).take 16).length → (∀ i, i < 80 → f i = E 9 i) → (∀ k sl, ((se S :: hi S).take 16)[k]? = some sl → rSl sl (80 + 80 * (((se S :: hi S).take 16).length - 1 - k)) f) → post J' (va_up E 9 f)) : wX10_keeps J E post := by
  have hl16 := hW.2.2.2.2.2.2.2.2.2.2.2.2
  have hwl := hW.2.2.2.2.2.2.2.2.2.2.1
  have hwh := hW.2.2.2.2.2.2.2.2.2.2.2.1
  have r0 := hM.2.2.2.2.2.2.2.2.2.2.1
  have rk := hM.2.2.2.2.2.2.2.2.2.2.2
  have hlen := tk_len (se S) (hi S)
  unfold wX10_keeps
  refine jn_have (fun z => ∃ n f, z = (va_up J 4 (nI n), va_up E 9 f) ∧ n < 16 ∧ ((se S :: hi S).take 16).length = n + 1 ∧ (∀ i, i < 80 → f i = E 9 i) ∧ ∀ k sl, k < n → (hi S)[k]? = some sl → rSl sl (80 + 80 * (n - 1 - k)) f) ?_ ?_
  · rintro _ ⟨n, f, rfl, hn, hln, f1, f2⟩
    dsimp only
    rw [up_s, show (80 : Int32) + 80 * nI n = nI (80 + 80 * n) by rw [show (80 : Int32) = nI 80 from rfl, n_mul, n_add]]
    refine m_copies (b1 := 0) (E := va_up E 9 f) (by omega) (by omega) (by omega) (fun g g1 g2 => ?_)
    rintro _ rfl
    rw [va_uu, va_uu, show nI n + 1 = nI (n + 1) from n_add n 1]
    rw [up_s] at g1 g2
    refine h _ g (fun k hk => up_n _ _ hk) (by rw [up_s, hln]) (fun i hi => by rw [g2 i (by omega)]; exact f1 i hi) (fun k sl hk => ?_)
    obtain ⟨k16, hk2⟩ := tk_get hk
    rw [hln]
    cases k with
    | zero =>
      have : sl = se S := by rw [List.getElem?_cons_zero] at hk2; cases hk2; rfl
      subst this
      have r1 : rSl (se S) 0 f := rSl_to hwl.2.2.2 r0 (fun i _ hi => f1 i (by omega))
      rw [show n + 1 - 1 - 0 = n by omega]
      obtain ⟨a1, a2, a3, a4⟩ := r1
      refine ⟨fun c hc => ?_, fun a ha => ?_, fun a ha => ?_, fun a ha j hj => ?_⟩
      · rw [g1 c (by omega)]; exact a1 c hc
      · rw [show 80 + 80 * n + 40 + a = 80 + 80 * n + (40 + a) by omega, g1 (40 + a) (by omega), show 0 + (40 + a) = 0 + 40 + a by omega]; exact a2 a ha
      · rw [show 80 + 80 * n + 45 + a = 80 + 80 * n + (45 + a) by omega, g1 (45 + a) (by omega), show 0 + (45 + a) = 0 + 45 + a by omega]; exact a3 a ha
      · have := hwl.2.2.2 a
        have b := a4 a ha j hj
        rw [show 80 + 80 * n + 50 + 2 * (3 * a + j) = 80 + 80 * n + (50 + 2 * (3 * a + j)) by omega, g1 (50 + 2 * (3 * a + j)) (by omega), show 80 + 80 * n + (50 + 2 * (3 * a + j)) + 1 = 80 + 80 * n + (50 + 2 * (3 * a + j) + 1) by omega, g1 (50 + 2 * (3 * a + j) + 1) (by omega), show 0 + (50 + 2 * (3 * a + j)) = 0 + 50 + 2 * (3 * a + j) by omega, show 0 + (50 + 2 * (3 * a + j) + 1) = 0 + 50 + 2 * (3 * a + j) + 1 by omega]
        exact b
    | succ k =>
      rw [List.getElem?_cons_succ] at hk2
      have hkl : k < n := by
        have := (List.getElem?_eq_some_iff.mp hk).1
        omega
      rw [show n + 1 - 1 - (k + 1) = n - 1 - k by omega]
      exact rSl_to (hwh _ (List.mem_of_getElem? hk2)).2.2.2 (f2 k sl hkl hk2) (fun i i1 i2 => g2 i (by omega))
  · intro k hk
    rw [hM.1.2.2.2]
    have e16 : (nI (hi S).length = 16) = ((hi S).length = 16) := eq_n (by omega) (by decide)
    simp only [e16]
    by_cases e : (hi S).length = 16
    · rw [if_pos e]
      suffices H : ∃ m, lfix _ m ((fun v (f : Nat → Int32) => (nI v, va_up E 9 f)) 1 (E 9)) by
        dsimp only at H
        rw [va_self] at H
        exact H
      refine lfix_for 16 (fun v (f : Nat → Int32) => (nI v, va_up E 9 f)) (fun v f => 1 ≤ v ∧ (∀ i, i < 80 ∨ 80 * v ≤ i → f i = E 9 i) ∧ ∀ p i, p + 1 < v → i < 80 → f (80 + 80 * p + i) = E 9 (80 + 80 * (p + 1) + i)) 1 (E 9) (by decide) ⟨Nat.le_refl _, fun _ _ => rfl, fun p i hp => by omega⟩ ?_ ?_
      · rintro r v f hv ⟨g0, g1, g2⟩ hr
        dsimp only
        simp (disch := omega) only [zcmp, zari, z00, zm1, le_n, lt_n, eq_n, n_add, n_mul, n_c, n_in, true_and, and_true, if_true, if_false, bi_0, bi_1, ite_true, ite_false, Bool.true_eq_false, Bool.false_eq_true, show ¬ 16 ≤ v by omega]
        rw [zsub.1 v (by omega)]
        simp (disch := omega) only [zcmp, zari, z00, zm1, le_n, lt_n, eq_n, n_add, n_mul, n_c, n_in, true_and, and_true, if_true, if_false, bi_0, bi_1, ite_true, ite_false, Bool.true_eq_false, Bool.false_eq_true]
        refine m_copies (b1 := 80 + 80 * v) (b2 := 80 + 80 * (v - 1)) (E := va_up E 9 f) (by omega) (by omega) (by omega) (fun g q1 q2 => ?_)
        rintro _ rfl
        rw [va_uu]
        rw [up_s] at q1 q2
        refine hr g ⟨by omega, fun i hi => by rw [q2 i (by omega)]; exact g1 i (by omega), fun p i hp hi => ?_⟩
        by_cases e2 : p + 1 = v
        · rw [show 80 + 80 * p + i = 80 + 80 * (v - 1) + i by omega, q1 i hi, g1 _ (by omega), e2]
        · rw [q2 _ (by omega)]; exact g2 p i (by omega) hi
      · rintro r f ⟨g0, g1, g2⟩
        dsimp only
        rw [if_pos (show (16 : Int32) ≤ nI 16 by decide), e, show nI 16 - 1 = nI 15 by decide]
        rintro _ rfl
        refine hk _ ⟨15, f, rfl, by decide, by rw [hlen, e]; rfl, fun i hi => g1 i (Or.inl hi), fun j sl hj hs => ?_⟩
        have r1 := rk j sl hs
        have hw := (hwh _ (List.mem_of_getElem? hs)).2.2.2
        rw [e] at r1
        obtain ⟨a1, a2, a3, a4⟩ := r1
        have sh : ∀ i, i < 80 → f (80 + 80 * (15 - 1 - j) + i) = E 9 (80 + 80 * (16 - 1 - j) + i) := fun i hi => by
          rw [g2 (15 - 1 - j) i (by omega) hi, show 15 - 1 - j + 1 = 16 - 1 - j by omega]
        refine ⟨fun c hc => ?_, fun a ha => ?_, fun a ha => ?_, fun a ha i hi => ?_⟩
        · rw [sh c (by omega)]; exact a1 c hc
        · rw [Nat.add_assoc, sh (40 + a) (by omega), ← Nat.add_assoc]; exact a2 a ha
        · rw [Nat.add_assoc, sh (45 + a) (by omega), ← Nat.add_assoc]; exact a3 a ha
        · have := hw a
          have b := a4 a ha i hi
          have s1 := sh (50 + 2 * (3 * a + i)) (by omega)
          have s2 := sh (50 + 2 * (3 * a + i) + 1) (by omega)
          rw [show 80 + 80 * (15 - 1 - j) + 50 + 2 * (3 * a + i) = 80 + 80 * (15 - 1 - j) + (50 + 2 * (3 * a + i)) by omega, s1, show 80 + 80 * (15 - 1 - j) + (50 + 2 * (3 * a + i)) + 1 = 80 + 80 * (15 - 1 - j) + (50 + 2 * (3 * a + i) + 1) by omega, s2, show 80 + 80 * (16 - 1 - j) + (50 + 2 * (3 * a + i)) = 80 + 80 * (16 - 1 - j) + 50 + 2 * (3 * a + i) by omega, show 80 + 80 * (16 - 1 - j) + (50 + 2 * (3 * a + i) + 1) = 80 + 80 * (16 - 1 - j) + 50 + 2 * (3 * a + i) + 1 by omega]
          exact b
    · rw [if_neg e]
      have e4 : J = va_up J 4 (nI (hi S).length) := by rw [← hM.1.2.2.2, va_self]
      refine hk _ ⟨(hi S).length, E 9, by rw [← hM.1.2.2.2, va_self, va_self], by omega, by rw [hlen, if_neg (by omega)], fun _ _ => rfl, fun j sl hj hs => rk j sl hs⟩
end
