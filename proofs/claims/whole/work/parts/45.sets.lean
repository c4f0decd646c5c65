section
variable {S : SS} {J : Nat → Int32} {E : Nat → Nat → Int32} {I : Nat → Int32} {L : Nat → Int64} {A : Nat → Nat → Int32} {B : Nat → Nat → Int64}
def lef (S : SS) (c : Nat) : Bool := alb (fun k => !(up S k == some c)) (nC S)
theorem uI_eq (hW : wf S) {k c : Nat} (hk : k < nC S) (hc : c < 40) : (uI (up S k) = nI c) = (up S k = some c) := by
  have hn := hW.1
  cases e : up S k with
  | none => simp [uI, zm1.2 c (by omega)]
  | some p => have := up_ok hW hk e; simp [uI, eq_n (show p < 2 ^ 31 by omega) (show c < 2 ^ 31 by omega)]
theorem m_isLeaf (hM : RM S J E) (hW : wf S) {c : Nat} (hc : c < nC S) {post : Int32 → Prop} (h : post (bi (lef S c))) : wX10_isLeaf J E (nI c) post := by
  have hn := hW.1
  unfold wX10_isLeaf
  refine lfix_for (nC S) (fun k (y : Int32) => (nI k, y)) (fun k y => y = bi (alb (fun k => !(up S k == some c)) k)) 0 _ (Nat.zero_le _) rfl ?_ ?_
  · rintro r k _ hk rfl hr
    have hr := hr _ rfl
    rw [alb] at hr
    dsimp only
    simp (disch := omega) only [jn, zcmp, zari, z00, zm1, le_n, lt_n, eq_n, n_add, n_mul, n_c, n_in, true_and, and_true, if_true, if_false, bi_0, bi_1, ite_true, ite_false, Bool.true_eq_false, Bool.false_eq_true, hM.1.2.1, show ¬ nC S ≤ k by omega, hM.2.2.2.1 k hk, uI_eq hW hk (show c < 40 by omega)]
    generalize alb (fun k => !(up S k == some c)) k = q at hr ⊢
    by_cases e : up S k = some c <;> cases q <;> simp [e, bi] at hr ⊢ <;> exact hr
  · rintro r _ rfl
    dsimp only
    simp (disch := omega) only [zcmp, zari, z00, zm1, le_n, lt_n, eq_n, n_add, n_mul, n_c, n_in, true_and, and_true, if_true, if_false, bi_0, bi_1, ite_true, ite_false, Bool.true_eq_false, Bool.false_eq_true, hM.1.2.1, Nat.le_refl]
    exact ⟨bi_zb, h⟩
theorem chn_mem_up {up : Nat → Option Nat} {c : Nat} : ∀ (F : Nat) (x : Option Nat), c ∈ chn up F x → x = some c ∨ ∃ k, k ∈ chn up F x ∧ up k = some c
  | 0, x, h => by cases h
  | F + 1, none, h => by cases h
  | F + 1, some p, h => by
    rw [chn, List.mem_cons] at h
    rcases h with h | h
    · exact Or.inl (by rw [h])
    · rcases chn_mem_up F (up p) h with h1 | ⟨k, h1, h2⟩
      · exact Or.inr ⟨p, by simp [chn], h1⟩
      · exact Or.inr ⟨k, by rw [chn]; exact List.mem_cons_of_mem _ h1, h2⟩
theorem chn_lt (hW : wf S) : ∀ (F : Nat) (x : Option Nat), (∀ p, x = some p → p < nC S) → ∀ k, k ∈ chn (up S) F x → k < nC S
  | 0, x, _, k, h => by cases h
  | F + 1, none, _, k, h => by cases h
  | F + 1, some p, hx, k, h => by
    rw [chn, List.mem_cons] at h
    have hp := hx p rfl
    rcases h with h | h
    · rw [h]; exact hp
    · exact chn_lt hW F (up S p) (fun q hq => up_ok hW hp hq) k h
theorem lef_iff (hW : wf S) {c : Nat} (hc : c < nC S) : (∀ t, t < 64 → (decide (t < nC S) && !(t == c) && inb S t c) = false) ↔ lef S c = true := by
  have hn := hW.1
  unfold lef
  rw [alb_iff]
  constructor
  · intro h k hk
    cases e : (up S k == some c) with
    | false => rfl
    | true =>
      have e2 : up S k = some c := by simpa using e
      have h1 := h k (by omega)
      have hkc : ¬ k = c := by
        intro q
        have he := (hW.2.2.1 c hc).2.2.1
        rw [q] at e2
        have : ∀ n, ¬ ends (up S) n (some c) := by
          intro n
          induction n with
          | zero => exact fun q => q
          | succ n ih => rw [ends, e2]; exact ih
        exact this 6 he
      have : inb S k c = true := by simp [inb, chn, e2]
      simp [hk, bqf hkc, this] at h1
  · intro h t ht
    cases e : (decide (t < nC S) && !(t == c) && inb S t c) with
    | false => rfl
    | true =>
      exfalso
      simp only [Bool.and_eq_true, decide_eq_true_eq, Bool.not_eq_true', beq_eq_false_iff_ne, inb] at e
      rcases chn_mem_up 6 (some t) e.2 with h1 | ⟨k, h1, h2⟩
      · cases h1; exact e.1.2 rfl
      · have hk := chn_lt hW 6 (some t) (fun p hp => by cases hp; exact e.1.1) k h1
        have := h k hk
        simp [h2] at this
theorem or0L (x : Int64) : x ||| 0 = x := by simp
/-- the sets: empty ones, leaves -/
def stp (S : SS) (x w c : Nat) : Bool := ax S c == x && (if w = 0 then shw S c == 0 else lef S c)
theorem t_sets (hC : RC S I L A B) (hM : RM S J E) (hW : wf S) (x y : Int32) {K : Int64 → Int64 → (Nat → Int32) → Prop} (hK : ∀ r J', RM S J' E → K r r J') : wX9_sets I L A B x y (fun r => wX10_sets J E x y (fun r' J' => K r r' J')) := by
  obtain ⟨hF, hD, hX, hT, hP⟩ := hC
  have hn := hW.1
  have hM := RM_t hM 0
  unfold wX9_sets wX10_sets
  have m0 : (∀ {P : Int32 → Prop}, P 0 → wX10_isTree (va_up J 0 0) E x P) → ∀ I_1, I_1 = va_up J 0 0 → ∃ n, lfix (fun (r : (Int32 × Int64) → Prop) (v5, v3) => if (I_1 2) ≤ v5 then (K 0 v3 I_1) else (wX10_isTree I_1 E x (fun r21 => if r21 = 0 then (K 0 v3 I_1) else (vp_in v5 40 ∧ (jn (fun (t : Int32) => jn (fun (t_1 : Int64) => ∀ v3_1 : Int64, v3_1 = v3 ||| t_1 → ∀ v5_1 : Int32, v5_1 = v5 + 1 → r (v5_1, v3_1)) (fun k_1 => if t = 0 then (k_1 0) else (k_1 (1 <<< (v5.toInt64 &&& 63))))) (fun k => jn (fun (_ : Unit) => k 0) (fun k_2 => if (E 2 v5.toNatClampNeg) = x then (jn (fun (_ : Unit) => k 1) (fun k_3 => if y = 0 then (wX10_shownOf I_1 E v5 (fun r45 => if r45 = 0 then (k_3 ()) else (k_2 ()))) else (if y = 1 then (wX10_isLeaf I_1 E v5 (fun r62 => if r62 = 0 then (k_2 ()) else (k_3 ()))) else (k_2 ())))) else (k_2 ())))))))) n (0, 0) := by
    intro h
    rintro _ rfl
    refine ⟨1, ?_⟩
    unfold lfix
    dsimp only
    by_cases e : va_up J 0 0 2 ≤ 0
    · rw [if_pos e]; exact hK _ _ hM
    · rw [if_neg e]
      refine h ?_
      simp only [z00, if_true]
      exact hK _ _ hM
  rcases ix x (n := nA S) (by omega) with h | ⟨a, ha, rfl⟩
  · rw [c_isTree_o hX h]
    simp only [z00, if_true]
    exact m0 (fun {P} hp => by rw [m_isTree_o hM h]; exact hp)
  · rw [c_isTree hX hW ha]
    cases e2 : (kd S a == 2) with
    | true =>
      simp only [Bool.not_true, bi_f, z00, if_true]
      exact m0 (fun {P} hp => by rw [m_isTree hM hW ha, e2]; exact hp)
    | false =>
      simp only [Bool.not_false, bi_t, z00, if_false]
      have tr : ∀ {P : Int32 → Prop}, P 1 → wX10_isTree (va_up J 0 0) E (nI a) P := fun {P} h => by rw [m_isTree hM hW ha, e2]; exact h
      have mk : ∀ (p : Nat → Bool) {K2 : Int64 → (Nat → Int32) → Prop}, (∀ m J', bm m (fun c => decide (c < nC S) && p c) → RM S J' E → K2 m J') → (∀ k, k < nC S → ∀ k_3 k_2 : Prop, (p k = true → k_3) → (p k = false → k_2) → (if (E 2 (nI k).toNatClampNeg) = nI a then (if y = 0 then (wX10_shownOf (va_up J 0 0) E (nI k) (fun r45 => if r45 = 0 then k_3 else k_2)) else (if y = 1 then (wX10_isLeaf (va_up J 0 0) E (nI k) (fun r62 => if r62 = 0 then k_2 else k_3)) else k_2)) else k_2)) → ∀ I_1, I_1 = va_up J 0 0 → ∃ n, lfix (fun (r : (Int32 × Int64) → Prop) (v5, v3) => if (I_1 2) ≤ v5 then (K2 v3 I_1) else (wX10_isTree I_1 E (nI a) (fun r21 => if r21 = 0 then (K2 v3 I_1) else (vp_in v5 40 ∧ (jn (fun (t : Int32) => jn (fun (t_1 : Int64) => ∀ v3_1 : Int64, v3_1 = v3 ||| t_1 → ∀ v5_1 : Int32, v5_1 = v5 + 1 → r (v5_1, v3_1)) (fun k_1 => if t = 0 then (k_1 0) else (k_1 (1 <<< (v5.toInt64 &&& 63))))) (fun k => jn (fun (_ : Unit) => k 0) (fun k_2 => if (E 2 v5.toNatClampNeg) = nI a then (jn (fun (_ : Unit) => k 1) (fun k_3 => if y = 0 then (wX10_shownOf I_1 E v5 (fun r45 => if r45 = 0 then (k_3 ()) else (k_2 ()))) else (if y = 1 then (wX10_isLeaf I_1 E v5 (fun r62 => if r62 = 0 then (k_2 ()) else (k_3 ()))) else (k_2 ())))) else (k_2 ())))))))) n (0, 0) := by
        intro p K2 hK2 hp
        rintro _ rfl
        refine lfix_for (nC S) (fun k (y : Int64) => (nI k, y)) (fun k y => bm y (fun c => decide (c < k) && p c)) 0 _ (Nat.zero_le _) (bm_0 (fun i _ => by simp)) ?_ ?_
        · intro r k v hk hv hr
          dsimp only
          rw [hM.1.2.1, if_neg (nI_ge hk (by omega))]
          refine tr ?_
          simp only [z00, if_false]
          refine ⟨vp_in_nI (by omega) (by omega), ?_⟩
          have kt : p k = true → r (nI (k + 1), v ||| bt1 k) := fun e => hr _ (bm_to (bm_or hv (bm_bit (show k < 64 by omega))) (fun i _ => by
            by_cases q : i = k
            · subst q; simp [e]
            · by_cases q2 : i < k
              · simp [q2, bqf q, show i < k + 1 by omega]
              · simp [q2, bqf q, show ¬ i < k + 1 by omega]))
          have kf : p k = false → r (nI (k + 1), v) := fun e => hr _ (bm_to hv (fun i _ => by
            by_cases q : i = k
            · subst q; simp [e]
            · by_cases q2 : i < k
              · simp [q2, show i < k + 1 by omega]
              · simp [q2, show ¬ i < k + 1 by omega]))
          refine jn_have (fun t => t = bi (p k)) ?_ ?_
          · rintro _ rfl
            simp only [jn, bi_0]
            cases e : p k with
            | false =>
              simp only [if_true, or0L]
              rintro _ rfl _ rfl
              rw [n_s]
              exact kf e
            | true =>
              simp only [Bool.true_eq_false, if_false]
              rintro _ rfl _ rfl
              rw [n_s]
              exact kt e
          · intro k1 h1
            exact hp k hk (k1 1) (k1 0) (fun e => h1 _ (by rw [e]; rfl)) (fun e => h1 _ (by rw [e]; rfl))
        · intro r v hv
          dsimp only
          rw [hM.1.2.1, if_pos (Int32.le_refl _)]
          exact hK2 _ _ hv hM
      have mbad : (¬ y = 0 ∧ ¬ y = 1) → ∀ {K2 : Int64 → (Nat → Int32) → Prop}, (∀ J', RM S J' E → K2 0 J') → _ := fun hy {K2} h2 => mk (fun _ => false) (K2 := K2) (fun m J' hm hJ => by
        have : m = 0 := bm_uq hm (bm_0 (fun i _ => by simp))
        rw [this]; exact h2 J' hJ) (fun k hk k3 k2 _ h9 => by
        simp only [hy.1, hy.2, if_false, ite_self]
        exact h9 rfl)
      by_cases h0 : y < 0
      · simp only [h0, if_true]
        exact mbad ⟨fun q => by rw [q] at h0; exact absurd h0 (by decide), fun q => by rw [q] at h0; exact absurd h0 (by decide)⟩ (fun J' h => hK _ _ h)
      by_cases h1 : y ≤ 1
      · simp only [h0, h1, if_true, if_false]
        obtain ⟨w, hw1, rfl⟩ := nI_of2 (n := 1) (by decide) h0 h1
        refine c_audience hD hX hP hW ha (fun m hm => ?_)
        refine lfix_for (nC S) (fun k (y : Int64) => (nI k, y)) (fun k y => bm y (fun c => decide (c < k) && stp S a w c)) 0 _ (Nat.zero_le _) (bm_0 (fun i _ => by simp)) ?_ ?_
        · intro r k v hk hv hr
          have hak := (hW.2.2.1 k hk).1
          have kt : stp S a w k = true → r (nI (k + 1), v ||| bt1 k) := fun e => hr _ (bm_to (bm_or hv (bm_bit (show k < 64 by omega))) (fun i _ => by
            by_cases q : i = k
            · subst q; simp [e]
            · by_cases q2 : i < k
              · simp [q2, bqf q, show i < k + 1 by omega]
              · simp [q2, bqf q, show ¬ i < k + 1 by omega]))
          have kf : stp S a w k = false → r (nI (k + 1), v) := fun e => hr _ (bm_to hv (fun i _ => by
            by_cases q : i = k
            · subst q; simp [e]
            · by_cases q2 : i < k
              · simp [q2, show i < k + 1 by omega]
              · simp [q2, show ¬ i < k + 1 by omega]))
          dsimp only
          simp (disch := omega) only [jn, zcmp, zari, z00, zm1, le_n, lt_n, eq_n, n_add, n_mul, n_c, n_in, true_and, and_true, if_true, if_false, bi_0, bi_1, ite_true, ite_false, Bool.true_eq_false, Bool.false_eq_true, hF.1, show ¬ nC S ≤ k by omega, hF.2.1 k hk, lc_0, bs_bit]
          by_cases e : ax S k = a
          · simp only [e, if_true]
            by_cases w0 : w = 0
            · simp only [w0, if_true]
              rw [w0] at kt kf
              have ez : (m &&& B 40 k = 0) = (shw S k = 0) := by
                rw [bm_eq0 (bm_and hm (hF.2.2.2.2.2.1 k hk))]
                unfold shw
                rw [fb_ct_zero]
                apply propext
                constructor
                · intro h i hi
                  have := h i (by omega)
                  unfold cou; rw [e]; exact this
                · intro h i hi
                  by_cases q : i < nD S
                  · have := h i q
                    unfold cou at this; rw [e] at this; exact this
                  · rw [nea_out hW _ _ i (by omega)]; rfl
              simp only [ez]
              by_cases q : shw S k = 0
              · simp only [q, if_true]
                rintro _ rfl _ rfl
                exact kt (by simp [stp, e, q])
              · simp only [q, if_false]
                rintro _ rfl
                exact kf (by simp [stp, e, q])
            · simp only [w0, if_false]
              have ez : (B 38 k = 0) = (lef S k = true) := by
                rw [bm_eq0 (hF.2.2.2.1 k hk)]
                exact propext (lef_iff hW hk)
              simp only [ez]
              cases q : lef S k with
              | true =>
                simp only [if_true]
                rintro _ rfl _ rfl
                exact kt (by simp [stp, e, q, w0])
              | false =>
                simp only [Bool.false_eq_true, if_false]
                rintro _ rfl
                exact kf (by simp [stp, e, q, w0])
          · simp only [e, if_false]
            rintro _ rfl
            exact kf (by simp [stp, e])
        · intro r v hv
          dsimp only
          rw [hF.1, if_pos (Int32.le_refl _)]
          refine mk (stp S a w) (fun m2 J' hm2 hJ => ?_) (fun k hk k3 k2 h3 h2 => ?_)
          · rw [bm_uq hm2 hv]; exact hK _ _ hJ
          · have hak := (hW.2.2.1 k hk).1
            have hsh : shw S k < 2 ^ 31 := Nat.lt_of_le_of_lt (fb_ct_le _ _) (by omega)
            simp (disch := omega) only [zcmp, zari, z00, zm1, le_n, lt_n, eq_n, n_add, n_mul, n_c, n_in, true_and, and_true, if_true, if_false, bi_0, bi_1, ite_true, ite_false, Bool.true_eq_false, Bool.false_eq_true, hM.2.2.1 k hk]
            by_cases e : ax S k = a
            · simp only [e, if_true]
              by_cases w0 : w = 0
              · simp only [w0, if_true]
                rw [w0] at h3 h2
                refine m_shownOf hM hW hk ?_
                simp (disch := omega) only [zcmp, zari, z00, zm1, le_n, lt_n, eq_n, n_add, n_mul, n_c, n_in, true_and, and_true, if_true, if_false, bi_0, bi_1, ite_true, ite_false, Bool.true_eq_false, Bool.false_eq_true]
                by_cases q : shw S k = 0
                · simp only [q, if_true]; exact h3 (by simp [stp, e, q])
                · simp only [q, if_false]; exact h2 (by simp [stp, e, q])
              · simp only [eq_false w0, if_false, eq_true (show w = 1 by omega), if_true]
                refine m_isLeaf hM hW hk ?_
                simp (disch := omega) only [zcmp, zari, z00, zm1, le_n, lt_n, eq_n, n_add, n_mul, n_c, n_in, true_and, and_true, if_true, if_false, bi_0, bi_1, ite_true, ite_false, Bool.true_eq_false, Bool.false_eq_true]
                cases q : lef S k with
                | true => simp only [Bool.true_eq_false, if_false]; exact h3 (by simp [stp, e, q, w0])
                | false => simp only [if_true]; exact h2 (by simp [stp, e, q, w0])
            · simp only [e, if_false]
              exact h2 (by simp [stp, e])
      · simp only [h0, h1, if_false]
        exact mbad ⟨fun q => h1 (by rw [q]; decide), fun q => h1 (by rw [q]; decide)⟩ (fun J' h => hK _ _ h)
end
