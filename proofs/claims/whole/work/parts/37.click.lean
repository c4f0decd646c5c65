section
variable {S : SS} {J : Nat → Int32} {E : Nat → Nat → Int32} {I : Nat → Int32} {L : Nat → Int64} {A : Nat → Nat → Int32} {B : Nat → Nat → Int64}
theorem va_self {α : Type} (f : Nat → α) (k : Nat) : va_up f k (f k) = f := funext fun j => by
  by_cases h : j = k
  · subst h; rw [up_s]
  · rw [up_n _ _ h]
theorem va_uu {α : Type} (f : Nat → α) (k : Nat) (v w : α) : va_up (va_up f k v) k w = va_up f k w := funext fun j => by
  by_cases h : j = k
  · subst h; rw [up_s, up_s]
  · rw [up_n _ _ h, up_n _ _ h, up_n _ _ h]
theorem m_copies {b1 b2 : Nat} (h1 : b1 + 80 ≤ 1440) (h2 : b2 + 80 ≤ 1440) (hd : b1 + 80 ≤ b2 ∨ b2 + 80 ≤ b1) {post : (Nat → Nat → Int32) → Prop} (h : ∀ f, (∀ i, i < 80 → f (b2 + i) = E 9 (b1 + i)) → (∀ i, i < b2 ∨ b2 + 80 ≤ i → f i = E 9 i) → post (va_up E 9 f)) : wX10_copies J E (nI b1) (nI b2) post := by
  unfold wX10_copies
  refine lfix_for 80 (fun k (f : Nat → Int32) => (nI k, va_up E 9 f)) (fun k f => (∀ i, i < k → f (b2 + i) = E 9 (b1 + i)) ∧ ∀ i, i < b2 ∨ b2 + k ≤ i → f i = E 9 i) 0 (E 9) (Nat.zero_le _) ⟨fun i hi => absurd hi (Nat.not_lt_zero i), fun _ _ => rfl⟩ ?_ ?_ |> fun q => by rw [va_self] at q; exact q
  · rintro r k f hk ⟨g1, g2⟩ hr
    dsimp only
    simp (disch := omega) only [zcmp, zari, z00, zm1, le_n, lt_n, eq_n, n_add, n_mul, n_c, n_in, true_and, and_true, if_true, if_false, bi_0, bi_1, ite_true, ite_false, Bool.true_eq_false, Bool.false_eq_true, show ¬ 80 ≤ k by omega, up_s, va_uu]
    rintro _ rfl _ rfl
    refine hr _ ⟨fun i hi => ?_, fun i hi => ?_⟩
    · by_cases e : i = k
      · subst e; rw [ud_s]; exact g2 _ (by omega)
      · rw [ud_n _ _ (by omega)]; exact g1 i (by omega)
    · rw [ud_n _ _ (by omega)]; exact g2 i (by omega)
  · rintro r f ⟨g1, g2⟩
    dsimp only
    simp (disch := omega) only [zcmp, zari, z00, zm1, le_n, lt_n, eq_n, n_add, n_mul, n_c, n_in, true_and, and_true, if_true, if_false, bi_0, bi_1, ite_true, ite_false, Bool.true_eq_false, Bool.false_eq_true, Nat.le_refl]
    exact h f g1 g2
/-- nothing selected on an axis -/
def opS (S : SS) (sl : Sl) (x : Nat) : Sl := (fun c => !(ax S c == x) && sl.1 c, fun a => !(a == x) && sl.2.1 a, fun a => if a = x then [] else sl.2.2 a)
/-- a category selected, or not -/
def seS (sl : Sl) (c : Nat) (b : Bool) : Sl := (fun i => if i = c then b else sl.1 i, sl.2.1, sl.2.2)
theorem opS_wfl {sl : Sl} (h : wfl S sl) (x : Nat) : wfl S (opS S sl x) := by
  refine ⟨fun c hc => ?_, fun a ha => ?_, fun a ha => ?_, fun a => ?_⟩
  · simp only [opS, Bool.and_eq_true] at hc; exact h.1 c hc.2
  · simp only [opS, Bool.and_eq_true] at ha; exact h.2.1 a ha.2
  · by_cases e : a = x
    · simp [opS, e] at ha
    · simp only [opS, e, if_false] at ha; exact h.2.2.1 a ha
  · by_cases e : a = x
    · simp [opS, e]
    · simp only [opS, e, if_false]; exact h.2.2.2 a
theorem seS_wfl {sl : Sl} (h : wfl S sl) {c : Nat} (hc : c < nC S) (b : Bool) : wfl S (seS sl c b) := by
  refine ⟨fun i hi => ?_, h.2.1, h.2.2.1, h.2.2.2⟩
  by_cases e : i = c
  · omega
  · simp only [seS, e, if_false] at hi; exact h.1 i hi
theorem rg_op {sl : Sl} {x a j : Nat} (h : a ≠ x) : rg (opS S sl x) a j = rg sl a j := by simp [rg, opS, h]
theorem m_opens (hM2 : ∀ c, c < nC S → E 2 c = nI (ax S c)) (hJ : J 2 = nI (nC S)) (hW : wf S) {sl : Sl} {b x : Nat} (hs : rSl sl b (E 9)) (hl : wfl S sl) (hb : b + 80 ≤ 1440) (hx : x < nA S) {post : (Nat → Nat → Int32) → Prop} (h : ∀ f, rSl (opS S sl x) b f → (∀ i, i < b ∨ b + 80 ≤ i → f i = E 9 i) → post (va_up E 9 f)) : wX10_opens J E (nI b) (nI x) post := by
  have hn := hW.1
  unfold wX10_opens
  refine lfix_for (nC S) (fun k (f : Nat → Int32) => (nI k, va_up E 9 f)) (fun k f => (∀ c, c < k → f (b + c) = bi (!(ax S c == x) && sl.1 c)) ∧ ∀ i, i < b ∨ b + k ≤ i → f i = E 9 i) 0 (E 9) (Nat.zero_le _) ⟨fun i hi => absurd hi (Nat.not_lt_zero i), fun _ _ => rfl⟩ ?_ ?_ |> fun q => by rw [va_self] at q; exact q
  · rintro r k f hk ⟨g1, g2⟩ hr
    have ha := (hW.2.2.1 k hk).1
    dsimp only
    simp (disch := omega) only [zcmp, zari, z00, zm1, le_n, lt_n, eq_n, n_add, n_mul, n_c, n_in, true_and, and_true, if_true, if_false, bi_0, bi_1, ite_true, ite_false, Bool.true_eq_false, Bool.false_eq_true, hJ, show ¬ nC S ≤ k by omega, up_s, va_uu, up_n E (k := 9) (j := 2) f (by decide), hM2 k hk]
    refine jn_have (fun t => t = bi (!(ax S k == x) && sl.1 k)) ?_ ?_
    · rintro _ rfl _ rfl _ rfl
      refine hr _ ⟨fun i hi => ?_, fun i hi => ?_⟩
      · by_cases e : i = k
        · subst e; rw [ud_s]
        · rw [ud_n _ _ (by omega)]; exact g1 i (by omega)
      · rw [ud_n _ _ (by omega)]; exact g2 i (by omega)
    · intro k1 h1
      have e1 := g2 (b + k) (by omega)
      rw [hs.1 k (by omega)] at e1
      by_cases e : ax S k = x
      · simp only [e, if_true]
        exact h1 _ (by simp [e, bi])
      · simp only [e, if_false, e1]
        exact h1 _ (by simp [bqf e])
  · rintro r f ⟨g1, g2⟩
    dsimp only
    simp (disch := omega) only [zcmp, zari, z00, zm1, le_n, lt_n, eq_n, n_add, n_mul, n_c, n_in, true_and, and_true, if_true, if_false, bi_0, bi_1, ite_true, ite_false, Bool.true_eq_false, Bool.false_eq_true, hJ, Nat.le_refl, up_s, va_uu]
    rintro _ rfl _ rfl
    rw [up_s, va_uu]
    refine h _ ⟨fun c hc => ?_, fun a ha => ?_, fun a ha => ?_, fun a ha j hj => ?_⟩ (fun i hi => ?_)
    · rw [ud_n _ _ (by omega), ud_n _ _ (by omega)]
      by_cases e : c < nC S
      · exact g1 c e
      · rw [g2 _ (by omega), hs.1 c hc]
        have : sl.1 c = false := by
          cases e2 : sl.1 c with
          | false => rfl
          | true => exact absurd (hl.1 c e2) e
        simp [opS, this]
    · rw [ud_n _ _ (by omega)]
      by_cases e : a = x
      · subst e; rw [ud_s]; simp [opS, bi]
      · rw [ud_n _ _ (by omega), g2 _ (by omega), hs.2.1 a ha]
        simp [opS, bqf e]
    · by_cases e : a = x
      · subst e; rw [ud_s]; simp [opS, nI_0]
      · rw [ud_n _ _ (by omega), ud_n _ _ (by omega), g2 _ (by omega), hs.2.2.1 a ha]
        simp [opS, e]
    · by_cases e : a = x
      · simp [opS, e] at hj
      · simp only [opS, e, if_false] at hj
        have := hs.2.2.2 a ha j hj
        rw [ud_n _ _ (by omega), ud_n _ _ (by omega), ud_n _ _ (by omega), ud_n _ _ (by omega), g2 _ (by omega), g2 _ (by omega), rg_op e]
        exact this
    · rw [ud_n _ _ (by omega), ud_n _ _ (by omega)]
      exact g2 i (by omega)
theorem opn_cong {sl sl' : Sl} {x : Nat} (h1 : sl.2.1 x = sl'.2.1 x) (h2 : sl.2.2 x = sl'.2.2 x) (h3 : ∀ c, c < nC S → ax S c = x → sl.1 c = sl'.1 c) : opn S sl x = opn S sl' x := by
  unfold opn
  rw [h1, h2]
  congr 1
  refine alb_cong (fun c hc => ?_)
  by_cases e : ax S c = x
  · rw [h3 c hc e]
  · simp [bqf e]
theorem pas_cong {sl sl' : Sl} {d x : Nat} (h1 : sl.2.1 x = sl'.2.1 x) (h2 : sl.2.2 x = sl'.2.2 x) (h3 : ∀ c, c < nC S → ax S c = x → sl.1 c = sl'.1 c) : pas S sl d x = pas S sl' d x := by
  unfold pas
  rw [opn_cong h1 h2 h3, h1]
  have e1 : alb (fun c => !(ax S c == x && sl.1 c) || has S d c) (nC S) = alb (fun c => !(ax S c == x && sl'.1 c) || has S d c) (nC S) := alb_cong (fun c hc => by
    by_cases e : ax S c = x
    · rw [h3 c hc e]
    · simp [bqf e])
  have e2 : exb (fun c => ax S c == x && sl.1 c && has S d c) (nC S) = exb (fun c => ax S c == x && sl'.1 c && has S d c) (nC S) := exb_cong (fun c hc => by
    by_cases e : ax S c = x
    · rw [h3 c hc e]
    · simp [bqf e])
  have e3 : rgd S sl d x = rgd S sl' d x := by
    unfold rgd
    cases nm S d x with
    | none => rfl
    | some v => simp only []; unfold inr rg; rw [h2]
  rw [e1, e2, e3]
theorem opS_opn (sl : Sl) (x : Nat) : opn S (opS S sl x) x = true := by
  unfold opn
  have : alb (fun c => !(ax S c == x) || !(opS S sl x).1 c) (nC S) = true := alb_iff.mpr (fun c _ => by
    by_cases e : ax S c = x <;> simp [opS, e])
  rw [this]
  simp [opS]
theorem opS_pas (sl : Sl) (d x y : Nat) : pas S (opS S sl x) d y = (y == x || pas S sl d y) := by
  by_cases e : y = x
  · subst e
    simp [pas, opS_opn]
  · have : (y == x) = false := by simp [e]
    rw [this, Bool.false_or]
    refine pas_cong ?_ ?_ (fun c _ hc => ?_)
    · simp [opS, e]
    · simp [opS, e]
    · have : ¬ ax S c = x := by omega
      simp [opS, this]
theorem t_lift (hC : RC S I L A B) (hM : RM S J E) (hW : wf S) (x y : Int32) {K : Int32 → Int32 → (Nat → Int32) → (Nat → Nat → Int32) → Prop} (hK : ∀ r J' E', RM S J' E' → K r r J' E') : wX9_lift I L A B x y (fun r => wX10_lift J E x y (fun r' J' E' => K r r' J' E')) := by
  obtain ⟨hF, hD, hX, hT, hP⟩ := hC
  have hn := hW.1
  have hM := RM_t hM 0
  have hw := hW.2.2.2.2.2.2.2.2.2.2.1
  unfold wX9_lift wX10_lift
  rcases ix x (n := nA S) (by omega) with h | ⟨a, ha, rfl⟩
  · rw [c_knA_o hX h]
    simp only [if_true]
    rintro _ rfl
    rw [m_isAxis_o hM h]
    simp only [if_true]
    exact hK _ _ _ hM
  · rw [c_knA hX hW ha]
    simp (disch := omega) only [zcmp, zari, z00, zm1, le_n, lt_n, eq_n, n_add, n_mul, n_c, n_in, true_and, and_true, if_true, if_false, bi_0, bi_1, ite_true, ite_false, Bool.true_eq_false, Bool.false_eq_true]
    rcases ix y (n := nA S) (by omega) with h | ⟨b, hb, rfl⟩
    · rw [c_knA_o hX h]
      simp only [if_true]
      rintro _ rfl
      rw [m_isAxis hM hW ha]
      simp (disch := omega) only [zcmp, zari, z00, zm1, le_n, lt_n, eq_n, n_add, n_mul, n_c, n_in, true_and, and_true, if_true, if_false, bi_0, bi_1, ite_true, ite_false, Bool.true_eq_false, Bool.false_eq_true]
      rw [m_isAxis_o hM h]
      simp only [if_true]
      exact hK _ _ _ hM
    · rw [c_knA hX hW hb]
      simp (disch := omega) only [zcmp, zari, z00, zm1, le_n, lt_n, eq_n, n_add, n_mul, n_c, n_in, true_and, and_true, if_true, if_false, bi_0, bi_1, ite_true, ite_false, Bool.true_eq_false, Bool.false_eq_true]
      rw [← enc_in (show a < 5 by omega), ← enc_in (show b < 5 by omega)]
      refine c_lifted hD hX hP hW a b (fun m hm => ?_)
      rw [enc_in (show a < 5 by omega), enc_in (show b < 5 by omega)]
      rw [bm_ct hm (n := nD S) (fun i hi => by
        cases e : th S i with
        | false => rfl
        | true => exact absurd (hW.2.2.2.2.1 i e) (by omega)) (by omega)]
      rintro _ rfl
      rw [m_isAxis hM hW ha]
      simp (disch := omega) only [zcmp, zari, z00, zm1, le_n, lt_n, eq_n, n_add, n_mul, n_c, n_in, true_and, and_true, if_true, if_false, bi_0, bi_1, ite_true, ite_false, Bool.true_eq_false, Bool.false_eq_true]
      rw [m_isAxis hM hW hb]
      simp (disch := omega) only [zcmp, zari, z00, zm1, le_n, lt_n, eq_n, n_add, n_mul, n_c, n_in, true_and, and_true, if_true, if_false, bi_0, bi_1, ite_true, ite_false, Bool.true_eq_false, Bool.false_eq_true]
      refine m_copies (b1 := 0) (b2 := 1360) (by omega) (by omega) (by omega) (fun f g1 g2 => ?_)
      have hs0 : rSl (se S) 1360 f := by
        have q := hM.2.2.2.2.2.2.2.2.2.2.1
        refine ⟨fun c hc => ?_, fun x hx => ?_, fun x hx => ?_, fun x hx j hj => ?_⟩
        · rw [g1 c (by omega)]; exact q.1 c hc
        · rw [Nat.add_assoc, g1 _ (by omega), ← Nat.add_assoc]; exact q.2.1 x hx
        · rw [Nat.add_assoc, g1 _ (by omega), ← Nat.add_assoc]; exact q.2.2.1 x hx
        · have hj3 := hw.2.2.2 x
          have q2 := q.2.2.2 x hx j hj
          rw [show 1360 + 50 + 2 * (3 * x + j) + 1 = 1360 + (50 + 2 * (3 * x + j) + 1) by omega, show 1360 + 50 + 2 * (3 * x + j) = 1360 + (50 + 2 * (3 * x + j)) by omega, g1 _ (by omega), g1 _ (by omega)]
          simpa using q2
      have hM1 : RM S (va_up J 0 0) (va_up E 9 f) := RM_9 hW hM (fun i hi => g2 i (by omega))
      refine m_opens (E := va_up E 9 f) (b := 1360) hM1.2.2.1 hM1.1.2.1 hW (by rw [up_s]; exact hs0) hw (by omega) ha (fun f2 h2 k2 => ?_)
      rw [va_uu]
      rw [up_s] at k2
      have hM2 : RM S (va_up J 0 0) (va_up E 9 f2) := RM_9 hW hM (fun i hi => by rw [k2 i (by omega), g2 i (by omega)])
      refine m_opens (E := va_up E 9 f2) (b := 1360) hM2.2.2.1 hM2.1.2.1 hW (by rw [up_s]; exact h2) (opS_wfl hw a) (by omega) hb (fun f3 h3 k3 => ?_)
      rw [va_uu]
      rw [up_s] at k3
      have hM3 : RM S (va_up J 0 0) (va_up E 9 f3) := RM_9 hW hM (fun i hi => by rw [k3 i (by omega), k2 i (by omega), g2 i (by omega)])
      have hw3 := opS_wfl (opS_wfl hw a) b
      refine m_hitsBy (b := 1360) hM3 hW (by rw [up_s]; exact h3) hw3.2.2.2 (by omega) ?_
      have e : fb_ct (fun d => nea S (opS S (opS S (se S) a) b) d 9) (nD S) = fb_ct (fun d => th S d && alb (fun x => x == a || x == b || pas S (se S) d x) (nA S)) (nD S) := fb_ct_cong (fun d _ => by
        unfold nea
        congr 1
        refine alb_cong (fun k hk => ?_)
        rw [opS_pas, opS_pas, show (k == 9) = false by simp; omega]
        cases (k == a) <;> cases (k == b) <;> simp)
      rw [e]
      exact hK _ _ _ hM3
end
