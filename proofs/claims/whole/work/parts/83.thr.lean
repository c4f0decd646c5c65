theorem ff_some {g : Nat → Bool} : ∀ {n j : Nat}, ff g n = some j → j < n ∧ g j = true ∧ ∀ i, i < j → g i = false := by
  intro n
  induction n with
  | zero => intro j h; cases h
  | succ n ih =>
    intro j h
    rw [ff] at h
    cases e : ff g n with
    | some j' =>
      rw [e] at h
      cases h
      obtain ⟨h1, h2, h3⟩ := ih e
      exact ⟨by omega, h2, h3⟩
    | none =>
      rw [e] at h
      dsimp only at h
      cases e2 : g n with
      | false => rw [e2] at h; cases h
      | true =>
        rw [e2] at h
        have hj : n = j := by simpa using h
        subst hj
        refine ⟨Nat.lt_succ_self _, e2, fun i hi => ?_⟩
        cases e3 : g i with
        | false => rfl
        | true =>
          exfalso
          have : ∀ m, i < m → m ≤ n → ∃ k, ff g m = some k := by
            intro m
            induction m with
            | zero => intro q; omega
            | succ m ihm =>
              intro q1 q2
              rw [ff]
              cases e4 : ff g m with
              | some k => exact ⟨k, rfl⟩
              | none =>
                dsimp only
                by_cases q3 : i = m
                · rw [← q3, e3]; exact ⟨_, rfl⟩
                · obtain ⟨k, hk⟩ := ihm (by omega) (by omega)
                  rw [e4] at hk; cases hk
          obtain ⟨k, hk⟩ := this n hi (Nat.le_refl _)
          rw [e] at hk; cases hk
theorem bc_iff {s : Nat → Nat} {n k : Nat} (hn : n ≤ 40) (hk : 1 ≤ k) : bc s n k ≤ k ∧ ∀ i, (bf s n k i < n ↔ i < bc s n k) := by
  unfold bc
  cases e : ff (fun i => decide (n ≤ bf s n k i)) (k + 1) with
  | none =>
    exfalso
    have h1 : ff (fun i => decide (n ≤ bf s n k i)) k = none := by
      cases e2 : ff (fun i => decide (n ≤ bf s n k i)) k with
      | none => rfl
      | some j => rw [ff_mono e2 (k + 1) (by omega)] at e; cases e
    rw [ff, h1, bf_k hk] at e
    simp at e
  | some j =>
    obtain ⟨h1, h2, h3⟩ := ff_some e
    refine ⟨by show j ≤ k; omega, fun i => ?_⟩
    show bf s n k i < n ↔ i < j
    have h4 : bf s n k j = n := Nat.le_antisymm (bf_le (by omega) j) (by simpa using h2)
    constructor
    · intro h
      rcases Nat.lt_or_ge i j with q | q
      · exact q
      · have := bf_full (s := s) (k := k) (by omega) h4 i q
        omega
    · intro h
      have := h3 i h
      simpa using this
theorem srt_ins {s : Nat → Nat} {n u : Nat} (h : srt s n) (hu : u < 1999) : ∃ s', srt s' (n + 1) ∧ ∀ v, fb_ct (fun i => s' i == v) (n + 1) = fb_ct (fun i => s i == v) n + if u == v then 1 else 0 := by
  have hp := cum_le s n u
  have lo : ∀ i, i < n → i < cum s n u → s i < u := fun i h1 h2 => (cum_iff h h1).mpr h2
  have hi : ∀ i, i < n → cum s n u ≤ i → u ≤ s i := fun i h1 h2 => by
    have := (cum_iff (v := u) h h1)
    omega
  refine ⟨inx s (cum s n u) u, ⟨fun i h1 => ?_, fun i j hij hj => ?_⟩, fun v => inx_ct hp v⟩
  · unfold inx
    by_cases c1 : i < cum s n u
    · rw [if_pos c1]; exact h.1 i (by omega)
    · rw [if_neg c1]
      by_cases c2 : i = cum s n u
      · rw [if_pos c2]; exact hu
      · rw [if_neg c2]; exact h.1 (i - 1) (by omega)
  · unfold inx
    by_cases c1 : i < cum s n u
    · rw [if_pos c1]
      by_cases c2 : j < cum s n u
      · rw [if_pos c2]; exact h.2 i j hij (by omega)
      · rw [if_neg c2]
        by_cases c3 : j = cum s n u
        · rw [if_pos c3]; exact Nat.le_of_lt (lo i (by omega) c1)
        · rw [if_neg c3]; exact h.2 i (j - 1) (by omega) (by omega)
    · rw [if_neg c1, if_neg (show ¬ j < cum s n u by omega)]
      by_cases c2 : i = cum s n u
      · rw [if_pos c2]
        by_cases c3 : j = cum s n u
        · rw [if_pos c3]; exact Nat.le_refl _
        · rw [if_neg c3]; exact hi (j - 1) (by omega) (by omega)
      · rw [if_neg c2, if_neg (show ¬ j = cum s n u by omega)]
        exact h.2 (i - 1) (j - 1) (by omega) (by omega)
section
variable {S : SS} {J : Nat → Int32} {E : Nat → Nat → Int32} {I : Nat → Int32} {L : Nat → Int64} {A : Nat → Nat → Int32} {B : Nat → Nat → Int64}
theorem row_ex (hW : wf S) (a b : Nat) : ∃ s, srt s (fb_ct (qn S a b) (nD S)) ∧ ∀ v, hst s (fb_ct (qn S a b) (nD S)) v = fb_ct (fun d => qn S a b d && nq S a d == v) (nD S) := by
  have H : ∀ k, k ≤ nD S → ∃ s, srt s (fb_ct (qn S a b) k) ∧ ∀ v, hst s (fb_ct (qn S a b) k) v = fb_ct (fun d => qn S a b d && nq S a d == v) k := by
    intro k
    induction k with
    | zero => intro _; exact ⟨fun _ => 0, ⟨fun i hi => absurd hi (Nat.not_lt_zero i), fun i j _ hj => absurd hj (Nat.not_lt_zero j)⟩, fun v => rfl⟩
    | succ k ih =>
      intro hk
      obtain ⟨s, h1, h2⟩ := ih (by omega)
      cases e : qn S a b k with
      | false =>
        have ec : fb_ct (qn S a b) (k + 1) = fb_ct (qn S a b) k := by rw [fb_ct_succ, e]; rfl
        exact ⟨s, by rw [ec]; exact h1, fun v => by rw [ec, h2 v, fb_ct_succ, e]; simp⟩
      | true =>
        have ec : fb_ct (qn S a b) (k + 1) = fb_ct (qn S a b) k + 1 := by rw [fb_ct_succ, e]; rfl
        obtain ⟨v, v1, v2, v3, v4, v5, v6, v7⟩ := qn_val hW e
        obtain ⟨s', h3, h4⟩ := srt_ins (u := nq S a k) h1 (by rw [v2]; exact sq_lt v3 v4)
        refine ⟨s', by rw [ec]; exact h3, fun w => ?_⟩
        have := h4 w
        unfold hst at h2 ⊢
        rw [ec, this, h2 w, fb_ct_succ, e]
        simp
  exact H _ (Nat.le_refl _)
theorem m_binR (hM : RM S J E) (hW : wf S) {a k w : Nat} {z : Int32} (ha : a < nA S) (hk2 : kd S a = 2) (hk : k ≤ 8) (hk1 : 1 ≤ k) (hw : w ≤ 2) {s : Nat → Nat} {n : Nat} (hn : n = fb_ct (qn S a a) (nD S)) (hs : srt s n) (hh : ∀ v, hst s n v = fb_ct (fun d => qn S a a d && nq S a d == v) (nD S)) {K2 : Int32 → (Nat → Int32) → (Nat → Nat → Int32) → Prop}
    (h1 : (z < 0 ∨ ∃ i, i < 2 ^ 31 ∧ z = nI i ∧ bc s n k ≤ i) → ∀ J' E', RM S J' E' → J' 0 = 1 → K2 0 J' E') (h2 : ∀ i, z = nI i → i < bc s n k → ∀ J' E', RM S J' E' → J' 0 = 0 → RB E' s n k (bc s n k) → K2 (E' 13 (3 * i + w)) J' E') : wX10_bin J E (nI a) (nI k) z (nI w) K2 := by
  have hW1 := hW.1
  have hn40 : n ≤ 40 := by rw [hn]; exact Nat.le_trans (fb_ct_le _ _) (by omega)
  have hbc := bc_iff (s := s) hn40 hk1
  have hM := RM_t hM 0
  unfold wX10_bin
  rintro _ rfl
  rw [m_isCut hM hW ha, if_pos hk2]
  rw [if_neg (show ¬ nI k < 1 by rw [show (1 : Int32) = nI 1 from rfl, lt_n (by omega) (by decide)]; omega), if_neg (show ¬ 8 < nI k by rw [show (8 : Int32) = nI 8 from rfl, lt_n (by decide) (by omega)]; omega)]
  simp only [jn]
  refine ite_n (by decide) ?_
  rw [m_within, if_neg (nI_pos (show w < 2 ^ 31 by omega)), if_neg (show ¬ 2 < nI w by rw [show (2 : Int32) = nI 2 from rfl, lt_n (by decide) (by omega)]; omega)]
  refine ite_n (by decide) ?_
  refine m_binsOf hM hW ha hk2 hk hk1 hn hs hh (fun J1 E1 hM1 j0 hB => ?_)
  have bad : (z < 0 ∨ ∃ i, i < 2 ^ 31 ∧ z = nI i ∧ bc s n k ≤ i) → (∀ I_3, I_3 = va_up J1 0 1 → if (I_3 0) ≤ 0 then (vp_in ((3 * z) + nI w) 24 ∧ (K2 (E1 13 ((3 * z) + nI w).toNatClampNeg) I_3 E1)) else (K2 0 I_3 E1)) := by
    intro q
    rintro _ rfl
    exact ite_n (by rw [up_s]; decide) (h1 q _ _ (RM_J hM1 (fun k h1 _ => up_n _ _ (by omega))) (up_s _ _ _))
  by_cases c0 : z < 0
  · rw [if_pos c0]; exact bad (Or.inl c0)
  · rw [if_neg c0]
    obtain ⟨i, hi, rfl⟩ := nI_of c0
    simp only [lt_n hi (show bc s n k < 2 ^ 31 by omega)]
    by_cases c1 : i < bc s n k
    · rw [if_pos c1]
      rintro _ rfl
      refine ite_p (by rw [up_s]; decide) ?_
      rw [show (3 : Int32) * nI i + nI w = nI (3 * i + w) by rw [show (3 : Int32) = nI 3 from rfl, n_mul, n_add]]
      refine ⟨vp_in_nI (by omega) (by decide), ?_⟩
      rw [n_c (by omega)]
      exact h2 i rfl c1 _ _ (RM_J hM1 (fun k h1 _ => up_n _ _ (by omega))) (up_s _ _ _) hB
    · rw [if_neg c1]
      exact bad (Or.inr ⟨i, hi, rfl, by omega⟩)
theorem hasN (hD : RD S I L A) (hX : RX S I L A) (hM : RM S J E) (hW : wf S) (x y : Int32) : (∃ d a v, d < nD S ∧ a < nA S ∧ x = nI d ∧ y = nI a ∧ nm S d a = some v ∧ (∀ post : Int32 → Prop, post 1 → wX9_hasNumber I L A B x y post) ∧ (∀ post : Int32 → Prop, post 1 → wX10_isNumbered J E x y post)) ∨ ((∀ post : Int32 → Prop, post 0 → wX9_hasNumber I L A B x y post) ∧ (∀ post : Int32 → Prop, post 0 → wX10_isNumbered J E x y post)) := by
  have hn := hW.1
  unfold wX9_hasNumber wX10_isNumbered
  rcases ix x (n := nD S) (by omega) with h | ⟨d, hd, rfl⟩
  · refine Or.inr ⟨fun post hp => ?_, fun post hp => ?_⟩
    · rw [c_isThere_o hD h]; exact ite_p (by first | rfl | trivial) hp
    · rw [m_isThere_o hM h]; exact ite_p (by first | rfl | trivial) hp
  · cases e1 : th S d with
    | false =>
      refine Or.inr ⟨fun post hp => ?_, fun post hp => ?_⟩
      · rw [c_isThere hD hW hd, e1]; exact ite_p (by first | rfl | trivial) hp
      · rw [m_isThere hM hW hd, e1]; exact ite_p (by first | rfl | trivial) hp
    | true =>
      have ct : ∀ post : Int32 → Prop, wX6_isThere I L A B (nI d) post = post 1 := fun post => by rw [c_isThere hD hW hd, e1]; rfl
      have mt : ∀ post : Int32 → Prop, wX10_isThere J E (nI d) post = post 1 := fun post => by rw [m_isThere hM hW hd, e1]; rfl
      rcases ix y (n := nA S) (by omega) with h | ⟨a, ha, rfl⟩
      · refine Or.inr ⟨fun post hp => ?_, fun post hp => ?_⟩
        · rw [ct]; refine ite_n (by decide) ?_; rw [c_isNum_o hX h]; exact ite_p (by first | rfl | trivial) hp
        · rw [mt]; refine ite_n (by decide) ?_; rw [m_isNum_o hM h]; exact ite_p (by first | rfl | trivial) hp
      · by_cases ek : kd S a = 2
        · have cn : ∀ post : Int32 → Prop, wX7_isNumeric I L A B (nI a) post = post 1 := fun post => by rw [c_isNum hX hW ha, ek]; rfl
          have mn : ∀ post : Int32 → Prop, wX10_isNumber J E (nI a) post = post 1 := fun post => by rw [m_isNum hM hW ha, ek]; rfl
          have e5 : (5 : Int32) * nI d + nI a = nI (5 * d + a) := by rw [show (5 : Int32) = nI 5 from rfl, n_mul, n_add]
          have q1 : tb (L (9 + a)) d = (nm S d a).isSome := hX.2.2.1 a (by omega) d (by omega)
          have q2 := hM.2.2.2.2.2.2.2.1 d a (by omega) (by omega)
          have hgo : ∀ (b : Bool), (nm S d a).isSome = b → (∀ post : Int32 → Prop, post (bi b) → wX6_isThere I L A B (nI d) (fun r5 => if r5 = 0 then (post 0) else (wX7_isNumeric I L A B (nI a) (fun r16 => if r16 = 0 then (post 0) else (vp_in (nI a) 5 ∧ (wX9_inSet (L (9 + (nI a).toNatClampNeg)) (nI d) (fun r35 => if r35 = 0 then (post 0) else (post 1)))))))) ∧ (∀ post : Int32 → Prop, post (bi b) → wX10_isThere J E (nI d) (fun r2 => if r2 = 0 then (post 0) else (wX10_isNumber J E (nI a) (fun r10 => if r10 = 0 then (post 0) else (vp_in ((5 * nI d) + nI a) 200 ∧ (if (E 8 ((5 * nI d) + nI a).toNatClampNeg) = 0 then (post 0) else (post 1))))))) := by
            intro b hb
            rw [hb] at q1 q2
            refine ⟨fun post hp => ?_, fun post hp => ?_⟩
            · rw [ct]; refine ite_n (by decide) ?_; rw [cn]; refine ite_n (by decide) ⟨vp_in_nI (by omega) (by decide), ?_⟩
              rw [n_c (by omega), bs_in _ (show d < 64 by omega), q1]
              cases b with
              | false => exact ite_p (by first | rfl | trivial) hp
              | true => exact ite_n (by decide) hp
            · rw [mt]; refine ite_n (by decide) ?_; rw [mn]; refine ite_n (by decide) ?_
              rw [e5]
              refine ⟨vp_in_nI (by omega) (by decide), ?_⟩
              rw [n_c (by omega), q2]
              cases b with
              | false => exact ite_p (by first | rfl | trivial) hp
              | true => exact ite_n (by decide) hp
          cases e2 : nm S d a with
          | none => exact Or.inr (hgo false (by rw [e2]; rfl))
          | some v => exact Or.inl ⟨d, a, v, hd, ha, rfl, rfl, e2, hgo true (by rw [e2]; rfl)⟩
        · refine Or.inr ⟨fun post hp => ?_, fun post hp => ?_⟩
          · rw [ct]; refine ite_n (by decide) ?_; rw [c_isNum hX hW ha, bqf ek]; exact ite_p (by first | rfl | trivial) hp
          · rw [mt]; refine ite_n (by decide) ?_; rw [m_isNum hM hW ha, bqf ek]; exact ite_p (by first | rfl | trivial) hp
theorem t_numberOf (hC : RC S I L A B) (hM : RM S J E) (hW : wf S) (x y : Int32) {K : Int32 → Int32 → (Nat → Int32) → Prop} {KX : Int32 → (Nat → Int32) → Prop} (hK : ∀ r J', RM S J' E → J' 0 = 0 → K r r J') (hKX : ∀ r J', RM S J' E → J' 0 = 1 → KX r J') : wX9_numberOf I L A B x y (fun r => wX10_numberOf J E x y (fun r' J' => K r r' J')) (wX10_numberOf J E x y (fun r' J' => KX r' J')) := by
  have hn := hW.1
  obtain ⟨hF, hD, hX, hT, hP⟩ := hC
  unfold wX9_numberOf
  rcases hasN (B := B) hD hX hM hW x y with ⟨d, a, v, hd, ha, rfl, rfl, e, h1, h2⟩ | ⟨h1, h2⟩
  · refine h1 _ (ite_n (by decide) ⟨vp_in_nI (by omega) (by decide), vp_in_nI (by omega) (by decide), ?_⟩)
    rw [n_c (show a < 2 ^ 31 by omega), n_c (show d < 2 ^ 31 by omega), hX.2.2.2.1 a d v (by omega) (by omega) e]
    unfold wX10_numberOf
    refine h2 _ ?_
    simp only [jn]
    refine ite_n (by decide) ?_
    rintro _ rfl
    have e5 : (5 : Int32) * nI d + nI a = nI (5 * d + a) := by rw [show (5 : Int32) = nI 5 from rfl, n_mul, n_add]
    refine ite_p (by rw [up_s]; decide) ?_
    rw [e5]
    refine ⟨vp_in_nI (by omega) (by decide), ?_⟩
    rw [n_c (by omega), hM.2.2.2.2.2.2.2.2.1 d a v (by omega) (by omega) e]
    exact hK v _ (RM_t hM 0) (up_s _ _ _)
  · refine h1 _ (ite_p (by first | rfl | trivial) ?_)
    unfold wX10_numberOf
    refine h2 _ ?_
    simp only [jn]
    refine ite_p (by first | rfl | trivial) ?_
    rintro _ rfl
    exact ite_n (by rw [up_s]; decide) (hKX 0 _ (RM_t hM 1) (up_s _ _ _))
theorem m_binN (hM : RM S J E) (hW : wf S) {x y z w : Int32} (hq : (∀ post : Int32 → Prop, post 0 → wX10_isCut (va_up J 0 0) E x y post) ∨ w < 0 ∨ 2 < w) {K2 : Int32 → (Nat → Int32) → (Nat → Nat → Int32) → Prop} (h : ∀ J' E', RM S J' E' → J' 0 = 1 → K2 0 J' E') : wX10_bin J E x y z w K2 := by
  have hn := hW.1
  have hM := RM_t hM 0
  have two : (w < 0 ∨ 2 < w) → ∀ post : Int32 → Prop, post 0 → post 1 → wX10_isCut (va_up J 0 0) E x y post := by
    intro _ post p0 p1
    rcases ix x (n := nA S) (by omega) with h | ⟨a, ha, rfl⟩
    · rw [m_isCut_o hM h]; exact p0
    · rw [m_isCut hM hW ha]
      by_cases e : kd S a = 2
      · rw [if_pos e]
        by_cases e1 : y < 1
        · rw [if_pos e1]; exact p0
        · rw [if_neg e1]
          by_cases e2 : 8 < y
          · rw [if_pos e2]; exact p0
          · rw [if_neg e2]; exact p1
      · rw [if_neg e]; exact p0
  unfold wX10_bin
  rintro _ rfl
  rcases hq with hq | hq
  · refine hq _ ?_
    refine jn_have (fun z => z.1 = 0 ∧ RM S z.2.1 z.2.2) ?_ ?_
    · rintro ⟨t, I2, A1⟩ ⟨rfl, h8⟩
      refine jn_have (fun t => t = 1) ?_ ?_
      · rintro _ rfl
        rintro _ rfl
        exact ite_n (by rw [up_s]; decide) (h _ _ (RM_J h8 (fun k h1 _ => up_n _ _ (by omega))) (up_s _ _ _))
      · intro k hk
        refine jn_have (fun _ => True) (fun _ _ => hk _ rfl) (fun k2 hk2 => ?_)
        by_cases q : z < 0
        · rw [if_pos q]; exact hk2 () trivial
        · rw [if_neg q]
          exact ite_n q (hk2 () trivial)
    · intro k hk
      refine jn_have (fun _ => True) (fun _ _ => hk _ ⟨rfl, hM⟩) (fun k2 hk2 => ?_)
      exact ite_p rfl (hk2 () trivial)
  · refine two hq _ ?_ ?_
    · refine jn_have (fun z => z.1 = 0 ∧ RM S z.2.1 z.2.2) ?_ ?_
      · rintro ⟨t, I2, A1⟩ ⟨rfl, h8⟩
        refine jn_have (fun t => t = 1) ?_ ?_
        · rintro _ rfl
          rintro _ rfl
          exact ite_n (by rw [up_s]; decide) (h _ _ (RM_J h8 (fun k h1 _ => up_n _ _ (by omega))) (up_s _ _ _))
        · intro k hk
          refine jn_have (fun _ => True) (fun _ _ => hk _ rfl) (fun k2 hk2 => ?_)
          by_cases q : z < 0
          · rw [if_pos q]; exact hk2 () trivial
          · rw [if_neg q]
            exact ite_n q (hk2 () trivial)
      · intro k hk
        refine jn_have (fun _ => True) (fun _ _ => hk _ ⟨rfl, hM⟩) (fun k2 hk2 => ?_)
        exact ite_p rfl (hk2 () trivial)
    · refine jn_have (fun z => z.1 = 0 ∧ RM S z.2.1 z.2.2) ?_ ?_
      · rintro ⟨t, I2, A1⟩ ⟨rfl, h8⟩
        refine jn_have (fun t => t = 1) ?_ ?_
        · rintro _ rfl
          rintro _ rfl
          exact ite_n (by rw [up_s]; decide) (h _ _ (RM_J h8 (fun k h1 _ => up_n _ _ (by omega))) (up_s _ _ _))
        · intro k hk
          refine jn_have (fun _ => True) (fun _ _ => hk _ rfl) (fun k2 hk2 => ?_)
          by_cases q : z < 0
          · rw [if_pos q]; exact hk2 () trivial
          · rw [if_neg q]
            exact ite_n q (hk2 () trivial)
      · intro k hk
        refine jn_have (fun _ => True) (fun _ _ => hk _ ⟨rfl, hM⟩) (fun k2 hk2 => ?_)
        refine ite_n (by decide) ?_
        rw [m_within]
        by_cases q2 : w < 0
        · rw [if_pos q2]; exact ite_p rfl (hk2 () trivial)
        · rw [if_neg q2, if_pos (hq.resolve_left q2)]; exact ite_p rfl (hk2 () trivial)
theorem t_bin (hC : RC S I L A B) (hM : RM S J E) (hW : wf S) (x y z w : Int32) {K : Int32 → Int32 → (Nat → Int32) → (Nat → Nat → Int32) → (Nat → Int32) → (Nat → Nat → Int32) → Prop} {KX : Int32 → (Nat → Int32) → (Nat → Nat → Int32) → (Nat → Int32) → (Nat → Nat → Int32) → Prop} (hK : ∀ r I' A' J' E', RC S I' L A' B → RM S J' E' → J' 0 = 0 → K r r I' A' J' E') (hKX : ∀ r I' A' J' E', RC S I' L A' B → RM S J' E' → J' 0 = 1 → KX r I' A' J' E') :
    wX9_bin I L A B x y z w (fun r I' A' => wX10_bin J E x y z w (fun r' J' E' => K r r' I' A' J' E')) (fun I' A' => wX10_bin J E x y z w (fun r' J' E' => KX r' I' A' J' E')) := by
  have hn := hW.1
  have hM0 := hM
  have hM := RM_t hM 0
  -- the reference, where no bins are made
  have rno : ∀ I' A', RC S I' L A' B → ((∀ post : Int32 → Prop, post 0 → wX10_isCut (va_up J 0 0) E x y post) ∨ w < 0 ∨ 2 < w) → wX10_bin J E x y z w (fun r' J' E' => KX r' I' A' J' E') := by
    intro I' A' hC' hq
    exact m_binN hM0 hW hq (fun J' E' h8 h9 => hKX 0 I' A' J' E' hC' h8 h9)
  unfold wX9_bin
  rcases ix x (n := nA S) (by omega) with h | ⟨a, ha, rfl⟩
  · rw [c_canBin_o hC h]
    simp only [jn]
    refine ite_p (by first | rfl | trivial) (rno I A hC (Or.inl (fun post hp => by rw [m_isCut_o hM h]; exact hp)))
  · rw [c_canBin hC hW ha]
    by_cases e : kd S a = 2
    · rw [if_pos e]
      by_cases e1 : y < 1
      · rw [if_pos e1]
        simp only [jn]
        exact ite_p (by first | rfl | trivial) (rno I A hC (Or.inl (fun post hp => by rw [m_isCut hM hW ha, if_pos e, if_pos e1]; exact hp)))
      · rw [if_neg e1]
        by_cases e2 : 8 < y
        · rw [if_pos e2]
          simp only [jn]
          exact ite_p (by first | rfl | trivial) (rno I A hC (Or.inl (fun post hp => by rw [m_isCut hM hW ha, if_pos e, if_neg e1, if_pos e2]; exact hp)))
        · rw [if_neg e2]
          obtain ⟨k, k1, k2, rfl⟩ := cut_k e1 e2
          simp only [jn]
          refine ite_n (by decide) ?_
          have mcut : ∀ post : Int32 → Prop, wX10_isCut (va_up J 0 0) E (nI a) (nI k) post = post 1 := fun post => by rw [m_isCut hM hW ha, if_pos e, if_neg e1, if_neg e2]
          by_cases c1 : w < 0
          · by_cases c0 : z < 0
            · rw [if_pos c0]; exact rno I A hC (Or.inr (Or.inl c1))
            · rw [if_neg c0, if_pos c1]; exact rno I A hC (Or.inr (Or.inl c1))
          · by_cases c2 : 2 < w
            · by_cases c0 : z < 0
              · rw [if_pos c0]; exact rno I A hC (Or.inr (Or.inr c2))
              · rw [if_neg c0, if_neg c1, if_neg (show ¬ w ≤ 2 by rw [n_gt] at c2; exact c2)]; exact rno I A hC (Or.inr (Or.inr c2))
            · -- bins are made
              obtain ⟨w, hw, rfl⟩ := nI_of c1
              have hw2 : w ≤ 2 := by
                rw [show (2 : Int32) = nI 2 from rfl, lt_n (by decide) hw] at c2
                omega
              by_cases c0 : z < 0
              · rw [if_pos c0]
                obtain ⟨s, hs, hh⟩ := row_ex hW a a
                refine m_binR hM0 hW ha e k2 k1 hw2 rfl hs hh (fun _ J' E' h8 h9 => hKX 0 _ _ _ _ hC h8 h9) (fun i ei => ?_)
                intro q
                have hb := (bc_iff (s := s) (n := fb_ct (qn S a a) (nD S)) (Nat.le_trans (fb_ct_le _ _) (by omega)) k1).1
                rw [ei] at c0
                exact absurd c0 (nI_pos (by omega))
              · rw [if_neg c0, if_neg c1, if_pos (show nI w ≤ 2 by rw [show (2 : Int32) = nI 2 from rfl, le_n hw (by decide)]; exact hw2)]
                obtain ⟨i, hi, rfl⟩ := nI_of c0
                refine c_lift1 hC.2.1 hC.2.2.1 hC.2.2.2.2 hW ha (fun m hm => ?_)
                refine c_fillRow hC hW ha hm (fun s I' A' r1 r2 r3 r4 => ?_)
                have hn40 : fb_ct (qn S a a) (nD S) ≤ 40 := Nat.le_trans (fb_ct_le _ _) (by omega)
                have hs := RV_srt r1
                have hbc := bc_iff (s := s) hn40 k1
                have hC' := keep_row hC hW r3 r4
                have ref : ∀ {K2 : Int32 → (Nat → Int32) → (Nat → Nat → Int32) → Prop}, (bc s (fb_ct (qn S a a) (nD S)) k ≤ i → ∀ J' E', RM S J' E' → J' 0 = 1 → K2 0 J' E') → (i < bc s (fb_ct (qn S a a) (nD S)) k → ∀ J' E', RM S J' E' → J' 0 = 0 → RB E' s (fb_ct (qn S a a) (nD S)) k (bc s (fb_ct (qn S a a) (nD S)) k) → K2 (E' 13 (3 * i + w)) J' E') → wX10_bin J E (nI a) (nI k) (nI i) (nI w) K2 := by
                  intro K2 g1 g2
                  refine m_binR hM0 hW ha e k2 k1 hw2 rfl hs r2 (fun q J' E' h8 h9 => ?_) (fun i' ei q J' E' h8 h9 hB => ?_)
                  · rcases q with q | ⟨i', hi', ei, q⟩
                    · exact absurd q c0
                    · rw [eq_n hi hi'] at ei
                      subst ei
                      exact g1 q J' E' h8 h9
                  · rw [eq_n hi (by omega)] at ei
                    subst ei
                    exact g2 q J' E' h8 h9 hB
                refine c_startOfBin r1 hn40 k2 k1 hi ?_
                have hle := bf_le (s := s) (k := k) (show fb_ct (qn S a a) (nD S) ≤ 41 by omega) i
                rw [r1.1]
                simp only [lt_n (show bf s (fb_ct (qn S a a) (nD S)) k i < 2 ^ 31 by omega) (show fb_ct (qn S a a) (nD S) < 2 ^ 31 by omega)]
                by_cases c3 : bf s (fb_ct (qn S a a) (nD S)) k i < fb_ct (qn S a a) (nD S)
                · rw [if_pos c3]
                  have c4 := (hbc.2 i).mp c3
                  rw [n_sub (show i ≤ k by omega)]
                  refine c_endOfBin r1 hn40 (by omega) (by omega) ?_
                  have hbn : eb s (fb_ct (qn S a a) (nD S)) (bf s (fb_ct (qn S a a) (nD S)) k i) (k - i) = bf s (fb_ct (qn S a a) (nD S)) k (i + 1) := rfl
                  rw [hbn]
                  have hup := (eb_up (s := s) (lf := k - i) (show fb_ct (qn S a a) (nD S) ≤ 41 by omega) hle).2 c3
                  rw [hbn] at hup
                  have hle2 := bf_le (s := s) (k := k) (show fb_ct (qn S a a) (nD S) ≤ 41 by omega) (i + 1)
                  have ew2 : (nI w = 2) = (w = 2) := eq_n hw (by decide)
                  have ew0 : (nI w = 0) = (w = 0) := eq_n hw (by decide)
                  simp only [ew2, ew0]
                  by_cases q2 : w = 2
                  · rw [if_pos q2, n_sub (Nat.le_of_lt hup)]
                    refine ref (fun q => by omega) (fun _ J' E' h8 h9 hB => ?_)
                    rw [q2, (hB i c4).2.2]
                    exact hK _ _ _ _ _ hC' h8 h9
                  · rw [if_neg q2]
                    by_cases q0 : w = 0
                    · rw [if_pos q0]
                      refine ⟨vp_in_nI (by omega) (by decide), ?_⟩
                      rw [n_c (by omega), r1.2.1 _ c3]
                      refine ref (fun q => by omega) (fun _ J' E' h8 h9 hB => ?_)
                      have := (hB i c4).1
                      rw [q0, Nat.add_zero, this]
                      exact hK _ _ _ _ _ hC' h8 h9
                    · rw [if_neg q0, zsub.1 _ (by omega)]
                      refine ⟨vp_in_nI (by omega) (by decide), ?_⟩
                      rw [n_c (by omega), r1.2.1 _ (by omega)]
                      refine ref (fun q => by omega) (fun _ J' E' h8 h9 hB => ?_)
                      rw [show w = 1 by omega, (hB i c4).2.1]
                      exact hK _ _ _ _ _ hC' h8 h9
                · rw [if_neg c3]
                  refine ref (fun _ J' E' h8 h9 => hKX 0 _ _ _ _ hC' h8 h9) (fun q => ?_)
                  exact absurd ((hbc.2 i).mpr q) c3
    · rw [if_neg e]
      simp only [jn]
      exact ite_p (by first | rfl | trivial) (rno I A hC (Or.inl (fun post hp => by rw [m_isCut hM hW ha, if_neg e]; exact hp)))
theorem m_numAt {s : Nat → Nat} {n pl : Nat} (hs : srt s n) (hn : n ≤ 40) (e12 : ∀ v, v < 1999 → E 12 v = nI (hst s n v)) (hp : pl < n) {post : Int32 → Prop} (h : post (sv (s pl))) : wX10_numberedAt J E (nI pl) post := by
  have hsp := hs.1 pl hp
  unfold wX10_numberedAt
  refine ⟨vp_in_nI (n := 0) (by decide) (by decide), ?_⟩
  rintro _ rfl
  have e0 : E 12 (0 : Int32).toNatClampNeg = nI (cum s n (0 + 1)) := by
    rw [cum_succ, cum_0, Nat.zero_add]
    exact e12 0 (by decide)
  rw [e0]
  refine lfix_for (s pl) (fun v (_ : Unit) => (nI (cum s n (v + 1)), nI v)) (fun _ _ => True) 0 () (Nat.zero_le _) trivial ?_ ?_
  · rintro r v _ hv _ hr
    dsimp only
    have hc := cum_le s n (v + 1)
    have hc2 := cum_le s n (v + 1 + 1)
    have hi := cum_iff (v := v + 1) hs hp
    rw [if_neg (show ¬ nI pl < nI (cum s n (v + 1)) by rw [lt_n (by omega) (by omega)]; omega)]
    rintro _ rfl
    rw [n_s]
    refine ⟨vp_in_nI (by omega) (by decide), ?_⟩
    rintro _ rfl
    rw [n_c (by omega), e12 (v + 1) (by omega), n_add, ← cum_succ]
    exact hr () trivial
  · rintro r _ _
    dsimp only
    have hc := cum_le s n (s pl + 1)
    have hi := cum_iff (v := s pl + 1) hs hp
    rw [if_pos (show nI pl < nI (cum s n (s pl + 1)) by rw [lt_n (by omega) (by omega)]; omega)]
    exact h
theorem t_middle (hC : RC S I L A B) (hM : RM S J E) (hW : wf S) (x w : Int32) {K : Int32 → Int32 → (Nat → Int32) → (Nat → Nat → Int32) → (Nat → Int32) → (Nat → Nat → Int32) → Prop} {KX : Int32 → (Nat → Int32) → (Nat → Nat → Int32) → (Nat → Int32) → (Nat → Nat → Int32) → Prop} (hK : ∀ r I' A' J' E', RC S I' L A' B → RM S J' E' → J' 0 = 0 → K r r I' A' J' E') (hKX : ∀ r I' A' J' E', RC S I' L A' B → RM S J' E' → J' 0 = 1 → KX r I' A' J' E') :
    wX9_middle I L A B x w (fun r I' A' => wX10_middle J E x w (fun r' J' E' => K r r' I' A' J' E')) (fun I' A' => wX10_middle J E x w (fun r' J' E' => KX r' I' A' J' E')) := by
  have hn := hW.1
  have hM1 : RM S (va_up (va_up J 0 0) 6 0) E := RM_J hM (fun k h1 h2 => by rw [up_n _ _ (by omega), up_n _ _ (by omega)])
  have bad : ∀ {J1 E1} {KY : Int32 → (Nat → Int32) → (Nat → Nat → Int32) → Prop}, RM S J1 E1 → (∀ r J' E', RM S J' E' → J' 0 = 1 → KY r J' E') → ∀ I_4, I_4 = va_up J1 0 1 → if (I_4 0) ≤ 0 then (jn (fun (t_1 : Int32) => wX10_numberedAt I_4 E1 t_1 (fun r75 => if w = 0 then (KY r75 I_4 E1) else (wX10_numberedAt I_4 E1 ((I_4 6) - 1) (fun r94 => KY (r94 - r75) I_4 E1)))) (fun k_2 => if w = 0 then (¬ (2 : Int32) = 0 ∧ (k_2 (((I_4 6) - 1) / 2))) else (k_2 0))) else (KY 0 I_4 E1) := by
    intro J1 E1 KY h8 h9
    rintro _ rfl
    exact ite_n (by rw [up_s]; decide) (h9 0 _ _ (RM_J h8 (fun k h1 _ => up_n _ _ (by omega))) (up_s _ _ _))
  unfold wX9_middle
  rcases ix x (n := nA S) (by omega) with h | ⟨a, ha, rfl⟩
  · rw [c_isNum_o hC.2.2.1 h]
    simp only [jn]
    refine ite_p (by first | rfl | trivial) ?_
    unfold wX10_middle
    rintro _ rfl _ rfl
    rw [m_isNum_o hM1 h]
    simp only [jn]
    refine ite_p (by first | rfl | trivial) ?_
    rw [if_pos (up_s _ _ _)]
    exact bad hM1 (fun r J' E' h8 h9 => hKX r _ _ _ _ hC h8 h9)
  · rw [c_isNum hC.2.2.1 hW ha]
    by_cases ek : kd S a = 2
    · rw [ek]
      simp only [jn]
      refine ite_n (by decide) ?_
      -- the reference, its numbers made
      have ref : ∀ {KY : Int32 → (Nat → Int32) → (Nat → Nat → Int32) → Prop} {s : Nat → Nat} {n : Nat}, n = fb_ct (qn S a 9) (nD S) → srt s n → (∀ v, hst s n v = fb_ct (fun d => qn S a 9 d && nq S a d == v) (nD S)) → ((n = 0 ∨ w < 0 ∨ 1 < w) → ∀ r J' E', RM S J' E' → J' 0 = 1 → KY r J' E') → (0 < n → (w = 0 → ∀ J' E', RM S J' E' → J' 0 = 0 → KY (sv (s ((n - 1) / 2))) J' E') ∧ (w = 1 → ∀ J' E', RM S J' E' → J' 0 = 0 → KY (sv (s (n - 1)) - sv (s 0)) J' E')) → wX10_middle J E (nI a) w KY := by
        intro KY s n en hs hh g1 g2
        have hn40 : n ≤ 40 := by rw [en]; exact Nat.le_trans (fb_ct_le _ _) (by omega)
        unfold wX10_middle
        rintro _ rfl _ rfl
        rw [m_isNum hM1 hW ha, ek]
        simp only [jn]
        refine ite_n (by decide) ?_
        have hm := m_numbersOf (b := 9) hM1 hW ha ek (post := fun I_5 A_2 => if I_5 6 = 0 then (∀ I_4, I_4 = va_up I_5 0 1 → if (I_4 0) ≤ 0 then (if w = 0 then (¬ (2 : Int32) = 0 ∧ (wX10_numberedAt I_4 A_2 (((I_4 6) - 1) / 2) (fun r75 => if w = 0 then (KY r75 I_4 A_2) else (wX10_numberedAt I_4 A_2 ((I_4 6) - 1) (fun r94 => KY (r94 - r75) I_4 A_2))))) else (wX10_numberedAt I_4 A_2 0 (fun r75 => if w = 0 then (KY r75 I_4 A_2) else (wX10_numberedAt I_4 A_2 ((I_4 6) - 1) (fun r94 => KY (r94 - r75) I_4 A_2))))) else (KY 0 I_4 A_2)) else (wX10_within w 0 1 (fun r35 => if r35 = 0 then (∀ I_4, I_4 = va_up I_5 0 1 → if (I_4 0) ≤ 0 then (if w = 0 then (¬ (2 : Int32) = 0 ∧ (wX10_numberedAt I_4 A_2 (((I_4 6) - 1) / 2) (fun r75 => if w = 0 then (KY r75 I_4 A_2) else (wX10_numberedAt I_4 A_2 ((I_4 6) - 1) (fun r94 => KY (r94 - r75) I_4 A_2))))) else (wX10_numberedAt I_4 A_2 0 (fun r75 => if w = 0 then (KY r75 I_4 A_2) else (wX10_numberedAt I_4 A_2 ((I_4 6) - 1) (fun r94 => KY (r94 - r75) I_4 A_2))))) else (KY 0 I_4 A_2)) else (∀ I_4, I_4 = va_up I_5 0 0 → if (I_4 0) ≤ 0 then (if w = 0 then (¬ (2 : Int32) = 0 ∧ (wX10_numberedAt I_4 A_2 (((I_4 6) - 1) / 2) (fun r75 => if w = 0 then (KY r75 I_4 A_2) else (wX10_numberedAt I_4 A_2 ((I_4 6) - 1) (fun r94 => KY (r94 - r75) I_4 A_2))))) else (wX10_numberedAt I_4 A_2 0 (fun r75 => if w = 0 then (KY r75 I_4 A_2) else (wX10_numberedAt I_4 A_2 ((I_4 6) - 1) (fun r94 => KY (r94 - r75) I_4 A_2))))) else (KY 0 I_4 A_2))))) (fun J2 E2 hM2 j6 e12 j0 => ?_)
        · rw [enc_9] at hm
          exact hm
        · have e12 : ∀ v, v < 1999 → E2 12 v = nI (hst s n v) := fun v hv => (e12 v hv).trans (by rw [hh v])
          rw [← en] at j6
          have e6 : (nI n = 0) = (n = 0) := eq_n (by omega) (by decide)
          rw [j6]
          simp only [e6]
          by_cases c0 : n = 0
          · rw [if_pos c0]
            exact bad hM2 (fun r J' E' h8 h9 => g1 (Or.inl c0) r J' E' h8 h9)
          · rw [if_neg c0, m_within]
            by_cases c1 : w < 0
            · rw [if_pos c1]
              refine ite_p (by first | rfl | trivial) ?_
              exact bad hM2 (fun r J' E' h8 h9 => g1 (Or.inr (Or.inl c1)) r J' E' h8 h9)
            · rw [if_neg c1]
              by_cases c2 : 1 < w
              · rw [if_pos c2]
                refine ite_p (by first | rfl | trivial) ?_
                exact bad hM2 (fun r J' E' h8 h9 => g1 (Or.inr (Or.inr c2)) r J' E' h8 h9)
              · rw [if_neg c2]
                refine ite_n (by decide) ?_
                rintro _ rfl
                have hM3 : RM S (va_up J2 0 0) E2 := RM_t hM2 0
                have j63 : va_up J2 0 0 6 = nI n := by rw [up_n _ _ (by decide)]; exact j6
                refine ite_p (by rw [up_s]; decide) ?_
                rw [j63, zsub.1 n (by omega)]
                obtain ⟨g3, g4⟩ := g2 (by omega)
                by_cases c3 : w = 0
                · rw [if_pos c3]
                  refine ⟨by decide, ?_⟩
                  rw [show (2 : Int32) = nI 2 from rfl, n_div (by omega) (by decide)]
                  refine m_numAt hs hn40 e12 (by omega) ?_
                  exact ite_p c3 (g3 c3 _ _ hM3 (up_s _ _ _))
                · rw [if_neg c3]
                  have c4 : w = 1 := by
                    obtain ⟨w', hw', rfl⟩ := nI_of c1
                    rw [show (1 : Int32) = nI 1 from rfl, lt_n (by decide) hw'] at c2
                    have : ¬ w' = 0 := fun q => c3 (by rw [q]; rfl)
                    rw [show w' = 1 by omega]; rfl
                  rw [show (0 : Int32) = nI 0 from rfl]
                  refine m_numAt hs hn40 e12 (by omega) ?_
                  refine ite_n c3 ?_
                  refine m_numAt hs hn40 e12 (by omega) ?_
                  exact g4 c4 _ _ hM3 (up_s _ _ _)
      by_cases c1 : w < 0
      · rw [if_pos c1]
        obtain ⟨s, hs, hh⟩ := row_ex hW a 9
        refine ref rfl hs hh (fun _ r J' E' h8 h9 => hKX r _ _ _ _ hC h8 h9) (fun _ => ⟨fun q => ?_, fun q => ?_⟩)
        · rw [q] at c1; exact absurd c1 (by decide)
        · rw [q] at c1; exact absurd c1 (by decide)
      · rw [if_neg c1]
        by_cases c2 : w ≤ 1
        · rw [if_pos c2]
          refine c_hits hC.2.1 hC.2.2.1 hC.2.2.2.2 hW (fun m hm => ?_)
          refine c_fillRow hC hW ha hm (fun s I' A' r1 r2 r3 r4 => ?_)
          have hs := RV_srt r1
          have hn40 : fb_ct (qn S a 9) (nD S) ≤ 40 := Nat.le_trans (fb_ct_le _ _) (by omega)
          have hC' := keep_row hC hW r3 r4
          have ref2 := fun {KY : Int32 → (Nat → Int32) → (Nat → Nat → Int32) → Prop} => ref (KY := KY) rfl hs r2
          revert r1 r2 hs hn40 ref2
          generalize fb_ct (qn S a 9) (nD S) = n
          intro r1 r2 hs hn40 ref2
          rw [r1.1]
          have e6 : (nI n = 0) = (n = 0) := eq_n (by omega) (by decide)
          simp only [e6]
          by_cases c0 : n = 0
          · rw [if_pos c0]
            exact ref2 (fun _ r J' E' h8 h9 => hKX r _ _ _ _ hC' h8 h9) (fun q => by omega)
          · rw [if_neg c0, zsub.1 n (by omega)]
            by_cases c3 : w = 0
            · rw [if_pos c3]
              refine ⟨by decide, ?_⟩
              rw [show (2 : Int32) = nI 2 from rfl, n_div (by omega) (by decide)]
              refine ⟨vp_in_nI (by omega) (by decide), ?_⟩
              rw [n_c (by omega), r1.2.1 _ (by omega)]
              refine ref2 (fun q => ?_) (fun _ => ⟨fun _ J' E' h8 h9 => hK _ _ _ _ _ hC' h8 h9, fun q => ?_⟩)
              · rcases q with q | q | q
                · exact absurd q c0
                · exact absurd q c1
                · rw [c3] at q; exact absurd q (by decide)
              · rw [c3] at q; exact absurd q (by decide)
            · rw [if_neg c3]
              refine ⟨vp_in_nI (by omega) (by decide), vp_in_nI (n := 0) (by decide) (by decide), ?_⟩
              rw [n_c (by omega), show (0 : Int32).toNatClampNeg = 0 from rfl, r1.2.1 _ (by omega), r1.2.1 0 (by omega)]
              refine ref2 (fun q => ?_) (fun _ => ⟨fun q => absurd q c3, fun _ J' E' h8 h9 => hK _ _ _ _ _ hC' h8 h9⟩)
              rcases q with q | q | q
              · exact absurd q c0
              · exact absurd q c1
              · rw [n_gt] at q; exact absurd c2 q
        · rw [if_neg c2]
          obtain ⟨s, hs, hh⟩ := row_ex hW a 9
          refine ref rfl hs hh (fun _ r J' E' h8 h9 => hKX r _ _ _ _ hC h8 h9) (fun _ => ⟨fun q => ?_, fun q => ?_⟩)
          · rw [q] at c2; exact absurd (by decide) c2
          · rw [q] at c2; exact absurd (by decide) c2
    · rw [bqf ek]
      simp only [jn]
      refine ite_p (by first | rfl | trivial) ?_
      unfold wX10_middle
      rintro _ rfl _ rfl
      rw [m_isNum hM1 hW ha, bqf ek]
      simp only [jn]
      refine ite_p (by first | rfl | trivial) ?_
      rw [if_pos (up_s _ _ _)]
      exact bad hM1 (fun r J' E' h8 h9 => hKX r _ _ _ _ hC h8 h9)
end
