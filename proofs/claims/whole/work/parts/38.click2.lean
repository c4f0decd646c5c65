section
variable {S : SS} {J : Nat → Int32} {E : Nat → Nat → Int32} {I : Nat → Int32} {L : Nat → Int64} {A : Nat → Nat → Int32} {B : Nat → Nat → Int64}
theorem cSl_keep {sl : Sl} {a k : Nat} {I' : Nat → Int32} {L' : Nat → Int64} {A' : Nat → Nat → Int32} (h : cSl S sl a k I L A) (h1 : I' k = I k) (h2 : I' (k + 22) = I (k + 22)) (h3 : L' k = L k) (h4 : A' (k + 45) = A (k + 45)) (h5 : A' (k + 67) = A (k + 67)) : cSl S sl a k I' L' A' := by
  unfold cSl at h ⊢
  rw [h1, h2, h3, h4, h5]
  exact h
/-- what no question looks at, but for its own use -/
def sI (k : Nat) : Prop := k = 5 ∨ k = 6 ∨ k = 8 ∨ k = 19 ∨ k = 41
def sA (k : Nat) : Prop := k = 42 ∨ k = 44 ∨ k = 49 ∨ k = 50 ∨ k = 53 ∨ k = 64 ∨ k = 86
def keepC (I I' : Nat → Int32) (L L' : Nat → Int64) (A A' : Nat → Nat → Int32) (B B' : Nat → Nat → Int64) : Prop := (∀ k, ¬ sI k → I' k = I k) ∧ (∀ k, k ≠ 19 → L' k = L k) ∧ (∀ k, ¬ sA k → A' k = A k) ∧ ∀ k, k ≠ 51 → k ≠ 52 → B' k = B k
theorem keepC.RC {I' : Nat → Int32} {L' : Nat → Int64} {A' : Nat → Nat → Int32} {B' : Nat → Nat → Int64} (h : keepC I I' L L' A A' B B') (hW : wf S) (hC : RC S I L A B) : RC S I' L' A' B' := by
  obtain ⟨h1, h2, h3, h4⟩ := h
  obtain ⟨hF, hD, hX, hT, hP⟩ := hC
  have hn := hW.1
  have gI : ∀ k, ¬ sI k → I' k = I k := h1
  refine ⟨?_, ?_, ?_, ?_, ?_⟩
  · unfold RF at hF ⊢
    rw [h1 1 (by unfold sI; omega), h3 36 (by unfold sA; omega), h3 37 (by unfold sA; omega), h4 38 (by omega) (by omega), h4 39 (by omega) (by omega), h4 40 (by omega) (by omega)]
    exact hF
  · unfold RD at hD ⊢
    rw [h1 2 (by unfold sI; omega), h1 7 (by unfold sI; omega), h2 2 (by omega), h3 41 (by unfold sA; omega), h3 43 (by unfold sA; omega)]
    exact hD
  · refine ⟨?_, fun a ha => ?_, fun a ha => ?_, fun a d v ha hd hv => ?_, fun a ha => ?_⟩
    · rw [h1 3 (by unfold sI; omega)]; exact hX.1
    · rw [h1 _ (by unfold sI; omega)]; exact hX.2.1 a ha
    · rw [h2 _ (by omega)]; exact hX.2.2.1 a ha
    · rw [h3 _ (by unfold sA; omega)]; exact hX.2.2.2.1 a d v ha hd hv
    · exact cSl_keep (hX.2.2.2.2 a ha) (h1 _ (by unfold sI; omega)) (h1 _ (by unfold sI; omega)) (h2 _ (by omega)) (h3 _ (by unfold sA; omega)) (h3 _ (by unfold sA; omega))
  · obtain ⟨g1, nx, g2, g3, g4⟩ := hT
    refine ⟨by rw [h1 4 (by unfold sI; omega)]; exact g1, nx, g2, by rw [h1 0 (by unfold sI; omega)]; exact g3, fun k sl hk => ?_⟩
    obtain ⟨a, q1, q2, q3, q4⟩ := g4 k sl hk
    have hm : (nx + 15 - k) % 16 < 16 := Nat.mod_lt _ (by decide)
    exact ⟨a, q1, by rw [h3 47 (by unfold sA; omega)]; exact q2, cSl_keep q3 (h1 _ (by unfold sI; omega)) (h1 _ (by unfold sI; omega)) (h2 _ (by omega)) (h3 _ (by unfold sA; omega)) (h3 _ (by unfold sA; omega)), q4⟩
  · intro a ha
    rw [h4 46 (by omega) (by omega)]
    exact hP a ha
theorem c_copy {sl : Sl} {a k0 k1 : Nat} (h0 : 14 ≤ k0 ∧ k0 < 36) (h1 : 14 ≤ k1 ∧ k1 < 36) (hne : k0 ≠ k1) (hl : ∀ a, (sl.2.2 a).length ≤ 3) (hs : cSl S sl a k1 I L A) {post : (Nat → Int32) → (Nat → Int64) → (Nat → Nat → Int32) → Prop}
    (h : ∀ I' L' A', cSl S sl a k0 I' L' A' → (∀ k, k ≠ k0 → k ≠ k0 + 22 → I' k = I k) → (∀ k, k ≠ k0 → L' k = L k) → (∀ k, k ≠ k0 + 45 → k ≠ k0 + 67 → A' k = A k) → post I' L' A') : wX5_copy I L A B k0 k1 post := by
  have h3 := hl a
  unfold wX5_copy
  rintro _ rfl
  refine ⟨by rw [hs.2.1]; exact bi_zb, ?_⟩
  rintro _ rfl _ rfl
  refine lfix_for 3 (fun k (y : Nat → Nat → Int32) => (nI k, y)) (fun i y => (∀ k, k ≠ k0 + 45 → k ≠ k0 + 67 → y k = A k) ∧ ∀ j, j < i → y (k0 + 45) j = A (k1 + 45) j ∧ y (k0 + 67) j = A (k1 + 67) j) 0 A (Nat.zero_le _) ⟨fun _ _ _ => rfl, fun j hj => absurd hj (Nat.not_lt_zero j)⟩ ?_ ?_
  · rintro r i y hi ⟨g1, g2⟩ hr
    dsimp only
    simp (disch := omega) only [zcmp, zari, z00, zm1, le_n, lt_n, eq_n, n_add, n_mul, n_c, n_in, true_and, and_true, if_true, if_false, bi_0, bi_1, ite_true, ite_false, Bool.true_eq_false, Bool.false_eq_true, show ¬ 3 ≤ i by omega]
    rintro _ rfl _ rfl _ rfl
    refine hr _ ⟨fun k q1 q2 => ?_, fun j hj => ?_⟩
    · rw [up_n _ _ q2, up_n _ _ q1]; exact g1 k q1 q2
    · rw [up_n _ _ (show k0 + 45 ≠ k0 + 67 by omega), up_s, up_s, up_n _ _ (show k0 + 67 ≠ k0 + 45 by omega), up_n _ _ (show k1 + 67 ≠ k0 + 45 by omega), g1 (k1 + 45) (by omega) (by omega), g1 (k1 + 67) (by omega) (by omega)]
      by_cases e : j = i
      · subst e; rw [ud_s, ud_s]; exact ⟨rfl, rfl⟩
      · rw [ud_n _ _ e, ud_n _ _ e]; exact g2 j (by omega)
  · rintro r y ⟨g1, g2⟩
    dsimp only
    simp (disch := omega) only [zcmp, zari, z00, zm1, le_n, lt_n, eq_n, n_add, n_mul, n_c, n_in, true_and, and_true, if_true, if_false, bi_0, bi_1, ite_true, ite_false, Bool.true_eq_false, Bool.false_eq_true, Nat.le_refl]
    refine h _ _ _ ⟨?_, ?_, ?_, fun j hj => ?_⟩ (fun k q1 q2 => ?_) (fun k q => up_n _ _ q) g1
    · rw [up_s]; exact hs.1
    · rw [up_n _ _ (by omega), up_s]; exact hs.2.1
    · rw [up_s, up_n _ _ (by omega)]; exact hs.2.2.1
    · rw [(g2 j (by omega)).1, (g2 j (by omega)).2]; exact hs.2.2.2 j hj
    · rw [up_n _ _ q2, up_n _ _ q1]
/-- another selection on one axis -/
theorem RX_L (hX : RX S I L A) {I' : Nat → Int32} {L' : Nat → Int64} (h1 : ∀ k, ¬ sI k → I' k = I k) (h2 : ∀ k, k ≠ 19 → L' k = L k) {A' : Nat → Nat → Int32} (h3 : ∀ k, ¬ sA k → A' k = A k) (hW : wf S) : RX S I' L' A' := by
  have hn := hW.1
  refine ⟨?_, fun a ha => ?_, fun a ha => ?_, fun a d v ha hd hv => ?_, fun a ha => ?_⟩
  · rw [h1 3 (by unfold sI; omega)]; exact hX.1
  · rw [h1 _ (by unfold sI; omega)]; exact hX.2.1 a ha
  · rw [h2 _ (by omega)]; exact hX.2.2.1 a ha
  · rw [h3 _ (by unfold sA; omega)]; exact hX.2.2.2.1 a d v ha hd hv
  · exact cSl_keep (hX.2.2.2.2 a ha) (h1 _ (by unfold sI; omega)) (h1 _ (by unfold sI; omega)) (h2 _ (by omega)) (h3 _ (by unfold sA; omega)) (h3 _ (by unfold sA; omega))
/-- what is selected by a click -/
def clk (S : SS) (c : Nat) (w : Nat) : Sl := if w = 0 ∧ kd S (ax S c) = 0 then seS (opS S (se S) (ax S c)) c true else seS (se S) c (!(w == 2))
theorem clk_wfl (hW : wf S) {c : Nat} (hc : c < nC S) (w : Nat) : wfl S (clk S c w) := by
  have hw := hW.2.2.2.2.2.2.2.2.2.2.1
  unfold clk
  split
  · exact seS_wfl (opS_wfl hw _) hc _
  · exact seS_wfl hw hc _
theorem clk_pas (hW : wf S) {c : Nat} (w : Nat) {x : Nat} (hx : ax S c ≠ x) (d : Nat) : pas S (clk S c w) d x = pas S (se S) d x := by
  have key : ∀ (sl : Sl) b, pas S (seS sl c b) d x = pas S sl d x := fun sl b => pas_cong rfl rfl (fun i _ hi => by
    have : ¬ i = c := fun e => hx (by rw [← e]; exact hi)
    simp [seS, this])
  unfold clk
  split
  · rw [key, opS_pas, bqf (fun e => hx e.symm), Bool.false_or]
  · exact key _ _
theorem clk_nea (hW : wf S) {c : Nat} (hc : c < nC S) (w d : Nat) : nea S (clk S c w) d 9 = (nea S (se S) d (ax S c) && (th S d && pas S (clk S c w) d (ax S c))) := by
  have hn := hW.1
  have ha := (hW.2.2.1 c hc).1
  unfold nea
  cases e : th S d with
  | false => rfl
  | true =>
    simp only [Bool.true_and]
    apply Bool.eq_iff_iff.mpr
    rw [Bool.and_eq_true, alb_iff, alb_iff]
    constructor
    · intro h
      have h2 := h (ax S c) ha
      rw [bqf (show ¬ ax S c = 9 by omega), Bool.false_or] at h2
      refine ⟨fun k hk => ?_, h2⟩
      by_cases e2 : k = ax S c
      · simp [e2]
      · have h3 := h k hk
        rw [bqf (show ¬ k = 9 by omega), Bool.false_or, clk_pas hW w (fun q => e2 q.symm)] at h3
        rw [h3, Bool.or_true]
    · rintro ⟨h1, h2⟩ k hk
      rw [bqf (show ¬ k = 9 by omega), Bool.false_or]
      by_cases e2 : k = ax S c
      · rw [e2]; exact h2
      · rw [clk_pas hW w (fun q => e2 q.symm)]
        have h3 := h1 k hk
        rw [bqf e2, Bool.false_or] at h3
        exact h3
theorem w2 (x : Int32) : x < 0 ∨ (¬ x < 0 ∧ x ≤ 2 ∧ (x = nI 0 ∨ x = nI 1 ∨ x = nI 2)) ∨ (¬ x < 0 ∧ ¬ x ≤ 2) := by
  by_cases h : x < 0
  · exact Or.inl h
  by_cases h2 : x ≤ 2
  · refine Or.inr (Or.inl ⟨h, h2, ?_⟩)
    obtain ⟨j, hj, rfl⟩ := nI_of h
    simp (disch := omega) only [zcmp, zari, z00, zm1, le_n, lt_n, eq_n, n_add, n_mul, n_c, n_in, true_and, and_true, if_true, if_false, bi_0, bi_1, ite_true, ite_false, Bool.true_eq_false, Bool.false_eq_true] at h2
    obtain rfl | rfl | rfl : j = 0 ∨ j = 1 ∨ j = 2 := by omega
    · exact Or.inl rfl
    · exact Or.inr (Or.inl rfl)
    · exact Or.inr (Or.inr rfl)
  · exact Or.inr (Or.inr ⟨h, h2⟩)
theorem c_click (hC : RC S I L A B) (hW : wf S) {c w : Nat} (hc : c < nC S) (hw2 : w ≤ 2) {post : Int32 → (Nat → Int32) → (Nat → Int64) → (Nat → Nat → Int32) → Prop} (h : ∀ I' L' A', RC S I' L' A' B → post (nI (fb_ct (fun d => nea S (clk S c w) d 9) (nD S))) I' L' A') : wX9_click I L A B (nI c) (nI w) post := by
  have hC0 := hC
  obtain ⟨hF, hD, hX, hT, hP⟩ := hC
  have hn := hW.1
  have ha := (hW.2.2.1 c hc).1
  have hkx := hW.2.1 _ ha
  have hw := hW.2.2.2.2.2.2.2.2.2.2.1
  unfold wX9_click
  rw [c_knC hF hW hc]
  simp (disch := omega) only [zcmp, zari, z00, zm1, le_n, lt_n, eq_n, n_add, n_mul, n_c, n_in, true_and, and_true, if_true, if_false, bi_0, bi_1, ite_true, ite_false, Bool.true_eq_false, Bool.false_eq_true, show ¬ w < 0 by omega, hw2, hF.2.1 c hc]
  rintro _ rfl
  simp (disch := omega) only [zcmp, zari, z00, zm1, le_n, lt_n, eq_n, n_add, n_mul, n_c, n_in, true_and, and_true, if_true, if_false, bi_0, bi_1, ite_true, ite_false, Bool.true_eq_false, Bool.false_eq_true]
  refine c_copy (by omega) (by omega) (by omega) hw.2.2.2 (hX.2.2.2.2 _ (by omega)) (fun I' L' A' hs q1 q2 q3 => ?_)
  have k1 : ∀ k, ¬ sI k → I' k = I k := fun k hk => q1 k (by unfold sI at hk; omega) (by unfold sI at hk; omega)
  have k3 : ∀ k, ¬ sA k → A' k = A k := fun k hk => q3 k (by unfold sA at hk; omega) (by unfold sA at hk; omega)
  -- the trial as it is before the category is put
  refine jn_have (fun z => (∀ k, ¬ sI k → z.1 k = I k) ∧ (∀ k, k ≠ 19 → z.2 k = L k) ∧ ∃ sl : Sl, cSl S sl (ax S c) 19 z.1 z.2 A' ∧ wfl S sl ∧ clk S c w = seS sl c (!(w == 2))) ?_ ?_
  · rintro ⟨I2, L2⟩ ⟨g1, g2, sl, g3, g4, g5⟩
    dsimp only
    refine jn_have (fun L3 => (∀ k, k ≠ 19 → L3 k = L k) ∧ cSl S (clk S c w) (ax S c) 19 I2 L3 A') ?_ ?_
    · rintro L3 ⟨j1, j2⟩
      have kp : keepC I I2 L L3 A A' B B := ⟨g1, j1, k3, fun _ _ _ => rfl⟩
      obtain ⟨hF2, hD2, hX2, hT2, hP2⟩ := kp.RC hW hC0
      refine c_lift1 hD2 hX2 hP2 hW ha (fun m hm => ?_)
      refine c_sift hF2 hD2 hX2 hW ha (clk_wfl hW hc w) j2 (fun m2 hm2 => ?_)
      rw [bm_ct (bm_and hm hm2) (n := nD S) (fun i hi => by rw [nea_out hW _ _ i hi]; rfl) (by omega)]
      rw [← fb_ct_cong (fun d _ => clk_nea hW hc w d)]
      exact h _ _ _ (kp.RC hW hC0)
    · intro k hk
      have e19 : ∀ (b : Bool) (m : Int64), bm m (fun i => if i = c then b else (ax S i == ax S c && sl.1 i)) → b = (!(w == 2)) → cSl S (clk S c w) (ax S c) 19 I2 (va_up L2 19 m) A' := by
        intro b m hm hb
        rw [g5, ← hb]
        refine ⟨?_, g3.2.1, g3.2.2.1, g3.2.2.2⟩
        rw [up_s]
        refine bm_to hm (fun i _ => ?_)
        by_cases e : i = c
        · subst e; simp [seS]
        · simp [seS, e]
      by_cases e : w = 2
      · simp only [e, if_true, bs_bit]
        rintro _ rfl
        refine hk _ ⟨fun k q => by rw [up_n _ _ q]; exact g2 k q, e19 false _ (bm_to (bm_and g3.1 (bm_not (bm_bit (show c < 64 by omega)))) (fun i _ => ?_)) (by simp [e])⟩
        by_cases e3 : i = c <;> simp [e3]
      · simp only [e, if_false, bs_bit]
        rintro _ rfl
        refine hk _ ⟨fun k q => by rw [up_n _ _ q]; exact g2 k q, e19 true _ (bm_to (bm_or g3.1 (bm_bit (show c < 64 by omega))) (fun i _ => ?_)) (by simp [e])⟩
        by_cases e3 : i = c
        · simp [e3]
        · simp [e3, bqf e3]
  · intro k hk
    have base : ¬ (w = 0 ∧ kd S (ax S c) = 0) → k (I', L') := fun hne => hk (I', L') ⟨k1, q2, se S, hs, hw, by unfold clk; rw [if_neg hne]⟩
    by_cases e : w = 0
    · simp only [e, if_true]
      rw [k1 _ (by unfold sI; omega), hX.2.1 _ ha]
      simp (disch := omega) only [zcmp, zari, z00, zm1, le_n, lt_n, eq_n, n_add, n_mul, n_c, n_in, true_and, and_true, if_true, if_false, bi_0, bi_1, ite_true, ite_false, Bool.true_eq_false, Bool.false_eq_true]
      by_cases e2 : kd S (ax S c) = 0
      · simp only [e2, if_true]
        unfold wX5_clear
        rintro _ rfl _ rfl _ rfl
        refine hk _ ⟨fun k q => ?_, fun k q => ?_, opS S (se S) (ax S c), ⟨?_, ?_, ?_, fun j hj => ?_⟩, opS_wfl hw _, ?_⟩
        · dsimp only
          rw [up_n _ _ (by unfold sI at q; omega), up_n _ _ (by unfold sI at q; omega)]; exact k1 k q
        · dsimp only
          rw [up_n _ _ q]; exact q2 k q
        · dsimp only
          rw [up_s]
          exact bm_0 (fun i _ => by cases e4 : (ax S i == ax S c) <;> simp [opS, e4])
        · dsimp only
          rw [up_n _ _ (by omega), up_s]; simp [opS, bi]
        · dsimp only
          rw [up_s]; simp [opS, nI_0]
        · simp [opS] at hj
        · unfold clk; rw [if_pos ⟨e, e2⟩, e]; rfl
      · simp only [e2, if_false]
        exact base (fun q => e2 q.2)
    · simp only [e, if_false]
      exact base (fun q => e q.1)
end
