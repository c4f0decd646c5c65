-- numbers
def bi (b : Bool) : Int32 := if b then 1 else 0
theorem bi_t : bi true = 1 := rfl
theorem bi_f : bi false = 0 := rfl
theorem bi_0 {b : Bool} : (bi b = 0) = (b = false) := by cases b <;> simp [bi]
theorem bi_1 {b : Bool} : (bi b = 1) = (b = true) := by cases b <;> simp [bi]
theorem bi_zb {b : Bool} : zb (bi b) := by cases b <;> simp [bi, zb]
theorem bi_nar {b : Bool} : vp_nar .boolean (bi b) = bi b := by cases b <;> rfl
theorem bi_nI (b : Bool) : bi b = nI (if b then 1 else 0) := by cases b <;> rfl
theorem nI_one : nI 1 = 1 := rfl
theorem z1l : (1 : Int32) = nI 1 := rfl
theorem z0l : (0 : Int32) = nI 0 := rfl
theorem toInt_m1 : (-1 : Int32).toInt = -1 := by decide
/-- a number that is no place of n -/
def ou (x : Int32) (n : Nat) : Prop := x < 0 ∨ nI n ≤ x
theorem ix (x : Int32) {n : Nat} (hn : n < 2 ^ 31) : ou x n ∨ ∃ j : Nat, j < n ∧ x = nI j := by
  rcases pk_ix x hn with h | h | h
  · exact Or.inl (Or.inl h)
  · exact Or.inl (Or.inr h)
  · exact Or.inr h
theorem i32_ext {a b : Int32} (h : a.toInt = b.toInt) : a = b := Int32.toInt_inj.mp h
theorem lt_i {a b : Int32} : (a < b) = (a.toInt < b.toInt) := propext Int32.lt_iff_toInt_lt
theorem le_i {a b : Int32} : (a ≤ b) = (a.toInt ≤ b.toInt) := propext Int32.le_iff_toInt_le
theorem eq_i {a b : Int32} : (a = b) = (a.toInt = b.toInt) := propext Int32.toInt_inj.symm
theorem le_n {a b : Nat} (ha : a < 2 ^ 31) (hb : b < 2 ^ 31) : (nI a ≤ nI b) = (a ≤ b) := propext (nI_leI ha hb)
theorem lt_n {a b : Nat} (ha : a < 2 ^ 31) (hb : b < 2 ^ 31) : (nI a < nI b) = (a < b) := propext (nI_ltI ha hb)
theorem eq_n {a b : Nat} (ha : a < 2 ^ 31) (hb : b < 2 ^ 31) : (nI a = nI b) = (a = b) := propext (nI_eq ha hb)
theorem n_lt0 {a : Nat} (ha : a < 2 ^ 31) : (nI a < 0) = False := eq_false (nI_pos ha)
theorem n_0le {a : Nat} (ha : a < 2 ^ 31) : (0 ≤ nI a) = True := eq_true (nI_pos' ha)
theorem n_eq0 {a : Nat} (ha : a < 2 ^ 31) : (nI a = 0) = (a = 0) := by rw [z0l]; exact eq_n ha (by decide)
theorem n_0lt {a : Nat} (ha : a < 2 ^ 31) : (0 < nI a) = (0 < a) := by rw [z0l]; exact lt_n (by decide) ha
theorem n_le0 {a : Nat} (ha : a < 2 ^ 31) : (nI a ≤ 0) = (a = 0) := by rw [z0l, le_n ha (by decide)]; exact propext Nat.le_zero
theorem n_eqm1 {a : Nat} (ha : a < 2 ^ 31) : (nI a = -1) = False := eq_false (by rw [eq_i, nI_toInt ha, toInt_m1]; omega)
theorem n_in {a n : Nat} (h : a < n) (hn : n < 2 ^ 31) : vp_in (nI a) n = True := eq_true (vp_in_nI h hn)
theorem n_add (a b : Nat) : nI a + nI b = nI (a + b) := nI_add a b
theorem n_s (a : Nat) : nI a + 1 = nI (a + 1) := nI_1 a
theorem n_sub {a b : Nat} (h : b ≤ a) : nI a - nI b = nI (a - b) := pk_sub h
theorem n_p {a : Nat} (h : 1 ≤ a) : nI a - 1 = nI (a - 1) := by rw [z1l]; exact pk_sub h
theorem n_m1 {a : Nat} (h : 1 ≤ a) : nI a + (-1) = nI (a - 1) := by
  obtain ⟨b, rfl⟩ : ∃ b, a = b + 1 := ⟨a - 1, by omega⟩
  exact pk_m1 b
theorem n_mul (a b : Nat) : nI a * nI b = nI (a * b) := pk_mul a b
theorem n_c {a : Nat} (h : a < 2 ^ 31) : (nI a).toNatClampNeg = a := nI_clamp h
theorem n_lit (n : Nat) : (OfNat.ofNat n : Int32) = nI n := rfl
theorem ou_nI {a n : Nat} (h : n ≤ a) (ha : a < 2 ^ 31) : ou (nI a) n := Or.inr (nI_le h ha)
theorem ou_not {a n : Nat} (h : a < n) (hn : n < 2 ^ 31) : ¬ ou (nI a) n := by
  rintro (q | q)
  · exact nI_pos (by omega) q
  · exact nI_ge h hn q
theorem ou_m1 (n : Nat) : ou (-1) n := Or.inl (by decide)
-- loops over a range
theorem lfix_for {α β : Type} {b : (α → Prop) → α → Prop} (N : Nat) (st : Nat → β → α) (J : Nat → β → Prop) (k0 : Nat) (y0 : β) (h0 : k0 ≤ N) (hJ : J k0 y0)
    (hs : ∀ (r : α → Prop) (k : Nat) (y : β), k < N → J k y → (∀ y', J (k + 1) y' → r (st (k + 1) y')) → b r (st k y)) (he : ∀ (r : α → Prop) (y : β), J N y → b r (st N y)) : ∃ n, lfix b n (st k0 y0) := by
  have H : ∀ j k y, k + j = N → J k y → lfix b (j + 1) (st k y) := by
    intro j
    induction j with
    | zero => intro k y hk hy; obtain rfl : k = N := by omega
              exact he _ y hy
    | succ j ih => intro k y hk hy; exact hs _ k y (by omega) hy (fun y' hy' => ih (k + 1) y' (by omega) hy')
  exact ⟨_, H (N - k0) k0 y0 (by omega) hJ⟩
theorem jn_ite {α : Type} {K : α → Prop} {c : Prop} [Decidable c] {a b : α} : jn K (fun k => if c then k a else k b) = K (if c then a else b) := by
  unfold jn; split <;> rfl
-- what is written
theorem up_s {α : Type} (f : Nat → α) (k : Nat) (v : α) : va_up f k v k = v := va_up_self f k v
theorem up_n {α : Type} (f : Nat → α) {k j : Nat} (v : α) (h : j ≠ k) : va_up f k v j = f j := va_up_ne f v h
theorem ud_s (f : Nat → Int32) (k : Nat) (v : Int32) : upd f k v k = v := by simp [upd]
theorem ud_n (f : Nat → Int32) {k j : Nat} (v : Int32) (h : j ≠ k) : upd f k v j = f j := by simp [upd, h]
theorem ul_s (f : Nat → Int64) (k : Nat) (v : Int64) : vp_updL f k v k = v := by simp [vp_updL]
theorem ul_n (f : Nat → Int64) {k j : Nat} (v : Int64) (h : j ≠ k) : vp_updL f k v j = f j := by simp [vp_updL, h]
-- bits of a long
def tb (m : Int64) (i : Nat) : Bool := m.toBitVec.getLsbD i
theorem tb_big {m : Int64} {i : Nat} (h : 64 ≤ i) : tb m i = false := by
  unfold tb; exact BitVec.getLsbD_of_ge _ _ h
theorem tb_ext {a b : Int64} (h : ∀ i, i < 64 → tb a i = tb b i) : a = b := by
  apply Int64.toBitVec_inj.mp
  apply BitVec.eq_of_getLsbD_eq
  intro i hi
  exact h i hi
theorem tb_0 (i : Nat) : tb 0 i = false := by simp [tb]
theorem tb_and (a b : Int64) (i : Nat) : tb (a &&& b) i = (tb a i && tb b i) := by simp [tb]
theorem tb_or (a b : Int64) (i : Nat) : tb (a ||| b) i = (tb a i || tb b i) := by simp [tb]
theorem tb_xor (a b : Int64) (i : Nat) : tb (a ^^^ b) i = (tb a i ^^ tb b i) := by simp [tb]
theorem tb_m1 {i : Nat} (h : i < 64) : tb (-1) i = true := by
  have e : (-1 : Int64).toBitVec = BitVec.allOnes 64 := by decide
  unfold tb
  rw [e, BitVec.getLsbD_allOnes]
  simp [h]
theorem tb_not (a : Int64) {i : Nat} (h : i < 64) : tb (a ^^^ (-1)) i = !(tb a i) := by
  rw [tb_xor, tb_m1 h, Bool.xor_true]
theorem tb_zero {m : Int64} : m = 0 ↔ ∀ i, i < 64 → tb m i = false := by
  constructor
  · rintro rfl i _; exact tb_0 i
  · intro h; exact tb_ext (fun i hi => by rw [h i hi, tb_0])
def bt1 (k : Nat) : Int64 := 1 <<< ((nI k).toInt64 &&& 63)
theorem bt1_bv : ∀ k, k < 64 → (bt1 k).toBitVec = BitVec.twoPow 64 k := by
  have h : ∀ k : Fin 64, (bt1 k.val).toBitVec = BitVec.twoPow 64 k.val := by decide +kernel
  exact fun k hk => h ⟨k, hk⟩
theorem tb_bt1 {k : Nat} (hk : k < 64) (i : Nat) : tb (bt1 k) i = decide (i = k) := by
  unfold tb
  rw [bt1_bv k hk, BitVec.getLsbD_twoPow]
  by_cases h : i = k
  · subst h; simp [hk]
  · have h2 : ¬ k = i := fun e => h e.symm
    simp [h, h2]
theorem bs_bit (k : Nat) (post : Int64 → Prop) : wX9_bit (nI k) post = post (bt1 k) := rfl
theorem lc_0 {m k : Int64} : (lg_cmp m k = 0) = (m = k) := by
  unfold lg_cmp
  by_cases h : m > k
  · have h2 : ¬ m = k := by rintro rfl; exact absurd h (Int64.lt_irrefl)
    simp [h, h2]
  · by_cases h3 : m = k
    · simp [h3]
    · simp [h, h3]
theorem sh_c : ∀ k, k < 64 → (((nI k).toInt64.toUInt64 &&& Int64.toUInt64 63).toNat % 64) = k := by
  have h : ∀ k : Fin 64, (((nI k.val).toInt64.toUInt64 &&& Int64.toUInt64 63).toNat % 64) = k.val := by decide +kernel
  exact fun k hk => h ⟨k, hk⟩
theorem tb_shr (m : Int64) {k : Nat} (hk : k < 64) (i : Nat) : tb ((m.toUInt64 >>> ((nI k).toInt64.toUInt64 &&& Int64.toUInt64 63)).toInt64) i = tb m (k + i) := by
  have e : ((m.toUInt64 >>> ((nI k).toInt64.toUInt64 &&& Int64.toUInt64 63)).toInt64).toBitVec = m.toBitVec >>> k := by
    show (m.toUInt64 >>> ((nI k).toInt64.toUInt64 &&& Int64.toUInt64 63)).toBitVec = _
    rw [UInt64.toBitVec_shiftRight]
    have : (((nI k).toInt64.toUInt64 &&& Int64.toUInt64 63).toBitVec % 64) = BitVec.ofNat 64 k := by
      apply BitVec.eq_of_toNat_eq
      have h9 := sh_c k hk
      rw [BitVec.toNat_umod, BitVec.toNat_ofNat, show (64 : BitVec 64).toNat = 64 from rfl, show ((nI k).toInt64.toUInt64 &&& Int64.toUInt64 63).toBitVec.toNat = ((nI k).toInt64.toUInt64 &&& Int64.toUInt64 63).toNat from rfl, h9]
      omega
    rw [this]
    apply BitVec.eq_of_toNat_eq
    simp [Nat.mod_eq_of_lt (show k < 18446744073709551616 by omega)]
  unfold tb
  rw [e, BitVec.getLsbD_ushiftRight]
theorem bs_in (m : Int64) {k : Nat} (hk : k < 64) (post : Int32 → Prop) : wX9_inSet m (nI k) post = post (bi (tb m k)) := by
  unfold wX9_inSet
  simp only [lc_0]
  by_cases h : tb m k = true
  · rw [if_neg, h]; rfl
    intro e
    have := tb_zero.mp e 0 (by decide)
    rw [tb_and, tb_shr m hk, Nat.add_zero, h] at this
    exact absurd this (by decide)
  · have h : tb m k = false := by simpa using h
    rw [if_pos, h]; rfl
    apply tb_ext
    intro i hi
    rw [tb_and, tb_0]
    have e : tb (1 : Int64) i = decide (i = 0) := tb_bt1 (k := 0) (by decide) i
    rw [e]
    by_cases hi0 : i = 0
    · subst hi0; rw [tb_shr m hk, Nat.add_zero, h]; rfl
    · simp [hi0]
