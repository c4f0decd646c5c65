theorem wb_tb (n : Nat) : (lN n).toBitVec = BitVec.ofNat 64 n := rfl
theorem wb_inj {a b : Int64} (h : a.toBitVec = b.toBitVec) : a = b := Int64.toBitVec_inj.mp h
theorem wb_tn {n : Nat} (h : n < 2 ^ 64) : (lN n).toBitVec.toNat = n := by rw [wb_tb, BitVec.toNat_ofNat, Nat.mod_eq_of_lt h]
theorem wb_of (x : Int64) : ∃ n, n < 2 ^ 64 ∧ x = lN n := ⟨x.toBitVec.toNat, x.toBitVec.isLt, wb_inj (by rw [wb_tb]; simp)⟩
theorem wb_of32 (x : Int32) : ∃ n, n < 2 ^ 32 ∧ x = nI n := ⟨x.toBitVec.toNat, x.toBitVec.isLt, Int32.toBitVec_inj.mp (by show _ = BitVec.ofNat 32 _; simp)⟩
theorem wb_c : ∀ k, k < 64 → ((nI k).toInt64 &&& 63) = lN k := by decide +kernel
theorem wb_cu : ∀ k, k < 64 → ((nI k).toInt64.toUInt64 &&& Int64.toUInt64 63) = UInt64.ofNat k := by decide +kernel
theorem wb_sm : ∀ k, k < 64 → (BitVec.ofNat 64 k).smod 64 = BitVec.ofNat 64 k := by decide +kernel
theorem wb_pw {a b : Nat} (h : a ≤ b) : 2 ^ b = 2 ^ a * 2 ^ (b - a) := by rw [← Nat.pow_add]; congr 1; omega
theorem wb_lt2 {a b : Nat} (h : a < b) : 2 ^ a < 2 ^ b := Nat.pow_lt_pow_right (by decide) h
theorem wb_mod (n : Nat) : lN n = lN (n % 2 ^ 64) := wb_inj (by rw [wb_tb, wb_tb]; apply BitVec.eq_of_toNat_eq; rw [BitVec.toNat_ofNat, BitVec.toNat_ofNat, Nat.mod_mod])
theorem wb_shr {n k : Nat} (hn : n < 2 ^ 64) (hk : k < 64) : ((lN n).toUInt64 >>> ((nI k).toInt64.toUInt64 &&& Int64.toUInt64 63)).toInt64 = lN (n / 2 ^ k) := by
  rw [wb_cu k hk]
  apply wb_inj
  apply BitVec.eq_of_toNat_eq
  show ((lN n).toUInt64 >>> UInt64.ofNat k).toNat = (BitVec.ofNat 64 _).toNat
  have h1 : (UInt64.ofNat k).toNat = k := by
    show (BitVec.ofNat 64 k).toNat = k
    rw [BitVec.toNat_ofNat, Nat.mod_eq_of_lt (by omega)]
  have h2 : (lN n).toUInt64.toNat = n := wb_tn hn
  rw [UInt64.toNat_shiftRight, h1, h2, Nat.mod_eq_of_lt hk, Nat.shiftRight_eq_div_pow, BitVec.toNat_ofNat, Nat.mod_eq_of_lt (Nat.lt_of_le_of_lt (Nat.div_le_self _ _) hn)]
theorem wb_shl (n : Nat) {k : Nat} (hk : k < 64) : lN n <<< ((nI k).toInt64 &&& 63) = lN (n * 2 ^ k) := by
  rw [wb_c k hk]
  apply wb_inj
  rw [Int64.toBitVec_shiftLeft, wb_tb, wb_tb, wb_tb, wb_sm k hk]
  apply BitVec.eq_of_toNat_eq
  rw [BitVec.shiftLeft_eq', BitVec.toNat_shiftLeft, BitVec.toNat_ofNat, BitVec.toNat_ofNat, BitVec.toNat_ofNat, Nat.mod_eq_of_lt (show k < 2 ^ 64 by omega), Nat.shiftLeft_eq, Nat.mul_mod, Nat.mod_mod, ← Nat.mul_mod]
theorem wb_and {a b : Nat} (ha : a < 2 ^ 64) (hb : b < 2 ^ 64) : lN a &&& lN b = lN (a &&& b) := by
  apply wb_inj
  rw [Int64.toBitVec_and, wb_tb, wb_tb, wb_tb]
  apply BitVec.eq_of_toNat_eq
  rw [BitVec.toNat_and, BitVec.toNat_ofNat, BitVec.toNat_ofNat, BitVec.toNat_ofNat, Nat.mod_eq_of_lt ha, Nat.mod_eq_of_lt hb, Nat.mod_eq_of_lt (Nat.and_lt_two_pow _ hb)]
-- how many bits: byte by byte
theorem pc_and (x y m e : Nat) (hy : y < 256) (he : e < 256) : (256 * x + y) &&& (256 * m + e) = 256 * (x &&& m) + (y &&& e) := by
  have h1 := Nat.and_div_two_pow (a := 256 * x + y) (b := 256 * m + e) (n := 8)
  have h2 := Nat.and_mod_two_pow (a := 256 * x + y) (b := 256 * m + e) (n := 8)
  have e1 : (256 * x + y) / 2 ^ 8 = x := by omega
  have e2 : (256 * m + e) / 2 ^ 8 = m := by omega
  have e3 : (256 * x + y) % 2 ^ 8 = y := by omega
  have e4 : (256 * m + e) % 2 ^ 8 = e := by omega
  rw [e1, e2] at h1
  rw [e3, e4] at h2
  omega
def pM (e : Nat) : Nat → Nat
  | 0 => 0
  | k + 1 => 256 * pM e k + e
def p1 (n M : Nat) : Nat := n - (n / 2 &&& M)
def p2 (n M : Nat) : Nat := (n &&& M) + (n / 4 &&& M)
def p3 (n M : Nat) : Nat := (n + n / 16) &&& M
theorem pc_b1 : ∀ b, b < 256 → ∀ e, e < 2 → ((128 * e + b / 2) &&& 85 = (b / 2 &&& 85)) ∧ (b / 2 &&& 85) ≤ b := by decide +kernel
theorem pc_b2 : ∀ b, b < 256 → ∀ e, e < 4 → ((64 * e + b / 4) &&& 51 = (b / 4 &&& 51)) := by decide +kernel
theorem pc_b3 : ∀ b, b < 256 → (p2 (p1 b 85) 51) % 16 ≤ 4 ∧ (p2 (p1 b 85) 51) / 16 ≤ 4 ∧ ((p2 (p1 b 85) 51) + (p2 (p1 b 85) 51) / 16) &&& 15 = fb_ct b.testBit 8 ∧ p1 b 85 < 256 := by decide +kernel
theorem pc_b4 : ∀ v, v < 256 → ∀ e, e < 16 → (v + 16 * e < 256 → (v + 16 * e) &&& 15 = v &&& 15) := by decide +kernel
theorem pc_le (n M : Nat) : (n / 2 &&& M) ≤ n := Nat.le_trans Nat.and_le_left (Nat.div_le_self _ _)
theorem pc_1 (q b M : Nat) (hb : b < 256) : p1 (256 * q + b) (256 * M + 85) = 256 * p1 q M + p1 b 85 := by
  unfold p1
  have e : (256 * q + b) / 2 = 256 * (q / 2) + (128 * (q % 2) + b / 2) := by omega
  have h := pc_b1 b hb (q % 2) (by omega)
  rw [e, pc_and _ _ _ _ (by omega) (by decide), h.1]
  have := pc_le q M
  omega
theorem pc_2 (u v M : Nat) (hv : v < 256) : p2 (256 * u + v) (256 * M + 51) = 256 * p2 u M + p2 v 51 := by
  unfold p2
  have e : (256 * u + v) / 4 = 256 * (u / 4) + (64 * (u % 4) + v / 4) := by omega
  rw [e, pc_and _ _ _ _ hv (by decide), pc_and _ _ _ _ (by omega) (by decide), pc_b2 v hv (u % 4) (by omega)]
  omega
theorem pc_3 (u v M : Nat) (hu : u % 16 ≤ 4) (h1 : v % 16 ≤ 4) (h2 : v / 16 ≤ 4) : p3 (256 * u + v) (256 * M + 15) = 256 * p3 u M + ((v + v / 16) &&& 15) := by
  unfold p3
  have e : (256 * u + v) + (256 * u + v) / 16 = 256 * (u + u / 16) + ((v + v / 16) + 16 * (u % 16)) := by omega
  have hs : v + v / 16 + 16 * (u % 16) < 256 := by omega
  rw [e, pc_and _ _ _ _ hs (by decide), pc_b4 (v + v / 16) (by omega) (u % 16) (by omega) hs]
/-- bytes of bits -/
def pS : Nat → Nat → Nat
  | 0, _ => 0
  | k + 1, n => 256 * pS k (n / 256) + fb_ct (n % 256).testBit 8
theorem pc_low (k n : Nat) : p2 (p1 n (pM 85 k)) (pM 51 k) % 16 ≤ 4 := by
  cases k with
  | zero => simp [pM, p1, p2]
  | succ k =>
    have e : n = 256 * (n / 256) + n % 256 := by omega
    have hb : n % 256 < 256 := by omega
    obtain ⟨h1, h2, h3, h4⟩ := pc_b3 _ hb
    rw [e]
    unfold pM
    rw [pc_1 _ _ _ hb, pc_2 _ _ _ h4]
    omega
theorem pc_sum : ∀ (k n : Nat), p3 (p2 (p1 n (pM 85 k)) (pM 51 k)) (pM 15 k) = pS k n
  | 0, n => by simp [pM, p1, p2, p3, pS]
  | k + 1, n => by
    have e : n = 256 * (n / 256) + n % 256 := by omega
    have hb : n % 256 < 256 := by omega
    obtain ⟨h1, h2, h3, h4⟩ := pc_b3 _ hb
    have := pc_sum k (n / 256)
    conv => lhs; rw [e]
    unfold pM
    rw [pc_1 _ _ _ hb, pc_2 _ _ _ h4, pc_3 _ _ _ (pc_low k _) h1 h2, this, h3, pS]
/-- their sum -/
def pT : Nat → Nat → Nat
  | 0, _ => 0
  | k + 1, n => pT k (n / 256) + fb_ct (n % 256).testBit 8
theorem pT_ct : ∀ (k n : Nat), pT k n = fb_ct n.testBit (8 * k)
  | 0, n => rfl
  | k + 1, n => by
    rw [pT, pT_ct k, show 8 * (k + 1) = 8 + 8 * k by omega, fb_ct_split, Nat.add_comm]
    congr 1
    · apply fb_ct_cong
      intro i hi
      rw [show 256 = 2 ^ 8 from rfl, Nat.testBit_mod_two_pow]
      simp [hi]
    · apply fb_ct_cong
      intro i hi
      rw [show 256 = 2 ^ 8 from rfl, Nat.testBit_div_two_pow, Nat.add_comm]
def p6 (a : Nat) : Nat := let b := a + a / 256; let c := b + b / 65536; c + c / 4294967296
theorem pc_e1 {a x : Nat} (p : Nat) (hp : p ≤ 8) (h : a = 256 * x + p) : a / 256 = x := by omega
theorem pc_8 (b : Nat) : fb_ct b.testBit 8 ≤ 8 := fb_ct_le _ 8
theorem pS_lt : ∀ (k n : Nat), pS k n < 256 ^ k
  | 0, n => by simp [pS]
  | k + 1, n => by
    have := pS_lt k (n / 256)
    have h8 := pc_8 (n % 256)
    rw [pS, Nat.pow_succ]
    omega
theorem tb_lN {n : Nat} (i : Nat) (hi : i < 64) : tb (lN n) i = n.testBit i := by
  unfold tb
  rw [wb_tb, BitVec.getLsbD_ofNat]
  simp [hi]
theorem pc_q (x4 x3 x2 x1 a p0 p1 p2 p3 : Nat) (h0 : a = 256 * x1 + p0) (h1 : x1 = 256 * x2 + p1) (h2 : x2 = 256 * x3 + p2) (h3 : x3 = 256 * x4 + p3) : a = 4294967296 * x4 + (16777216 * p3 + 65536 * p2 + 256 * p1 + p0) := by omega
theorem pc_d4 (a b c d x y z w la lb lc ld : Nat) (ha : a = 4294967296 * x + la) (hb : b = 4294967296 * y + lb) (hc : c = 4294967296 * z + lc) (hd : d = 4294967296 * w + ld) (h : la + lb + lc + ld < 4294967296) : (a + b + (c + d)) / 4294967296 = x + y + z + w := by omega
theorem pc_end (a x1 x2 x3 x4 x5 x6 x7 q0 q1 q2 q3 q4 q5 q6 q7 : Nat) (e0 : a = 256 * x1 + q0) (e1 : x1 = 256 * x2 + q1) (e2 : x2 = 256 * x3 + q2) (e3 : x3 = 256 * x4 + q3) (e4 : x4 = 256 * x5 + q4) (e5 : x5 = 256 * x6 + q5) (e6 : x6 = 256 * x7 + q6) (e7 : x7 = q7)
    (h0 : q0 ≤ 8) (h1 : q1 ≤ 8) (h2 : q2 ≤ 8) (h3 : q3 ≤ 8) (h4 : q4 ≤ 8) (h5 : q5 ≤ 8) (h6 : q6 ≤ 8) (h7 : q7 ≤ 8) :
    a + a / 256 = a + x1 ∧ (a + x1) + (a + x1) / 65536 = a + x1 + (x2 + x3) ∧ p6 a = a + x1 + (x2 + x3) + (x4 + x5 + x6 + x7) ∧ p6 a % 128 = q0 + q1 + q2 + q3 + q4 + q5 + q6 + q7 := by
  have d1 : a / 256 = x1 := pc_e1 q0 h0 e0
  have d2 : (a + x1) / 65536 = x2 + x3 := by
    clear e4 e5 e6 e7
    omega
  have d3 : (a + x1 + (x2 + x3)) / 4294967296 = x4 + x5 + x6 + x7 := by
    have g0 := pc_q x4 x3 x2 x1 a q0 q1 q2 q3 e0 e1 e2 e3
    have g1 := pc_q x5 x4 x3 x2 x1 q1 q2 q3 q4 e1 e2 e3 e4
    have g2 := pc_q x6 x5 x4 x3 x2 q2 q3 q4 q5 e2 e3 e4 e5
    have g3 := pc_q x7 x6 x5 x4 x3 q3 q4 q5 q6 e3 e4 e5 e6
    exact pc_d4 _ _ _ _ _ _ _ _ _ _ _ _ g0 g1 g2 g3 (by clear e0 e1 e2 e3 e4 e5 e6 e7 g0 g1 g2 g3 d1 d2; omega)
  have h9 : p6 a = a + x1 + (x2 + x3) + (x4 + x5 + x6 + x7) := by
    unfold p6
    simp only [d1, d2, d3]
  refine ⟨by rw [d1], by rw [d2], h9, ?_⟩
  rw [h9]
  have g : a + x1 + (x2 + x3) + (x4 + x5 + x6 + x7) = 256 * (x1 + x2 + x3 + x4 + x5 + x6 + x7) + (q0 + q1 + q2 + q3 + q4 + q5 + q6 + q7) := by
    clear d1 d2 d3 h9 h0 h1 h2 h3 h4 h5 h6 h7
    omega
  rw [g]
  clear e0 e1 e2 e3 e4 e5 e6 e7 d1 d2 d3 h9 g
  omega
theorem pc_k {y z c b : Nat} (h : y = 256 * z + c) (hc : c ≤ 8) (hz : z ≤ b) : y ≤ 256 * b + 8 := by omega
theorem pc_f {y0 y1 y2 y3 : Nat} (h0 : y0 ≤ 256 * (256 * (256 * (256 * (256 * (256 * (256 * 8 + 8) + 8) + 8) + 8) + 8) + 8) + 8) (h1 : y1 ≤ 256 * (256 * (256 * (256 * (256 * (256 * 8 + 8) + 8) + 8) + 8) + 8) + 8) (h2 : y2 ≤ 256 * (256 * (256 * (256 * (256 * 8 + 8) + 8) + 8) + 8) + 8) (h3 : y3 ≤ 256 * (256 * (256 * (256 * 8 + 8) + 8) + 8) + 8) : y0 + y1 + (y2 + y3) < 2 ^ 63 := by omega
theorem pc_use (n : Nat) : ∃ x1 x23 : Nat, pS 8 n + pS 8 n / 256 = pS 8 n + x1 ∧ (pS 8 n + x1) + (pS 8 n + x1) / 65536 = pS 8 n + x1 + x23 ∧ p6 (pS 8 n) % 128 = fb_ct n.testBit 64 ∧ pS 8 n + x1 + x23 < 2 ^ 63 := by
  rw [show (64 : Nat) = 8 * 8 from rfl, ← pT_ct 8 n]
  obtain ⟨h1, h2, h3, h4⟩ := pc_end (pS 8 n) (pS 7 (n / 256)) (pS 6 (n / 256 / 256)) (pS 5 (n / 256 / 256 / 256)) (pS 4 (n / 256 / 256 / 256 / 256)) (pS 3 (n / 256 / 256 / 256 / 256 / 256)) (pS 2 (n / 256 / 256 / 256 / 256 / 256 / 256)) (pS 1 (n / 256 / 256 / 256 / 256 / 256 / 256 / 256)) _ _ _ _ _ _ _ (fb_ct (n / 256 / 256 / 256 / 256 / 256 / 256 / 256 % 256).testBit 8) rfl rfl rfl rfl rfl rfl rfl (by simp only [pS, Nat.mul_zero, Nat.zero_add]) (pc_8 _) (pc_8 _) (pc_8 _) (pc_8 _) (pc_8 _) (pc_8 _) (pc_8 _) (pc_8 _)
  refine ⟨_, _, h1, h2, ?_, ?_⟩
  · rw [h4]
    simp only [pT]
    omega
  · have g7 := pS_lt 7 (n / 256)
    have g6 := pS_lt 6 (n / 256 / 256)
    have g5 := pS_lt 5 (n / 256 / 256 / 256)
    have e : pS 8 n = 256 * pS 7 (n / 256) + fb_ct (n % 256).testBit 8 := rfl
    have e7 : pS 7 (n / 256) = 256 * pS 6 (n / 256 / 256) + fb_ct (n / 256 % 256).testBit 8 := rfl
    have b0 := pc_8 (n % 256)
    have f6 := pS_lt 1 (n / 256 / 256 / 256 / 256 / 256 / 256 / 256)
    have t7 : pS 1 (n / 256 / 256 / 256 / 256 / 256 / 256 / 256) ≤ 8 := by simp only [pS, Nat.mul_zero, Nat.zero_add]; exact pc_8 _
    have s6 : pS 2 (n / 256 / 256 / 256 / 256 / 256 / 256) = 256 * pS 1 (n / 256 / 256 / 256 / 256 / 256 / 256 / 256) + fb_ct (n / 256 / 256 / 256 / 256 / 256 / 256 % 256).testBit 8 := rfl
    have c6 := pc_8 (n / 256 / 256 / 256 / 256 / 256 / 256 % 256)
    have s5 : pS 3 (n / 256 / 256 / 256 / 256 / 256) = 256 * pS 2 (n / 256 / 256 / 256 / 256 / 256 / 256) + fb_ct (n / 256 / 256 / 256 / 256 / 256 % 256).testBit 8 := rfl
    have c5 := pc_8 (n / 256 / 256 / 256 / 256 / 256 % 256)
    have s4 : pS 4 (n / 256 / 256 / 256 / 256) = 256 * pS 3 (n / 256 / 256 / 256 / 256 / 256) + fb_ct (n / 256 / 256 / 256 / 256 % 256).testBit 8 := rfl
    have c4 := pc_8 (n / 256 / 256 / 256 / 256 % 256)
    have s3 : pS 5 (n / 256 / 256 / 256) = 256 * pS 4 (n / 256 / 256 / 256 / 256) + fb_ct (n / 256 / 256 / 256 % 256).testBit 8 := rfl
    have c3 := pc_8 (n / 256 / 256 / 256 % 256)
    have s2 : pS 6 (n / 256 / 256) = 256 * pS 5 (n / 256 / 256 / 256) + fb_ct (n / 256 / 256 % 256).testBit 8 := rfl
    have c2 := pc_8 (n / 256 / 256 % 256)
    have c1 := pc_8 (n / 256 % 256)
    generalize pS 1 (n / 256 / 256 / 256 / 256 / 256 / 256 / 256) = y7 at *
    generalize pS 2 (n / 256 / 256 / 256 / 256 / 256 / 256) = y6 at *
    generalize pS 3 (n / 256 / 256 / 256 / 256 / 256) = y5 at *
    generalize pS 4 (n / 256 / 256 / 256 / 256) = y4 at *
    generalize pS 5 (n / 256 / 256 / 256) = y3 at *
    generalize pS 6 (n / 256 / 256) = y2 at *
    generalize pS 7 (n / 256) = y1 at *
    generalize pS 8 n = y0 at *
    have k6 := pc_k s6 c6 t7
    have k5 := pc_k s5 c5 k6
    have k4 := pc_k s4 c4 k5
    have k3 := pc_k s3 c3 k4
    have k2 := pc_k s2 c2 k3
    have k1 := pc_k e7 c1 k2
    have k0 := pc_k e b0 k1
    exact pc_f k0 k1 k2 k3
theorem p1_lt {n : Nat} (h : n < 2 ^ 64) (M : Nat) : p1 n M < 2 ^ 64 := by unfold p1; omega
theorem pM_85 : pM 85 8 = 6148914691236517205 := by decide
theorem pM_51 : pM 51 8 = 3689348814741910323 := by decide
theorem pM_15 : pM 15 8 = 1085102592571150095 := by decide
theorem lN_m {a k p : Nat} (hk : k < 64) (hp : 2 ^ k = p) (ha : a < 2 ^ 64) : ((lN a).toUInt64 >>> ((nI k).toInt64.toUInt64 &&& Int64.toUInt64 63)).toInt64 = lN (a / p) := by rw [wb_shr ha hk, hp]
theorem pc_and127 (a : Nat) : (lN a).toInt32 &&& 127 = nI (a % 128) := by
  rw [lN_i, show (127 : Int32) = nI 127 from rfl]
  have h := pk_and (nI a) (m := nI 127) 7 (by decide)
  rw [h]
  congr 1
  show (Int32.ofNat a).toBitVec.toNat % 2 ^ 7 = _
  simp
theorem p2_lt (n : Nat) : p2 n 3689348814741910323 < 2 ^ 63 := by
  unfold p2
  have h1 : (n &&& 3689348814741910323) ≤ 3689348814741910323 := Nat.and_le_right
  have h2 : (n / 4 &&& 3689348814741910323) ≤ 3689348814741910323 := Nat.and_le_right
  omega
/-- Long.bitCount -/
theorem bs_count (m : Int64) (post : Int32 → Prop) : wJ13_bitCount_95d88 m post = post (nI (fb_ct (tb m) 64)) := by
  obtain ⟨n, hn, rfl⟩ := wb_of m
  obtain ⟨x1, x23, g1, g2, g3, g4⟩ := pc_use n
  have hs := pc_sum 8 n
  rw [pM_85, pM_51, pM_15] at hs
  have e1 : lN n - (((lN n).toUInt64 >>> ((1 : Int32).toInt64.toUInt64 &&& Int64.toUInt64 63)).toInt64 &&& 6148914691236517205) = lN (p1 n 6148914691236517205) := by
    rw [show (1 : Int32) = nI 1 from rfl, lN_m (by decide) (p := 2) rfl hn, show (6148914691236517205 : Int64) = lN 6148914691236517205 from rfl, wb_and (by omega) (by decide), lN_sub (pc_le _ _)]
    rfl
  have b1 : p1 n 6148914691236517205 < 2 ^ 64 := p1_lt hn _
  generalize p1 n 6148914691236517205 = a1 at e1 b1 hs
  have e2 : (lN a1 &&& 3689348814741910323) + (((lN a1).toUInt64 >>> ((2 : Int32).toInt64.toUInt64 &&& Int64.toUInt64 63)).toInt64 &&& 3689348814741910323) = lN (p2 a1 3689348814741910323) := by
    rw [show (2 : Int32) = nI 2 from rfl, lN_m (by decide) (p := 4) rfl b1, show (3689348814741910323 : Int64) = lN 3689348814741910323 from rfl, wb_and b1 (by decide), wb_and (by omega) (by decide), lN_add]
    rfl
  have b2 := p2_lt a1
  generalize p2 a1 3689348814741910323 = a2 at e2 b2 hs
  have e3 : (lN a2 + ((lN a2).toUInt64 >>> ((4 : Int32).toInt64.toUInt64 &&& Int64.toUInt64 63)).toInt64) &&& 1085102592571150095 = lN (p3 a2 1085102592571150095) := by
    rw [show (4 : Int32) = nI 4 from rfl, lN_m (by decide) (p := 16) rfl (by omega), show (1085102592571150095 : Int64) = lN 1085102592571150095 from rfl, lN_add, wb_and (by omega) (by decide)]
    rfl
  rw [hs] at e3
  have q4 : pS 8 n < 2 ^ 64 := by have := pS_lt 8 n; omega
  have e4 : lN (pS 8 n) + ((lN (pS 8 n)).toUInt64 >>> ((8 : Int32).toInt64.toUInt64 &&& Int64.toUInt64 63)).toInt64 = lN (pS 8 n + x1) := by
    rw [show (8 : Int32) = nI 8 from rfl, lN_m (by decide) (p := 256) rfl q4, lN_add, g1]
  have q5 : pS 8 n + x1 < 2 ^ 64 := by omega
  have e5 : lN (pS 8 n + x1) + ((lN (pS 8 n + x1)).toUInt64 >>> ((16 : Int32).toInt64.toUInt64 &&& Int64.toUInt64 63)).toInt64 = lN (pS 8 n + x1 + x23) := by
    rw [show (16 : Int32) = nI 16 from rfl, lN_m (by decide) (p := 65536) rfl q5, lN_add, g2]
  have e6 : lN (pS 8 n + x1 + x23) + ((lN (pS 8 n + x1 + x23)).toUInt64 >>> ((32 : Int32).toInt64.toUInt64 &&& Int64.toUInt64 63)).toInt64 = lN (p6 (pS 8 n)) := by
    rw [show (32 : Int32) = nI 32 from rfl, lN_m (by decide) (p := 4294967296) rfl (by omega), lN_add]
    unfold p6
    simp only [g1, g2]
  unfold wJ13_bitCount_95d88
  have fin : (lN (p6 (pS 8 n))).toInt32 &&& 127 = nI (fb_ct (tb (lN n)) 64) := by
    rw [pc_and127, g3]
    congr 1
    exact fb_ct_cong (fun i hi => (tb_lN i hi).symm)
  apply propext
  constructor
  · intro h
    have := h _ rfl _ rfl _ rfl _ rfl _ rfl _ rfl
    rw [e1, e2, e3, e4, e5, e6, fin] at this
    exact this
  · intro h v0 h0 v1 h1 v2 h2 v3 h3 v4 h4 v5 h5
    rw [e1] at h0; subst h0
    rw [e2] at h1; subst h1
    rw [e3] at h2; subst h2
    rw [e4] at h3; subst h3
    rw [e5] at h4; subst h4
    rw [e6] at h5; subst h5
    rw [fin]
    exact h
def f32a (x : Int32) : Int32 := x - (((x.toUInt32 >>> ((1 : Int32).toUInt32 &&& Int32.toUInt32 31)).toInt32) &&& 1431655765)
def f32b (v0 : Int32) : Int32 := (v0 &&& 858993459) + (((v0.toUInt32 >>> ((2 : Int32).toUInt32 &&& Int32.toUInt32 31)).toInt32) &&& 858993459)
def f32c (v0_1 : Int32) : Int32 := (v0_1 + ((v0_1.toUInt32 >>> ((4 : Int32).toUInt32 &&& Int32.toUInt32 31)).toInt32)) &&& 252645135
def f32d (v0_2 : Int32) : Int32 := v0_2 + ((v0_2.toUInt32 >>> ((8 : Int32).toUInt32 &&& Int32.toUInt32 31)).toInt32)
def f32e (v0_3 : Int32) : Int32 := v0_3 + ((v0_3.toUInt32 >>> ((16 : Int32).toUInt32 &&& Int32.toUInt32 31)).toInt32)
theorem f32_all : ∀ k : Fin 32, f32e (f32d (f32c (f32b (f32a (nI k.val))))) &&& 63 = nI (fb_ct k.val.testBit 5) := by decide +kernel
theorem bs_cnt32 {k : Nat} (hk : k < 32) (post : Int32 → Prop) : wJ6_bitCount_0f7a4 (nI k) post = post (nI (fb_ct k.testBit 5)) := by
  have h := f32_all ⟨k, hk⟩
  unfold wJ6_bitCount_0f7a4
  apply propext
  constructor
  · intro g
    have g := g _ rfl _ rfl _ rfl _ rfl _ rfl
    rw [← h]
    exact g
  · intro g v0 h0 v1 h1 v2 h2 v3 h3 v4 h4
    subst h0 h1 h2 h3 h4
    rw [← h] at g
    exact g
