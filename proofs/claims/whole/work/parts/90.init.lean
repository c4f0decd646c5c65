def gE (d : Nat) (nw : Nat → (Nat → Nat) → va_W) (u : Nat → Nat) : Nat → va_W
  | 0 => []
  | k + 1 => gE d nw u k ++ nw (u (d * k)) (fun t => u (d * k + t))
def exU (d k q : Nat) (u v : Nat → Nat) : Nat → Nat := fun j => if j < d * k then u j else if j = d * k then q else v (j - d * k)
theorem gE_cong {d : Nat} {nw : Nat → (Nat → Nat) → va_W} (hn : ∀ a v v', (∀ t, 1 ≤ t → t < d → v t = v' t) → nw a v = nw a v') (hd : 1 ≤ d) {u u' : Nat → Nat} : ∀ {k : Nat}, (∀ j, j < d * k → u j = u' j) → gE d nw u k = gE d nw u' k
  | 0, _ => rfl
  | k + 1, h => by
    have e : d * (k + 1) = d * k + d := Nat.mul_succ d k
    rw [gE, gE, gE_cong hn hd (fun j hj => h j (by omega)), h (d * k) (by omega), hn _ _ (fun t => u' (d * k + t)) (fun t _ ht => h _ (by omega))]
theorem gE_step {d : Nat} {nw : Nat → (Nat → Nat) → va_W} (hn : ∀ a v v', (∀ t, 1 ≤ t → t < d → v t = v' t) → nw a v = nw a v') (hd : 1 ≤ d) (k q : Nat) (u v : Nat → Nat) : gE d nw (exU d k q u v) (k + 1) = gE d nw u k ++ nw q v := by
  rw [gE, gE_cong (u' := u) hn hd (fun j hj => by unfold exU; rw [if_pos hj])]
  have e1 : exU d k q u v (d * k) = q := by unfold exU; rw [if_neg (Nat.lt_irrefl _), if_pos rfl]
  rw [e1, hn q (fun t => exU d k q u v (d * k + t)) v (fun t h1 h2 => by
    show exU d k q u v (d * k + t) = v t
    unfold exU
    rw [if_neg (by omega), if_neg (by omega), Nat.add_sub_cancel_left])]
def fE (d k : Nat) (u : Nat → Nat) : Nat → Option Nat := fun i => if i < k then some (u (d * i)) else none
theorem fE_step {d : Nat} (hd : 1 ≤ d) (k q : Nat) (u v : Nat → Nat) : va_up (fE d k u) k (some q) = fE d (k + 1) (exU d k q u v) := by
  funext i
  by_cases e : i = k
  · subst e
    rw [up_s]
    unfold fE exU
    rw [if_pos (Nat.lt_succ_self _), if_neg (Nat.lt_irrefl _), if_pos rfl]
  · rw [up_n _ _ e]
    unfold fE exU
    by_cases h : i < k
    · rw [if_pos h, if_pos (by omega), if_pos (Nat.mul_lt_mul_of_pos_left h hd)]
    · rw [if_neg h, if_neg (by omega)]
theorem fE_cong {d k : Nat} (hd : 1 ≤ d) {u u' : Nat → Nat} (h : ∀ j, j < d * k → u j = u' j) : fE d k u = fE d k u' := by
  funext i
  unfold fE
  by_cases e : i < k
  · rw [if_pos e, if_pos e, h _ (Nat.mul_lt_mul_of_pos_left e hd)]
  · rw [if_neg e, if_neg e]
def upU (q1 q2 : Nat) (u : Nat → Nat) : Nat → Nat := fun j => if j = 100 then q1 else if j = 101 then q2 else u j
theorem upU_lt {q1 q2 : Nat} {u : Nat → Nat} {j : Nat} (h : j < 100) : u j = upU q1 q2 u j := by unfold upU; rw [if_neg (by omega), if_neg (by omega)]
theorem get_mid {α : Type} {X Y : List α} {y : α} : (X ++ y :: Y)[X.length]? = some y := by simp
theorem nw5_cong {cy : Nat → ClassId} : ∀ a v v', (∀ t, 1 ≤ t → t < 3 → v t = v' t) → nw5 cy a v = nw5 cy a v' := fun a v v' h => by unfold nw5; rw [h 1 (by omega) (by omega), h 2 (by omega) (by omega)]
theorem nw0_cong {cy : Nat → ClassId} : ∀ a v v', (∀ t, 1 ≤ t → t < 5 → v t = v' t) → nw0 cy a v = nw0 cy a v' := fun a v v' h => by unfold nw0; rw [h 1 (by omega) (by omega), h 2 (by omega) (by omega), h 3 (by omega) (by omega), h 4 (by omega) (by omega)]
def arQ (cy : Nat → ClassId) (t n d k : Nat) (q : Nat) (u : Nat → Nat) : Nat × va_E := (q, .inl (cy t, n, .inr (.inr (.inr (.inr (fE d k u))))))
def nw8 (cy : Nat → ClassId) (h0 : Nat) (u : Nat → Nat) : va_W := [(h0, .inr (8, [.ref (u 100), .ref (u 101), .int 0, .int 0])), (u 100, .inl (cy 0, 16, .inl (fun _ => 0))), arQ cy 4 16 3 16 (u 101) u] ++ gE 3 (nw5 cy) u 16
def nw7 (cy : Nat → ClassId) (a1 a2 : Nat) (h0 : Nat) (u : Nat → Nat) : va_W := [(h0, .inr (7, [.ref a1, .ref a2, .ref (u 100), .ref (u 101), .int 0])), arQ cy 3 5 5 5 (u 100) u, (u 101, .inl (cy 1, 5, .inr (.inl (fun _ => 0))))] ++ gE 5 (nw0 cy) u 5
theorem dX8_init_0 : decode cX8_init 0 = .ok (.aload_n 0, 1) := by decide +kernel
theorem dX8_init_1 : decode cX8_init 1 = .ok (.invokespecial 3, 3) := by decide +kernel
theorem dX8_init_4 : decode cX8_init 4 = .ok (.aload_n 0, 1) := by decide +kernel
theorem dX8_init_5 : decode cX8_init 5 = .ok (.bipush 16, 2) := by decide +kernel
theorem dX8_init_7 : decode cX8_init 7 = .ok (.newarray .int, 2) := by decide +kernel
theorem dX8_init_9 : decode cX8_init 9 = .ok (.putfield 9, 3) := by decide +kernel
theorem dX8_init_12 : decode cX8_init 12 = .ok (.aload_n 0, 1) := by decide +kernel
theorem dX8_init_13 : decode cX8_init 13 = .ok (.bipush 16, 2) := by decide +kernel
theorem dX8_init_15 : decode cX8_init 15 = .ok (.anewarray 15, 3) := by decide +kernel
theorem dX8_init_18 : decode cX8_init 18 = .ok (.putfield 17, 3) := by decide +kernel
theorem dX8_init_21 : decode cX8_init 21 = .ok (.iconst 0, 1) := by decide +kernel
theorem dX8_init_22 : decode cX8_init 22 = .ok (.istore_n 1, 1) := by decide +kernel
theorem dX8_init_23 : decode cX8_init 23 = .ok (.iload_n 1, 1) := by decide +kernel
theorem dX8_init_24 : decode cX8_init 24 = .ok (.bipush 16, 2) := by decide +kernel
theorem dX8_init_26 : decode cX8_init 26 = .ok (.if_icmp .ge 22, 3) := by decide +kernel
theorem dX8_init_29 : decode cX8_init 29 = .ok (.aload_n 0, 1) := by decide +kernel
theorem dX8_init_30 : decode cX8_init 30 = .ok (.getfield 17, 3) := by decide +kernel
theorem dX8_init_33 : decode cX8_init 33 = .ok (.iload_n 1, 1) := by decide +kernel
theorem dX8_init_34 : decode cX8_init 34 = .ok (.new 15, 3) := by decide +kernel
theorem dX8_init_37 : decode cX8_init 37 = .ok (.dup, 1) := by decide +kernel
theorem dX8_init_38 : decode cX8_init 38 = .ok (.invokespecial 21, 3) := by decide +kernel
theorem dX8_init_41 : decode cX8_init 41 = .ok (.aastore, 1) := by decide +kernel
theorem dX8_init_42 : decode cX8_init 42 = .ok (.iinc 1 1, 3) := by decide +kernel
theorem dX8_init_45 : decode cX8_init 45 = .ok (.goto (-22), 3) := by decide +kernel
theorem dX8_init_48 : decode cX8_init 48 = .ok (.return_, 1) := by decide +kernel
abbrev rmX8_init : Room := { frames := 2, cells := 50, slots := 208, locals := 32 }
set_option maxHeartbeats 4000000 in
set_option maxRecDepth 100000 in
theorem c_X8_init {l : Launch} {D : va_G} {cy : Nat → ClassId} : CtorMet l yX8_init cX8_init 2 rmX8_init D cy 8 [.null, .null, .int 0, .int 0] [] (nw8 cy) 50 208 := by
  refine startK (by decide) rfl (fun _ => Nat.le_of_ble_eq_true rfl) (fun p e s m args below meth c Q ls h0 hx hb hml hT hown hin hK hI hret hl hP hD hS hA => ?_)
  have hl : lv_has ls 2 [(0, .ref h0)] := hl
  refine lv_aload_n hx hb dX8_init_0 rfl (lv_at hl 0 rfl) ?_
  refine W.objInit hx hb hown (hT _ mw_1_186) (hT _ mw_1_25) (hT _ xo_code) rfl (by rw [hml]; exact hl.1) rfl dX8_init_1 (Nat.le_of_ble_eq_true rfl) (Nat.le_of_ble_eq_true rfl) ?_
  refine W.eq (g2 := F0 m 4 ls []) rfl ?_
  refine lv_aload_n hx hb dX8_init_4 rfl (lv_at hl 0 rfl) ?_
  refine lv_bipush (v := 16) hx hb dX8_init_5 (by decide) ?_
  refine nw_I hx hb hT hK hP hD hS hA (N := 16) (by decide) rfl (Nat.le_of_ble_eq_true rfl) (Nat.le_of_ble_eq_true rfl) (Nat.le_of_ble_eq_true rfl) dX8_init_7 (fun q1 H hP hD hS => ?_)
  have hP : va_P D vwCl ([(h0, .inr (8, [.null, .null, .int 0, .int 0])), (q1, .inl (cy 0, 16, .inl (fun _ => 0)))]) H := hP
  have hD : va_D (nAd h0 s.heap.size) ([(h0, .inr (8, [.null, .null, .int 0, .int 0])), (q1, .inl (cy 0, 16, .inl (fun _ => 0)))]) := hD
  refine va_putF (D := D) (ci := 8) (v := .ref q1) (ty := .array .int) (C := RX8) (T := TX8) (N := 4) hx hb hT inlX8 tyX8 tyX8_ok nmX8 hown hK.1 hP hD hS 0 rfl rfl 0 (by decide) (hT _ mw_1_190) (fun _ h9 => h9) rfl hin rfl (by decide +kernel) rfl rfl (Nat.le_of_ble_eq_true rfl) dX8_init_9 (fun H locs hP hD hS => ?_)
  have hP : va_P D vwCl ([(h0, .inr (8, [.ref q1, .null, .int 0, .int 0])), (q1, .inl (cy 0, 16, .inl (fun _ => 0)))]) H := hP
  have hD : va_D (nAd h0 s.heap.size) ([(h0, .inr (8, [.ref q1, .null, .int 0, .int 0])), (q1, .inl (cy 0, 16, .inl (fun _ => 0)))]) := hD
  refine lv_aload_n hx hb dX8_init_12 rfl (lv_at hl 0 rfl) ?_
  refine lv_bipush (v := 16) hx hb dX8_init_13 (by decide) ?_
  refine nw_Q 4 hx hb hown (hT _ mw_1_187) hI.2.2 hK (fun _ => rfl) hP hD hS hA (N := 16) (by decide) rfl (Nat.le_of_ble_eq_true rfl) (Nat.le_of_ble_eq_true rfl) (Nat.le_of_ble_eq_true rfl) dX8_init_15 (fun q2 H hP hD hS => ?_)
  have hP : va_P D vwCl ([(h0, .inr (8, [.ref q1, .null, .int 0, .int 0])), (q1, .inl (cy 0, 16, .inl (fun _ => 0))), (q2, .inl (cy 4, 16, .inr (.inr (.inr (.inr (fun _ => none))))))]) H := hP
  have hD : va_D (nAd h0 s.heap.size) ([(h0, .inr (8, [.ref q1, .null, .int 0, .int 0])), (q1, .inl (cy 0, 16, .inl (fun _ => 0))), (q2, .inl (cy 4, 16, .inr (.inr (.inr (.inr (fun _ => none))))))]) := hD
  refine va_putF (D := D) (ci := 8) (v := .ref q2) (ty := .array (.object "DrillCount$Selection")) (C := RX8) (T := TX8) (N := 4) hx hb hT inlX8 tyX8 tyX8_ok nmX8 hown hK.1 hP hD hS 0 rfl rfl 1 (by decide) (hT _ mw_1_191) (fun _ h9 => h9) rfl hin rfl (by decide +kernel) rfl rfl (Nat.le_of_ble_eq_true rfl) dX8_init_18 (fun H locs hP hD hS => ?_)
  have hP : va_P D vwCl ([(h0, .inr (8, [.ref q1, .ref q2, .int 0, .int 0])), (q1, .inl (cy 0, 16, .inl (fun _ => 0))), (q2, .inl (cy 4, 16, .inr (.inr (.inr (.inr (fun _ => none))))))]) H := hP
  have hD : va_D (nAd h0 s.heap.size) ([(h0, .inr (8, [.ref q1, .ref q2, .int 0, .int 0])), (q1, .inl (cy 0, 16, .inl (fun _ => 0))), (q2, .inl (cy 4, 16, .inr (.inr (.inr (.inr (fun _ => none))))))]) := hD
  refine lv_iconst (v := 0) hx hb dX8_init_21 (by decide) ?_
  refine lv_istore_n (lv' := [(1, .int 0), (0, .ref h0)]) hx hb dX8_init_22 rfl hl (by decide) rfl (fun ls hl => ?_)
  have hf0 : (fun _ : Nat => (none : Option Nat)) = fE 3 0 (fun _ => 0) := by funext i; unfold fE; rw [if_neg (Nat.not_lt_zero i)]
  have LP : ∀ (n k : Nat), k + n = 16 → ∀ (u : Nat → Nat) (H : Heap) (locs : List Loc) (ls : Array Slot), va_P D vwCl ([(h0, .inr (8, [.ref q1, .ref q2, .int 0, .int 0])), (q1, .inl (cy 0, 16, .inl (fun _ => 0))), arQ cy 4 16 3 k q2 u] ++ gE 3 (nw5 cy) u k) H → va_D (nAd h0 s.heap.size) ([(h0, .inr (8, [.ref q1, .ref q2, .int 0, .int 0])), (q1, .inl (cy 0, 16, .inl (fun _ => 0))), arQ cy 4 16 3 k q2 u] ++ gE 3 (nw5 cy) u k) → va_S (nAd h0 s.heap.size) s.heap H locs → lv_has ls 2 [(1, .int (nI k)), (0, .ref h0)] → W p l e rmX8_init s m args below meth c H locs (2 + 3 * k) (32 + 11 * k) Q (F0 m 23 ls []) := by
    intro n
    induction n with
    | zero =>
      intro k hk u H locs ls hP hD hS hl
      obtain rfl : k = 16 := by omega
      refine lv_iload_n hx hb dX8_init_23 rfl (lv_at hl 0 rfl) ?_
      refine lv_bipush (v := 16) hx hb dX8_init_24 (by decide) ?_
      refine lv_icmp_ge (tgt := 48) hx hb dX8_init_26 (by decide) (fun _ => ?_) (fun hc => absurd (by decide) hc)
      refine W.widen (k := 50) (n := 208) (Nat.le_of_ble_eq_true rfl) (Nat.le_of_ble_eq_true rfl) ?_
      have eg : gE 3 (nw5 cy) u 16 = gE 3 (nw5 cy) (upU q1 q2 u) 16 := gE_cong nw5_cong (by decide) (fun j hj => upU_lt (by have hj : j < 48 := hj; omega))
      have ef : fE 3 16 u = fE 3 16 (upU q1 q2 u) := fE_cong (by decide) (fun j hj => upU_lt (by have hj : j < 48 := hj; omega))
      unfold arQ at hP hD
      rw [eg, ef] at hP hD
      exact hret (upU q1 q2 u) dX8_init_48 hP hD hS
    | succ n ih =>
      intro k hk u H locs ls hP hD hS hl
      refine lv_iload_n hx hb dX8_init_23 rfl (lv_at hl 0 rfl) ?_
      refine lv_bipush (v := 16) hx hb dX8_init_24 (by decide) ?_
      refine lv_icmp_ge (tgt := 48) hx hb dX8_init_26 (by decide) (fun hc => absurd hc (by rw [show (16 : Int32) = nI 16 from rfl, le_n (by decide) (by omega)]; omega)) (fun _ => ?_)
      refine lv_aload_n hx hb dX8_init_29 rfl (lv_at hl 1 rfl) ?_
      refine va_get (T := TX8) hx hb hT inlX8 hown hK.1 hP 0 rfl rfl 1 (by decide) (hT _ mw_1_191) (fun _ h9 => h9) rfl dX8_init_30 ?_
      refine lv_iload_n hx hb dX8_init_33 rfl (lv_at hl 0 rfl) ?_
      have hce : 2 + 3 * k + 1 ≤ rmX8_init.cells ∧ 2 + 3 * k + 1 + 2 ≤ rmX8_init.cells ∧ 32 + 11 * k + 5 ≤ rmX8_init.slots ∧ 32 + 11 * k + 5 + 6 ≤ rmX8_init.slots := by refine ⟨?_, ?_, ?_, ?_⟩ <;> simp only [] <;> omega
      refine va_new (ci := 5) (fs := [.long 0, .int 0, .int 0, .null, .null]) (C := RX5) (T := TX5) (N := 5) hx hb hT inlX5 tyX5 tyX5_ok hown (hT _ mw_1_187) (hT _ mw_1_115) (hT _ mw_1_7) hK.1 hP hD hS hA rfl (fun j hj => by rcases (show j = 0 ∨ j = 1 ∨ j = 2 ∨ j = 3 ∨ j = 4 by omega) with rfl | rfl | rfl | rfl | rfl <;> rfl) hce.1 hce.2.2.1 dX8_init_34 (fun q H hP hD hS => ?_)
      refine lv_dup hx hb dX8_init_37 rfl ?_
      refine ctorN (As := []) (rest := [.ref q, .int (nI k), .ref q2]) (n := 0) c_X5_init hx hb hml hT hown hK hI hP hD hS hA (List.mem_of_getElem? (i := 4) rfl) ⟨mw_1_117, mw_1_7, mw_1_118⟩ rfl (by decide +kernel) ⟨rfl, rfl⟩ ⟨Nat.le_of_ble_eq_true rfl, Nat.le_of_ble_eq_true rfl⟩ rfl hl.1 rfl (Nat.le_of_ble_eq_true rfl) dX8_init_38 ⟨hce.2.1, hce.2.2.2⟩ (fun v H locs hP hD hS => ?_)
      refine va_astq hx hb hK.1 hP hD hS 2 4 ([(h0, .inr (8, [.ref q1, .ref q2, .int 0, .int 0])), (q1, .inl (cy 0, 16, .inl (fun _ => 0))), arQ cy 4 16 3 k q2 u] ++ gE 3 (nw5 cy) u k).length 5 rfl rfl get_mid rfl (vp_in_nI (by omega) (by decide)) dX8_init_41 (fun H locs hP hD hS => ?_)
      rw [n_c (show k < 2 ^ 31 by omega), fE_step (d := 3) (by decide) k q u v] at hP hD
      have ew : ∀ x : Nat × va_E, ([(h0, .inr (8, [.ref q1, .ref q2, .int 0, .int 0])), (q1, .inl (cy 0, 16, .inl (fun _ => 0))), arQ cy 4 16 3 k q2 u] ++ gE 3 (nw5 cy) u k ++ nw5 cy q v).set 2 x = ([(h0, .inr (8, [.ref q1, .ref q2, .int 0, .int 0])), (q1, .inl (cy 0, 16, .inl (fun _ => 0))), arQ cy 4 16 3 k q2 u]).set 2 x ++ gE 3 (nw5 cy) (exU 3 k q u v) (k + 1) := fun x => by rw [gE_step nw5_cong (by decide), ← List.append_assoc]; rfl
      rw [ew] at hP hD
      refine lv_iinc (v := nI (k + 1)) (lv' := [(1, .int (nI (k + 1))), (0, .ref h0)]) hx hb dX8_init_42 hl (k := 0) rfl (n_s k) (by decide) rfl (fun ls hl => ?_)
      refine lv_goto (tgt := 23) hx hb dX8_init_45 (by decide) ?_
      refine W.widen (k := 2 + 3 * (k + 1)) (n := 32 + 11 * (k + 1)) (by omega) (by omega) ?_
      exact ih (k + 1) (by omega) (exU 3 k q u v) H locs ls hP hD hS hl
  rw [hf0] at hP hD
  exact LP 16 0 rfl (fun _ => 0) H locs ls hP hD hS hl
theorem dX7_init_0 : decode cX7_init 0 = .ok (.aload_n 0, 1) := by decide +kernel
theorem dX7_init_1 : decode cX7_init 1 = .ok (.invokespecial 3, 3) := by decide +kernel
theorem dX7_init_4 : decode cX7_init 4 = .ok (.aload_n 0, 1) := by decide +kernel
theorem dX7_init_5 : decode cX7_init 5 = .ok (.iconst 5, 1) := by decide +kernel
theorem dX7_init_6 : decode cX7_init 6 = .ok (.anewarray 9, 3) := by decide +kernel
theorem dX7_init_9 : decode cX7_init 9 = .ok (.putfield 11, 3) := by decide +kernel
theorem dX7_init_12 : decode cX7_init 12 = .ok (.aload_n 0, 1) := by decide +kernel
theorem dX7_init_13 : decode cX7_init 13 = .ok (.iconst 5, 1) := by decide +kernel
theorem dX7_init_14 : decode cX7_init 14 = .ok (.newarray .long, 2) := by decide +kernel
theorem dX7_init_16 : decode cX7_init 16 = .ok (.putfield 17, 3) := by decide +kernel
theorem dX7_init_19 : decode cX7_init 19 = .ok (.aload_n 0, 1) := by decide +kernel
theorem dX7_init_20 : decode cX7_init 20 = .ok (.aload_n 1, 1) := by decide +kernel
theorem dX7_init_21 : decode cX7_init 21 = .ok (.putfield 21, 3) := by decide +kernel
theorem dX7_init_24 : decode cX7_init 24 = .ok (.aload_n 0, 1) := by decide +kernel
theorem dX7_init_25 : decode cX7_init 25 = .ok (.aload_n 2, 1) := by decide +kernel
theorem dX7_init_26 : decode cX7_init 26 = .ok (.putfield 25, 3) := by decide +kernel
theorem dX7_init_29 : decode cX7_init 29 = .ok (.iconst 0, 1) := by decide +kernel
theorem dX7_init_30 : decode cX7_init 30 = .ok (.istore_n 3, 1) := by decide +kernel
theorem dX7_init_31 : decode cX7_init 31 = .ok (.iload_n 3, 1) := by decide +kernel
theorem dX7_init_32 : decode cX7_init 32 = .ok (.iconst 5, 1) := by decide +kernel
theorem dX7_init_33 : decode cX7_init 33 = .ok (.if_icmp .ge 22, 3) := by decide +kernel
theorem dX7_init_36 : decode cX7_init 36 = .ok (.aload_n 0, 1) := by decide +kernel
theorem dX7_init_37 : decode cX7_init 37 = .ok (.getfield 11, 3) := by decide +kernel
theorem dX7_init_40 : decode cX7_init 40 = .ok (.iload_n 3, 1) := by decide +kernel
theorem dX7_init_41 : decode cX7_init 41 = .ok (.new 9, 3) := by decide +kernel
theorem dX7_init_44 : decode cX7_init 44 = .ok (.dup, 1) := by decide +kernel
theorem dX7_init_45 : decode cX7_init 45 = .ok (.invokespecial 29, 3) := by decide +kernel
theorem dX7_init_48 : decode cX7_init 48 = .ok (.aastore, 1) := by decide +kernel
theorem dX7_init_49 : decode cX7_init 49 = .ok (.iinc 3 1, 3) := by decide +kernel
theorem dX7_init_52 : decode cX7_init 52 = .ok (.goto (-21), 3) := by decide +kernel
theorem dX7_init_55 : decode cX7_init 55 = .ok (.return_, 1) := by decide +kernel
abbrev rmX7_init : Room := { frames := 3, cells := 27, slots := 285, locals := 52 }
set_option maxHeartbeats 4000000 in
set_option maxRecDepth 100000 in
theorem c_X7_init {l : Launch} {D : va_G} {cy : Nat → ClassId} (a1 a2 : Nat) : CtorMet l yX7_init cX7_init 4 rmX7_init D cy 7 [.null, .null, .null, .null, .int 0] [.ref a1, .ref a2] (nw7 cy a1 a2) 27 285 := by
  refine startK (by decide) rfl (fun _ => Nat.le_of_ble_eq_true rfl) (fun p e s m args below meth c Q ls h0 hx hb hml hT hown hin hK hI hret hl hP hD hS hA => ?_)
  have hl : lv_has ls 4 [(0, .ref h0), (1, .ref a1), (2, .ref a2)] := hl
  refine lv_aload_n hx hb dX7_init_0 rfl (lv_at hl 0 rfl) ?_
  refine W.objInit hx hb hown (hT _ mw_1_106) (hT _ mw_1_25) (hT _ xo_code) rfl (by rw [hml]; exact hl.1) rfl dX7_init_1 (Nat.le_of_ble_eq_true rfl) (Nat.le_of_ble_eq_true rfl) ?_
  refine W.eq (g2 := F0 m 4 ls []) rfl ?_
  refine lv_aload_n hx hb dX7_init_4 rfl (lv_at hl 0 rfl) ?_
  refine lv_iconst (v := 5) hx hb dX7_init_5 (by decide) ?_
  refine nw_Q 3 hx hb hown (hT _ mw_1_107) hI.2.1 hK (fun _ => rfl) hP hD hS hA (N := 5) (by decide) rfl (Nat.le_of_ble_eq_true rfl) (Nat.le_of_ble_eq_true rfl) (Nat.le_of_ble_eq_true rfl) dX7_init_6 (fun q1 H hP hD hS => ?_)
  have hP : va_P D vwCl ([(h0, .inr (7, [.null, .null, .null, .null, .int 0])), (q1, .inl (cy 3, 5, .inr (.inr (.inr (.inr (fun _ => none))))))]) H := hP
  have hD : va_D (nAd h0 s.heap.size) ([(h0, .inr (7, [.null, .null, .null, .null, .int 0])), (q1, .inl (cy 3, 5, .inr (.inr (.inr (.inr (fun _ => none))))))]) := hD
  refine va_putF (D := D) (ci := 7) (v := .ref q1) (ty := .array (.object "DrillCount$Axis")) (C := RX7) (T := TX7) (N := 5) hx hb hT inlX7 tyX7 tyX7_ok nmX7 hown hK.1 hP hD hS 0 rfl rfl 2 (by decide) (hT _ mw_1_165) (fun _ h9 => h9) rfl hin rfl (by decide +kernel) rfl rfl (Nat.le_of_ble_eq_true rfl) dX7_init_9 (fun H locs hP hD hS => ?_)
  have hP : va_P D vwCl ([(h0, .inr (7, [.null, .null, .ref q1, .null, .int 0])), (q1, .inl (cy 3, 5, .inr (.inr (.inr (.inr (fun _ => none))))))]) H := hP
  have hD : va_D (nAd h0 s.heap.size) ([(h0, .inr (7, [.null, .null, .ref q1, .null, .int 0])), (q1, .inl (cy 3, 5, .inr (.inr (.inr (.inr (fun _ => none))))))]) := hD
  refine lv_aload_n hx hb dX7_init_12 rfl (lv_at hl 0 rfl) ?_
  refine lv_iconst (v := 5) hx hb dX7_init_13 (by decide) ?_
  refine nw_J hx hb hT hK hP hD hS hA (N := 5) (by decide) rfl (Nat.le_of_ble_eq_true rfl) (Nat.le_of_ble_eq_true rfl) (Nat.le_of_ble_eq_true rfl) dX7_init_14 (fun q2 H hP hD hS => ?_)
  have hP : va_P D vwCl ([(h0, .inr (7, [.null, .null, .ref q1, .null, .int 0])), (q1, .inl (cy 3, 5, .inr (.inr (.inr (.inr (fun _ => none)))))), (q2, .inl (cy 1, 5, .inr (.inl (fun _ => 0))))]) H := hP
  have hD : va_D (nAd h0 s.heap.size) ([(h0, .inr (7, [.null, .null, .ref q1, .null, .int 0])), (q1, .inl (cy 3, 5, .inr (.inr (.inr (.inr (fun _ => none)))))), (q2, .inl (cy 1, 5, .inr (.inl (fun _ => 0))))]) := hD
  refine va_putF (D := D) (ci := 7) (v := .ref q2) (ty := .array .long) (C := RX7) (T := TX7) (N := 5) hx hb hT inlX7 tyX7 tyX7_ok nmX7 hown hK.1 hP hD hS 0 rfl rfl 3 (by decide) (hT _ mw_1_167) (fun _ h9 => h9) rfl hin rfl (by decide +kernel) rfl rfl (Nat.le_of_ble_eq_true rfl) dX7_init_16 (fun H locs hP hD hS => ?_)
  have hP : va_P D vwCl ([(h0, .inr (7, [.null, .null, .ref q1, .ref q2, .int 0])), (q1, .inl (cy 3, 5, .inr (.inr (.inr (.inr (fun _ => none)))))), (q2, .inl (cy 1, 5, .inr (.inl (fun _ => 0))))]) H := hP
  have hD : va_D (nAd h0 s.heap.size) ([(h0, .inr (7, [.null, .null, .ref q1, .ref q2, .int 0])), (q1, .inl (cy 3, 5, .inr (.inr (.inr (.inr (fun _ => none)))))), (q2, .inl (cy 1, 5, .inr (.inl (fun _ => 0))))]) := hD
  refine lv_aload_n hx hb dX7_init_19 rfl (lv_at hl 0 rfl) ?_
  refine lv_aload_n hx hb dX7_init_20 rfl (lv_at hl 1 rfl) ?_
  refine va_putF (D := D) (ci := 7) (v := .ref a1) (ty := .object "DrillCount$Forest") (C := RX7) (T := TX7) (N := 5) hx hb hT inlX7 tyX7 tyX7_ok nmX7 hown hK.1 hP hD hS 0 rfl rfl 0 (by decide) (hT _ mw_1_163) (fun _ h9 => h9) rfl hin rfl (by decide +kernel) rfl rfl (Nat.le_of_ble_eq_true rfl) dX7_init_21 (fun H locs hP hD hS => ?_)
  have hP : va_P D vwCl ([(h0, .inr (7, [.ref a1, .null, .ref q1, .ref q2, .int 0])), (q1, .inl (cy 3, 5, .inr (.inr (.inr (.inr (fun _ => none)))))), (q2, .inl (cy 1, 5, .inr (.inl (fun _ => 0))))]) H := hP
  have hD : va_D (nAd h0 s.heap.size) ([(h0, .inr (7, [.ref a1, .null, .ref q1, .ref q2, .int 0])), (q1, .inl (cy 3, 5, .inr (.inr (.inr (.inr (fun _ => none)))))), (q2, .inl (cy 1, 5, .inr (.inl (fun _ => 0))))]) := hD
  refine lv_aload_n hx hb dX7_init_24 rfl (lv_at hl 0 rfl) ?_
  refine lv_aload_n hx hb dX7_init_25 rfl (lv_at hl 2 rfl) ?_
  refine va_putF (D := D) (ci := 7) (v := .ref a2) (ty := .object "DrillCount$Shelf") (C := RX7) (T := TX7) (N := 5) hx hb hT inlX7 tyX7 tyX7_ok nmX7 hown hK.1 hP hD hS 0 rfl rfl 1 (by decide) (hT _ mw_1_164) (fun _ h9 => h9) rfl hin rfl (by decide +kernel) rfl rfl (Nat.le_of_ble_eq_true rfl) dX7_init_26 (fun H locs hP hD hS => ?_)
  have hP : va_P D vwCl ([(h0, .inr (7, [.ref a1, .ref a2, .ref q1, .ref q2, .int 0])), (q1, .inl (cy 3, 5, .inr (.inr (.inr (.inr (fun _ => none)))))), (q2, .inl (cy 1, 5, .inr (.inl (fun _ => 0))))]) H := hP
  have hD : va_D (nAd h0 s.heap.size) ([(h0, .inr (7, [.ref a1, .ref a2, .ref q1, .ref q2, .int 0])), (q1, .inl (cy 3, 5, .inr (.inr (.inr (.inr (fun _ => none)))))), (q2, .inl (cy 1, 5, .inr (.inl (fun _ => 0))))]) := hD
  refine lv_iconst (v := 0) hx hb dX7_init_29 (by decide) ?_
  refine lv_istore_n (lv' := [(3, .int 0), (0, .ref h0), (1, .ref a1), (2, .ref a2)]) hx hb dX7_init_30 rfl hl (by decide) rfl (fun ls hl => ?_)
  have hf0 : (fun _ : Nat => (none : Option Nat)) = fE 5 0 (fun _ => 0) := by funext i; unfold fE; rw [if_neg (Nat.not_lt_zero i)]
  have LP : ∀ (n k : Nat), k + n = 5 → ∀ (u : Nat → Nat) (H : Heap) (locs : List Loc) (ls : Array Slot), va_P D vwCl ([(h0, .inr (7, [.ref a1, .ref a2, .ref q1, .ref q2, .int 0])), arQ cy 3 5 5 k q1 u, (q2, .inl (cy 1, 5, .inr (.inl (fun _ => 0))))] ++ gE 5 (nw0 cy) u k) H → va_D (nAd h0 s.heap.size) ([(h0, .inr (7, [.ref a1, .ref a2, .ref q1, .ref q2, .int 0])), arQ cy 3 5 5 k q1 u, (q2, .inl (cy 1, 5, .inr (.inl (fun _ => 0))))] ++ gE 5 (nw0 cy) u k) → va_S (nAd h0 s.heap.size) s.heap H locs → lv_has ls 4 [(3, .int (nI k)), (0, .ref h0), (1, .ref a1), (2, .ref a2)] → W p l e rmX7_init s m args below meth c H locs (2 + 5 * k) (10 + 55 * k) Q (F0 m 31 ls []) := by
    intro n
    induction n with
    | zero =>
      intro k hk u H locs ls hP hD hS hl
      obtain rfl : k = 5 := by omega
      refine lv_iload_n hx hb dX7_init_31 rfl (lv_at hl 0 rfl) ?_
      refine lv_iconst (v := 5) hx hb dX7_init_32 (by decide) ?_
      refine lv_icmp_ge (tgt := 55) hx hb dX7_init_33 (by decide) (fun _ => ?_) (fun hc => absurd (by decide) hc)
      refine W.widen (k := 27) (n := 285) (Nat.le_of_ble_eq_true rfl) (Nat.le_of_ble_eq_true rfl) ?_
      have eg : gE 5 (nw0 cy) u 5 = gE 5 (nw0 cy) (upU q1 q2 u) 5 := gE_cong nw0_cong (by decide) (fun j hj => upU_lt (by have hj : j < 25 := hj; omega))
      have ef : fE 5 5 u = fE 5 5 (upU q1 q2 u) := fE_cong (by decide) (fun j hj => upU_lt (by have hj : j < 25 := hj; omega))
      unfold arQ at hP hD
      rw [eg, ef] at hP hD
      exact hret (upU q1 q2 u) dX7_init_55 hP hD hS
    | succ n ih =>
      intro k hk u H locs ls hP hD hS hl
      refine lv_iload_n hx hb dX7_init_31 rfl (lv_at hl 0 rfl) ?_
      refine lv_iconst (v := 5) hx hb dX7_init_32 (by decide) ?_
      refine lv_icmp_ge (tgt := 55) hx hb dX7_init_33 (by decide) (fun hc => absurd hc (by rw [show (5 : Int32) = nI 5 from rfl, le_n (by decide) (by omega)]; omega)) (fun _ => ?_)
      refine lv_aload_n hx hb dX7_init_36 rfl (lv_at hl 1 rfl) ?_
      refine va_get (T := TX7) hx hb hT inlX7 hown hK.1 hP 0 rfl rfl 2 (by decide) (hT _ mw_1_165) (fun _ h9 => h9) rfl dX7_init_37 ?_
      refine lv_iload_n hx hb dX7_init_40 rfl (lv_at hl 0 rfl) ?_
      have hce : 2 + 5 * k + 1 ≤ rmX7_init.cells ∧ 2 + 5 * k + 1 + 4 ≤ rmX7_init.cells ∧ 10 + 55 * k + 4 ≤ rmX7_init.slots ∧ 10 + 55 * k + 4 + 51 ≤ rmX7_init.slots := by refine ⟨?_, ?_, ?_, ?_⟩ <;> simp only [] <;> omega
      refine va_new (ci := 0) (fs := [.int 0, .null, .null, .long 0]) (C := RX0) (T := TX0) (N := 4) hx hb hT inlX0 tyX0 tyX0_ok hown (hT _ mw_1_107) (hT _ mw_1_109) (hT _ mw_1_6) hK.1 hP hD hS hA rfl (fun j hj => by rcases (show j = 0 ∨ j = 1 ∨ j = 2 ∨ j = 3 by omega) with rfl | rfl | rfl | rfl <;> rfl) hce.1 hce.2.2.1 dX7_init_41 (fun q H hP hD hS => ?_)
      refine lv_dup hx hb dX7_init_44 rfl ?_
      refine ctorN (As := []) (rest := [.ref q, .int (nI k), .ref q1]) (n := 0) c_X0_init hx hb hml hT hown hK hI hP hD hS hA (List.mem_of_getElem? (i := 2) rfl) ⟨mw_1_111, mw_1_6, mw_1_112⟩ rfl (by decide +kernel) ⟨rfl, rfl⟩ ⟨Nat.le_of_ble_eq_true rfl, Nat.le_of_ble_eq_true rfl⟩ rfl hl.1 rfl (Nat.le_of_ble_eq_true rfl) dX7_init_45 ⟨hce.2.1, hce.2.2.2⟩ (fun v H locs hP hD hS => ?_)
      refine va_astq hx hb hK.1 hP hD hS 1 3 ([(h0, .inr (7, [.ref a1, .ref a2, .ref q1, .ref q2, .int 0])), arQ cy 3 5 5 k q1 u, (q2, .inl (cy 1, 5, .inr (.inl (fun _ => 0))))] ++ gE 5 (nw0 cy) u k).length 0 rfl rfl get_mid rfl (vp_in_nI (by omega) (by decide)) dX7_init_48 (fun H locs hP hD hS => ?_)
      rw [n_c (show k < 2 ^ 31 by omega), fE_step (d := 5) (by decide) k q u v] at hP hD
      have ew : ∀ x : Nat × va_E, ([(h0, .inr (7, [.ref a1, .ref a2, .ref q1, .ref q2, .int 0])), arQ cy 3 5 5 k q1 u, (q2, .inl (cy 1, 5, .inr (.inl (fun _ => 0))))] ++ gE 5 (nw0 cy) u k ++ nw0 cy q v).set 1 x = ([(h0, .inr (7, [.ref a1, .ref a2, .ref q1, .ref q2, .int 0])), arQ cy 3 5 5 k q1 u, (q2, .inl (cy 1, 5, .inr (.inl (fun _ => 0))))]).set 1 x ++ gE 5 (nw0 cy) (exU 5 k q u v) (k + 1) := fun x => by rw [gE_step nw0_cong (by decide), ← List.append_assoc]; rfl
      rw [ew] at hP hD
      refine lv_iinc (v := nI (k + 1)) (lv' := [(3, .int (nI (k + 1))), (0, .ref h0), (1, .ref a1), (2, .ref a2)]) hx hb dX7_init_49 hl (k := 0) rfl (n_s k) (by decide) rfl (fun ls hl => ?_)
      refine lv_goto (tgt := 31) hx hb dX7_init_52 (by decide) ?_
      refine W.widen (k := 2 + 5 * (k + 1)) (n := 10 + 55 * (k + 1)) (by omega) (by omega) ?_
      exact ih (k + 1) (by omega) (exU 5 k q u v) H locs ls hP hD hS hl
  rw [hf0] at hP hD
  exact LP 5 0 rfl (fun _ => 0) H locs ls hP hD hS hl
