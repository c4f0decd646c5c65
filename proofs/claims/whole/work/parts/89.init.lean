theorem dX5_init_0 : decode cX5_init 0 = .ok (.aload_n 0, 1) := by decide +kernel
theorem dX5_init_1 : decode cX5_init 1 = .ok (.invokespecial 3, 3) := by decide +kernel
theorem dX5_init_4 : decode cX5_init 4 = .ok (.aload_n 0, 1) := by decide +kernel
theorem dX5_init_5 : decode cX5_init 5 = .ok (.iconst 3, 1) := by decide +kernel
theorem dX5_init_6 : decode cX5_init 6 = .ok (.newarray .int, 2) := by decide +kernel
theorem dX5_init_8 : decode cX5_init 8 = .ok (.putfield 9, 3) := by decide +kernel
theorem dX5_init_11 : decode cX5_init 11 = .ok (.aload_n 0, 1) := by decide +kernel
theorem dX5_init_12 : decode cX5_init 12 = .ok (.iconst 3, 1) := by decide +kernel
theorem dX5_init_13 : decode cX5_init 13 = .ok (.newarray .int, 2) := by decide +kernel
theorem dX5_init_15 : decode cX5_init 15 = .ok (.putfield 15, 3) := by decide +kernel
theorem dX5_init_18 : decode cX5_init 18 = .ok (.return_, 1) := by decide +kernel
def nw5 (cy : Nat → ClassId) (h0 : Nat) (u : Nat → Nat) : va_W := [(h0, .inr (5, [.long 0, .int 0, .int 0, .ref (u 1), .ref (u 2)])), (u 1, .inl (cy 0, 3, .inl (fun _ => 0))), (u 2, .inl (cy 0, 3, .inl (fun _ => 0)))]
abbrev rmX5_init : Room := { frames := 1, cells := 2, slots := 6, locals := 12 }
set_option maxHeartbeats 4000000 in
set_option maxRecDepth 100000 in
theorem c_X5_init {l : Launch} {D : va_G} {cy : Nat → ClassId} : CtorMet l yX5_init cX5_init 1 rmX5_init D cy 5 [.long 0, .int 0, .int 0, .null, .null] [] (nw5 cy) 2 6 := by
  refine startK (by decide) rfl (fun _ => Nat.le_of_ble_eq_true rfl) (fun p e s m args below meth c Q ls h0 hx hb hml hT hown hin hK hI hret hl hP hD hS hA => ?_)
  have hl : lv_has ls 1 [(0, .ref h0)] := hl
  refine lv_aload_n hx hb dX5_init_0 rfl (lv_at hl 0 rfl) ?_
  refine W.objInit hx hb hown (hT _ mw_1_119) (hT _ mw_1_25) (hT _ xo_code) rfl (by rw [hml]; exact hl.1) rfl dX5_init_1 (Nat.le_of_ble_eq_true rfl) (Nat.le_of_ble_eq_true rfl) ?_
  refine W.eq (g2 := F0 m 4 ls []) rfl ?_
  refine lv_aload_n hx hb dX5_init_4 rfl (lv_at hl 0 rfl) ?_
  refine lv_iconst (v := 3) hx hb dX5_init_5 (by decide) ?_
  refine nw_I hx hb hT hK hP hD hS hA (N := 3) (by decide) rfl (Nat.le_of_ble_eq_true rfl) (Nat.le_of_ble_eq_true rfl) (Nat.le_of_ble_eq_true rfl) dX5_init_6 (fun q1 H hP hD hS => ?_)
  have hP : va_P D vwCl ([(h0, .inr (5, [.long 0, .int 0, .int 0, .null, .null])), (q1, .inl (cy 0, 3, .inl (fun _ => 0)))]) H := hP
  have hD : va_D (nAd h0 s.heap.size) ([(h0, .inr (5, [.long 0, .int 0, .int 0, .null, .null])), (q1, .inl (cy 0, 3, .inl (fun _ => 0)))]) := hD
  refine va_putF (D := D) (ci := 5) (v := .ref q1) (ty := .array .int) (C := RX5) (T := TX5) (N := 5) hx hb hT inlX5 tyX5 tyX5_ok nmX5 hown hK.1 hP hD hS 0 rfl rfl 3 (by decide) (hT _ mw_1_129) (fun _ h9 => h9) rfl hin rfl (by decide +kernel) rfl rfl (Nat.le_of_ble_eq_true rfl) dX5_init_8 (fun H locs hP hD hS => ?_)
  have hP : va_P D vwCl ([(h0, .inr (5, [.long 0, .int 0, .int 0, .ref q1, .null])), (q1, .inl (cy 0, 3, .inl (fun _ => 0)))]) H := hP
  have hD : va_D (nAd h0 s.heap.size) ([(h0, .inr (5, [.long 0, .int 0, .int 0, .ref q1, .null])), (q1, .inl (cy 0, 3, .inl (fun _ => 0)))]) := hD
  refine lv_aload_n hx hb dX5_init_11 rfl (lv_at hl 0 rfl) ?_
  refine lv_iconst (v := 3) hx hb dX5_init_12 (by decide) ?_
  refine nw_I hx hb hT hK hP hD hS hA (N := 3) (by decide) rfl (Nat.le_of_ble_eq_true rfl) (Nat.le_of_ble_eq_true rfl) (Nat.le_of_ble_eq_true rfl) dX5_init_13 (fun q2 H hP hD hS => ?_)
  have hP : va_P D vwCl ([(h0, .inr (5, [.long 0, .int 0, .int 0, .ref q1, .null])), (q1, .inl (cy 0, 3, .inl (fun _ => 0))), (q2, .inl (cy 0, 3, .inl (fun _ => 0)))]) H := hP
  have hD : va_D (nAd h0 s.heap.size) ([(h0, .inr (5, [.long 0, .int 0, .int 0, .ref q1, .null])), (q1, .inl (cy 0, 3, .inl (fun _ => 0))), (q2, .inl (cy 0, 3, .inl (fun _ => 0)))]) := hD
  refine va_putF (D := D) (ci := 5) (v := .ref q2) (ty := .array .int) (C := RX5) (T := TX5) (N := 5) hx hb hT inlX5 tyX5 tyX5_ok nmX5 hown hK.1 hP hD hS 0 rfl rfl 4 (by decide) (hT _ mw_1_130) (fun _ h9 => h9) rfl hin rfl (by decide +kernel) rfl rfl (Nat.le_of_ble_eq_true rfl) dX5_init_15 (fun H locs hP hD hS => ?_)
  have hP : va_P D vwCl ([(h0, .inr (5, [.long 0, .int 0, .int 0, .ref q1, .ref q2])), (q1, .inl (cy 0, 3, .inl (fun _ => 0))), (q2, .inl (cy 0, 3, .inl (fun _ => 0)))]) H := hP
  have hD : va_D (nAd h0 s.heap.size) ([(h0, .inr (5, [.long 0, .int 0, .int 0, .ref q1, .ref q2])), (q1, .inl (cy 0, 3, .inl (fun _ => 0))), (q2, .inl (cy 0, 3, .inl (fun _ => 0)))]) := hD
  refine W.widen (k := 2) (n := 6) (Nat.le_of_ble_eq_true rfl) (Nat.le_of_ble_eq_true rfl) ?_
  exact hret (fun k => [0, q1, q2].getD k 0) dX5_init_18 hP hD hS
theorem dX3_init_0 : decode cX3_init 0 = .ok (.aload_n 0, 1) := by decide +kernel
theorem dX3_init_1 : decode cX3_init 1 = .ok (.invokespecial 3, 3) := by decide +kernel
theorem dX3_init_4 : decode cX3_init 4 = .ok (.aload_n 0, 1) := by decide +kernel
theorem dX3_init_5 : decode cX3_init 5 = .ok (.iload_n 1, 1) := by decide +kernel
theorem dX3_init_6 : decode cX3_init 6 = .ok (.newarray .int, 2) := by decide +kernel
theorem dX3_init_8 : decode cX3_init 8 = .ok (.putfield 9, 3) := by decide +kernel
theorem dX3_init_11 : decode cX3_init 11 = .ok (.aload_n 0, 1) := by decide +kernel
theorem dX3_init_12 : decode cX3_init 12 = .ok (.iload_n 1, 1) := by decide +kernel
theorem dX3_init_13 : decode cX3_init 13 = .ok (.newarray .int, 2) := by decide +kernel
theorem dX3_init_15 : decode cX3_init 15 = .ok (.putfield 15, 3) := by decide +kernel
theorem dX3_init_18 : decode cX3_init 18 = .ok (.return_, 1) := by decide +kernel
def nw3 (cy : Nat → ClassId) (h0 : Nat) (u : Nat → Nat) : va_W := [(h0, .inr (3, [.ref (u 1), .ref (u 2), .int 0])), (u 1, .inl (cy 0, 40, .inl (fun _ => 0))), (u 2, .inl (cy 0, 40, .inl (fun _ => 0)))]
abbrev rmX3_init : Room := { frames := 1, cells := 2, slots := 80, locals := 12 }
set_option maxHeartbeats 4000000 in
set_option maxRecDepth 100000 in
theorem c_X3_init {l : Launch} {D : va_G} {cy : Nat → ClassId} : CtorMet l yX3_init cX3_init 2 rmX3_init D cy 3 [.null, .null, .int 0] [.int 40] (nw3 cy) 2 80 := by
  refine startK (by decide) rfl (fun _ => Nat.le_of_ble_eq_true rfl) (fun p e s m args below meth c Q ls h0 hx hb hml hT hown hin hK hI hret hl hP hD hS hA => ?_)
  have hl : lv_has ls 2 [(0, .ref h0), (1, .int 40)] := hl
  refine lv_aload_n hx hb dX3_init_0 rfl (lv_at hl 0 rfl) ?_
  refine W.objInit hx hb hown (hT _ mw_1_73) (hT _ mw_1_25) (hT _ xo_code) rfl (by rw [hml]; exact hl.1) rfl dX3_init_1 (Nat.le_of_ble_eq_true rfl) (Nat.le_of_ble_eq_true rfl) ?_
  refine W.eq (g2 := F0 m 4 ls []) rfl ?_
  refine lv_aload_n hx hb dX3_init_4 rfl (lv_at hl 0 rfl) ?_
  refine lv_iload_n hx hb dX3_init_5 rfl (lv_at hl 1 rfl) ?_
  refine nw_I hx hb hT hK hP hD hS hA (N := 40) (by decide) rfl (Nat.le_of_ble_eq_true rfl) (Nat.le_of_ble_eq_true rfl) (Nat.le_of_ble_eq_true rfl) dX3_init_6 (fun q1 H hP hD hS => ?_)
  have hP : va_P D vwCl ([(h0, .inr (3, [.null, .null, .int 0])), (q1, .inl (cy 0, 40, .inl (fun _ => 0)))]) H := hP
  have hD : va_D (nAd h0 s.heap.size) ([(h0, .inr (3, [.null, .null, .int 0])), (q1, .inl (cy 0, 40, .inl (fun _ => 0)))]) := hD
  refine va_putF (D := D) (ci := 3) (v := .ref q1) (ty := .array .int) (C := RX3) (T := TX3) (N := 3) hx hb hT inlX3 tyX3 tyX3_ok nmX3 hown hK.1 hP hD hS 0 rfl rfl 0 (by decide) (hT _ mw_1_74) (fun _ h9 => h9) rfl hin rfl (by decide +kernel) rfl rfl (Nat.le_of_ble_eq_true rfl) dX3_init_8 (fun H locs hP hD hS => ?_)
  have hP : va_P D vwCl ([(h0, .inr (3, [.ref q1, .null, .int 0])), (q1, .inl (cy 0, 40, .inl (fun _ => 0)))]) H := hP
  have hD : va_D (nAd h0 s.heap.size) ([(h0, .inr (3, [.ref q1, .null, .int 0])), (q1, .inl (cy 0, 40, .inl (fun _ => 0)))]) := hD
  refine lv_aload_n hx hb dX3_init_11 rfl (lv_at hl 0 rfl) ?_
  refine lv_iload_n hx hb dX3_init_12 rfl (lv_at hl 1 rfl) ?_
  refine nw_I hx hb hT hK hP hD hS hA (N := 40) (by decide) rfl (Nat.le_of_ble_eq_true rfl) (Nat.le_of_ble_eq_true rfl) (Nat.le_of_ble_eq_true rfl) dX3_init_13 (fun q2 H hP hD hS => ?_)
  have hP : va_P D vwCl ([(h0, .inr (3, [.ref q1, .null, .int 0])), (q1, .inl (cy 0, 40, .inl (fun _ => 0))), (q2, .inl (cy 0, 40, .inl (fun _ => 0)))]) H := hP
  have hD : va_D (nAd h0 s.heap.size) ([(h0, .inr (3, [.ref q1, .null, .int 0])), (q1, .inl (cy 0, 40, .inl (fun _ => 0))), (q2, .inl (cy 0, 40, .inl (fun _ => 0)))]) := hD
  refine va_putF (D := D) (ci := 3) (v := .ref q2) (ty := .array .int) (C := RX3) (T := TX3) (N := 3) hx hb hT inlX3 tyX3 tyX3_ok nmX3 hown hK.1 hP hD hS 0 rfl rfl 1 (by decide) (hT _ mw_1_76) (fun _ h9 => h9) rfl hin rfl (by decide +kernel) rfl rfl (Nat.le_of_ble_eq_true rfl) dX3_init_15 (fun H locs hP hD hS => ?_)
  have hP : va_P D vwCl ([(h0, .inr (3, [.ref q1, .ref q2, .int 0])), (q1, .inl (cy 0, 40, .inl (fun _ => 0))), (q2, .inl (cy 0, 40, .inl (fun _ => 0)))]) H := hP
  have hD : va_D (nAd h0 s.heap.size) ([(h0, .inr (3, [.ref q1, .ref q2, .int 0])), (q1, .inl (cy 0, 40, .inl (fun _ => 0))), (q2, .inl (cy 0, 40, .inl (fun _ => 0)))]) := hD
  refine W.widen (k := 2) (n := 80) (Nat.le_of_ble_eq_true rfl) (Nat.le_of_ble_eq_true rfl) ?_
  exact hret (fun k => [0, q1, q2].getD k 0) dX3_init_18 hP hD hS
theorem dX4_init_0 : decode cX4_init 0 = .ok (.aload_n 0, 1) := by decide +kernel
theorem dX4_init_1 : decode cX4_init 1 = .ok (.invokespecial 1, 3) := by decide +kernel
theorem dX4_init_4 : decode cX4_init 4 = .ok (.aload_n 0, 1) := by decide +kernel
theorem dX4_init_5 : decode cX4_init 5 = .ok (.iload_n 1, 1) := by decide +kernel
theorem dX4_init_6 : decode cX4_init 6 = .ok (.newarray .int, 2) := by decide +kernel
theorem dX4_init_8 : decode cX4_init 8 = .ok (.putfield 7, 3) := by decide +kernel
theorem dX4_init_11 : decode cX4_init 11 = .ok (.return_, 1) := by decide +kernel
def nw4 (cy : Nat → ClassId) (h0 : Nat) (u : Nat → Nat) : va_W := [(h0, .inr (4, [.ref (u 1), .int 0])), (u 1, .inl (cy 0, 40, .inl (fun _ => 0)))]
abbrev rmX4_init : Room := { frames := 1, cells := 1, slots := 40, locals := 12 }
set_option maxHeartbeats 4000000 in
set_option maxRecDepth 100000 in
theorem c_X4_init {l : Launch} {D : va_G} {cy : Nat → ClassId} : CtorMet l yX4_init cX4_init 2 rmX4_init D cy 4 [.null, .int 0] [.int 40] (nw4 cy) 1 40 := by
  refine startK (by decide) rfl (fun _ => Nat.le_of_ble_eq_true rfl) (fun p e s m args below meth c Q ls h0 hx hb hml hT hown hin hK hI hret hl hP hD hS hA => ?_)
  have hl : lv_has ls 2 [(0, .ref h0), (1, .int 40)] := hl
  refine lv_aload_n hx hb dX4_init_0 rfl (lv_at hl 0 rfl) ?_
  refine W.objInit hx hb hown (hT _ mw_1_211) (hT _ mw_1_25) (hT _ xo_code) rfl (by rw [hml]; exact hl.1) rfl dX4_init_1 (Nat.le_of_ble_eq_true rfl) (Nat.le_of_ble_eq_true rfl) ?_
  refine W.eq (g2 := F0 m 4 ls []) rfl ?_
  refine lv_aload_n hx hb dX4_init_4 rfl (lv_at hl 0 rfl) ?_
  refine lv_iload_n hx hb dX4_init_5 rfl (lv_at hl 1 rfl) ?_
  refine nw_I hx hb hT hK hP hD hS hA (N := 40) (by decide) rfl (Nat.le_of_ble_eq_true rfl) (Nat.le_of_ble_eq_true rfl) (Nat.le_of_ble_eq_true rfl) dX4_init_6 (fun q1 H hP hD hS => ?_)
  have hP : va_P D vwCl ([(h0, .inr (4, [.null, .int 0])), (q1, .inl (cy 0, 40, .inl (fun _ => 0)))]) H := hP
  have hD : va_D (nAd h0 s.heap.size) ([(h0, .inr (4, [.null, .int 0])), (q1, .inl (cy 0, 40, .inl (fun _ => 0)))]) := hD
  refine va_putF (D := D) (ci := 4) (v := .ref q1) (ty := .array .int) (C := RX4) (T := TX4) (N := 2) hx hb hT inlX4 tyX4 tyX4_ok nmX4 hown hK.1 hP hD hS 0 rfl rfl 0 (by decide) (hT _ mw_1_212) (fun _ h9 => h9) rfl hin rfl (by decide +kernel) rfl rfl (Nat.le_of_ble_eq_true rfl) dX4_init_8 (fun H locs hP hD hS => ?_)
  have hP : va_P D vwCl ([(h0, .inr (4, [.ref q1, .int 0])), (q1, .inl (cy 0, 40, .inl (fun _ => 0)))]) H := hP
  have hD : va_D (nAd h0 s.heap.size) ([(h0, .inr (4, [.ref q1, .int 0])), (q1, .inl (cy 0, 40, .inl (fun _ => 0)))]) := hD
  refine W.widen (k := 1) (n := 40) (Nat.le_of_ble_eq_true rfl) (Nat.le_of_ble_eq_true rfl) ?_
  exact hret (fun k => [0, q1].getD k 0) dX4_init_11 hP hD hS
theorem dX1_init_0 : decode cX1_init 0 = .ok (.aload_n 0, 1) := by decide +kernel
theorem dX1_init_1 : decode cX1_init 1 = .ok (.invokespecial 3, 3) := by decide +kernel
theorem dX1_init_4 : decode cX1_init 4 = .ok (.aload_n 0, 1) := by decide +kernel
theorem dX1_init_5 : decode cX1_init 5 = .ok (.bipush 12, 2) := by decide +kernel
theorem dX1_init_7 : decode cX1_init 7 = .ok (.newarray .int, 2) := by decide +kernel
theorem dX1_init_9 : decode cX1_init 9 = .ok (.putfield 9, 3) := by decide +kernel
theorem dX1_init_12 : decode cX1_init 12 = .ok (.aload_n 0, 1) := by decide +kernel
theorem dX1_init_13 : decode cX1_init 13 = .ok (.bipush 12, 2) := by decide +kernel
theorem dX1_init_15 : decode cX1_init 15 = .ok (.newarray .long, 2) := by decide +kernel
theorem dX1_init_17 : decode cX1_init 17 = .ok (.putfield 15, 3) := by decide +kernel
theorem dX1_init_20 : decode cX1_init 20 = .ok (.aload_n 0, 1) := by decide +kernel
theorem dX1_init_21 : decode cX1_init 21 = .ok (.bipush 13, 2) := by decide +kernel
theorem dX1_init_23 : decode cX1_init 23 = .ok (.newarray .long, 2) := by decide +kernel
theorem dX1_init_25 : decode cX1_init 25 = .ok (.putfield 19, 3) := by decide +kernel
theorem dX1_init_28 : decode cX1_init 28 = .ok (.aload_n 0, 1) := by decide +kernel
theorem dX1_init_29 : decode cX1_init 29 = .ok (.bipush 12, 2) := by decide +kernel
theorem dX1_init_31 : decode cX1_init 31 = .ok (.newarray .int, 2) := by decide +kernel
theorem dX1_init_33 : decode cX1_init 33 = .ok (.putfield 22, 3) := by decide +kernel
theorem dX1_init_36 : decode cX1_init 36 = .ok (.return_, 1) := by decide +kernel
def nw1 (cy : Nat → ClassId) (h0 : Nat) (u : Nat → Nat) : va_W := [(h0, .inr (1, [.ref (u 1), .ref (u 2), .ref (u 3), .ref (u 4), .int 0])), (u 1, .inl (cy 0, 12, .inl (fun _ => 0))), (u 2, .inl (cy 1, 12, .inr (.inl (fun _ => 0)))), (u 3, .inl (cy 1, 13, .inr (.inl (fun _ => 0)))), (u 4, .inl (cy 0, 12, .inl (fun _ => 0)))]
abbrev rmX1_init : Room := { frames := 1, cells := 4, slots := 49, locals := 12 }
set_option maxHeartbeats 4000000 in
set_option maxRecDepth 100000 in
theorem c_X1_init {l : Launch} {D : va_G} {cy : Nat → ClassId} : CtorMet l yX1_init cX1_init 1 rmX1_init D cy 1 [.null, .null, .null, .null, .int 0] [] (nw1 cy) 4 49 := by
  refine startK (by decide) rfl (fun _ => Nat.le_of_ble_eq_true rfl) (fun p e s m args below meth c Q ls h0 hx hb hml hT hown hin hK hI hret hl hP hD hS hA => ?_)
  have hl : lv_has ls 1 [(0, .ref h0)] := hl
  refine lv_aload_n hx hb dX1_init_0 rfl (lv_at hl 0 rfl) ?_
  refine W.objInit hx hb hown (hT _ mw_1_228) (hT _ mw_1_25) (hT _ xo_code) rfl (by rw [hml]; exact hl.1) rfl dX1_init_1 (Nat.le_of_ble_eq_true rfl) (Nat.le_of_ble_eq_true rfl) ?_
  refine W.eq (g2 := F0 m 4 ls []) rfl ?_
  refine lv_aload_n hx hb dX1_init_4 rfl (lv_at hl 0 rfl) ?_
  refine lv_bipush (v := 12) hx hb dX1_init_5 (by decide) ?_
  refine nw_I hx hb hT hK hP hD hS hA (N := 12) (by decide) rfl (Nat.le_of_ble_eq_true rfl) (Nat.le_of_ble_eq_true rfl) (Nat.le_of_ble_eq_true rfl) dX1_init_7 (fun q1 H hP hD hS => ?_)
  have hP : va_P D vwCl ([(h0, .inr (1, [.null, .null, .null, .null, .int 0])), (q1, .inl (cy 0, 12, .inl (fun _ => 0)))]) H := hP
  have hD : va_D (nAd h0 s.heap.size) ([(h0, .inr (1, [.null, .null, .null, .null, .int 0])), (q1, .inl (cy 0, 12, .inl (fun _ => 0)))]) := hD
  refine va_putF (D := D) (ci := 1) (v := .ref q1) (ty := .array .int) (C := RX1) (T := TX1) (N := 5) hx hb hT inlX1 tyX1 tyX1_ok nmX1 hown hK.1 hP hD hS 0 rfl rfl 0 (by decide) (hT _ mw_1_229) (fun _ h9 => h9) rfl hin rfl (by decide +kernel) rfl rfl (Nat.le_of_ble_eq_true rfl) dX1_init_9 (fun H locs hP hD hS => ?_)
  have hP : va_P D vwCl ([(h0, .inr (1, [.ref q1, .null, .null, .null, .int 0])), (q1, .inl (cy 0, 12, .inl (fun _ => 0)))]) H := hP
  have hD : va_D (nAd h0 s.heap.size) ([(h0, .inr (1, [.ref q1, .null, .null, .null, .int 0])), (q1, .inl (cy 0, 12, .inl (fun _ => 0)))]) := hD
  refine lv_aload_n hx hb dX1_init_12 rfl (lv_at hl 0 rfl) ?_
  refine lv_bipush (v := 12) hx hb dX1_init_13 (by decide) ?_
  refine nw_J hx hb hT hK hP hD hS hA (N := 12) (by decide) rfl (Nat.le_of_ble_eq_true rfl) (Nat.le_of_ble_eq_true rfl) (Nat.le_of_ble_eq_true rfl) dX1_init_15 (fun q2 H hP hD hS => ?_)
  have hP : va_P D vwCl ([(h0, .inr (1, [.ref q1, .null, .null, .null, .int 0])), (q1, .inl (cy 0, 12, .inl (fun _ => 0))), (q2, .inl (cy 1, 12, .inr (.inl (fun _ => 0))))]) H := hP
  have hD : va_D (nAd h0 s.heap.size) ([(h0, .inr (1, [.ref q1, .null, .null, .null, .int 0])), (q1, .inl (cy 0, 12, .inl (fun _ => 0))), (q2, .inl (cy 1, 12, .inr (.inl (fun _ => 0))))]) := hD
  refine va_putF (D := D) (ci := 1) (v := .ref q2) (ty := .array .long) (C := RX1) (T := TX1) (N := 5) hx hb hT inlX1 tyX1 tyX1_ok nmX1 hown hK.1 hP hD hS 0 rfl rfl 1 (by decide) (hT _ mw_1_230) (fun _ h9 => h9) rfl hin rfl (by decide +kernel) rfl rfl (Nat.le_of_ble_eq_true rfl) dX1_init_17 (fun H locs hP hD hS => ?_)
  have hP : va_P D vwCl ([(h0, .inr (1, [.ref q1, .ref q2, .null, .null, .int 0])), (q1, .inl (cy 0, 12, .inl (fun _ => 0))), (q2, .inl (cy 1, 12, .inr (.inl (fun _ => 0))))]) H := hP
  have hD : va_D (nAd h0 s.heap.size) ([(h0, .inr (1, [.ref q1, .ref q2, .null, .null, .int 0])), (q1, .inl (cy 0, 12, .inl (fun _ => 0))), (q2, .inl (cy 1, 12, .inr (.inl (fun _ => 0))))]) := hD
  refine lv_aload_n hx hb dX1_init_20 rfl (lv_at hl 0 rfl) ?_
  refine lv_bipush (v := 13) hx hb dX1_init_21 (by decide) ?_
  refine nw_J hx hb hT hK hP hD hS hA (N := 13) (by decide) rfl (Nat.le_of_ble_eq_true rfl) (Nat.le_of_ble_eq_true rfl) (Nat.le_of_ble_eq_true rfl) dX1_init_23 (fun q3 H hP hD hS => ?_)
  have hP : va_P D vwCl ([(h0, .inr (1, [.ref q1, .ref q2, .null, .null, .int 0])), (q1, .inl (cy 0, 12, .inl (fun _ => 0))), (q2, .inl (cy 1, 12, .inr (.inl (fun _ => 0)))), (q3, .inl (cy 1, 13, .inr (.inl (fun _ => 0))))]) H := hP
  have hD : va_D (nAd h0 s.heap.size) ([(h0, .inr (1, [.ref q1, .ref q2, .null, .null, .int 0])), (q1, .inl (cy 0, 12, .inl (fun _ => 0))), (q2, .inl (cy 1, 12, .inr (.inl (fun _ => 0)))), (q3, .inl (cy 1, 13, .inr (.inl (fun _ => 0))))]) := hD
  refine va_putF (D := D) (ci := 1) (v := .ref q3) (ty := .array .long) (C := RX1) (T := TX1) (N := 5) hx hb hT inlX1 tyX1 tyX1_ok nmX1 hown hK.1 hP hD hS 0 rfl rfl 2 (by decide) (hT _ mw_1_231) (fun _ h9 => h9) rfl hin rfl (by decide +kernel) rfl rfl (Nat.le_of_ble_eq_true rfl) dX1_init_25 (fun H locs hP hD hS => ?_)
  have hP : va_P D vwCl ([(h0, .inr (1, [.ref q1, .ref q2, .ref q3, .null, .int 0])), (q1, .inl (cy 0, 12, .inl (fun _ => 0))), (q2, .inl (cy 1, 12, .inr (.inl (fun _ => 0)))), (q3, .inl (cy 1, 13, .inr (.inl (fun _ => 0))))]) H := hP
  have hD : va_D (nAd h0 s.heap.size) ([(h0, .inr (1, [.ref q1, .ref q2, .ref q3, .null, .int 0])), (q1, .inl (cy 0, 12, .inl (fun _ => 0))), (q2, .inl (cy 1, 12, .inr (.inl (fun _ => 0)))), (q3, .inl (cy 1, 13, .inr (.inl (fun _ => 0))))]) := hD
  refine lv_aload_n hx hb dX1_init_28 rfl (lv_at hl 0 rfl) ?_
  refine lv_bipush (v := 12) hx hb dX1_init_29 (by decide) ?_
  refine nw_I hx hb hT hK hP hD hS hA (N := 12) (by decide) rfl (Nat.le_of_ble_eq_true rfl) (Nat.le_of_ble_eq_true rfl) (Nat.le_of_ble_eq_true rfl) dX1_init_31 (fun q4 H hP hD hS => ?_)
  have hP : va_P D vwCl ([(h0, .inr (1, [.ref q1, .ref q2, .ref q3, .null, .int 0])), (q1, .inl (cy 0, 12, .inl (fun _ => 0))), (q2, .inl (cy 1, 12, .inr (.inl (fun _ => 0)))), (q3, .inl (cy 1, 13, .inr (.inl (fun _ => 0)))), (q4, .inl (cy 0, 12, .inl (fun _ => 0)))]) H := hP
  have hD : va_D (nAd h0 s.heap.size) ([(h0, .inr (1, [.ref q1, .ref q2, .ref q3, .null, .int 0])), (q1, .inl (cy 0, 12, .inl (fun _ => 0))), (q2, .inl (cy 1, 12, .inr (.inl (fun _ => 0)))), (q3, .inl (cy 1, 13, .inr (.inl (fun _ => 0)))), (q4, .inl (cy 0, 12, .inl (fun _ => 0)))]) := hD
  refine va_putF (D := D) (ci := 1) (v := .ref q4) (ty := .array .int) (C := RX1) (T := TX1) (N := 5) hx hb hT inlX1 tyX1 tyX1_ok nmX1 hown hK.1 hP hD hS 0 rfl rfl 3 (by decide) (hT _ mw_1_232) (fun _ h9 => h9) rfl hin rfl (by decide +kernel) rfl rfl (Nat.le_of_ble_eq_true rfl) dX1_init_33 (fun H locs hP hD hS => ?_)
  have hP : va_P D vwCl ([(h0, .inr (1, [.ref q1, .ref q2, .ref q3, .ref q4, .int 0])), (q1, .inl (cy 0, 12, .inl (fun _ => 0))), (q2, .inl (cy 1, 12, .inr (.inl (fun _ => 0)))), (q3, .inl (cy 1, 13, .inr (.inl (fun _ => 0)))), (q4, .inl (cy 0, 12, .inl (fun _ => 0)))]) H := hP
  have hD : va_D (nAd h0 s.heap.size) ([(h0, .inr (1, [.ref q1, .ref q2, .ref q3, .ref q4, .int 0])), (q1, .inl (cy 0, 12, .inl (fun _ => 0))), (q2, .inl (cy 1, 12, .inr (.inl (fun _ => 0)))), (q3, .inl (cy 1, 13, .inr (.inl (fun _ => 0)))), (q4, .inl (cy 0, 12, .inl (fun _ => 0)))]) := hD
  refine W.widen (k := 4) (n := 49) (Nat.le_of_ble_eq_true rfl) (Nat.le_of_ble_eq_true rfl) ?_
  exact hret (fun k => [0, q1, q2, q3, q4].getD k 0) dX1_init_36 hP hD hS
theorem dX2_init_0 : decode cX2_init 0 = .ok (.aload_n 0, 1) := by decide +kernel
theorem dX2_init_1 : decode cX2_init 1 = .ok (.invokespecial 3, 3) := by decide +kernel
theorem dX2_init_4 : decode cX2_init 4 = .ok (.aload_n 0, 1) := by decide +kernel
theorem dX2_init_5 : decode cX2_init 5 = .ok (.bipush 40, 2) := by decide +kernel
theorem dX2_init_7 : decode cX2_init 7 = .ok (.newarray .int, 2) := by decide +kernel
theorem dX2_init_9 : decode cX2_init 9 = .ok (.putfield 9, 3) := by decide +kernel
theorem dX2_init_12 : decode cX2_init 12 = .ok (.aload_n 0, 1) := by decide +kernel
theorem dX2_init_13 : decode cX2_init 13 = .ok (.bipush 40, 2) := by decide +kernel
theorem dX2_init_15 : decode cX2_init 15 = .ok (.newarray .int, 2) := by decide +kernel
theorem dX2_init_17 : decode cX2_init 17 = .ok (.putfield 15, 3) := by decide +kernel
theorem dX2_init_20 : decode cX2_init 20 = .ok (.aload_n 0, 1) := by decide +kernel
theorem dX2_init_21 : decode cX2_init 21 = .ok (.bipush 40, 2) := by decide +kernel
theorem dX2_init_23 : decode cX2_init 23 = .ok (.newarray .long, 2) := by decide +kernel
theorem dX2_init_25 : decode cX2_init 25 = .ok (.putfield 18, 3) := by decide +kernel
theorem dX2_init_28 : decode cX2_init 28 = .ok (.aload_n 0, 1) := by decide +kernel
theorem dX2_init_29 : decode cX2_init 29 = .ok (.bipush 40, 2) := by decide +kernel
theorem dX2_init_31 : decode cX2_init 31 = .ok (.newarray .long, 2) := by decide +kernel
theorem dX2_init_33 : decode cX2_init 33 = .ok (.putfield 22, 3) := by decide +kernel
theorem dX2_init_36 : decode cX2_init 36 = .ok (.aload_n 0, 1) := by decide +kernel
theorem dX2_init_37 : decode cX2_init 37 = .ok (.bipush 40, 2) := by decide +kernel
theorem dX2_init_39 : decode cX2_init 39 = .ok (.newarray .long, 2) := by decide +kernel
theorem dX2_init_41 : decode cX2_init 41 = .ok (.putfield 25, 3) := by decide +kernel
theorem dX2_init_44 : decode cX2_init 44 = .ok (.return_, 1) := by decide +kernel
def nw2 (cy : Nat → ClassId) (h0 : Nat) (u : Nat → Nat) : va_W := [(h0, .inr (2, [.ref (u 1), .ref (u 2), .ref (u 3), .ref (u 4), .ref (u 5), .int 0])), (u 1, .inl (cy 0, 40, .inl (fun _ => 0))), (u 2, .inl (cy 0, 40, .inl (fun _ => 0))), (u 3, .inl (cy 1, 40, .inr (.inl (fun _ => 0)))), (u 4, .inl (cy 1, 40, .inr (.inl (fun _ => 0)))), (u 5, .inl (cy 1, 40, .inr (.inl (fun _ => 0))))]
abbrev rmX2_init : Room := { frames := 1, cells := 5, slots := 200, locals := 12 }
set_option maxHeartbeats 4000000 in
set_option maxRecDepth 100000 in
theorem c_X2_init {l : Launch} {D : va_G} {cy : Nat → ClassId} : CtorMet l yX2_init cX2_init 1 rmX2_init D cy 2 [.null, .null, .null, .null, .null, .int 0] [] (nw2 cy) 5 200 := by
  refine startK (by decide) rfl (fun _ => Nat.le_of_ble_eq_true rfl) (fun p e s m args below meth c Q ls h0 hx hb hml hT hown hin hK hI hret hl hP hD hS hA => ?_)
  have hl : lv_has ls 1 [(0, .ref h0)] := hl
  refine lv_aload_n hx hb dX2_init_0 rfl (lv_at hl 0 rfl) ?_
  refine W.objInit hx hb hown (hT _ mw_1_32) (hT _ mw_1_25) (hT _ xo_code) rfl (by rw [hml]; exact hl.1) rfl dX2_init_1 (Nat.le_of_ble_eq_true rfl) (Nat.le_of_ble_eq_true rfl) ?_
  refine W.eq (g2 := F0 m 4 ls []) rfl ?_
  refine lv_aload_n hx hb dX2_init_4 rfl (lv_at hl 0 rfl) ?_
  refine lv_bipush (v := 40) hx hb dX2_init_5 (by decide) ?_
  refine nw_I hx hb hT hK hP hD hS hA (N := 40) (by decide) rfl (Nat.le_of_ble_eq_true rfl) (Nat.le_of_ble_eq_true rfl) (Nat.le_of_ble_eq_true rfl) dX2_init_7 (fun q1 H hP hD hS => ?_)
  have hP : va_P D vwCl ([(h0, .inr (2, [.null, .null, .null, .null, .null, .int 0])), (q1, .inl (cy 0, 40, .inl (fun _ => 0)))]) H := hP
  have hD : va_D (nAd h0 s.heap.size) ([(h0, .inr (2, [.null, .null, .null, .null, .null, .int 0])), (q1, .inl (cy 0, 40, .inl (fun _ => 0)))]) := hD
  refine va_putF (D := D) (ci := 2) (v := .ref q1) (ty := .array .int) (C := RX2) (T := TX2) (N := 6) hx hb hT inlX2 tyX2 tyX2_ok nmX2 hown hK.1 hP hD hS 0 rfl rfl 0 (by decide) (hT _ mw_1_33) (fun _ h9 => h9) rfl hin rfl (by decide +kernel) rfl rfl (Nat.le_of_ble_eq_true rfl) dX2_init_9 (fun H locs hP hD hS => ?_)
  have hP : va_P D vwCl ([(h0, .inr (2, [.ref q1, .null, .null, .null, .null, .int 0])), (q1, .inl (cy 0, 40, .inl (fun _ => 0)))]) H := hP
  have hD : va_D (nAd h0 s.heap.size) ([(h0, .inr (2, [.ref q1, .null, .null, .null, .null, .int 0])), (q1, .inl (cy 0, 40, .inl (fun _ => 0)))]) := hD
  refine lv_aload_n hx hb dX2_init_12 rfl (lv_at hl 0 rfl) ?_
  refine lv_bipush (v := 40) hx hb dX2_init_13 (by decide) ?_
  refine nw_I hx hb hT hK hP hD hS hA (N := 40) (by decide) rfl (Nat.le_of_ble_eq_true rfl) (Nat.le_of_ble_eq_true rfl) (Nat.le_of_ble_eq_true rfl) dX2_init_15 (fun q2 H hP hD hS => ?_)
  have hP : va_P D vwCl ([(h0, .inr (2, [.ref q1, .null, .null, .null, .null, .int 0])), (q1, .inl (cy 0, 40, .inl (fun _ => 0))), (q2, .inl (cy 0, 40, .inl (fun _ => 0)))]) H := hP
  have hD : va_D (nAd h0 s.heap.size) ([(h0, .inr (2, [.ref q1, .null, .null, .null, .null, .int 0])), (q1, .inl (cy 0, 40, .inl (fun _ => 0))), (q2, .inl (cy 0, 40, .inl (fun _ => 0)))]) := hD
  refine va_putF (D := D) (ci := 2) (v := .ref q2) (ty := .array .int) (C := RX2) (T := TX2) (N := 6) hx hb hT inlX2 tyX2 tyX2_ok nmX2 hown hK.1 hP hD hS 0 rfl rfl 1 (by decide) (hT _ mw_1_36) (fun _ h9 => h9) rfl hin rfl (by decide +kernel) rfl rfl (Nat.le_of_ble_eq_true rfl) dX2_init_17 (fun H locs hP hD hS => ?_)
  have hP : va_P D vwCl ([(h0, .inr (2, [.ref q1, .ref q2, .null, .null, .null, .int 0])), (q1, .inl (cy 0, 40, .inl (fun _ => 0))), (q2, .inl (cy 0, 40, .inl (fun _ => 0)))]) H := hP
  have hD : va_D (nAd h0 s.heap.size) ([(h0, .inr (2, [.ref q1, .ref q2, .null, .null, .null, .int 0])), (q1, .inl (cy 0, 40, .inl (fun _ => 0))), (q2, .inl (cy 0, 40, .inl (fun _ => 0)))]) := hD
  refine lv_aload_n hx hb dX2_init_20 rfl (lv_at hl 0 rfl) ?_
  refine lv_bipush (v := 40) hx hb dX2_init_21 (by decide) ?_
  refine nw_J hx hb hT hK hP hD hS hA (N := 40) (by decide) rfl (Nat.le_of_ble_eq_true rfl) (Nat.le_of_ble_eq_true rfl) (Nat.le_of_ble_eq_true rfl) dX2_init_23 (fun q3 H hP hD hS => ?_)
  have hP : va_P D vwCl ([(h0, .inr (2, [.ref q1, .ref q2, .null, .null, .null, .int 0])), (q1, .inl (cy 0, 40, .inl (fun _ => 0))), (q2, .inl (cy 0, 40, .inl (fun _ => 0))), (q3, .inl (cy 1, 40, .inr (.inl (fun _ => 0))))]) H := hP
  have hD : va_D (nAd h0 s.heap.size) ([(h0, .inr (2, [.ref q1, .ref q2, .null, .null, .null, .int 0])), (q1, .inl (cy 0, 40, .inl (fun _ => 0))), (q2, .inl (cy 0, 40, .inl (fun _ => 0))), (q3, .inl (cy 1, 40, .inr (.inl (fun _ => 0))))]) := hD
  refine va_putF (D := D) (ci := 2) (v := .ref q3) (ty := .array .long) (C := RX2) (T := TX2) (N := 6) hx hb hT inlX2 tyX2 tyX2_ok nmX2 hown hK.1 hP hD hS 0 rfl rfl 2 (by decide) (hT _ mw_1_38) (fun _ h9 => h9) rfl hin rfl (by decide +kernel) rfl rfl (Nat.le_of_ble_eq_true rfl) dX2_init_25 (fun H locs hP hD hS => ?_)
  have hP : va_P D vwCl ([(h0, .inr (2, [.ref q1, .ref q2, .ref q3, .null, .null, .int 0])), (q1, .inl (cy 0, 40, .inl (fun _ => 0))), (q2, .inl (cy 0, 40, .inl (fun _ => 0))), (q3, .inl (cy 1, 40, .inr (.inl (fun _ => 0))))]) H := hP
  have hD : va_D (nAd h0 s.heap.size) ([(h0, .inr (2, [.ref q1, .ref q2, .ref q3, .null, .null, .int 0])), (q1, .inl (cy 0, 40, .inl (fun _ => 0))), (q2, .inl (cy 0, 40, .inl (fun _ => 0))), (q3, .inl (cy 1, 40, .inr (.inl (fun _ => 0))))]) := hD
  refine lv_aload_n hx hb dX2_init_28 rfl (lv_at hl 0 rfl) ?_
  refine lv_bipush (v := 40) hx hb dX2_init_29 (by decide) ?_
  refine nw_J hx hb hT hK hP hD hS hA (N := 40) (by decide) rfl (Nat.le_of_ble_eq_true rfl) (Nat.le_of_ble_eq_true rfl) (Nat.le_of_ble_eq_true rfl) dX2_init_31 (fun q4 H hP hD hS => ?_)
  have hP : va_P D vwCl ([(h0, .inr (2, [.ref q1, .ref q2, .ref q3, .null, .null, .int 0])), (q1, .inl (cy 0, 40, .inl (fun _ => 0))), (q2, .inl (cy 0, 40, .inl (fun _ => 0))), (q3, .inl (cy 1, 40, .inr (.inl (fun _ => 0)))), (q4, .inl (cy 1, 40, .inr (.inl (fun _ => 0))))]) H := hP
  have hD : va_D (nAd h0 s.heap.size) ([(h0, .inr (2, [.ref q1, .ref q2, .ref q3, .null, .null, .int 0])), (q1, .inl (cy 0, 40, .inl (fun _ => 0))), (q2, .inl (cy 0, 40, .inl (fun _ => 0))), (q3, .inl (cy 1, 40, .inr (.inl (fun _ => 0)))), (q4, .inl (cy 1, 40, .inr (.inl (fun _ => 0))))]) := hD
  refine va_putF (D := D) (ci := 2) (v := .ref q4) (ty := .array .long) (C := RX2) (T := TX2) (N := 6) hx hb hT inlX2 tyX2 tyX2_ok nmX2 hown hK.1 hP hD hS 0 rfl rfl 3 (by decide) (hT _ mw_1_40) (fun _ h9 => h9) rfl hin rfl (by decide +kernel) rfl rfl (Nat.le_of_ble_eq_true rfl) dX2_init_33 (fun H locs hP hD hS => ?_)
  have hP : va_P D vwCl ([(h0, .inr (2, [.ref q1, .ref q2, .ref q3, .ref q4, .null, .int 0])), (q1, .inl (cy 0, 40, .inl (fun _ => 0))), (q2, .inl (cy 0, 40, .inl (fun _ => 0))), (q3, .inl (cy 1, 40, .inr (.inl (fun _ => 0)))), (q4, .inl (cy 1, 40, .inr (.inl (fun _ => 0))))]) H := hP
  have hD : va_D (nAd h0 s.heap.size) ([(h0, .inr (2, [.ref q1, .ref q2, .ref q3, .ref q4, .null, .int 0])), (q1, .inl (cy 0, 40, .inl (fun _ => 0))), (q2, .inl (cy 0, 40, .inl (fun _ => 0))), (q3, .inl (cy 1, 40, .inr (.inl (fun _ => 0)))), (q4, .inl (cy 1, 40, .inr (.inl (fun _ => 0))))]) := hD
  refine lv_aload_n hx hb dX2_init_36 rfl (lv_at hl 0 rfl) ?_
  refine lv_bipush (v := 40) hx hb dX2_init_37 (by decide) ?_
  refine nw_J hx hb hT hK hP hD hS hA (N := 40) (by decide) rfl (Nat.le_of_ble_eq_true rfl) (Nat.le_of_ble_eq_true rfl) (Nat.le_of_ble_eq_true rfl) dX2_init_39 (fun q5 H hP hD hS => ?_)
  have hP : va_P D vwCl ([(h0, .inr (2, [.ref q1, .ref q2, .ref q3, .ref q4, .null, .int 0])), (q1, .inl (cy 0, 40, .inl (fun _ => 0))), (q2, .inl (cy 0, 40, .inl (fun _ => 0))), (q3, .inl (cy 1, 40, .inr (.inl (fun _ => 0)))), (q4, .inl (cy 1, 40, .inr (.inl (fun _ => 0)))), (q5, .inl (cy 1, 40, .inr (.inl (fun _ => 0))))]) H := hP
  have hD : va_D (nAd h0 s.heap.size) ([(h0, .inr (2, [.ref q1, .ref q2, .ref q3, .ref q4, .null, .int 0])), (q1, .inl (cy 0, 40, .inl (fun _ => 0))), (q2, .inl (cy 0, 40, .inl (fun _ => 0))), (q3, .inl (cy 1, 40, .inr (.inl (fun _ => 0)))), (q4, .inl (cy 1, 40, .inr (.inl (fun _ => 0)))), (q5, .inl (cy 1, 40, .inr (.inl (fun _ => 0))))]) := hD
  refine va_putF (D := D) (ci := 2) (v := .ref q5) (ty := .array .long) (C := RX2) (T := TX2) (N := 6) hx hb hT inlX2 tyX2 tyX2_ok nmX2 hown hK.1 hP hD hS 0 rfl rfl 4 (by decide) (hT _ mw_1_42) (fun _ h9 => h9) rfl hin rfl (by decide +kernel) rfl rfl (Nat.le_of_ble_eq_true rfl) dX2_init_41 (fun H locs hP hD hS => ?_)
  have hP : va_P D vwCl ([(h0, .inr (2, [.ref q1, .ref q2, .ref q3, .ref q4, .ref q5, .int 0])), (q1, .inl (cy 0, 40, .inl (fun _ => 0))), (q2, .inl (cy 0, 40, .inl (fun _ => 0))), (q3, .inl (cy 1, 40, .inr (.inl (fun _ => 0)))), (q4, .inl (cy 1, 40, .inr (.inl (fun _ => 0)))), (q5, .inl (cy 1, 40, .inr (.inl (fun _ => 0))))]) H := hP
  have hD : va_D (nAd h0 s.heap.size) ([(h0, .inr (2, [.ref q1, .ref q2, .ref q3, .ref q4, .ref q5, .int 0])), (q1, .inl (cy 0, 40, .inl (fun _ => 0))), (q2, .inl (cy 0, 40, .inl (fun _ => 0))), (q3, .inl (cy 1, 40, .inr (.inl (fun _ => 0)))), (q4, .inl (cy 1, 40, .inr (.inl (fun _ => 0)))), (q5, .inl (cy 1, 40, .inr (.inl (fun _ => 0))))]) := hD
  refine W.widen (k := 5) (n := 200) (Nat.le_of_ble_eq_true rfl) (Nat.le_of_ble_eq_true rfl) ?_
  exact hret (fun k => [0, q1, q2, q3, q4, q5].getD k 0) dX2_init_44 hP hD hS
theorem dX0_init_0 : decode cX0_init 0 = .ok (.aload_n 0, 1) := by decide +kernel
theorem dX0_init_1 : decode cX0_init 1 = .ok (.invokespecial 3, 3) := by decide +kernel
theorem dX0_init_4 : decode cX0_init 4 = .ok (.aload_n 0, 1) := by decide +kernel
theorem dX0_init_5 : decode cX0_init 5 = .ok (.iconst (-1), 1) := by decide +kernel
theorem dX0_init_6 : decode cX0_init 6 = .ok (.putfield 9, 3) := by decide +kernel
theorem dX0_init_9 : decode cX0_init 9 = .ok (.aload_n 0, 1) := by decide +kernel
theorem dX0_init_10 : decode cX0_init 10 = .ok (.new 15, 3) := by decide +kernel
theorem dX0_init_13 : decode cX0_init 13 = .ok (.dup, 1) := by decide +kernel
theorem dX0_init_14 : decode cX0_init 14 = .ok (.invokespecial 17, 3) := by decide +kernel
theorem dX0_init_17 : decode cX0_init 17 = .ok (.putfield 18, 3) := by decide +kernel
theorem dX0_init_20 : decode cX0_init 20 = .ok (.aload_n 0, 1) := by decide +kernel
theorem dX0_init_21 : decode cX0_init 21 = .ok (.bipush 40, 2) := by decide +kernel
theorem dX0_init_23 : decode cX0_init 23 = .ok (.newarray .int, 2) := by decide +kernel
theorem dX0_init_25 : decode cX0_init 25 = .ok (.putfield 22, 3) := by decide +kernel
theorem dX0_init_28 : decode cX0_init 28 = .ok (.return_, 1) := by decide +kernel
def nw0 (cy : Nat → ClassId) (h0 : Nat) (u : Nat → Nat) : va_W := [(h0, .inr (0, [.int (-1), .ref (u 1), .ref (u 4), .long 0])), (u 1, .inr (5, [.long 0, .int 0, .int 0, .ref (u 2), .ref (u 3)])), (u 2, .inl (cy 0, 3, .inl (fun _ => 0))), (u 3, .inl (cy 0, 3, .inl (fun _ => 0))), (u 4, .inl (cy 0, 40, .inl (fun _ => 0)))]
abbrev rmX0_init : Room := { frames := 2, cells := 4, slots := 51, locals := 32 }
set_option maxHeartbeats 4000000 in
set_option maxRecDepth 100000 in
theorem c_X0_init {l : Launch} {D : va_G} {cy : Nat → ClassId} : CtorMet l yX0_init cX0_init 1 rmX0_init D cy 0 [.int 0, .null, .null, .long 0] [] (nw0 cy) 4 51 := by
  refine startK (by decide) rfl (fun _ => Nat.le_of_ble_eq_true rfl) (fun p e s m args below meth c Q ls h0 hx hb hml hT hown hin hK hI hret hl hP hD hS hA => ?_)
  have hl : lv_has ls 1 [(0, .ref h0)] := hl
  refine lv_aload_n hx hb dX0_init_0 rfl (lv_at hl 0 rfl) ?_
  refine W.objInit hx hb hown (hT _ mw_1_113) (hT _ mw_1_25) (hT _ xo_code) rfl (by rw [hml]; exact hl.1) rfl dX0_init_1 (Nat.le_of_ble_eq_true rfl) (Nat.le_of_ble_eq_true rfl) ?_
  refine W.eq (g2 := F0 m 4 ls []) rfl ?_
  refine lv_aload_n hx hb dX0_init_4 rfl (lv_at hl 0 rfl) ?_
  refine lv_iconst (v := (-1)) hx hb dX0_init_5 (by decide) ?_
  refine va_put (D := D) (ci := 0) (v := .int (-1)) (ty := .int) (C := RX0) (T := TX0) (N := 4) hx hb hT inlX0 tyX0 tyX0_ok nmX0 hown hK.1 hP hD hS 0 rfl rfl 0 (by decide) (hT _ mw_1_142) (fun _ h9 => h9) rfl (by decide +kernel) rfl rfl (Nat.le_of_ble_eq_true rfl) dX0_init_6 (fun H locs hP hD hS => ?_)
  have hP : va_P D vwCl ([(h0, .inr (0, [.int (-1), .null, .null, .long 0]))]) H := hP
  have hD : va_D (nAd h0 s.heap.size) ([(h0, .inr (0, [.int (-1), .null, .null, .long 0]))]) := hD
  refine lv_aload_n hx hb dX0_init_9 rfl (lv_at hl 0 rfl) ?_
  refine va_new (ci := 5) (fs := [.long 0, .int 0, .int 0, .null, .null]) (C := RX5) (T := TX5) (N := 5) hx hb hT inlX5 tyX5 tyX5_ok hown (hT _ mw_1_114) (hT _ mw_1_115) (hT _ mw_1_7) hK.1 hP hD hS hA rfl (fun j hj => by rcases (show j = 0 ∨ j = 1 ∨ j = 2 ∨ j = 3 ∨ j = 4 by omega) with rfl | rfl | rfl | rfl | rfl <;> rfl) (Nat.le_of_ble_eq_true rfl) (Nat.le_of_ble_eq_true rfl) dX0_init_10 (fun q1 H hP hD hS => ?_)
  refine lv_dup hx hb dX0_init_13 rfl ?_
  refine ctorN (As := []) (rest := [.ref q1, .ref h0]) (n := 0) (c_X5_init) hx hb hml hT hown hK hI hP hD hS hA (List.mem_of_getElem? (i := 3) rfl) ⟨mw_1_117, mw_1_7, mw_1_118⟩ rfl (by decide +kernel) ⟨rfl, rfl⟩ ⟨Nat.le_of_ble_eq_true rfl, Nat.le_of_ble_eq_true rfl⟩ rfl hl.1 rfl (Nat.le_of_ble_eq_true rfl) dX0_init_14 ⟨Nat.le_of_ble_eq_true rfl, Nat.le_of_ble_eq_true rfl⟩ (fun u1 H locs hP hD hS => ?_)
  have hP : va_P D vwCl ([(h0, .inr (0, [.int (-1), .null, .null, .long 0]))] ++ nw5 cy q1 u1) H := hP
  have hD : va_D (nAd h0 s.heap.size) ([(h0, .inr (0, [.int (-1), .null, .null, .long 0]))] ++ nw5 cy q1 u1) := hD
  refine va_putF (D := D) (ci := 0) (v := .ref q1) (ty := .object "DrillCount$Selection") (C := RX0) (T := TX0) (N := 4) hx hb hT inlX0 tyX0 tyX0_ok nmX0 hown hK.1 hP hD hS 0 rfl rfl 1 (by decide) (hT _ mw_1_145) (fun _ h9 => h9) rfl hin rfl (by decide +kernel) rfl rfl (Nat.le_of_ble_eq_true rfl) dX0_init_17 (fun H locs hP hD hS => ?_)
  have hP : va_P D vwCl ([(h0, .inr (0, [.int (-1), .ref q1, .null, .long 0]))] ++ nw5 cy q1 u1) H := hP
  have hD : va_D (nAd h0 s.heap.size) ([(h0, .inr (0, [.int (-1), .ref q1, .null, .long 0]))] ++ nw5 cy q1 u1) := hD
  refine lv_aload_n hx hb dX0_init_20 rfl (lv_at hl 0 rfl) ?_
  refine lv_bipush (v := 40) hx hb dX0_init_21 (by decide) ?_
  refine nw_I hx hb hT hK hP hD hS hA (N := 40) (by decide) rfl (Nat.le_of_ble_eq_true rfl) (Nat.le_of_ble_eq_true rfl) (Nat.le_of_ble_eq_true rfl) dX0_init_23 (fun q2 H hP hD hS => ?_)
  have hP : va_P D vwCl (([(h0, .inr (0, [.int (-1), .ref q1, .null, .long 0]))] ++ nw5 cy q1 u1) ++ [(q2, .inl (cy 0, 40, .inl (fun _ => 0)))]) H := hP
  have hD : va_D (nAd h0 s.heap.size) (([(h0, .inr (0, [.int (-1), .ref q1, .null, .long 0]))] ++ nw5 cy q1 u1) ++ [(q2, .inl (cy 0, 40, .inl (fun _ => 0)))]) := hD
  refine va_putF (D := D) (ci := 0) (v := .ref q2) (ty := .array .int) (C := RX0) (T := TX0) (N := 4) hx hb hT inlX0 tyX0 tyX0_ok nmX0 hown hK.1 hP hD hS 0 rfl rfl 2 (by decide) (hT _ mw_1_149) (fun _ h9 => h9) rfl hin rfl (by decide +kernel) rfl rfl (Nat.le_of_ble_eq_true rfl) dX0_init_25 (fun H locs hP hD hS => ?_)
  have hP : va_P D vwCl (([(h0, .inr (0, [.int (-1), .ref q1, .ref q2, .long 0]))] ++ nw5 cy q1 u1) ++ [(q2, .inl (cy 0, 40, .inl (fun _ => 0)))]) H := hP
  have hD : va_D (nAd h0 s.heap.size) (([(h0, .inr (0, [.int (-1), .ref q1, .ref q2, .long 0]))] ++ nw5 cy q1 u1) ++ [(q2, .inl (cy 0, 40, .inl (fun _ => 0)))]) := hD
  refine W.widen (k := 4) (n := 51) (Nat.le_of_ble_eq_true rfl) (Nat.le_of_ble_eq_true rfl) ?_
  exact hret (fun k => [0, q1, u1 1, u1 2, q2].getD k 0) dX0_init_28 hP hD hS
theorem dX6_init_0 : decode cX6_init 0 = .ok (.aload_n 0, 1) := by decide +kernel
theorem dX6_init_1 : decode cX6_init 1 = .ok (.invokespecial 3, 3) := by decide +kernel
theorem dX6_init_4 : decode cX6_init 4 = .ok (.aload_n 0, 1) := by decide +kernel
theorem dX6_init_5 : decode cX6_init 5 = .ok (.new 9, 3) := by decide +kernel
theorem dX6_init_8 : decode cX6_init 8 = .ok (.dup, 1) := by decide +kernel
theorem dX6_init_9 : decode cX6_init 9 = .ok (.bipush 40, 2) := by decide +kernel
theorem dX6_init_11 : decode cX6_init 11 = .ok (.invokespecial 11, 3) := by decide +kernel
theorem dX6_init_14 : decode cX6_init 14 = .ok (.putfield 14, 3) := by decide +kernel
theorem dX6_init_17 : decode cX6_init 17 = .ok (.return_, 1) := by decide +kernel
def nw6 (cy : Nat → ClassId) (h0 : Nat) (u : Nat → Nat) : va_W := [(h0, .inr (6, [.ref (u 1), .long 0, .int 0])), (u 1, .inr (3, [.ref (u 2), .ref (u 3), .int 0])), (u 2, .inl (cy 0, 40, .inl (fun _ => 0))), (u 3, .inl (cy 0, 40, .inl (fun _ => 0)))]
abbrev rmX6_init : Room := { frames := 2, cells := 3, slots := 83, locals := 33 }
set_option maxHeartbeats 4000000 in
set_option maxRecDepth 100000 in
theorem c_X6_init {l : Launch} {D : va_G} {cy : Nat → ClassId} : CtorMet l yX6_init cX6_init 1 rmX6_init D cy 6 [.null, .long 0, .int 0] [] (nw6 cy) 3 83 := by
  refine startK (by decide) rfl (fun _ => Nat.le_of_ble_eq_true rfl) (fun p e s m args below meth c Q ls h0 hx hb hml hT hown hin hK hI hret hl hP hD hS hA => ?_)
  have hl : lv_has ls 1 [(0, .ref h0)] := hl
  refine lv_aload_n hx hb dX6_init_0 rfl (lv_at hl 0 rfl) ?_
  refine W.objInit hx hb hown (hT _ mw_1_67) (hT _ mw_1_25) (hT _ xo_code) rfl (by rw [hml]; exact hl.1) rfl dX6_init_1 (Nat.le_of_ble_eq_true rfl) (Nat.le_of_ble_eq_true rfl) ?_
  refine W.eq (g2 := F0 m 4 ls []) rfl ?_
  refine lv_aload_n hx hb dX6_init_4 rfl (lv_at hl 0 rfl) ?_
  refine va_new (ci := 3) (fs := [.null, .null, .int 0]) (C := RX3) (T := TX3) (N := 3) hx hb hT inlX3 tyX3 tyX3_ok hown (hT _ mw_1_68) (hT _ mw_1_69) (hT _ mw_1_4) hK.1 hP hD hS hA rfl (fun j hj => by rcases (show j = 0 ∨ j = 1 ∨ j = 2 by omega) with rfl | rfl | rfl <;> rfl) (Nat.le_of_ble_eq_true rfl) (Nat.le_of_ble_eq_true rfl) dX6_init_5 (fun q1 H hP hD hS => ?_)
  refine lv_dup hx hb dX6_init_8 rfl ?_
  refine lv_bipush (v := 40) hx hb dX6_init_9 (by decide) ?_
  refine ctorI (As := [.int 40]) (rest := [.ref q1, .ref h0]) (n := 1) (c_X3_init) hx hb hml hT hown hK hI hP hD hS hA mw_1_70 ⟨mw_1_71, mw_1_4, mw_1_72⟩ rfl (by decide +kernel) ⟨rfl, rfl⟩ ⟨Nat.le_of_ble_eq_true rfl, Nat.le_of_ble_eq_true rfl⟩ rfl hl.1 rfl (Nat.le_of_ble_eq_true rfl) dX6_init_11 ⟨Nat.le_of_ble_eq_true rfl, Nat.le_of_ble_eq_true rfl⟩ (fun u1 H locs hP hD hS => ?_)
  have hP : va_P D vwCl ([(h0, .inr (6, [.null, .long 0, .int 0]))] ++ nw3 cy q1 u1) H := hP
  have hD : va_D (nAd h0 s.heap.size) ([(h0, .inr (6, [.null, .long 0, .int 0]))] ++ nw3 cy q1 u1) := hD
  refine va_putF (D := D) (ci := 6) (v := .ref q1) (ty := .object "DrillCount$Ranking") (C := RX6) (T := TX6) (N := 3) hx hb hT inlX6 tyX6 tyX6_ok nmX6 hown hK.1 hP hD hS 0 rfl rfl 0 (by decide) (hT _ mw_1_87) (fun _ h9 => h9) rfl hin rfl (by decide +kernel) rfl rfl (Nat.le_of_ble_eq_true rfl) dX6_init_14 (fun H locs hP hD hS => ?_)
  have hP : va_P D vwCl ([(h0, .inr (6, [.ref q1, .long 0, .int 0]))] ++ nw3 cy q1 u1) H := hP
  have hD : va_D (nAd h0 s.heap.size) ([(h0, .inr (6, [.ref q1, .long 0, .int 0]))] ++ nw3 cy q1 u1) := hD
  refine W.widen (k := 3) (n := 83) (Nat.le_of_ble_eq_true rfl) (Nat.le_of_ble_eq_true rfl) ?_
  exact hret (fun k => [0, q1, u1 1, u1 2].getD k 0) dX6_init_17 hP hD hS
theorem dX10_init_0 : decode cX10_init 0 = .ok (.aload_n 0, 1) := by decide +kernel
theorem dX10_init_1 : decode cX10_init 1 = .ok (.invokespecial 1, 3) := by decide +kernel
theorem dX10_init_4 : decode cX10_init 4 = .ok (.aload_n 0, 1) := by decide +kernel
theorem dX10_init_5 : decode cX10_init 5 = .ok (.iconst 5, 1) := by decide +kernel
theorem dX10_init_6 : decode cX10_init 6 = .ok (.newarray .int, 2) := by decide +kernel
theorem dX10_init_8 : decode cX10_init 8 = .ok (.putfield 7, 3) := by decide +kernel
theorem dX10_init_11 : decode cX10_init 11 = .ok (.aload_n 0, 1) := by decide +kernel
theorem dX10_init_12 : decode cX10_init 12 = .ok (.bipush 40, 2) := by decide +kernel
theorem dX10_init_14 : decode cX10_init 14 = .ok (.newarray .int, 2) := by decide +kernel
theorem dX10_init_16 : decode cX10_init 16 = .ok (.putfield 13, 3) := by decide +kernel
theorem dX10_init_19 : decode cX10_init 19 = .ok (.aload_n 0, 1) := by decide +kernel
theorem dX10_init_20 : decode cX10_init 20 = .ok (.bipush 40, 2) := by decide +kernel
theorem dX10_init_22 : decode cX10_init 22 = .ok (.newarray .int, 2) := by decide +kernel
theorem dX10_init_24 : decode cX10_init 24 = .ok (.putfield 16, 3) := by decide +kernel
theorem dX10_init_27 : decode cX10_init 27 = .ok (.aload_n 0, 1) := by decide +kernel
theorem dX10_init_28 : decode cX10_init 28 = .ok (.bipush 40, 2) := by decide +kernel
theorem dX10_init_30 : decode cX10_init 30 = .ok (.newarray .int, 2) := by decide +kernel
theorem dX10_init_32 : decode cX10_init 32 = .ok (.putfield 19, 3) := by decide +kernel
theorem dX10_init_35 : decode cX10_init 35 = .ok (.aload_n 0, 1) := by decide +kernel
theorem dX10_init_36 : decode cX10_init 36 = .ok (.bipush 40, 2) := by decide +kernel
theorem dX10_init_38 : decode cX10_init 38 = .ok (.newarray .boolean, 2) := by decide +kernel
theorem dX10_init_40 : decode cX10_init 40 = .ok (.putfield 22, 3) := by decide +kernel
theorem dX10_init_43 : decode cX10_init 43 = .ok (.aload_n 0, 1) := by decide +kernel
theorem dX10_init_44 : decode cX10_init 44 = .ok (.sipush 1600, 3) := by decide +kernel
theorem dX10_init_47 : decode cX10_init 47 = .ok (.newarray .boolean, 2) := by decide +kernel
theorem dX10_init_49 : decode cX10_init 49 = .ok (.putfield 26, 3) := by decide +kernel
theorem dX10_init_52 : decode cX10_init 52 = .ok (.aload_n 0, 1) := by decide +kernel
theorem dX10_init_53 : decode cX10_init 53 = .ok (.sipush 200, 3) := by decide +kernel
theorem dX10_init_56 : decode cX10_init 56 = .ok (.newarray .int, 2) := by decide +kernel
theorem dX10_init_58 : decode cX10_init 58 = .ok (.putfield 29, 3) := by decide +kernel
theorem dX10_init_61 : decode cX10_init 61 = .ok (.aload_n 0, 1) := by decide +kernel
theorem dX10_init_62 : decode cX10_init 62 = .ok (.sipush 200, 3) := by decide +kernel
theorem dX10_init_65 : decode cX10_init 65 = .ok (.newarray .boolean, 2) := by decide +kernel
theorem dX10_init_67 : decode cX10_init 67 = .ok (.putfield 32, 3) := by decide +kernel
theorem dX10_init_70 : decode cX10_init 70 = .ok (.aload_n 0, 1) := by decide +kernel
theorem dX10_init_71 : decode cX10_init 71 = .ok (.sipush 1440, 3) := by decide +kernel
theorem dX10_init_74 : decode cX10_init 74 = .ok (.newarray .int, 2) := by decide +kernel
theorem dX10_init_76 : decode cX10_init 76 = .ok (.putfield 35, 3) := by decide +kernel
theorem dX10_init_79 : decode cX10_init 79 = .ok (.aload_n 0, 1) := by decide +kernel
theorem dX10_init_80 : decode cX10_init 80 = .ok (.sipush 1600, 3) := by decide +kernel
theorem dX10_init_83 : decode cX10_init 83 = .ok (.newarray .boolean, 2) := by decide +kernel
theorem dX10_init_85 : decode cX10_init 85 = .ok (.putfield 38, 3) := by decide +kernel
theorem dX10_init_88 : decode cX10_init 88 = .ok (.aload_n 0, 1) := by decide +kernel
theorem dX10_init_89 : decode cX10_init 89 = .ok (.bipush 40, 2) := by decide +kernel
theorem dX10_init_91 : decode cX10_init 91 = .ok (.newarray .int, 2) := by decide +kernel
theorem dX10_init_93 : decode cX10_init 93 = .ok (.putfield 41, 3) := by decide +kernel
theorem dX10_init_96 : decode cX10_init 96 = .ok (.aload_n 0, 1) := by decide +kernel
theorem dX10_init_97 : decode cX10_init 97 = .ok (.sipush 1999, 3) := by decide +kernel
theorem dX10_init_100 : decode cX10_init 100 = .ok (.newarray .int, 2) := by decide +kernel
theorem dX10_init_102 : decode cX10_init 102 = .ok (.putfield 44, 3) := by decide +kernel
theorem dX10_init_105 : decode cX10_init 105 = .ok (.aload_n 0, 1) := by decide +kernel
theorem dX10_init_106 : decode cX10_init 106 = .ok (.bipush 24, 2) := by decide +kernel
theorem dX10_init_108 : decode cX10_init 108 = .ok (.newarray .int, 2) := by decide +kernel
theorem dX10_init_110 : decode cX10_init 110 = .ok (.putfield 47, 3) := by decide +kernel
theorem dX10_init_113 : decode cX10_init 113 = .ok (.aload_n 0, 1) := by decide +kernel
theorem dX10_init_114 : decode cX10_init 114 = .ok (.bipush 40, 2) := by decide +kernel
theorem dX10_init_116 : decode cX10_init 116 = .ok (.newarray .int, 2) := by decide +kernel
theorem dX10_init_118 : decode cX10_init 118 = .ok (.putfield 50, 3) := by decide +kernel
theorem dX10_init_121 : decode cX10_init 121 = .ok (.aload_n 0, 1) := by decide +kernel
theorem dX10_init_122 : decode cX10_init 122 = .ok (.bipush 40, 2) := by decide +kernel
theorem dX10_init_124 : decode cX10_init 124 = .ok (.newarray .int, 2) := by decide +kernel
theorem dX10_init_126 : decode cX10_init 126 = .ok (.putfield 53, 3) := by decide +kernel
theorem dX10_init_129 : decode cX10_init 129 = .ok (.return_, 1) := by decide +kernel
def nw10 (cy : Nat → ClassId) (h0 : Nat) (u : Nat → Nat) : va_W := [(h0, .inr (10, [.int 0, .int 0, .int 0, .int 0, .ref (u 1), .ref (u 2), .ref (u 3), .ref (u 4), .ref (u 5), .ref (u 6), .ref (u 7), .ref (u 8), .ref (u 9), .int 0, .ref (u 10), .ref (u 11), .int 0, .ref (u 12), .int 0, .ref (u 13), .ref (u 14), .ref (u 15)])), (u 1, .inl (cy 0, 5, .inl (fun _ => 0))), (u 2, .inl (cy 0, 40, .inl (fun _ => 0))), (u 3, .inl (cy 0, 40, .inl (fun _ => 0))), (u 4, .inl (cy 0, 40, .inl (fun _ => 0))), (u 5, .inl (cy 2, 40, .inl (fun _ => 0))), (u 6, .inl (cy 2, 1600, .inl (fun _ => 0))), (u 7, .inl (cy 0, 200, .inl (fun _ => 0))), (u 8, .inl (cy 2, 200, .inl (fun _ => 0))), (u 9, .inl (cy 0, 1440, .inl (fun _ => 0))), (u 10, .inl (cy 2, 1600, .inl (fun _ => 0))), (u 11, .inl (cy 0, 40, .inl (fun _ => 0))), (u 12, .inl (cy 0, 1999, .inl (fun _ => 0))), (u 13, .inl (cy 0, 24, .inl (fun _ => 0))), (u 14, .inl (cy 0, 40, .inl (fun _ => 0))), (u 15, .inl (cy 0, 40, .inl (fun _ => 0)))]
abbrev rmX10_init : Room := { frames := 1, cells := 15, slots := 7348, locals := 12 }
set_option maxHeartbeats 4000000 in
set_option maxRecDepth 100000 in
theorem c_X10_init {l : Launch} {D : va_G} {cy : Nat → ClassId} : CtorMet l yX10_init cX10_init 1 rmX10_init D cy 10 [.int 0, .int 0, .int 0, .int 0, .null, .null, .null, .null, .null, .null, .null, .null, .null, .int 0, .null, .null, .int 0, .null, .int 0, .null, .null, .null] [] (nw10 cy) 15 7348 := by
  refine startK (by decide) rfl (fun _ => Nat.le_of_ble_eq_true rfl) (fun p e s m args below meth c Q ls h0 hx hb hml hT hown hin hK hI hret hl hP hD hS hA => ?_)
  have hl : lv_has ls 1 [(0, .ref h0)] := hl
  refine lv_aload_n hx hb dX10_init_0 rfl (lv_at hl 0 rfl) ?_
  refine W.objInit hx hb hown (hT _ mw_4_136) (hT _ mw_1_25) (hT _ xo_code) rfl (by rw [hml]; exact hl.1) rfl dX10_init_1 (Nat.le_of_ble_eq_true rfl) (Nat.le_of_ble_eq_true rfl) ?_
  refine W.eq (g2 := F0 m 4 ls []) rfl ?_
  refine lv_aload_n hx hb dX10_init_4 rfl (lv_at hl 0 rfl) ?_
  refine lv_iconst (v := 5) hx hb dX10_init_5 (by decide) ?_
  refine nw_I hx hb hT hK hP hD hS hA (N := 5) (by decide) rfl (Nat.le_of_ble_eq_true rfl) (Nat.le_of_ble_eq_true rfl) (Nat.le_of_ble_eq_true rfl) dX10_init_6 (fun q1 H hP hD hS => ?_)
  have hP : va_P D vwCl ([(h0, .inr (10, [.int 0, .int 0, .int 0, .int 0, .null, .null, .null, .null, .null, .null, .null, .null, .null, .int 0, .null, .null, .int 0, .null, .int 0, .null, .null, .null])), (q1, .inl (cy 0, 5, .inl (fun _ => 0)))]) H := hP
  have hD : va_D (nAd h0 s.heap.size) ([(h0, .inr (10, [.int 0, .int 0, .int 0, .int 0, .null, .null, .null, .null, .null, .null, .null, .null, .null, .int 0, .null, .null, .int 0, .null, .int 0, .null, .null, .null])), (q1, .inl (cy 0, 5, .inl (fun _ => 0)))]) := hD
  refine va_putF (D := D) (ci := 10) (v := .ref q1) (ty := .array .int) (C := RX10) (T := TX10) (N := 22) hx hb hT inlX10 tyX10 tyX10_ok nmX10 hown hK.1 hP hD hS 0 rfl rfl 4 (by decide) (hT _ mw_4_141) (fun _ h9 => h9) rfl hin rfl (by decide +kernel) rfl rfl (Nat.le_of_ble_eq_true rfl) dX10_init_8 (fun H locs hP hD hS => ?_)
  have hP : va_P D vwCl ([(h0, .inr (10, [.int 0, .int 0, .int 0, .int 0, .ref q1, .null, .null, .null, .null, .null, .null, .null, .null, .int 0, .null, .null, .int 0, .null, .int 0, .null, .null, .null])), (q1, .inl (cy 0, 5, .inl (fun _ => 0)))]) H := hP
  have hD : va_D (nAd h0 s.heap.size) ([(h0, .inr (10, [.int 0, .int 0, .int 0, .int 0, .ref q1, .null, .null, .null, .null, .null, .null, .null, .null, .int 0, .null, .null, .int 0, .null, .int 0, .null, .null, .null])), (q1, .inl (cy 0, 5, .inl (fun _ => 0)))]) := hD
  refine lv_aload_n hx hb dX10_init_11 rfl (lv_at hl 0 rfl) ?_
  refine lv_bipush (v := 40) hx hb dX10_init_12 (by decide) ?_
  refine nw_I hx hb hT hK hP hD hS hA (N := 40) (by decide) rfl (Nat.le_of_ble_eq_true rfl) (Nat.le_of_ble_eq_true rfl) (Nat.le_of_ble_eq_true rfl) dX10_init_14 (fun q2 H hP hD hS => ?_)
  have hP : va_P D vwCl ([(h0, .inr (10, [.int 0, .int 0, .int 0, .int 0, .ref q1, .null, .null, .null, .null, .null, .null, .null, .null, .int 0, .null, .null, .int 0, .null, .int 0, .null, .null, .null])), (q1, .inl (cy 0, 5, .inl (fun _ => 0))), (q2, .inl (cy 0, 40, .inl (fun _ => 0)))]) H := hP
  have hD : va_D (nAd h0 s.heap.size) ([(h0, .inr (10, [.int 0, .int 0, .int 0, .int 0, .ref q1, .null, .null, .null, .null, .null, .null, .null, .null, .int 0, .null, .null, .int 0, .null, .int 0, .null, .null, .null])), (q1, .inl (cy 0, 5, .inl (fun _ => 0))), (q2, .inl (cy 0, 40, .inl (fun _ => 0)))]) := hD
  refine va_putF (D := D) (ci := 10) (v := .ref q2) (ty := .array .int) (C := RX10) (T := TX10) (N := 22) hx hb hT inlX10 tyX10 tyX10_ok nmX10 hown hK.1 hP hD hS 0 rfl rfl 5 (by decide) (hT _ mw_4_142) (fun _ h9 => h9) rfl hin rfl (by decide +kernel) rfl rfl (Nat.le_of_ble_eq_true rfl) dX10_init_16 (fun H locs hP hD hS => ?_)
  have hP : va_P D vwCl ([(h0, .inr (10, [.int 0, .int 0, .int 0, .int 0, .ref q1, .ref q2, .null, .null, .null, .null, .null, .null, .null, .int 0, .null, .null, .int 0, .null, .int 0, .null, .null, .null])), (q1, .inl (cy 0, 5, .inl (fun _ => 0))), (q2, .inl (cy 0, 40, .inl (fun _ => 0)))]) H := hP
  have hD : va_D (nAd h0 s.heap.size) ([(h0, .inr (10, [.int 0, .int 0, .int 0, .int 0, .ref q1, .ref q2, .null, .null, .null, .null, .null, .null, .null, .int 0, .null, .null, .int 0, .null, .int 0, .null, .null, .null])), (q1, .inl (cy 0, 5, .inl (fun _ => 0))), (q2, .inl (cy 0, 40, .inl (fun _ => 0)))]) := hD
  refine lv_aload_n hx hb dX10_init_19 rfl (lv_at hl 0 rfl) ?_
  refine lv_bipush (v := 40) hx hb dX10_init_20 (by decide) ?_
  refine nw_I hx hb hT hK hP hD hS hA (N := 40) (by decide) rfl (Nat.le_of_ble_eq_true rfl) (Nat.le_of_ble_eq_true rfl) (Nat.le_of_ble_eq_true rfl) dX10_init_22 (fun q3 H hP hD hS => ?_)
  have hP : va_P D vwCl ([(h0, .inr (10, [.int 0, .int 0, .int 0, .int 0, .ref q1, .ref q2, .null, .null, .null, .null, .null, .null, .null, .int 0, .null, .null, .int 0, .null, .int 0, .null, .null, .null])), (q1, .inl (cy 0, 5, .inl (fun _ => 0))), (q2, .inl (cy 0, 40, .inl (fun _ => 0))), (q3, .inl (cy 0, 40, .inl (fun _ => 0)))]) H := hP
  have hD : va_D (nAd h0 s.heap.size) ([(h0, .inr (10, [.int 0, .int 0, .int 0, .int 0, .ref q1, .ref q2, .null, .null, .null, .null, .null, .null, .null, .int 0, .null, .null, .int 0, .null, .int 0, .null, .null, .null])), (q1, .inl (cy 0, 5, .inl (fun _ => 0))), (q2, .inl (cy 0, 40, .inl (fun _ => 0))), (q3, .inl (cy 0, 40, .inl (fun _ => 0)))]) := hD
  refine va_putF (D := D) (ci := 10) (v := .ref q3) (ty := .array .int) (C := RX10) (T := TX10) (N := 22) hx hb hT inlX10 tyX10 tyX10_ok nmX10 hown hK.1 hP hD hS 0 rfl rfl 6 (by decide) (hT _ mw_4_143) (fun _ h9 => h9) rfl hin rfl (by decide +kernel) rfl rfl (Nat.le_of_ble_eq_true rfl) dX10_init_24 (fun H locs hP hD hS => ?_)
  have hP : va_P D vwCl ([(h0, .inr (10, [.int 0, .int 0, .int 0, .int 0, .ref q1, .ref q2, .ref q3, .null, .null, .null, .null, .null, .null, .int 0, .null, .null, .int 0, .null, .int 0, .null, .null, .null])), (q1, .inl (cy 0, 5, .inl (fun _ => 0))), (q2, .inl (cy 0, 40, .inl (fun _ => 0))), (q3, .inl (cy 0, 40, .inl (fun _ => 0)))]) H := hP
  have hD : va_D (nAd h0 s.heap.size) ([(h0, .inr (10, [.int 0, .int 0, .int 0, .int 0, .ref q1, .ref q2, .ref q3, .null, .null, .null, .null, .null, .null, .int 0, .null, .null, .int 0, .null, .int 0, .null, .null, .null])), (q1, .inl (cy 0, 5, .inl (fun _ => 0))), (q2, .inl (cy 0, 40, .inl (fun _ => 0))), (q3, .inl (cy 0, 40, .inl (fun _ => 0)))]) := hD
  refine lv_aload_n hx hb dX10_init_27 rfl (lv_at hl 0 rfl) ?_
  refine lv_bipush (v := 40) hx hb dX10_init_28 (by decide) ?_
  refine nw_I hx hb hT hK hP hD hS hA (N := 40) (by decide) rfl (Nat.le_of_ble_eq_true rfl) (Nat.le_of_ble_eq_true rfl) (Nat.le_of_ble_eq_true rfl) dX10_init_30 (fun q4 H hP hD hS => ?_)
  have hP : va_P D vwCl ([(h0, .inr (10, [.int 0, .int 0, .int 0, .int 0, .ref q1, .ref q2, .ref q3, .null, .null, .null, .null, .null, .null, .int 0, .null, .null, .int 0, .null, .int 0, .null, .null, .null])), (q1, .inl (cy 0, 5, .inl (fun _ => 0))), (q2, .inl (cy 0, 40, .inl (fun _ => 0))), (q3, .inl (cy 0, 40, .inl (fun _ => 0))), (q4, .inl (cy 0, 40, .inl (fun _ => 0)))]) H := hP
  have hD : va_D (nAd h0 s.heap.size) ([(h0, .inr (10, [.int 0, .int 0, .int 0, .int 0, .ref q1, .ref q2, .ref q3, .null, .null, .null, .null, .null, .null, .int 0, .null, .null, .int 0, .null, .int 0, .null, .null, .null])), (q1, .inl (cy 0, 5, .inl (fun _ => 0))), (q2, .inl (cy 0, 40, .inl (fun _ => 0))), (q3, .inl (cy 0, 40, .inl (fun _ => 0))), (q4, .inl (cy 0, 40, .inl (fun _ => 0)))]) := hD
  refine va_putF (D := D) (ci := 10) (v := .ref q4) (ty := .array .int) (C := RX10) (T := TX10) (N := 22) hx hb hT inlX10 tyX10 tyX10_ok nmX10 hown hK.1 hP hD hS 0 rfl rfl 7 (by decide) (hT _ mw_4_144) (fun _ h9 => h9) rfl hin rfl (by decide +kernel) rfl rfl (Nat.le_of_ble_eq_true rfl) dX10_init_32 (fun H locs hP hD hS => ?_)
  have hP : va_P D vwCl ([(h0, .inr (10, [.int 0, .int 0, .int 0, .int 0, .ref q1, .ref q2, .ref q3, .ref q4, .null, .null, .null, .null, .null, .int 0, .null, .null, .int 0, .null, .int 0, .null, .null, .null])), (q1, .inl (cy 0, 5, .inl (fun _ => 0))), (q2, .inl (cy 0, 40, .inl (fun _ => 0))), (q3, .inl (cy 0, 40, .inl (fun _ => 0))), (q4, .inl (cy 0, 40, .inl (fun _ => 0)))]) H := hP
  have hD : va_D (nAd h0 s.heap.size) ([(h0, .inr (10, [.int 0, .int 0, .int 0, .int 0, .ref q1, .ref q2, .ref q3, .ref q4, .null, .null, .null, .null, .null, .int 0, .null, .null, .int 0, .null, .int 0, .null, .null, .null])), (q1, .inl (cy 0, 5, .inl (fun _ => 0))), (q2, .inl (cy 0, 40, .inl (fun _ => 0))), (q3, .inl (cy 0, 40, .inl (fun _ => 0))), (q4, .inl (cy 0, 40, .inl (fun _ => 0)))]) := hD
  refine lv_aload_n hx hb dX10_init_35 rfl (lv_at hl 0 rfl) ?_
  refine lv_bipush (v := 40) hx hb dX10_init_36 (by decide) ?_
  refine nw_Z hx hb hT hK hP hD hS hA (N := 40) (by decide) rfl (Nat.le_of_ble_eq_true rfl) (Nat.le_of_ble_eq_true rfl) (Nat.le_of_ble_eq_true rfl) dX10_init_38 (fun q5 H hP hD hS => ?_)
  have hP : va_P D vwCl ([(h0, .inr (10, [.int 0, .int 0, .int 0, .int 0, .ref q1, .ref q2, .ref q3, .ref q4, .null, .null, .null, .null, .null, .int 0, .null, .null, .int 0, .null, .int 0, .null, .null, .null])), (q1, .inl (cy 0, 5, .inl (fun _ => 0))), (q2, .inl (cy 0, 40, .inl (fun _ => 0))), (q3, .inl (cy 0, 40, .inl (fun _ => 0))), (q4, .inl (cy 0, 40, .inl (fun _ => 0))), (q5, .inl (cy 2, 40, .inl (fun _ => 0)))]) H := hP
  have hD : va_D (nAd h0 s.heap.size) ([(h0, .inr (10, [.int 0, .int 0, .int 0, .int 0, .ref q1, .ref q2, .ref q3, .ref q4, .null, .null, .null, .null, .null, .int 0, .null, .null, .int 0, .null, .int 0, .null, .null, .null])), (q1, .inl (cy 0, 5, .inl (fun _ => 0))), (q2, .inl (cy 0, 40, .inl (fun _ => 0))), (q3, .inl (cy 0, 40, .inl (fun _ => 0))), (q4, .inl (cy 0, 40, .inl (fun _ => 0))), (q5, .inl (cy 2, 40, .inl (fun _ => 0)))]) := hD
  refine va_putF (D := D) (ci := 10) (v := .ref q5) (ty := .array .boolean) (C := RX10) (T := TX10) (N := 22) hx hb hT inlX10 tyX10 tyX10_ok nmX10 hown hK.1 hP hD hS 0 rfl rfl 8 (by decide) (hT _ mw_4_145) (fun _ h9 => h9) rfl hin rfl (by decide +kernel) rfl rfl (Nat.le_of_ble_eq_true rfl) dX10_init_40 (fun H locs hP hD hS => ?_)
  have hP : va_P D vwCl ([(h0, .inr (10, [.int 0, .int 0, .int 0, .int 0, .ref q1, .ref q2, .ref q3, .ref q4, .ref q5, .null, .null, .null, .null, .int 0, .null, .null, .int 0, .null, .int 0, .null, .null, .null])), (q1, .inl (cy 0, 5, .inl (fun _ => 0))), (q2, .inl (cy 0, 40, .inl (fun _ => 0))), (q3, .inl (cy 0, 40, .inl (fun _ => 0))), (q4, .inl (cy 0, 40, .inl (fun _ => 0))), (q5, .inl (cy 2, 40, .inl (fun _ => 0)))]) H := hP
  have hD : va_D (nAd h0 s.heap.size) ([(h0, .inr (10, [.int 0, .int 0, .int 0, .int 0, .ref q1, .ref q2, .ref q3, .ref q4, .ref q5, .null, .null, .null, .null, .int 0, .null, .null, .int 0, .null, .int 0, .null, .null, .null])), (q1, .inl (cy 0, 5, .inl (fun _ => 0))), (q2, .inl (cy 0, 40, .inl (fun _ => 0))), (q3, .inl (cy 0, 40, .inl (fun _ => 0))), (q4, .inl (cy 0, 40, .inl (fun _ => 0))), (q5, .inl (cy 2, 40, .inl (fun _ => 0)))]) := hD
  refine lv_aload_n hx hb dX10_init_43 rfl (lv_at hl 0 rfl) ?_
  refine lv_sipush (v := 1600) hx hb dX10_init_44 (by decide) ?_
  refine nw_Z hx hb hT hK hP hD hS hA (N := 1600) (by decide) rfl (Nat.le_of_ble_eq_true rfl) (Nat.le_of_ble_eq_true rfl) (Nat.le_of_ble_eq_true rfl) dX10_init_47 (fun q6 H hP hD hS => ?_)
  have hP : va_P D vwCl ([(h0, .inr (10, [.int 0, .int 0, .int 0, .int 0, .ref q1, .ref q2, .ref q3, .ref q4, .ref q5, .null, .null, .null, .null, .int 0, .null, .null, .int 0, .null, .int 0, .null, .null, .null])), (q1, .inl (cy 0, 5, .inl (fun _ => 0))), (q2, .inl (cy 0, 40, .inl (fun _ => 0))), (q3, .inl (cy 0, 40, .inl (fun _ => 0))), (q4, .inl (cy 0, 40, .inl (fun _ => 0))), (q5, .inl (cy 2, 40, .inl (fun _ => 0))), (q6, .inl (cy 2, 1600, .inl (fun _ => 0)))]) H := hP
  have hD : va_D (nAd h0 s.heap.size) ([(h0, .inr (10, [.int 0, .int 0, .int 0, .int 0, .ref q1, .ref q2, .ref q3, .ref q4, .ref q5, .null, .null, .null, .null, .int 0, .null, .null, .int 0, .null, .int 0, .null, .null, .null])), (q1, .inl (cy 0, 5, .inl (fun _ => 0))), (q2, .inl (cy 0, 40, .inl (fun _ => 0))), (q3, .inl (cy 0, 40, .inl (fun _ => 0))), (q4, .inl (cy 0, 40, .inl (fun _ => 0))), (q5, .inl (cy 2, 40, .inl (fun _ => 0))), (q6, .inl (cy 2, 1600, .inl (fun _ => 0)))]) := hD
  refine va_putF (D := D) (ci := 10) (v := .ref q6) (ty := .array .boolean) (C := RX10) (T := TX10) (N := 22) hx hb hT inlX10 tyX10 tyX10_ok nmX10 hown hK.1 hP hD hS 0 rfl rfl 9 (by decide) (hT _ mw_4_146) (fun _ h9 => h9) rfl hin rfl (by decide +kernel) rfl rfl (Nat.le_of_ble_eq_true rfl) dX10_init_49 (fun H locs hP hD hS => ?_)
  have hP : va_P D vwCl ([(h0, .inr (10, [.int 0, .int 0, .int 0, .int 0, .ref q1, .ref q2, .ref q3, .ref q4, .ref q5, .ref q6, .null, .null, .null, .int 0, .null, .null, .int 0, .null, .int 0, .null, .null, .null])), (q1, .inl (cy 0, 5, .inl (fun _ => 0))), (q2, .inl (cy 0, 40, .inl (fun _ => 0))), (q3, .inl (cy 0, 40, .inl (fun _ => 0))), (q4, .inl (cy 0, 40, .inl (fun _ => 0))), (q5, .inl (cy 2, 40, .inl (fun _ => 0))), (q6, .inl (cy 2, 1600, .inl (fun _ => 0)))]) H := hP
  have hD : va_D (nAd h0 s.heap.size) ([(h0, .inr (10, [.int 0, .int 0, .int 0, .int 0, .ref q1, .ref q2, .ref q3, .ref q4, .ref q5, .ref q6, .null, .null, .null, .int 0, .null, .null, .int 0, .null, .int 0, .null, .null, .null])), (q1, .inl (cy 0, 5, .inl (fun _ => 0))), (q2, .inl (cy 0, 40, .inl (fun _ => 0))), (q3, .inl (cy 0, 40, .inl (fun _ => 0))), (q4, .inl (cy 0, 40, .inl (fun _ => 0))), (q5, .inl (cy 2, 40, .inl (fun _ => 0))), (q6, .inl (cy 2, 1600, .inl (fun _ => 0)))]) := hD
  refine lv_aload_n hx hb dX10_init_52 rfl (lv_at hl 0 rfl) ?_
  refine lv_sipush (v := 200) hx hb dX10_init_53 (by decide) ?_
  refine nw_I hx hb hT hK hP hD hS hA (N := 200) (by decide) rfl (Nat.le_of_ble_eq_true rfl) (Nat.le_of_ble_eq_true rfl) (Nat.le_of_ble_eq_true rfl) dX10_init_56 (fun q7 H hP hD hS => ?_)
  have hP : va_P D vwCl ([(h0, .inr (10, [.int 0, .int 0, .int 0, .int 0, .ref q1, .ref q2, .ref q3, .ref q4, .ref q5, .ref q6, .null, .null, .null, .int 0, .null, .null, .int 0, .null, .int 0, .null, .null, .null])), (q1, .inl (cy 0, 5, .inl (fun _ => 0))), (q2, .inl (cy 0, 40, .inl (fun _ => 0))), (q3, .inl (cy 0, 40, .inl (fun _ => 0))), (q4, .inl (cy 0, 40, .inl (fun _ => 0))), (q5, .inl (cy 2, 40, .inl (fun _ => 0))), (q6, .inl (cy 2, 1600, .inl (fun _ => 0))), (q7, .inl (cy 0, 200, .inl (fun _ => 0)))]) H := hP
  have hD : va_D (nAd h0 s.heap.size) ([(h0, .inr (10, [.int 0, .int 0, .int 0, .int 0, .ref q1, .ref q2, .ref q3, .ref q4, .ref q5, .ref q6, .null, .null, .null, .int 0, .null, .null, .int 0, .null, .int 0, .null, .null, .null])), (q1, .inl (cy 0, 5, .inl (fun _ => 0))), (q2, .inl (cy 0, 40, .inl (fun _ => 0))), (q3, .inl (cy 0, 40, .inl (fun _ => 0))), (q4, .inl (cy 0, 40, .inl (fun _ => 0))), (q5, .inl (cy 2, 40, .inl (fun _ => 0))), (q6, .inl (cy 2, 1600, .inl (fun _ => 0))), (q7, .inl (cy 0, 200, .inl (fun _ => 0)))]) := hD
  refine va_putF (D := D) (ci := 10) (v := .ref q7) (ty := .array .int) (C := RX10) (T := TX10) (N := 22) hx hb hT inlX10 tyX10 tyX10_ok nmX10 hown hK.1 hP hD hS 0 rfl rfl 10 (by decide) (hT _ mw_4_147) (fun _ h9 => h9) rfl hin rfl (by decide +kernel) rfl rfl (Nat.le_of_ble_eq_true rfl) dX10_init_58 (fun H locs hP hD hS => ?_)
  have hP : va_P D vwCl ([(h0, .inr (10, [.int 0, .int 0, .int 0, .int 0, .ref q1, .ref q2, .ref q3, .ref q4, .ref q5, .ref q6, .ref q7, .null, .null, .int 0, .null, .null, .int 0, .null, .int 0, .null, .null, .null])), (q1, .inl (cy 0, 5, .inl (fun _ => 0))), (q2, .inl (cy 0, 40, .inl (fun _ => 0))), (q3, .inl (cy 0, 40, .inl (fun _ => 0))), (q4, .inl (cy 0, 40, .inl (fun _ => 0))), (q5, .inl (cy 2, 40, .inl (fun _ => 0))), (q6, .inl (cy 2, 1600, .inl (fun _ => 0))), (q7, .inl (cy 0, 200, .inl (fun _ => 0)))]) H := hP
  have hD : va_D (nAd h0 s.heap.size) ([(h0, .inr (10, [.int 0, .int 0, .int 0, .int 0, .ref q1, .ref q2, .ref q3, .ref q4, .ref q5, .ref q6, .ref q7, .null, .null, .int 0, .null, .null, .int 0, .null, .int 0, .null, .null, .null])), (q1, .inl (cy 0, 5, .inl (fun _ => 0))), (q2, .inl (cy 0, 40, .inl (fun _ => 0))), (q3, .inl (cy 0, 40, .inl (fun _ => 0))), (q4, .inl (cy 0, 40, .inl (fun _ => 0))), (q5, .inl (cy 2, 40, .inl (fun _ => 0))), (q6, .inl (cy 2, 1600, .inl (fun _ => 0))), (q7, .inl (cy 0, 200, .inl (fun _ => 0)))]) := hD
  refine lv_aload_n hx hb dX10_init_61 rfl (lv_at hl 0 rfl) ?_
  refine lv_sipush (v := 200) hx hb dX10_init_62 (by decide) ?_
  refine nw_Z hx hb hT hK hP hD hS hA (N := 200) (by decide) rfl (Nat.le_of_ble_eq_true rfl) (Nat.le_of_ble_eq_true rfl) (Nat.le_of_ble_eq_true rfl) dX10_init_65 (fun q8 H hP hD hS => ?_)
  have hP : va_P D vwCl ([(h0, .inr (10, [.int 0, .int 0, .int 0, .int 0, .ref q1, .ref q2, .ref q3, .ref q4, .ref q5, .ref q6, .ref q7, .null, .null, .int 0, .null, .null, .int 0, .null, .int 0, .null, .null, .null])), (q1, .inl (cy 0, 5, .inl (fun _ => 0))), (q2, .inl (cy 0, 40, .inl (fun _ => 0))), (q3, .inl (cy 0, 40, .inl (fun _ => 0))), (q4, .inl (cy 0, 40, .inl (fun _ => 0))), (q5, .inl (cy 2, 40, .inl (fun _ => 0))), (q6, .inl (cy 2, 1600, .inl (fun _ => 0))), (q7, .inl (cy 0, 200, .inl (fun _ => 0))), (q8, .inl (cy 2, 200, .inl (fun _ => 0)))]) H := hP
  have hD : va_D (nAd h0 s.heap.size) ([(h0, .inr (10, [.int 0, .int 0, .int 0, .int 0, .ref q1, .ref q2, .ref q3, .ref q4, .ref q5, .ref q6, .ref q7, .null, .null, .int 0, .null, .null, .int 0, .null, .int 0, .null, .null, .null])), (q1, .inl (cy 0, 5, .inl (fun _ => 0))), (q2, .inl (cy 0, 40, .inl (fun _ => 0))), (q3, .inl (cy 0, 40, .inl (fun _ => 0))), (q4, .inl (cy 0, 40, .inl (fun _ => 0))), (q5, .inl (cy 2, 40, .inl (fun _ => 0))), (q6, .inl (cy 2, 1600, .inl (fun _ => 0))), (q7, .inl (cy 0, 200, .inl (fun _ => 0))), (q8, .inl (cy 2, 200, .inl (fun _ => 0)))]) := hD
  refine va_putF (D := D) (ci := 10) (v := .ref q8) (ty := .array .boolean) (C := RX10) (T := TX10) (N := 22) hx hb hT inlX10 tyX10 tyX10_ok nmX10 hown hK.1 hP hD hS 0 rfl rfl 11 (by decide) (hT _ mw_4_148) (fun _ h9 => h9) rfl hin rfl (by decide +kernel) rfl rfl (Nat.le_of_ble_eq_true rfl) dX10_init_67 (fun H locs hP hD hS => ?_)
  have hP : va_P D vwCl ([(h0, .inr (10, [.int 0, .int 0, .int 0, .int 0, .ref q1, .ref q2, .ref q3, .ref q4, .ref q5, .ref q6, .ref q7, .ref q8, .null, .int 0, .null, .null, .int 0, .null, .int 0, .null, .null, .null])), (q1, .inl (cy 0, 5, .inl (fun _ => 0))), (q2, .inl (cy 0, 40, .inl (fun _ => 0))), (q3, .inl (cy 0, 40, .inl (fun _ => 0))), (q4, .inl (cy 0, 40, .inl (fun _ => 0))), (q5, .inl (cy 2, 40, .inl (fun _ => 0))), (q6, .inl (cy 2, 1600, .inl (fun _ => 0))), (q7, .inl (cy 0, 200, .inl (fun _ => 0))), (q8, .inl (cy 2, 200, .inl (fun _ => 0)))]) H := hP
  have hD : va_D (nAd h0 s.heap.size) ([(h0, .inr (10, [.int 0, .int 0, .int 0, .int 0, .ref q1, .ref q2, .ref q3, .ref q4, .ref q5, .ref q6, .ref q7, .ref q8, .null, .int 0, .null, .null, .int 0, .null, .int 0, .null, .null, .null])), (q1, .inl (cy 0, 5, .inl (fun _ => 0))), (q2, .inl (cy 0, 40, .inl (fun _ => 0))), (q3, .inl (cy 0, 40, .inl (fun _ => 0))), (q4, .inl (cy 0, 40, .inl (fun _ => 0))), (q5, .inl (cy 2, 40, .inl (fun _ => 0))), (q6, .inl (cy 2, 1600, .inl (fun _ => 0))), (q7, .inl (cy 0, 200, .inl (fun _ => 0))), (q8, .inl (cy 2, 200, .inl (fun _ => 0)))]) := hD
  refine lv_aload_n hx hb dX10_init_70 rfl (lv_at hl 0 rfl) ?_
  refine lv_sipush (v := 1440) hx hb dX10_init_71 (by decide) ?_
  refine nw_I hx hb hT hK hP hD hS hA (N := 1440) (by decide) rfl (Nat.le_of_ble_eq_true rfl) (Nat.le_of_ble_eq_true rfl) (Nat.le_of_ble_eq_true rfl) dX10_init_74 (fun q9 H hP hD hS => ?_)
  have hP : va_P D vwCl ([(h0, .inr (10, [.int 0, .int 0, .int 0, .int 0, .ref q1, .ref q2, .ref q3, .ref q4, .ref q5, .ref q6, .ref q7, .ref q8, .null, .int 0, .null, .null, .int 0, .null, .int 0, .null, .null, .null])), (q1, .inl (cy 0, 5, .inl (fun _ => 0))), (q2, .inl (cy 0, 40, .inl (fun _ => 0))), (q3, .inl (cy 0, 40, .inl (fun _ => 0))), (q4, .inl (cy 0, 40, .inl (fun _ => 0))), (q5, .inl (cy 2, 40, .inl (fun _ => 0))), (q6, .inl (cy 2, 1600, .inl (fun _ => 0))), (q7, .inl (cy 0, 200, .inl (fun _ => 0))), (q8, .inl (cy 2, 200, .inl (fun _ => 0))), (q9, .inl (cy 0, 1440, .inl (fun _ => 0)))]) H := hP
  have hD : va_D (nAd h0 s.heap.size) ([(h0, .inr (10, [.int 0, .int 0, .int 0, .int 0, .ref q1, .ref q2, .ref q3, .ref q4, .ref q5, .ref q6, .ref q7, .ref q8, .null, .int 0, .null, .null, .int 0, .null, .int 0, .null, .null, .null])), (q1, .inl (cy 0, 5, .inl (fun _ => 0))), (q2, .inl (cy 0, 40, .inl (fun _ => 0))), (q3, .inl (cy 0, 40, .inl (fun _ => 0))), (q4, .inl (cy 0, 40, .inl (fun _ => 0))), (q5, .inl (cy 2, 40, .inl (fun _ => 0))), (q6, .inl (cy 2, 1600, .inl (fun _ => 0))), (q7, .inl (cy 0, 200, .inl (fun _ => 0))), (q8, .inl (cy 2, 200, .inl (fun _ => 0))), (q9, .inl (cy 0, 1440, .inl (fun _ => 0)))]) := hD
  refine va_putF (D := D) (ci := 10) (v := .ref q9) (ty := .array .int) (C := RX10) (T := TX10) (N := 22) hx hb hT inlX10 tyX10 tyX10_ok nmX10 hown hK.1 hP hD hS 0 rfl rfl 12 (by decide) (hT _ mw_4_149) (fun _ h9 => h9) rfl hin rfl (by decide +kernel) rfl rfl (Nat.le_of_ble_eq_true rfl) dX10_init_76 (fun H locs hP hD hS => ?_)
  have hP : va_P D vwCl ([(h0, .inr (10, [.int 0, .int 0, .int 0, .int 0, .ref q1, .ref q2, .ref q3, .ref q4, .ref q5, .ref q6, .ref q7, .ref q8, .ref q9, .int 0, .null, .null, .int 0, .null, .int 0, .null, .null, .null])), (q1, .inl (cy 0, 5, .inl (fun _ => 0))), (q2, .inl (cy 0, 40, .inl (fun _ => 0))), (q3, .inl (cy 0, 40, .inl (fun _ => 0))), (q4, .inl (cy 0, 40, .inl (fun _ => 0))), (q5, .inl (cy 2, 40, .inl (fun _ => 0))), (q6, .inl (cy 2, 1600, .inl (fun _ => 0))), (q7, .inl (cy 0, 200, .inl (fun _ => 0))), (q8, .inl (cy 2, 200, .inl (fun _ => 0))), (q9, .inl (cy 0, 1440, .inl (fun _ => 0)))]) H := hP
  have hD : va_D (nAd h0 s.heap.size) ([(h0, .inr (10, [.int 0, .int 0, .int 0, .int 0, .ref q1, .ref q2, .ref q3, .ref q4, .ref q5, .ref q6, .ref q7, .ref q8, .ref q9, .int 0, .null, .null, .int 0, .null, .int 0, .null, .null, .null])), (q1, .inl (cy 0, 5, .inl (fun _ => 0))), (q2, .inl (cy 0, 40, .inl (fun _ => 0))), (q3, .inl (cy 0, 40, .inl (fun _ => 0))), (q4, .inl (cy 0, 40, .inl (fun _ => 0))), (q5, .inl (cy 2, 40, .inl (fun _ => 0))), (q6, .inl (cy 2, 1600, .inl (fun _ => 0))), (q7, .inl (cy 0, 200, .inl (fun _ => 0))), (q8, .inl (cy 2, 200, .inl (fun _ => 0))), (q9, .inl (cy 0, 1440, .inl (fun _ => 0)))]) := hD
  refine lv_aload_n hx hb dX10_init_79 rfl (lv_at hl 0 rfl) ?_
  refine lv_sipush (v := 1600) hx hb dX10_init_80 (by decide) ?_
  refine nw_Z hx hb hT hK hP hD hS hA (N := 1600) (by decide) rfl (Nat.le_of_ble_eq_true rfl) (Nat.le_of_ble_eq_true rfl) (Nat.le_of_ble_eq_true rfl) dX10_init_83 (fun q10 H hP hD hS => ?_)
  have hP : va_P D vwCl ([(h0, .inr (10, [.int 0, .int 0, .int 0, .int 0, .ref q1, .ref q2, .ref q3, .ref q4, .ref q5, .ref q6, .ref q7, .ref q8, .ref q9, .int 0, .null, .null, .int 0, .null, .int 0, .null, .null, .null])), (q1, .inl (cy 0, 5, .inl (fun _ => 0))), (q2, .inl (cy 0, 40, .inl (fun _ => 0))), (q3, .inl (cy 0, 40, .inl (fun _ => 0))), (q4, .inl (cy 0, 40, .inl (fun _ => 0))), (q5, .inl (cy 2, 40, .inl (fun _ => 0))), (q6, .inl (cy 2, 1600, .inl (fun _ => 0))), (q7, .inl (cy 0, 200, .inl (fun _ => 0))), (q8, .inl (cy 2, 200, .inl (fun _ => 0))), (q9, .inl (cy 0, 1440, .inl (fun _ => 0))), (q10, .inl (cy 2, 1600, .inl (fun _ => 0)))]) H := hP
  have hD : va_D (nAd h0 s.heap.size) ([(h0, .inr (10, [.int 0, .int 0, .int 0, .int 0, .ref q1, .ref q2, .ref q3, .ref q4, .ref q5, .ref q6, .ref q7, .ref q8, .ref q9, .int 0, .null, .null, .int 0, .null, .int 0, .null, .null, .null])), (q1, .inl (cy 0, 5, .inl (fun _ => 0))), (q2, .inl (cy 0, 40, .inl (fun _ => 0))), (q3, .inl (cy 0, 40, .inl (fun _ => 0))), (q4, .inl (cy 0, 40, .inl (fun _ => 0))), (q5, .inl (cy 2, 40, .inl (fun _ => 0))), (q6, .inl (cy 2, 1600, .inl (fun _ => 0))), (q7, .inl (cy 0, 200, .inl (fun _ => 0))), (q8, .inl (cy 2, 200, .inl (fun _ => 0))), (q9, .inl (cy 0, 1440, .inl (fun _ => 0))), (q10, .inl (cy 2, 1600, .inl (fun _ => 0)))]) := hD
  refine va_putF (D := D) (ci := 10) (v := .ref q10) (ty := .array .boolean) (C := RX10) (T := TX10) (N := 22) hx hb hT inlX10 tyX10 tyX10_ok nmX10 hown hK.1 hP hD hS 0 rfl rfl 14 (by decide) (hT _ mw_4_151) (fun _ h9 => h9) rfl hin rfl (by decide +kernel) rfl rfl (Nat.le_of_ble_eq_true rfl) dX10_init_85 (fun H locs hP hD hS => ?_)
  have hP : va_P D vwCl ([(h0, .inr (10, [.int 0, .int 0, .int 0, .int 0, .ref q1, .ref q2, .ref q3, .ref q4, .ref q5, .ref q6, .ref q7, .ref q8, .ref q9, .int 0, .ref q10, .null, .int 0, .null, .int 0, .null, .null, .null])), (q1, .inl (cy 0, 5, .inl (fun _ => 0))), (q2, .inl (cy 0, 40, .inl (fun _ => 0))), (q3, .inl (cy 0, 40, .inl (fun _ => 0))), (q4, .inl (cy 0, 40, .inl (fun _ => 0))), (q5, .inl (cy 2, 40, .inl (fun _ => 0))), (q6, .inl (cy 2, 1600, .inl (fun _ => 0))), (q7, .inl (cy 0, 200, .inl (fun _ => 0))), (q8, .inl (cy 2, 200, .inl (fun _ => 0))), (q9, .inl (cy 0, 1440, .inl (fun _ => 0))), (q10, .inl (cy 2, 1600, .inl (fun _ => 0)))]) H := hP
  have hD : va_D (nAd h0 s.heap.size) ([(h0, .inr (10, [.int 0, .int 0, .int 0, .int 0, .ref q1, .ref q2, .ref q3, .ref q4, .ref q5, .ref q6, .ref q7, .ref q8, .ref q9, .int 0, .ref q10, .null, .int 0, .null, .int 0, .null, .null, .null])), (q1, .inl (cy 0, 5, .inl (fun _ => 0))), (q2, .inl (cy 0, 40, .inl (fun _ => 0))), (q3, .inl (cy 0, 40, .inl (fun _ => 0))), (q4, .inl (cy 0, 40, .inl (fun _ => 0))), (q5, .inl (cy 2, 40, .inl (fun _ => 0))), (q6, .inl (cy 2, 1600, .inl (fun _ => 0))), (q7, .inl (cy 0, 200, .inl (fun _ => 0))), (q8, .inl (cy 2, 200, .inl (fun _ => 0))), (q9, .inl (cy 0, 1440, .inl (fun _ => 0))), (q10, .inl (cy 2, 1600, .inl (fun _ => 0)))]) := hD
  refine lv_aload_n hx hb dX10_init_88 rfl (lv_at hl 0 rfl) ?_
  refine lv_bipush (v := 40) hx hb dX10_init_89 (by decide) ?_
  refine nw_I hx hb hT hK hP hD hS hA (N := 40) (by decide) rfl (Nat.le_of_ble_eq_true rfl) (Nat.le_of_ble_eq_true rfl) (Nat.le_of_ble_eq_true rfl) dX10_init_91 (fun q11 H hP hD hS => ?_)
  have hP : va_P D vwCl ([(h0, .inr (10, [.int 0, .int 0, .int 0, .int 0, .ref q1, .ref q2, .ref q3, .ref q4, .ref q5, .ref q6, .ref q7, .ref q8, .ref q9, .int 0, .ref q10, .null, .int 0, .null, .int 0, .null, .null, .null])), (q1, .inl (cy 0, 5, .inl (fun _ => 0))), (q2, .inl (cy 0, 40, .inl (fun _ => 0))), (q3, .inl (cy 0, 40, .inl (fun _ => 0))), (q4, .inl (cy 0, 40, .inl (fun _ => 0))), (q5, .inl (cy 2, 40, .inl (fun _ => 0))), (q6, .inl (cy 2, 1600, .inl (fun _ => 0))), (q7, .inl (cy 0, 200, .inl (fun _ => 0))), (q8, .inl (cy 2, 200, .inl (fun _ => 0))), (q9, .inl (cy 0, 1440, .inl (fun _ => 0))), (q10, .inl (cy 2, 1600, .inl (fun _ => 0))), (q11, .inl (cy 0, 40, .inl (fun _ => 0)))]) H := hP
  have hD : va_D (nAd h0 s.heap.size) ([(h0, .inr (10, [.int 0, .int 0, .int 0, .int 0, .ref q1, .ref q2, .ref q3, .ref q4, .ref q5, .ref q6, .ref q7, .ref q8, .ref q9, .int 0, .ref q10, .null, .int 0, .null, .int 0, .null, .null, .null])), (q1, .inl (cy 0, 5, .inl (fun _ => 0))), (q2, .inl (cy 0, 40, .inl (fun _ => 0))), (q3, .inl (cy 0, 40, .inl (fun _ => 0))), (q4, .inl (cy 0, 40, .inl (fun _ => 0))), (q5, .inl (cy 2, 40, .inl (fun _ => 0))), (q6, .inl (cy 2, 1600, .inl (fun _ => 0))), (q7, .inl (cy 0, 200, .inl (fun _ => 0))), (q8, .inl (cy 2, 200, .inl (fun _ => 0))), (q9, .inl (cy 0, 1440, .inl (fun _ => 0))), (q10, .inl (cy 2, 1600, .inl (fun _ => 0))), (q11, .inl (cy 0, 40, .inl (fun _ => 0)))]) := hD
  refine va_putF (D := D) (ci := 10) (v := .ref q11) (ty := .array .int) (C := RX10) (T := TX10) (N := 22) hx hb hT inlX10 tyX10 tyX10_ok nmX10 hown hK.1 hP hD hS 0 rfl rfl 15 (by decide) (hT _ mw_4_152) (fun _ h9 => h9) rfl hin rfl (by decide +kernel) rfl rfl (Nat.le_of_ble_eq_true rfl) dX10_init_93 (fun H locs hP hD hS => ?_)
  have hP : va_P D vwCl ([(h0, .inr (10, [.int 0, .int 0, .int 0, .int 0, .ref q1, .ref q2, .ref q3, .ref q4, .ref q5, .ref q6, .ref q7, .ref q8, .ref q9, .int 0, .ref q10, .ref q11, .int 0, .null, .int 0, .null, .null, .null])), (q1, .inl (cy 0, 5, .inl (fun _ => 0))), (q2, .inl (cy 0, 40, .inl (fun _ => 0))), (q3, .inl (cy 0, 40, .inl (fun _ => 0))), (q4, .inl (cy 0, 40, .inl (fun _ => 0))), (q5, .inl (cy 2, 40, .inl (fun _ => 0))), (q6, .inl (cy 2, 1600, .inl (fun _ => 0))), (q7, .inl (cy 0, 200, .inl (fun _ => 0))), (q8, .inl (cy 2, 200, .inl (fun _ => 0))), (q9, .inl (cy 0, 1440, .inl (fun _ => 0))), (q10, .inl (cy 2, 1600, .inl (fun _ => 0))), (q11, .inl (cy 0, 40, .inl (fun _ => 0)))]) H := hP
  have hD : va_D (nAd h0 s.heap.size) ([(h0, .inr (10, [.int 0, .int 0, .int 0, .int 0, .ref q1, .ref q2, .ref q3, .ref q4, .ref q5, .ref q6, .ref q7, .ref q8, .ref q9, .int 0, .ref q10, .ref q11, .int 0, .null, .int 0, .null, .null, .null])), (q1, .inl (cy 0, 5, .inl (fun _ => 0))), (q2, .inl (cy 0, 40, .inl (fun _ => 0))), (q3, .inl (cy 0, 40, .inl (fun _ => 0))), (q4, .inl (cy 0, 40, .inl (fun _ => 0))), (q5, .inl (cy 2, 40, .inl (fun _ => 0))), (q6, .inl (cy 2, 1600, .inl (fun _ => 0))), (q7, .inl (cy 0, 200, .inl (fun _ => 0))), (q8, .inl (cy 2, 200, .inl (fun _ => 0))), (q9, .inl (cy 0, 1440, .inl (fun _ => 0))), (q10, .inl (cy 2, 1600, .inl (fun _ => 0))), (q11, .inl (cy 0, 40, .inl (fun _ => 0)))]) := hD
  refine lv_aload_n hx hb dX10_init_96 rfl (lv_at hl 0 rfl) ?_
  refine lv_sipush (v := 1999) hx hb dX10_init_97 (by decide) ?_
  refine nw_I hx hb hT hK hP hD hS hA (N := 1999) (by decide) rfl (Nat.le_of_ble_eq_true rfl) (Nat.le_of_ble_eq_true rfl) (Nat.le_of_ble_eq_true rfl) dX10_init_100 (fun q12 H hP hD hS => ?_)
  have hP : va_P D vwCl ([(h0, .inr (10, [.int 0, .int 0, .int 0, .int 0, .ref q1, .ref q2, .ref q3, .ref q4, .ref q5, .ref q6, .ref q7, .ref q8, .ref q9, .int 0, .ref q10, .ref q11, .int 0, .null, .int 0, .null, .null, .null])), (q1, .inl (cy 0, 5, .inl (fun _ => 0))), (q2, .inl (cy 0, 40, .inl (fun _ => 0))), (q3, .inl (cy 0, 40, .inl (fun _ => 0))), (q4, .inl (cy 0, 40, .inl (fun _ => 0))), (q5, .inl (cy 2, 40, .inl (fun _ => 0))), (q6, .inl (cy 2, 1600, .inl (fun _ => 0))), (q7, .inl (cy 0, 200, .inl (fun _ => 0))), (q8, .inl (cy 2, 200, .inl (fun _ => 0))), (q9, .inl (cy 0, 1440, .inl (fun _ => 0))), (q10, .inl (cy 2, 1600, .inl (fun _ => 0))), (q11, .inl (cy 0, 40, .inl (fun _ => 0))), (q12, .inl (cy 0, 1999, .inl (fun _ => 0)))]) H := hP
  have hD : va_D (nAd h0 s.heap.size) ([(h0, .inr (10, [.int 0, .int 0, .int 0, .int 0, .ref q1, .ref q2, .ref q3, .ref q4, .ref q5, .ref q6, .ref q7, .ref q8, .ref q9, .int 0, .ref q10, .ref q11, .int 0, .null, .int 0, .null, .null, .null])), (q1, .inl (cy 0, 5, .inl (fun _ => 0))), (q2, .inl (cy 0, 40, .inl (fun _ => 0))), (q3, .inl (cy 0, 40, .inl (fun _ => 0))), (q4, .inl (cy 0, 40, .inl (fun _ => 0))), (q5, .inl (cy 2, 40, .inl (fun _ => 0))), (q6, .inl (cy 2, 1600, .inl (fun _ => 0))), (q7, .inl (cy 0, 200, .inl (fun _ => 0))), (q8, .inl (cy 2, 200, .inl (fun _ => 0))), (q9, .inl (cy 0, 1440, .inl (fun _ => 0))), (q10, .inl (cy 2, 1600, .inl (fun _ => 0))), (q11, .inl (cy 0, 40, .inl (fun _ => 0))), (q12, .inl (cy 0, 1999, .inl (fun _ => 0)))]) := hD
  refine va_putF (D := D) (ci := 10) (v := .ref q12) (ty := .array .int) (C := RX10) (T := TX10) (N := 22) hx hb hT inlX10 tyX10 tyX10_ok nmX10 hown hK.1 hP hD hS 0 rfl rfl 17 (by decide) (hT _ mw_4_154) (fun _ h9 => h9) rfl hin rfl (by decide +kernel) rfl rfl (Nat.le_of_ble_eq_true rfl) dX10_init_102 (fun H locs hP hD hS => ?_)
  have hP : va_P D vwCl ([(h0, .inr (10, [.int 0, .int 0, .int 0, .int 0, .ref q1, .ref q2, .ref q3, .ref q4, .ref q5, .ref q6, .ref q7, .ref q8, .ref q9, .int 0, .ref q10, .ref q11, .int 0, .ref q12, .int 0, .null, .null, .null])), (q1, .inl (cy 0, 5, .inl (fun _ => 0))), (q2, .inl (cy 0, 40, .inl (fun _ => 0))), (q3, .inl (cy 0, 40, .inl (fun _ => 0))), (q4, .inl (cy 0, 40, .inl (fun _ => 0))), (q5, .inl (cy 2, 40, .inl (fun _ => 0))), (q6, .inl (cy 2, 1600, .inl (fun _ => 0))), (q7, .inl (cy 0, 200, .inl (fun _ => 0))), (q8, .inl (cy 2, 200, .inl (fun _ => 0))), (q9, .inl (cy 0, 1440, .inl (fun _ => 0))), (q10, .inl (cy 2, 1600, .inl (fun _ => 0))), (q11, .inl (cy 0, 40, .inl (fun _ => 0))), (q12, .inl (cy 0, 1999, .inl (fun _ => 0)))]) H := hP
  have hD : va_D (nAd h0 s.heap.size) ([(h0, .inr (10, [.int 0, .int 0, .int 0, .int 0, .ref q1, .ref q2, .ref q3, .ref q4, .ref q5, .ref q6, .ref q7, .ref q8, .ref q9, .int 0, .ref q10, .ref q11, .int 0, .ref q12, .int 0, .null, .null, .null])), (q1, .inl (cy 0, 5, .inl (fun _ => 0))), (q2, .inl (cy 0, 40, .inl (fun _ => 0))), (q3, .inl (cy 0, 40, .inl (fun _ => 0))), (q4, .inl (cy 0, 40, .inl (fun _ => 0))), (q5, .inl (cy 2, 40, .inl (fun _ => 0))), (q6, .inl (cy 2, 1600, .inl (fun _ => 0))), (q7, .inl (cy 0, 200, .inl (fun _ => 0))), (q8, .inl (cy 2, 200, .inl (fun _ => 0))), (q9, .inl (cy 0, 1440, .inl (fun _ => 0))), (q10, .inl (cy 2, 1600, .inl (fun _ => 0))), (q11, .inl (cy 0, 40, .inl (fun _ => 0))), (q12, .inl (cy 0, 1999, .inl (fun _ => 0)))]) := hD
  refine lv_aload_n hx hb dX10_init_105 rfl (lv_at hl 0 rfl) ?_
  refine lv_bipush (v := 24) hx hb dX10_init_106 (by decide) ?_
  refine nw_I hx hb hT hK hP hD hS hA (N := 24) (by decide) rfl (Nat.le_of_ble_eq_true rfl) (Nat.le_of_ble_eq_true rfl) (Nat.le_of_ble_eq_true rfl) dX10_init_108 (fun q13 H hP hD hS => ?_)
  have hP : va_P D vwCl ([(h0, .inr (10, [.int 0, .int 0, .int 0, .int 0, .ref q1, .ref q2, .ref q3, .ref q4, .ref q5, .ref q6, .ref q7, .ref q8, .ref q9, .int 0, .ref q10, .ref q11, .int 0, .ref q12, .int 0, .null, .null, .null])), (q1, .inl (cy 0, 5, .inl (fun _ => 0))), (q2, .inl (cy 0, 40, .inl (fun _ => 0))), (q3, .inl (cy 0, 40, .inl (fun _ => 0))), (q4, .inl (cy 0, 40, .inl (fun _ => 0))), (q5, .inl (cy 2, 40, .inl (fun _ => 0))), (q6, .inl (cy 2, 1600, .inl (fun _ => 0))), (q7, .inl (cy 0, 200, .inl (fun _ => 0))), (q8, .inl (cy 2, 200, .inl (fun _ => 0))), (q9, .inl (cy 0, 1440, .inl (fun _ => 0))), (q10, .inl (cy 2, 1600, .inl (fun _ => 0))), (q11, .inl (cy 0, 40, .inl (fun _ => 0))), (q12, .inl (cy 0, 1999, .inl (fun _ => 0))), (q13, .inl (cy 0, 24, .inl (fun _ => 0)))]) H := hP
  have hD : va_D (nAd h0 s.heap.size) ([(h0, .inr (10, [.int 0, .int 0, .int 0, .int 0, .ref q1, .ref q2, .ref q3, .ref q4, .ref q5, .ref q6, .ref q7, .ref q8, .ref q9, .int 0, .ref q10, .ref q11, .int 0, .ref q12, .int 0, .null, .null, .null])), (q1, .inl (cy 0, 5, .inl (fun _ => 0))), (q2, .inl (cy 0, 40, .inl (fun _ => 0))), (q3, .inl (cy 0, 40, .inl (fun _ => 0))), (q4, .inl (cy 0, 40, .inl (fun _ => 0))), (q5, .inl (cy 2, 40, .inl (fun _ => 0))), (q6, .inl (cy 2, 1600, .inl (fun _ => 0))), (q7, .inl (cy 0, 200, .inl (fun _ => 0))), (q8, .inl (cy 2, 200, .inl (fun _ => 0))), (q9, .inl (cy 0, 1440, .inl (fun _ => 0))), (q10, .inl (cy 2, 1600, .inl (fun _ => 0))), (q11, .inl (cy 0, 40, .inl (fun _ => 0))), (q12, .inl (cy 0, 1999, .inl (fun _ => 0))), (q13, .inl (cy 0, 24, .inl (fun _ => 0)))]) := hD
  refine va_putF (D := D) (ci := 10) (v := .ref q13) (ty := .array .int) (C := RX10) (T := TX10) (N := 22) hx hb hT inlX10 tyX10 tyX10_ok nmX10 hown hK.1 hP hD hS 0 rfl rfl 19 (by decide) (hT _ mw_4_156) (fun _ h9 => h9) rfl hin rfl (by decide +kernel) rfl rfl (Nat.le_of_ble_eq_true rfl) dX10_init_110 (fun H locs hP hD hS => ?_)
  have hP : va_P D vwCl ([(h0, .inr (10, [.int 0, .int 0, .int 0, .int 0, .ref q1, .ref q2, .ref q3, .ref q4, .ref q5, .ref q6, .ref q7, .ref q8, .ref q9, .int 0, .ref q10, .ref q11, .int 0, .ref q12, .int 0, .ref q13, .null, .null])), (q1, .inl (cy 0, 5, .inl (fun _ => 0))), (q2, .inl (cy 0, 40, .inl (fun _ => 0))), (q3, .inl (cy 0, 40, .inl (fun _ => 0))), (q4, .inl (cy 0, 40, .inl (fun _ => 0))), (q5, .inl (cy 2, 40, .inl (fun _ => 0))), (q6, .inl (cy 2, 1600, .inl (fun _ => 0))), (q7, .inl (cy 0, 200, .inl (fun _ => 0))), (q8, .inl (cy 2, 200, .inl (fun _ => 0))), (q9, .inl (cy 0, 1440, .inl (fun _ => 0))), (q10, .inl (cy 2, 1600, .inl (fun _ => 0))), (q11, .inl (cy 0, 40, .inl (fun _ => 0))), (q12, .inl (cy 0, 1999, .inl (fun _ => 0))), (q13, .inl (cy 0, 24, .inl (fun _ => 0)))]) H := hP
  have hD : va_D (nAd h0 s.heap.size) ([(h0, .inr (10, [.int 0, .int 0, .int 0, .int 0, .ref q1, .ref q2, .ref q3, .ref q4, .ref q5, .ref q6, .ref q7, .ref q8, .ref q9, .int 0, .ref q10, .ref q11, .int 0, .ref q12, .int 0, .ref q13, .null, .null])), (q1, .inl (cy 0, 5, .inl (fun _ => 0))), (q2, .inl (cy 0, 40, .inl (fun _ => 0))), (q3, .inl (cy 0, 40, .inl (fun _ => 0))), (q4, .inl (cy 0, 40, .inl (fun _ => 0))), (q5, .inl (cy 2, 40, .inl (fun _ => 0))), (q6, .inl (cy 2, 1600, .inl (fun _ => 0))), (q7, .inl (cy 0, 200, .inl (fun _ => 0))), (q8, .inl (cy 2, 200, .inl (fun _ => 0))), (q9, .inl (cy 0, 1440, .inl (fun _ => 0))), (q10, .inl (cy 2, 1600, .inl (fun _ => 0))), (q11, .inl (cy 0, 40, .inl (fun _ => 0))), (q12, .inl (cy 0, 1999, .inl (fun _ => 0))), (q13, .inl (cy 0, 24, .inl (fun _ => 0)))]) := hD
  refine lv_aload_n hx hb dX10_init_113 rfl (lv_at hl 0 rfl) ?_
  refine lv_bipush (v := 40) hx hb dX10_init_114 (by decide) ?_
  refine nw_I hx hb hT hK hP hD hS hA (N := 40) (by decide) rfl (Nat.le_of_ble_eq_true rfl) (Nat.le_of_ble_eq_true rfl) (Nat.le_of_ble_eq_true rfl) dX10_init_116 (fun q14 H hP hD hS => ?_)
  have hP : va_P D vwCl ([(h0, .inr (10, [.int 0, .int 0, .int 0, .int 0, .ref q1, .ref q2, .ref q3, .ref q4, .ref q5, .ref q6, .ref q7, .ref q8, .ref q9, .int 0, .ref q10, .ref q11, .int 0, .ref q12, .int 0, .ref q13, .null, .null])), (q1, .inl (cy 0, 5, .inl (fun _ => 0))), (q2, .inl (cy 0, 40, .inl (fun _ => 0))), (q3, .inl (cy 0, 40, .inl (fun _ => 0))), (q4, .inl (cy 0, 40, .inl (fun _ => 0))), (q5, .inl (cy 2, 40, .inl (fun _ => 0))), (q6, .inl (cy 2, 1600, .inl (fun _ => 0))), (q7, .inl (cy 0, 200, .inl (fun _ => 0))), (q8, .inl (cy 2, 200, .inl (fun _ => 0))), (q9, .inl (cy 0, 1440, .inl (fun _ => 0))), (q10, .inl (cy 2, 1600, .inl (fun _ => 0))), (q11, .inl (cy 0, 40, .inl (fun _ => 0))), (q12, .inl (cy 0, 1999, .inl (fun _ => 0))), (q13, .inl (cy 0, 24, .inl (fun _ => 0))), (q14, .inl (cy 0, 40, .inl (fun _ => 0)))]) H := hP
  have hD : va_D (nAd h0 s.heap.size) ([(h0, .inr (10, [.int 0, .int 0, .int 0, .int 0, .ref q1, .ref q2, .ref q3, .ref q4, .ref q5, .ref q6, .ref q7, .ref q8, .ref q9, .int 0, .ref q10, .ref q11, .int 0, .ref q12, .int 0, .ref q13, .null, .null])), (q1, .inl (cy 0, 5, .inl (fun _ => 0))), (q2, .inl (cy 0, 40, .inl (fun _ => 0))), (q3, .inl (cy 0, 40, .inl (fun _ => 0))), (q4, .inl (cy 0, 40, .inl (fun _ => 0))), (q5, .inl (cy 2, 40, .inl (fun _ => 0))), (q6, .inl (cy 2, 1600, .inl (fun _ => 0))), (q7, .inl (cy 0, 200, .inl (fun _ => 0))), (q8, .inl (cy 2, 200, .inl (fun _ => 0))), (q9, .inl (cy 0, 1440, .inl (fun _ => 0))), (q10, .inl (cy 2, 1600, .inl (fun _ => 0))), (q11, .inl (cy 0, 40, .inl (fun _ => 0))), (q12, .inl (cy 0, 1999, .inl (fun _ => 0))), (q13, .inl (cy 0, 24, .inl (fun _ => 0))), (q14, .inl (cy 0, 40, .inl (fun _ => 0)))]) := hD
  refine va_putF (D := D) (ci := 10) (v := .ref q14) (ty := .array .int) (C := RX10) (T := TX10) (N := 22) hx hb hT inlX10 tyX10 tyX10_ok nmX10 hown hK.1 hP hD hS 0 rfl rfl 20 (by decide) (hT _ mw_4_157) (fun _ h9 => h9) rfl hin rfl (by decide +kernel) rfl rfl (Nat.le_of_ble_eq_true rfl) dX10_init_118 (fun H locs hP hD hS => ?_)
  have hP : va_P D vwCl ([(h0, .inr (10, [.int 0, .int 0, .int 0, .int 0, .ref q1, .ref q2, .ref q3, .ref q4, .ref q5, .ref q6, .ref q7, .ref q8, .ref q9, .int 0, .ref q10, .ref q11, .int 0, .ref q12, .int 0, .ref q13, .ref q14, .null])), (q1, .inl (cy 0, 5, .inl (fun _ => 0))), (q2, .inl (cy 0, 40, .inl (fun _ => 0))), (q3, .inl (cy 0, 40, .inl (fun _ => 0))), (q4, .inl (cy 0, 40, .inl (fun _ => 0))), (q5, .inl (cy 2, 40, .inl (fun _ => 0))), (q6, .inl (cy 2, 1600, .inl (fun _ => 0))), (q7, .inl (cy 0, 200, .inl (fun _ => 0))), (q8, .inl (cy 2, 200, .inl (fun _ => 0))), (q9, .inl (cy 0, 1440, .inl (fun _ => 0))), (q10, .inl (cy 2, 1600, .inl (fun _ => 0))), (q11, .inl (cy 0, 40, .inl (fun _ => 0))), (q12, .inl (cy 0, 1999, .inl (fun _ => 0))), (q13, .inl (cy 0, 24, .inl (fun _ => 0))), (q14, .inl (cy 0, 40, .inl (fun _ => 0)))]) H := hP
  have hD : va_D (nAd h0 s.heap.size) ([(h0, .inr (10, [.int 0, .int 0, .int 0, .int 0, .ref q1, .ref q2, .ref q3, .ref q4, .ref q5, .ref q6, .ref q7, .ref q8, .ref q9, .int 0, .ref q10, .ref q11, .int 0, .ref q12, .int 0, .ref q13, .ref q14, .null])), (q1, .inl (cy 0, 5, .inl (fun _ => 0))), (q2, .inl (cy 0, 40, .inl (fun _ => 0))), (q3, .inl (cy 0, 40, .inl (fun _ => 0))), (q4, .inl (cy 0, 40, .inl (fun _ => 0))), (q5, .inl (cy 2, 40, .inl (fun _ => 0))), (q6, .inl (cy 2, 1600, .inl (fun _ => 0))), (q7, .inl (cy 0, 200, .inl (fun _ => 0))), (q8, .inl (cy 2, 200, .inl (fun _ => 0))), (q9, .inl (cy 0, 1440, .inl (fun _ => 0))), (q10, .inl (cy 2, 1600, .inl (fun _ => 0))), (q11, .inl (cy 0, 40, .inl (fun _ => 0))), (q12, .inl (cy 0, 1999, .inl (fun _ => 0))), (q13, .inl (cy 0, 24, .inl (fun _ => 0))), (q14, .inl (cy 0, 40, .inl (fun _ => 0)))]) := hD
  refine lv_aload_n hx hb dX10_init_121 rfl (lv_at hl 0 rfl) ?_
  refine lv_bipush (v := 40) hx hb dX10_init_122 (by decide) ?_
  refine nw_I hx hb hT hK hP hD hS hA (N := 40) (by decide) rfl (Nat.le_of_ble_eq_true rfl) (Nat.le_of_ble_eq_true rfl) (Nat.le_of_ble_eq_true rfl) dX10_init_124 (fun q15 H hP hD hS => ?_)
  have hP : va_P D vwCl ([(h0, .inr (10, [.int 0, .int 0, .int 0, .int 0, .ref q1, .ref q2, .ref q3, .ref q4, .ref q5, .ref q6, .ref q7, .ref q8, .ref q9, .int 0, .ref q10, .ref q11, .int 0, .ref q12, .int 0, .ref q13, .ref q14, .null])), (q1, .inl (cy 0, 5, .inl (fun _ => 0))), (q2, .inl (cy 0, 40, .inl (fun _ => 0))), (q3, .inl (cy 0, 40, .inl (fun _ => 0))), (q4, .inl (cy 0, 40, .inl (fun _ => 0))), (q5, .inl (cy 2, 40, .inl (fun _ => 0))), (q6, .inl (cy 2, 1600, .inl (fun _ => 0))), (q7, .inl (cy 0, 200, .inl (fun _ => 0))), (q8, .inl (cy 2, 200, .inl (fun _ => 0))), (q9, .inl (cy 0, 1440, .inl (fun _ => 0))), (q10, .inl (cy 2, 1600, .inl (fun _ => 0))), (q11, .inl (cy 0, 40, .inl (fun _ => 0))), (q12, .inl (cy 0, 1999, .inl (fun _ => 0))), (q13, .inl (cy 0, 24, .inl (fun _ => 0))), (q14, .inl (cy 0, 40, .inl (fun _ => 0))), (q15, .inl (cy 0, 40, .inl (fun _ => 0)))]) H := hP
  have hD : va_D (nAd h0 s.heap.size) ([(h0, .inr (10, [.int 0, .int 0, .int 0, .int 0, .ref q1, .ref q2, .ref q3, .ref q4, .ref q5, .ref q6, .ref q7, .ref q8, .ref q9, .int 0, .ref q10, .ref q11, .int 0, .ref q12, .int 0, .ref q13, .ref q14, .null])), (q1, .inl (cy 0, 5, .inl (fun _ => 0))), (q2, .inl (cy 0, 40, .inl (fun _ => 0))), (q3, .inl (cy 0, 40, .inl (fun _ => 0))), (q4, .inl (cy 0, 40, .inl (fun _ => 0))), (q5, .inl (cy 2, 40, .inl (fun _ => 0))), (q6, .inl (cy 2, 1600, .inl (fun _ => 0))), (q7, .inl (cy 0, 200, .inl (fun _ => 0))), (q8, .inl (cy 2, 200, .inl (fun _ => 0))), (q9, .inl (cy 0, 1440, .inl (fun _ => 0))), (q10, .inl (cy 2, 1600, .inl (fun _ => 0))), (q11, .inl (cy 0, 40, .inl (fun _ => 0))), (q12, .inl (cy 0, 1999, .inl (fun _ => 0))), (q13, .inl (cy 0, 24, .inl (fun _ => 0))), (q14, .inl (cy 0, 40, .inl (fun _ => 0))), (q15, .inl (cy 0, 40, .inl (fun _ => 0)))]) := hD
  refine va_putF (D := D) (ci := 10) (v := .ref q15) (ty := .array .int) (C := RX10) (T := TX10) (N := 22) hx hb hT inlX10 tyX10 tyX10_ok nmX10 hown hK.1 hP hD hS 0 rfl rfl 21 (by decide) (hT _ mw_4_158) (fun _ h9 => h9) rfl hin rfl (by decide +kernel) rfl rfl (Nat.le_of_ble_eq_true rfl) dX10_init_126 (fun H locs hP hD hS => ?_)
  have hP : va_P D vwCl ([(h0, .inr (10, [.int 0, .int 0, .int 0, .int 0, .ref q1, .ref q2, .ref q3, .ref q4, .ref q5, .ref q6, .ref q7, .ref q8, .ref q9, .int 0, .ref q10, .ref q11, .int 0, .ref q12, .int 0, .ref q13, .ref q14, .ref q15])), (q1, .inl (cy 0, 5, .inl (fun _ => 0))), (q2, .inl (cy 0, 40, .inl (fun _ => 0))), (q3, .inl (cy 0, 40, .inl (fun _ => 0))), (q4, .inl (cy 0, 40, .inl (fun _ => 0))), (q5, .inl (cy 2, 40, .inl (fun _ => 0))), (q6, .inl (cy 2, 1600, .inl (fun _ => 0))), (q7, .inl (cy 0, 200, .inl (fun _ => 0))), (q8, .inl (cy 2, 200, .inl (fun _ => 0))), (q9, .inl (cy 0, 1440, .inl (fun _ => 0))), (q10, .inl (cy 2, 1600, .inl (fun _ => 0))), (q11, .inl (cy 0, 40, .inl (fun _ => 0))), (q12, .inl (cy 0, 1999, .inl (fun _ => 0))), (q13, .inl (cy 0, 24, .inl (fun _ => 0))), (q14, .inl (cy 0, 40, .inl (fun _ => 0))), (q15, .inl (cy 0, 40, .inl (fun _ => 0)))]) H := hP
  have hD : va_D (nAd h0 s.heap.size) ([(h0, .inr (10, [.int 0, .int 0, .int 0, .int 0, .ref q1, .ref q2, .ref q3, .ref q4, .ref q5, .ref q6, .ref q7, .ref q8, .ref q9, .int 0, .ref q10, .ref q11, .int 0, .ref q12, .int 0, .ref q13, .ref q14, .ref q15])), (q1, .inl (cy 0, 5, .inl (fun _ => 0))), (q2, .inl (cy 0, 40, .inl (fun _ => 0))), (q3, .inl (cy 0, 40, .inl (fun _ => 0))), (q4, .inl (cy 0, 40, .inl (fun _ => 0))), (q5, .inl (cy 2, 40, .inl (fun _ => 0))), (q6, .inl (cy 2, 1600, .inl (fun _ => 0))), (q7, .inl (cy 0, 200, .inl (fun _ => 0))), (q8, .inl (cy 2, 200, .inl (fun _ => 0))), (q9, .inl (cy 0, 1440, .inl (fun _ => 0))), (q10, .inl (cy 2, 1600, .inl (fun _ => 0))), (q11, .inl (cy 0, 40, .inl (fun _ => 0))), (q12, .inl (cy 0, 1999, .inl (fun _ => 0))), (q13, .inl (cy 0, 24, .inl (fun _ => 0))), (q14, .inl (cy 0, 40, .inl (fun _ => 0))), (q15, .inl (cy 0, 40, .inl (fun _ => 0)))]) := hD
  refine W.widen (k := 15) (n := 7348) (Nat.le_of_ble_eq_true rfl) (Nat.le_of_ble_eq_true rfl) ?_
  exact hret (fun k => [0, q1, q2, q3, q4, q5, q6, q7, q8, q9, q10, q11, q12, q13, q14, q15].getD k 0) dX10_init_129 hP hD hS
