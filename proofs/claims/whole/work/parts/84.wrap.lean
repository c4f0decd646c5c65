def wO (cy : Nat → ClassId) (o : Nat) (f : Nat → Int64) : va_W := [(o, .inl (cy 1, 1, .inr (.inl f)))]
def AdO (Ad : Nat → Prop) (o : Nat) : Nat → Prop := fun q => Ad q ∨ q = o
theorem wO_get {cy : Nat → ClassId} {o : Nat} {f : Nat → Int64} {k : Nat} {q : Nat × va_E} (h : (wO cy o f)[k]? = some q) : q = (o, .inl (cy 1, 1, .inr (.inl f))) := by
  cases k with
  | zero => exact (Option.some.inj h).symm
  | succ k => cases h
theorem wO_kept {D : va_G} {cy : Nat → ClassId} {o : Nat} {f : Nat → Int64} {Ad : Nat → Prop} {H H1 : Heap} (ho : ¬ Ad o) (h : va_P D vwCl (wO cy o f) H) (hk : ∀ q : Nat, q < H.size → ¬ Ad q → H1[q]? = H[q]?) : va_P D vwCl (wO cy o f) H1 := h.kept (fun k q hq => hk q.1 ((h k q hq).lt) (by rw [wO_get hq]; exact ho))
theorem wO_P {D : va_G} {cy : Nat → ClassId} {o : Nat} {f : Nat → Int64} {H : Heap} {ws : va_W} (h1 : va_P D vwCl (wO cy o f) H) (h2 : va_P D vwCl ws H) : va_P D vwCl ((o, .inl (cy 1, 1, .inr (.inl f))) :: ws) H := fun k q hk => by
  cases k with
  | zero => exact h1 0 q hk
  | succ k => exact h2 k q hk
theorem wO_P1 {D : va_G} {cy : Nat → ClassId} {o : Nat} {f : Nat → Int64} {H : Heap} {ws : va_W} (h : va_P D vwCl ((o, .inl (cy 1, 1, .inr (.inl f))) :: ws) H) : va_P D vwCl (wO cy o f) H ∧ va_P D vwCl ws H := by
  refine ⟨fun k q hk => ?_, fun k q hk => h (k + 1) q hk⟩
  cases k with
  | zero => exact h 0 q hk
  | succ k => cases hk
theorem wO_Dc {Ad : Nat → Prop} {o : Nat} {e : va_E} {ws : va_W} (ho : ¬ Ad o) (h : va_D Ad ws) : va_D (AdO Ad o) ((o, e) :: ws) := by
  refine ⟨fun i j p q hp hq e9 => ?_, fun k q hq => ?_⟩
  · cases i with
    | zero =>
      cases j with
      | zero => rfl
      | succ j =>
        obtain rfl : (o, e) = p := Option.some.inj hp
        exact absurd (h.2 j q hq) (by rw [← e9]; exact ho)
    | succ i =>
      cases j with
      | zero =>
        obtain rfl : (o, e) = q := Option.some.inj hq
        exact absurd (h.2 i p hp) (by rw [e9]; exact ho)
      | succ j => rw [h.1 i j p q hp hq e9]
  · cases k with
    | zero =>
      obtain rfl : (o, e) = q := Option.some.inj hq
      exact Or.inr rfl
    | succ k => exact Or.inl (h.2 k q hq)
theorem xl_link : Cond.classLink RL 13 nsN ∈ BW := bw_4 (List.mem_of_getElem? (i := 38) rfl) rfl
theorem xl_cast : Cond.castable nsN nsN ∈ nsX := by decide +kernel
theorem dL_numberOf_0 : decode cL_numberOf 0 = .ok (.aload_n 3, 1) := by decide +kernel
theorem dL_numberOf_1 : decode cL_numberOf 1 = .ok (.iconst 0, 1) := by decide +kernel
theorem dL_numberOf_2 : decode cL_numberOf 2 = .ok (.aload_n 0, 1) := by decide +kernel
theorem dL_numberOf_3 : decode cL_numberOf 3 = .ok (.iload_n 1, 1) := by decide +kernel
theorem dL_numberOf_4 : decode cL_numberOf 4 = .ok (.iload_n 2, 1) := by decide +kernel
theorem dL_numberOf_5 : decode cL_numberOf 5 = .ok (.invokevirtual 7, 3) := by decide +kernel
theorem dL_numberOf_8 : decode cL_numberOf 8 = .ok (.i2l, 1) := by decide +kernel
theorem dL_numberOf_9 : decode cL_numberOf 9 = .ok (.lastore, 1) := by decide +kernel
theorem dL_numberOf_10 : decode cL_numberOf 10 = .ok (.goto 7, 3) := by decide +kernel
theorem dL_numberOf_13 : decode cL_numberOf 13 = .ok (.astore 4, 2) := by decide +kernel
theorem dL_numberOf_15 : decode cL_numberOf 15 = .ok (.iconst 1, 1) := by decide +kernel
theorem dL_numberOf_16 : decode cL_numberOf 16 = .ok (.ireturn, 1) := by decide +kernel
theorem dL_numberOf_17 : decode cL_numberOf 17 = .ok (.iconst 0, 1) := by decide +kernel
theorem dL_numberOf_18 : decode cL_numberOf 18 = .ok (.ireturn, 1) := by decide +kernel
theorem xl_code_numberOf : Cond.codeWith yL_numberOf cL_numberOf 5 (some .int) [(0, 10, 13, 13)] ∈ BW := bw_4 (List.mem_of_getElem? (i := 37) rfl) rfl
abbrev rmL_numberOf : Room := { frames := 7, cells := 1, slots := 6, locals := 104 }
set_option maxHeartbeats 4000000 in
set_option maxRecDepth 100000 in
theorem c_L_numberOf {l : Launch} {D : va_G} {cy : Nat → ClassId} {ad : Nat → Nat} {Ad : Nat → Prop} (hAd : adok 103 Ad ad) (hlt : l.stackTraces = false) {o : Nat} (ho : ¬ Ad o) (I : Nat → Int32) (L : Nat → Int64) (A : Nat → Nat → Int32) (B : Nat → Nat → Int64) (x1 x2 : Int32) (f : Nat → Int64) (post : Int32 → (Nat → Int64) → Prop) (h : wX9_numberOf I L A B x1 x2 (fun r => post 0 (vp_updL f 0 r.toInt64)) (post 1 f)) : Met l yL_numberOf (.codeWith yL_numberOf cL_numberOf 5 (some .int) [(0, 10, 13, 13)] :: BW) rmL_numberOf (va_Pc [.ref (ad 0), .int x1, .int x2, .ref o] (fun U => kC D cy U ∧ va_P D vwCl (wC cy ad I L A B) U.heap ∧ va_P D vwCl (wO cy o f) U.heap ∧ kX Ad U)) (va_Qi (fun r (u : CS × (Nat → Int64)) => post r u.2 ∧ I = u.1.1 ∧ L = u.1.2.1 ∧ A = u.1.2.2.1 ∧ B = u.1.2.2.2) (fun u (t : State) => va_P D vwCl (wC cy ad u.1.1 u.1.2.1 u.1.2.2.1 u.1.2.2.2) t.heap ∧ va_P D vwCl (wO cy o u.2) t.heap) (AdO Ad o)) 1 6 (AdO Ad o) := by
  refine va_MetW (cc := cL_numberOf) (maxL := 5) (ret := some .int) (hh := [(0, 10, 13, 13)]) (by decide) rfl ?_
  intro p e s m args below meth c s₁ B9 hml hv
  obtain ⟨rfl, hK, hP, hO, hX⟩ := hv
  have hx := B9.exec
  have hb := B9.bytes
  have hr := B9.returns
  have hts := atoms_spec (ws := Cond.codeWith yL_numberOf cL_numberOf 5 (some .int) [(0, 10, 13, 13)] :: BW) B9.pre
  have hT : ∀ w ∈ BW, w.before [.ref (ad 0), .int x1, .int x2, .ref o].toArray s = true := fun w hw => hts w (List.mem_cons_of_mem _ hw)
  have hown : s.vm.findClass RL = some m.cls := findClass_of_methodNamed B9.named
  have hlocks := B9.notSynchronized
  have htab := vx_table (x := yL_numberOf) B9 (hts _ List.mem_cons_self)
  have hl := lv_entry ([.ref (ad 0), .int x1, .int x2, .ref o] : List Value) (n := 5) (Nat.le_of_ble_eq_true rfl)
  rw [lg_entry_eq]
  generalize (lg_sl ([.ref (ad 0), .int x1, .int x2, .ref o] : List Value) ++ List.replicate (5 - (lg_sl ([.ref (ad 0), .int x1, .int x2, .ref o] : List Value)).length) Slot.unset).toArray = ls at hl ⊢
  have hl : lv_has ls 5 [(0, .ref (ad 0)), (1, .int x1), (2, .int x2), (3, .ref o)] := hl
  have hS : va_S (AdO Ad o) s.heap s.heap [] := va_S.rf
  refine lv_aload_n hx hb dL_numberOf_0 rfl (lv_at hl 3 rfl) ?_
  refine lv_iconst (v := 0) hx hb dL_numberOf_1 (by decide) ?_
  refine lv_aload_n hx hb dL_numberOf_2 rfl (lv_at hl 0 rfl) ?_
  refine lv_iload_n hx hb dL_numberOf_3 rfl (lv_at hl 1 rfl) ?_
  refine lv_iload_n hx hb dL_numberOf_4 rfl (lv_at hl 2 rfl) ?_
  refine vx_calli (vx_runV (As := [.int x1, .int x2]) (rest := [.int 0, .ref o]) (b := ad 0) (C := RX9) ⟨hx, hb, hml, hown, hT⟩ (c_X9_numberOf hAd hlt I L A B x1 x2 _ _ h) (cwV 2 hT (bw_V mw_4_39 mw_4_40 mw_4_41 mw_1_1 mw_4_42) rfl rfl rfl ⟨rfl, by decide +kernel⟩ ⟨Nat.le_of_ble_eq_true rfl, Nat.le_of_ble_eq_true rfl⟩) ⟨fun a U g mk q => ⟨q.1, q.2.1.calling, q.2.2.1, q.2.2.2.calling⟩, va_recv hK.1 hP rfl he_X9, fun U hU hW => ⟨rfl, hK.warm hW, by rw [hU]; exact hP, kX.to hW (fun _ _ _ => by rw [hU]) hX⟩⟩ rfl rfl hl.1 rfl (lv_room (Nat.le_of_ble_eq_true rfl)) dL_numberOf_5 ⟨Nat.le_of_ble_eq_true rfl, Nat.le_of_ble_eq_true rfl⟩) hS (fun _ _ h => Or.inl h) (fun _ h => Or.inl h) (fun _ _ h => Or.inl h) (fun E ce q9 u t H1 locs1 ht hvm hpx hBX hz1 hk1 hS1 hce hcv hcl => ?_) (fun r u t H1 locs1 ht hvm hw hB hz1 hk1 hS1 => ?_)
  · obtain ⟨rfl, hP1⟩ := hBX
    rw [ht] at hP1
    have hO1 := wO_kept ho hO hk1
    refine vx_catch (own := RL) (name := nsN) (E := nsN) hown [] ⟨0, 10, 13, 13⟩ [] (by rw [htab]; rfl) (fun z hz => nomatch hz) (by decide) (by decide) (hT _ xl_link) (ot_warm (nsX_g xl_cast) (State.WarmedH.refl s) (hX.1 _ xl_cast)) hce hcv hcl ?_
    refine lv_astore (lv' := [(4, .ref q9), (0, .ref (ad 0)), (1, .int x1), (2, .int x2), (3, .ref o)]) hx hb dL_numberOf_13 hl (by decide) rfl (fun ls hl => ?_)
    refine lv_iconst (v := 1) hx hb dL_numberOf_15 (by decide) ?_
    exact W.iret (v := 1) hx hb hr (fun t1 ht1 hW => ⟨⟨1, (u, f), rfl, hpx, by show va_P _ _ _ t1.heap ∧ va_P _ _ _ t1.heap; rw [ht1]; exact ⟨hP1, hO1⟩⟩, hS1.F ht1⟩) hS1.2.2 dL_numberOf_16
  · rw [ht] at hB
    have hO1 := wO_kept ho hO hk1
    refine lv_i2l hx hb dL_numberOf_8 rfl ?_
    refine va_last hx hb hK.1 (wO_P hO1 hB) (wO_Dc ho (wl_D hAd)) hS1 0 1 rfl rfl (vp_in_nI (n := 0) (by decide) (by decide)) dL_numberOf_9 (fun H2 locs2 hP2 _ hS2 => ?_)
    obtain ⟨hO2, hP2⟩ := wO_P1 (ws := wC cy ad u.1 u.2.1 u.2.2.1 u.2.2.2) hP2
    refine lv_goto (tgt := 17) hx hb dL_numberOf_10 (by decide) ?_
    refine lv_iconst (v := 0) hx hb dL_numberOf_17 (by decide) ?_
    exact W.iret (v := 0) hx hb hr (fun t1 ht1 hW => ⟨⟨0, (u, vp_updL f 0 r.toInt64), rfl, hw, by show va_P _ _ _ t1.heap ∧ va_P _ _ _ t1.heap; rw [ht1]; exact ⟨hP2, hO2⟩⟩, hS2.F ht1⟩) hS2.2.2 dL_numberOf_18
theorem dL_bin_0 : decode cL_bin 0 = .ok (.aload 5, 2) := by decide +kernel
theorem dL_bin_2 : decode cL_bin 2 = .ok (.iconst 0, 1) := by decide +kernel
theorem dL_bin_3 : decode cL_bin 3 = .ok (.aload_n 0, 1) := by decide +kernel
theorem dL_bin_4 : decode cL_bin 4 = .ok (.iload_n 1, 1) := by decide +kernel
theorem dL_bin_5 : decode cL_bin 5 = .ok (.iload_n 2, 1) := by decide +kernel
theorem dL_bin_6 : decode cL_bin 6 = .ok (.iload_n 3, 1) := by decide +kernel
theorem dL_bin_7 : decode cL_bin 7 = .ok (.iload 4, 2) := by decide +kernel
theorem dL_bin_9 : decode cL_bin 9 = .ok (.invokevirtual 15, 3) := by decide +kernel
theorem dL_bin_12 : decode cL_bin 12 = .ok (.i2l, 1) := by decide +kernel
theorem dL_bin_13 : decode cL_bin 13 = .ok (.lastore, 1) := by decide +kernel
theorem dL_bin_14 : decode cL_bin 14 = .ok (.goto 7, 3) := by decide +kernel
theorem dL_bin_17 : decode cL_bin 17 = .ok (.astore 6, 2) := by decide +kernel
theorem dL_bin_19 : decode cL_bin 19 = .ok (.iconst 1, 1) := by decide +kernel
theorem dL_bin_20 : decode cL_bin 20 = .ok (.ireturn, 1) := by decide +kernel
theorem dL_bin_21 : decode cL_bin 21 = .ok (.iconst 0, 1) := by decide +kernel
theorem dL_bin_22 : decode cL_bin 22 = .ok (.ireturn, 1) := by decide +kernel
theorem xl_code_bin : Cond.codeWith yL_bin cL_bin 7 (some .int) [(0, 14, 17, 13)] ∈ BW := bw_4 (List.mem_of_getElem? (i := 111) rfl) rfl
abbrev rmL_bin : Room := { frames := 7, cells := 1, slots := 6, locals := 108 }
set_option maxHeartbeats 4000000 in
set_option maxRecDepth 100000 in
theorem c_L_bin {l : Launch} {D : va_G} {cy : Nat → ClassId} {ad : Nat → Nat} {Ad : Nat → Prop} (hAd : adok 103 Ad ad) (hlt : l.stackTraces = false) {o : Nat} (ho : ¬ Ad o) (I : Nat → Int32) (L : Nat → Int64) (A : Nat → Nat → Int32) (B : Nat → Nat → Int64) (x1 x2 x3 x4 : Int32) (f : Nat → Int64) (post : Int32 → (Nat → Int64) → (Nat → Int32) → (Nat → Nat → Int32) → Prop) (h : wX9_bin I L A B x1 x2 x3 x4 (fun r I' A' => post 0 (vp_updL f 0 r.toInt64) I' A') (fun I' A' => post 1 f I' A')) : Met l yL_bin (.codeWith yL_bin cL_bin 7 (some .int) [(0, 14, 17, 13)] :: BW) rmL_bin (va_Pc [.ref (ad 0), .int x1, .int x2, .int x3, .int x4, .ref o] (fun U => kC D cy U ∧ va_P D vwCl (wC cy ad I L A B) U.heap ∧ va_P D vwCl (wO cy o f) U.heap ∧ kX Ad U)) (va_Qi (fun r (u : CS × (Nat → Int64)) => post r u.2 u.1.1 u.1.2.2.1 ∧ L = u.1.2.1 ∧ B = u.1.2.2.2) (fun u (t : State) => va_P D vwCl (wC cy ad u.1.1 u.1.2.1 u.1.2.2.1 u.1.2.2.2) t.heap ∧ va_P D vwCl (wO cy o u.2) t.heap) (AdO Ad o)) 1 6 (AdO Ad o) := by
  refine va_MetW (cc := cL_bin) (maxL := 7) (ret := some .int) (hh := [(0, 14, 17, 13)]) (by decide) rfl ?_
  intro p e s m args below meth c s₁ B9 hml hv
  obtain ⟨rfl, hK, hP, hO, hX⟩ := hv
  have hx := B9.exec
  have hb := B9.bytes
  have hr := B9.returns
  have hts := atoms_spec (ws := Cond.codeWith yL_bin cL_bin 7 (some .int) [(0, 14, 17, 13)] :: BW) B9.pre
  have hT : ∀ w ∈ BW, w.before [.ref (ad 0), .int x1, .int x2, .int x3, .int x4, .ref o].toArray s = true := fun w hw => hts w (List.mem_cons_of_mem _ hw)
  have hown : s.vm.findClass RL = some m.cls := findClass_of_methodNamed B9.named
  have hlocks := B9.notSynchronized
  have htab := vx_table (x := yL_bin) B9 (hts _ List.mem_cons_self)
  have hl := lv_entry ([.ref (ad 0), .int x1, .int x2, .int x3, .int x4, .ref o] : List Value) (n := 7) (Nat.le_of_ble_eq_true rfl)
  rw [lg_entry_eq]
  generalize (lg_sl ([.ref (ad 0), .int x1, .int x2, .int x3, .int x4, .ref o] : List Value) ++ List.replicate (7 - (lg_sl ([.ref (ad 0), .int x1, .int x2, .int x3, .int x4, .ref o] : List Value)).length) Slot.unset).toArray = ls at hl ⊢
  have hl : lv_has ls 7 [(0, .ref (ad 0)), (1, .int x1), (2, .int x2), (3, .int x3), (4, .int x4), (5, .ref o)] := hl
  have hS : va_S (AdO Ad o) s.heap s.heap [] := va_S.rf
  refine lv_aload hx hb dL_bin_0 (lv_at hl 5 rfl) ?_
  refine lv_iconst (v := 0) hx hb dL_bin_2 (by decide) ?_
  refine lv_aload_n hx hb dL_bin_3 rfl (lv_at hl 0 rfl) ?_
  refine lv_iload_n hx hb dL_bin_4 rfl (lv_at hl 1 rfl) ?_
  refine lv_iload_n hx hb dL_bin_5 rfl (lv_at hl 2 rfl) ?_
  refine lv_iload_n hx hb dL_bin_6 rfl (lv_at hl 3 rfl) ?_
  refine lv_iload hx hb dL_bin_7 (lv_at hl 4 rfl) ?_
  refine vx_calli (vx_runV (As := [.int x1, .int x2, .int x3, .int x4]) (rest := [.int 0, .ref o]) (b := ad 0) (C := RX9) ⟨hx, hb, hml, hown, hT⟩ (c_X9_bin hAd hlt I L A B x1 x2 x3 x4 _ _ h) (cwV 4 hT (bw_V mw_4_112 mw_4_113 mw_4_114 mw_1_1 mw_4_115) rfl rfl rfl ⟨rfl, by decide +kernel⟩ ⟨Nat.le_of_ble_eq_true rfl, Nat.le_of_ble_eq_true rfl⟩) ⟨fun a U g mk q => ⟨q.1, q.2.1.calling, q.2.2.1, q.2.2.2.calling⟩, va_recv hK.1 hP rfl he_X9, fun U hU hW => ⟨rfl, hK.warm hW, by rw [hU]; exact hP, kX.to hW (fun _ _ _ => by rw [hU]) hX⟩⟩ rfl rfl hl.1 rfl (lv_room (Nat.le_of_ble_eq_true rfl)) dL_bin_9 ⟨Nat.le_of_ble_eq_true rfl, Nat.le_of_ble_eq_true rfl⟩) hS (fun _ _ h => Or.inl h) (fun _ h => Or.inl h) (fun _ _ h => Or.inl h) (fun E ce q9 u t H1 locs1 ht hvm hpx hBX hz1 hk1 hS1 hce hcv hcl => ?_) (fun r u t H1 locs1 ht hvm hw hB hz1 hk1 hS1 => ?_)
  · obtain ⟨rfl, hP1⟩ := hBX
    rw [ht] at hP1
    have hO1 := wO_kept ho hO hk1
    refine vx_catch (own := RL) (name := nsN) (E := nsN) hown [] ⟨0, 14, 17, 13⟩ [] (by rw [htab]; rfl) (fun z hz => nomatch hz) (by decide) (by decide) (hT _ xl_link) (ot_warm (nsX_g xl_cast) (State.WarmedH.refl s) (hX.1 _ xl_cast)) hce hcv hcl ?_
    refine lv_astore (lv' := [(6, .ref q9), (0, .ref (ad 0)), (1, .int x1), (2, .int x2), (3, .int x3), (4, .int x4), (5, .ref o)]) hx hb dL_bin_17 hl (by decide) rfl (fun ls hl => ?_)
    refine lv_iconst (v := 1) hx hb dL_bin_19 (by decide) ?_
    exact W.iret (v := 1) hx hb hr (fun t1 ht1 hW => ⟨⟨1, (u, f), rfl, hpx, by show va_P _ _ _ t1.heap ∧ va_P _ _ _ t1.heap; rw [ht1]; exact ⟨hP1, hO1⟩⟩, hS1.F ht1⟩) hS1.2.2 dL_bin_20
  · rw [ht] at hB
    have hO1 := wO_kept ho hO hk1
    refine lv_i2l hx hb dL_bin_12 rfl ?_
    refine va_last hx hb hK.1 (wO_P hO1 hB) (wO_Dc ho (wl_D hAd)) hS1 0 1 rfl rfl (vp_in_nI (n := 0) (by decide) (by decide)) dL_bin_13 (fun H2 locs2 hP2 _ hS2 => ?_)
    obtain ⟨hO2, hP2⟩ := wO_P1 (ws := wC cy ad u.1 u.2.1 u.2.2.1 u.2.2.2) hP2
    refine lv_goto (tgt := 21) hx hb dL_bin_14 (by decide) ?_
    refine lv_iconst (v := 0) hx hb dL_bin_21 (by decide) ?_
    exact W.iret (v := 0) hx hb hr (fun t1 ht1 hW => ⟨⟨0, (u, vp_updL f 0 r.toInt64), rfl, hw, by show va_P _ _ _ t1.heap ∧ va_P _ _ _ t1.heap; rw [ht1]; exact ⟨hP2, hO2⟩⟩, hS2.F ht1⟩) hS2.2.2 dL_bin_22
theorem dL_middle_0 : decode cL_middle 0 = .ok (.aload_n 3, 1) := by decide +kernel
theorem dL_middle_1 : decode cL_middle 1 = .ok (.iconst 0, 1) := by decide +kernel
theorem dL_middle_2 : decode cL_middle 2 = .ok (.aload_n 0, 1) := by decide +kernel
theorem dL_middle_3 : decode cL_middle 3 = .ok (.iload_n 1, 1) := by decide +kernel
theorem dL_middle_4 : decode cL_middle 4 = .ok (.iload_n 2, 1) := by decide +kernel
theorem dL_middle_5 : decode cL_middle 5 = .ok (.invokevirtual 19, 3) := by decide +kernel
theorem dL_middle_8 : decode cL_middle 8 = .ok (.i2l, 1) := by decide +kernel
theorem dL_middle_9 : decode cL_middle 9 = .ok (.lastore, 1) := by decide +kernel
theorem dL_middle_10 : decode cL_middle 10 = .ok (.goto 7, 3) := by decide +kernel
theorem dL_middle_13 : decode cL_middle 13 = .ok (.astore 4, 2) := by decide +kernel
theorem dL_middle_15 : decode cL_middle 15 = .ok (.iconst 1, 1) := by decide +kernel
theorem dL_middle_16 : decode cL_middle 16 = .ok (.ireturn, 1) := by decide +kernel
theorem dL_middle_17 : decode cL_middle 17 = .ok (.iconst 0, 1) := by decide +kernel
theorem dL_middle_18 : decode cL_middle 18 = .ok (.ireturn, 1) := by decide +kernel
theorem xl_code_middle : Cond.codeWith yL_middle cL_middle 5 (some .int) [(0, 10, 13, 13)] ∈ BW := bw_4 (List.mem_of_getElem? (i := 124) rfl) rfl
abbrev rmL_middle : Room := { frames := 7, cells := 1, slots := 6, locals := 104 }
set_option maxHeartbeats 4000000 in
set_option maxRecDepth 100000 in
theorem c_L_middle {l : Launch} {D : va_G} {cy : Nat → ClassId} {ad : Nat → Nat} {Ad : Nat → Prop} (hAd : adok 103 Ad ad) (hlt : l.stackTraces = false) {o : Nat} (ho : ¬ Ad o) (I : Nat → Int32) (L : Nat → Int64) (A : Nat → Nat → Int32) (B : Nat → Nat → Int64) (x1 x2 : Int32) (f : Nat → Int64) (post : Int32 → (Nat → Int64) → (Nat → Int32) → (Nat → Nat → Int32) → Prop) (h : wX9_middle I L A B x1 x2 (fun r I' A' => post 0 (vp_updL f 0 r.toInt64) I' A') (fun I' A' => post 1 f I' A')) : Met l yL_middle (.codeWith yL_middle cL_middle 5 (some .int) [(0, 10, 13, 13)] :: BW) rmL_middle (va_Pc [.ref (ad 0), .int x1, .int x2, .ref o] (fun U => kC D cy U ∧ va_P D vwCl (wC cy ad I L A B) U.heap ∧ va_P D vwCl (wO cy o f) U.heap ∧ kX Ad U)) (va_Qi (fun r (u : CS × (Nat → Int64)) => post r u.2 u.1.1 u.1.2.2.1 ∧ L = u.1.2.1 ∧ B = u.1.2.2.2) (fun u (t : State) => va_P D vwCl (wC cy ad u.1.1 u.1.2.1 u.1.2.2.1 u.1.2.2.2) t.heap ∧ va_P D vwCl (wO cy o u.2) t.heap) (AdO Ad o)) 1 6 (AdO Ad o) := by
  refine va_MetW (cc := cL_middle) (maxL := 5) (ret := some .int) (hh := [(0, 10, 13, 13)]) (by decide) rfl ?_
  intro p e s m args below meth c s₁ B9 hml hv
  obtain ⟨rfl, hK, hP, hO, hX⟩ := hv
  have hx := B9.exec
  have hb := B9.bytes
  have hr := B9.returns
  have hts := atoms_spec (ws := Cond.codeWith yL_middle cL_middle 5 (some .int) [(0, 10, 13, 13)] :: BW) B9.pre
  have hT : ∀ w ∈ BW, w.before [.ref (ad 0), .int x1, .int x2, .ref o].toArray s = true := fun w hw => hts w (List.mem_cons_of_mem _ hw)
  have hown : s.vm.findClass RL = some m.cls := findClass_of_methodNamed B9.named
  have hlocks := B9.notSynchronized
  have htab := vx_table (x := yL_middle) B9 (hts _ List.mem_cons_self)
  have hl := lv_entry ([.ref (ad 0), .int x1, .int x2, .ref o] : List Value) (n := 5) (Nat.le_of_ble_eq_true rfl)
  rw [lg_entry_eq]
  generalize (lg_sl ([.ref (ad 0), .int x1, .int x2, .ref o] : List Value) ++ List.replicate (5 - (lg_sl ([.ref (ad 0), .int x1, .int x2, .ref o] : List Value)).length) Slot.unset).toArray = ls at hl ⊢
  have hl : lv_has ls 5 [(0, .ref (ad 0)), (1, .int x1), (2, .int x2), (3, .ref o)] := hl
  have hS : va_S (AdO Ad o) s.heap s.heap [] := va_S.rf
  refine lv_aload_n hx hb dL_middle_0 rfl (lv_at hl 3 rfl) ?_
  refine lv_iconst (v := 0) hx hb dL_middle_1 (by decide) ?_
  refine lv_aload_n hx hb dL_middle_2 rfl (lv_at hl 0 rfl) ?_
  refine lv_iload_n hx hb dL_middle_3 rfl (lv_at hl 1 rfl) ?_
  refine lv_iload_n hx hb dL_middle_4 rfl (lv_at hl 2 rfl) ?_
  refine vx_calli (vx_runV (As := [.int x1, .int x2]) (rest := [.int 0, .ref o]) (b := ad 0) (C := RX9) ⟨hx, hb, hml, hown, hT⟩ (c_X9_middle hAd hlt I L A B x1 x2 _ _ h) (cwV 2 hT (bw_V mw_4_125 mw_4_126 mw_4_127 mw_1_1 mw_4_128) rfl rfl rfl ⟨rfl, by decide +kernel⟩ ⟨Nat.le_of_ble_eq_true rfl, Nat.le_of_ble_eq_true rfl⟩) ⟨fun a U g mk q => ⟨q.1, q.2.1.calling, q.2.2.1, q.2.2.2.calling⟩, va_recv hK.1 hP rfl he_X9, fun U hU hW => ⟨rfl, hK.warm hW, by rw [hU]; exact hP, kX.to hW (fun _ _ _ => by rw [hU]) hX⟩⟩ rfl rfl hl.1 rfl (lv_room (Nat.le_of_ble_eq_true rfl)) dL_middle_5 ⟨Nat.le_of_ble_eq_true rfl, Nat.le_of_ble_eq_true rfl⟩) hS (fun _ _ h => Or.inl h) (fun _ h => Or.inl h) (fun _ _ h => Or.inl h) (fun E ce q9 u t H1 locs1 ht hvm hpx hBX hz1 hk1 hS1 hce hcv hcl => ?_) (fun r u t H1 locs1 ht hvm hw hB hz1 hk1 hS1 => ?_)
  · obtain ⟨rfl, hP1⟩ := hBX
    rw [ht] at hP1
    have hO1 := wO_kept ho hO hk1
    refine vx_catch (own := RL) (name := nsN) (E := nsN) hown [] ⟨0, 10, 13, 13⟩ [] (by rw [htab]; rfl) (fun z hz => nomatch hz) (by decide) (by decide) (hT _ xl_link) (ot_warm (nsX_g xl_cast) (State.WarmedH.refl s) (hX.1 _ xl_cast)) hce hcv hcl ?_
    refine lv_astore (lv' := [(4, .ref q9), (0, .ref (ad 0)), (1, .int x1), (2, .int x2), (3, .ref o)]) hx hb dL_middle_13 hl (by decide) rfl (fun ls hl => ?_)
    refine lv_iconst (v := 1) hx hb dL_middle_15 (by decide) ?_
    exact W.iret (v := 1) hx hb hr (fun t1 ht1 hW => ⟨⟨1, (u, f), rfl, hpx, by show va_P _ _ _ t1.heap ∧ va_P _ _ _ t1.heap; rw [ht1]; exact ⟨hP1, hO1⟩⟩, hS1.F ht1⟩) hS1.2.2 dL_middle_16
  · rw [ht] at hB
    have hO1 := wO_kept ho hO hk1
    refine lv_i2l hx hb dL_middle_8 rfl ?_
    refine va_last hx hb hK.1 (wO_P hO1 hB) (wO_Dc ho (wl_D hAd)) hS1 0 1 rfl rfl (vp_in_nI (n := 0) (by decide) (by decide)) dL_middle_9 (fun H2 locs2 hP2 _ hS2 => ?_)
    obtain ⟨hO2, hP2⟩ := wO_P1 (ws := wC cy ad u.1 u.2.1 u.2.2.1 u.2.2.2) hP2
    refine lv_goto (tgt := 17) hx hb dL_middle_10 (by decide) ?_
    refine lv_iconst (v := 0) hx hb dL_middle_17 (by decide) ?_
    exact W.iret (v := 0) hx hb hr (fun t1 ht1 hW => ⟨⟨0, (u, vp_updL f 0 r.toInt64), rfl, hw, by show va_P _ _ _ t1.heap ∧ va_P _ _ _ t1.heap; rw [ht1]; exact ⟨hP2, hO2⟩⟩, hS2.F ht1⟩) hS2.2.2 dL_middle_18
