theorem dL_law_0 : decode code 0 = .ok (.new 8, 3) := by decide +kernel
theorem dL_law_3 : decode code 3 = .ok (.dup, 1) := by decide +kernel
theorem dL_law_4 : decode code 4 = .ok (.invokespecial 22, 3) := by decide +kernel
theorem dL_law_7 : decode code 7 = .ok (.astore_n 1, 1) := by decide +kernel
theorem dL_law_8 : decode code 8 = .ok (.new 23, 3) := by decide +kernel
theorem dL_law_11 : decode code 11 = .ok (.dup, 1) := by decide +kernel
theorem dL_law_12 : decode code 12 = .ok (.invokespecial 25, 3) := by decide +kernel
theorem dL_law_15 : decode code 15 = .ok (.astore_n 2, 1) := by decide +kernel
theorem dL_law_16 : decode code 16 = .ok (.iconst 1, 1) := by decide +kernel
theorem dL_law_17 : decode code 17 = .ok (.newarray .long, 2) := by decide +kernel
theorem dL_law_19 : decode code 19 = .ok (.astore_n 3, 1) := by decide +kernel
theorem dL_law_20 : decode code 20 = .ok (.iconst 0, 1) := by decide +kernel
theorem dL_law_21 : decode code 21 = .ok (.istore 4, 2) := by decide +kernel
theorem wC_len {cy : Nat → ClassId} {ad : Nat → Nat} {I : Nat → Int32} {L : Nat → Int64} {A : Nat → Nat → Int32} {B : Nat → Nat → Int64} : (wC cy ad I L A B).length = 103 := by unfold wC; rw [List.length_map, List.length_range]
set_option maxHeartbeats 8000000 in
set_option maxRecDepth 100000 in
theorem whole_start {p : Program} {e : Env} {s : State} {m : MethodId} {below : List Frame} {meth : Method} {c : Code} (l : Launch) (hflags : l.flags = flags0) {b L : Nat} {xs : Nat → Int32} (hL : L ≤ 2560) (C0 : lw_At p s m meth c b L xs) : W p l e room_1 s m #[Value.ref b] below meth c s.heap [] 0 0 (lw_Z below #[Value.ref b] s) (entryFrame m ([Value.ref b] : List Value).toArray 7) := by
  have hlt : l.stackTraces = false := by unfold Launch.stackTraces; rw [hflags]; decide
  obtain ⟨hx, hb, hr, hml, hown, hts, hX, hbl, hlocks, hgv⟩ := id C0
  have hT : ∀ w ∈ BW, w.before #[Value.ref b] s = true := fun w hw => hts w (bw_sub hw)
  have hown : s.vm.findClass RL = some m.cls := hown
  obtain ⟨D, cy, hK⟩ := law_kC C0
  have hI := law_kI C0
  have hA : ∀ q, s.heap.size ≤ q → sNew s q := fun _ h => h
  have hS : va_S (sNew s) s.heap s.heap [] := va_S.rf
  have hP : va_P D vwCl [] s.heap := fun k q h => by cases h
  have hD : va_D (sNew s) [] := ⟨fun i j p q h => (nomatch h), fun k q h => (nomatch h)⟩
  have hl := lv_entry ([.ref b] : List Value) (n := 7) (Nat.le_of_ble_eq_true rfl)
  rw [lg_entry_eq]
  generalize (lg_sl ([.ref b] : List Value) ++ List.replicate (7 - (lg_sl ([.ref b] : List Value)).length) Slot.unset).toArray = ls at hl ⊢
  have hl : lv_has ls 7 [(0, .ref b)] := hl
  refine va_new (ci := 9) (fs := [.null, .null, .null, .null, .null, .null, .null, .null]) (C := RX9) (T := TX9) (N := 8) hx hb hT inlX9 tyX9 tyX9_ok hown (hT _ mw_1_19) (hT _ mw_1_20) (hT _ mw_1_1) hK.1 hP hD hS hA rfl (fun j hj => by rcases (show j = 0 ∨ j = 1 ∨ j = 2 ∨ j = 3 ∨ j = 4 ∨ j = 5 ∨ j = 6 ∨ j = 7 by omega) with rfl | rfl | rfl | rfl | rfl | rfl | rfl | rfl <;> rfl) (Nat.le_of_ble_eq_true rfl) (Nat.le_of_ble_eq_true rfl) dL_law_0 (fun q0 H hP hD hS => ?_)
  have hPc : va_P D vwCl [(q0, .inr (9, [.null, .null, .null, .null, .null, .null, .null, .null]))] H := hP
  have hq0 : s.heap.size ≤ q0 := hD.2 0 _ rfl
  have hAq : ∀ x, nAd q0 H.size x → sNew s x := fun x h => h.elim (fun h => by rw [h]; exact hq0) (fun h => Nat.le_trans hS.1 h)
  refine lv_dup hx hb dL_law_3 rfl ?_
  refine va_callv (va_runI (As := []) (rest := [.ref q0]) (b := q0) ⟨hx, hb, hml, hown, hT⟩ (c_X9_init (D := D) (cy := cy) q0 H.size) (cwI 0 hT (bw_code mw_1_23) rfl rfl rfl (hT _ mw_1_1) (hT _ mw_1_21) (hT _ mw_1_22) rfl (by decide +kernel) ⟨Nat.le_of_ble_eq_true rfl, Nat.le_of_ble_eq_true rfl⟩) ⟨fun a U g mk q => ⟨q.1, q.2.1, q.2.2.1.calling, q.2.2.2.1.calling, q.2.2.2.2⟩, fun U hU hW => ⟨rfl, by rw [hU], hK.warm hW, hI.warm hW, by rw [hU]; exact hPc⟩⟩ rfl rfl hl.1 rfl (lv_room (Nat.le_of_ble_eq_true rfl)) dL_law_4 ⟨Nat.le_of_ble_eq_true rfl, Nat.le_of_ble_eq_true rfl⟩) hS (fun x _ h => hAq x h) hAq (fun aC t H1 locs1 ht hvm hw hB hz1 hk1 hS1 => ?_)
  subst ht
  obtain ⟨hw0, hw⟩ := hw
  subst hw0
  have hAC : adok 103 (sNew s) aC := ⟨hw.1, fun i hi => hAq _ (hw.2 i hi)⟩
  have hDC : va_D (sNew s) (wC cy aC zI zL zA zB) := wl_D hAC
  refine lv_astore_n (lv' := [(1, .ref (aC 0)), (0, .ref b)]) hx hb dL_law_7 rfl hl (by decide) rfl (fun ls hl => ?_)
  refine va_new (ci := 10) (fs := [.int 0, .int 0, .int 0, .int 0, .null, .null, .null, .null, .null, .null, .null, .null, .null, .int 0, .null, .null, .int 0, .null, .int 0, .null, .null, .null]) (C := RX10) (T := TX10) (N := 22) hx hb hT inlX10 tyX10 tyX10_ok hown (hT _ mw_4_131) (hT _ mw_4_132) (hT _ mw_1_11) hK.1 hB hDC hS1 hA rfl (fun j hj => by rcases (show j = 0 ∨ j = 1 ∨ j = 2 ∨ j = 3 ∨ j = 4 ∨ j = 5 ∨ j = 6 ∨ j = 7 ∨ j = 8 ∨ j = 9 ∨ j = 10 ∨ j = 11 ∨ j = 12 ∨ j = 13 ∨ j = 14 ∨ j = 15 ∨ j = 16 ∨ j = 17 ∨ j = 18 ∨ j = 19 ∨ j = 20 ∨ j = 21 by omega) with rfl | rfl | rfl | rfl | rfl | rfl | rfl | rfl | rfl | rfl | rfl | rfl | rfl | rfl | rfl | rfl | rfl | rfl | rfl | rfl | rfl | rfl <;> rfl) (Nat.le_of_ble_eq_true rfl) (Nat.le_of_ble_eq_true rfl) dL_law_8 (fun q1 H hP hD hS => ?_)
  refine lv_dup hx hb dL_law_11 rfl ?_
  refine ctorI (As := []) (rest := [.ref q1]) (n := 0) c_X10_init hx hb hml hT hown hK hI hP hD hS hA mw_4_133 ⟨mw_4_134, mw_1_11, mw_4_135⟩ rfl (by decide +kernel) ⟨rfl, rfl⟩ ⟨Nat.le_of_ble_eq_true rfl, Nat.le_of_ble_eq_true rfl⟩ rfl hl.1 rfl (Nat.le_of_ble_eq_true rfl) dL_law_12 ⟨Nat.le_of_ble_eq_true rfl, Nat.le_of_ble_eq_true rfl⟩ (fun u H locs hP hD hS => ?_)
  refine lv_astore_n (lv' := [(2, .ref q1), (1, .ref (aC 0)), (0, .ref b)]) hx hb dL_law_15 rfl hl (by decide) rfl (fun ls hl => ?_)
  refine lv_iconst (v := 1) hx hb dL_law_16 (by decide) ?_
  refine nw_J hx hb hT hK hP hD hS hA (N := 1) (by decide) rfl (Nat.le_of_ble_eq_true rfl) (Nat.le_of_ble_eq_true rfl) (Nat.le_of_ble_eq_true rfl) dL_law_17 (fun o H hP hD hS => ?_)
  refine lv_astore_n (lv' := [(3, .ref o), (2, .ref q1), (1, .ref (aC 0)), (0, .ref b)]) hx hb dL_law_19 rfl hl (by decide) rfl (fun ls hl => ?_)
  refine lv_iconst (v := 0) hx hb dL_law_20 (by decide) ?_
  refine lv_istore (lv' := [(4, .int (nI 0)), (3, .ref o), (2, .ref q1), (1, .ref (aC 0)), (0, .ref b)]) hx hb dL_law_21 hl (by decide) rfl (fun ls hl => ?_)
  have len2 : (wC cy aC zI zL zA zB ++ nw10 cy q1 u).length = 119 := by rw [List.length_append, wC_len]; rfl
  have gC : ∀ {k : Nat} {x : Nat × va_E}, (wC cy aC zI zL zA zB)[k]? = some x → (wC cy aC zI zL zA zB ++ nw10 cy q1 u ++ [(o, .inl (cy 1, 1, .inr (.inl (fun _ => 0))))])[k]? = some x := fun h => app_l (app_l h)
  have gM : ∀ {k : Nat} {x : Nat × va_E}, (nw10 cy q1 u)[k]? = some x → (wC cy aC zI zL zA zB ++ nw10 cy q1 u ++ [(o, .inl (cy 1, 1, .inr (.inl (fun _ => 0))))])[103 + k]? = some x := fun h => app_l (app_at wC_len h)
  have gO : (wC cy aC zI zL zA zB ++ nw10 cy q1 u ++ [(o, .inl (cy 1, 1, .inr (.inl (fun _ => 0))))])[119 + 0]? = some (o, (.inl (cy 1, 1, .inr (.inl (fun _ => 0))) : va_E)) := app_at len2 rfl
  have hPC : va_P D vwCl (wC cy aC zI zL zA zB) H := fun k x h => hP k x (gC h)
  have hPM : va_P D vwCl (nw10 cy q1 u) H := fun k x h => hP _ x (gM h)
  have hDM : va_D (sNew s) (nw10 cy q1 u) := ⟨fun i j p q hp hq e => by have := hD.1 _ _ p q (gM hp) (gM hq) e; omega, fun k q h => hD.2 _ q (gM h)⟩
  have hO : va_P D vwCl (wO cy o (fun _ => 0)) H := fun k x h => by
    rw [wO_get h]
    exact hP _ _ gO
  obtain ⟨hAM, hPM2⟩ := fin10 cy q1 u hPM hDM
  have ho : s.heap.size ≤ o := hD.2 _ _ gO
  have sC : ∀ q, (∃ i, i < 103 ∧ q = aC i) → s.heap.size ≤ q := fun q h => by obtain ⟨i, hi, rfl⟩ := h; exact hAC.2 i hi
  have F : LwF p l s m meth c b L xs D cy aC (ad10 q1 u) (fun q => ∃ i, i < 103 ∧ q = aC i) (fun q => ∃ i, i < 16 ∧ q = ad10 q1 u i) o := by
    refine ⟨C0, hL, hlt, hK, law_kX C0 sC, ⟨hAC.1, fun i hi => ⟨i, hi, rfl⟩⟩, ⟨hAM.1, fun i hi => ⟨i, hi, rfl⟩⟩, ?_, ?_, ?_, sC, ?_, ho⟩
    · rintro q ⟨i, hi, rfl⟩ ⟨j, hj, e9⟩
      have := hD.1 _ _ _ _ (gC (wC_get hi)) (gM (nw10_at cy q1 u j hj)) e9
      omega
    · rintro ⟨i, hi, e9⟩
      have := hD.1 _ _ _ _ (gC (wC_get hi)) gO e9.symm
      omega
    · rintro ⟨j, hj, e9⟩
      have := hD.1 _ _ _ _ (gM (nw10_at cy q1 u j hj)) gO e9.symm
      omega
    · rintro q ⟨j, hj, rfl⟩
      exact hAM.2 j hj
  refine W.widen (k := 300 + 0) (n := 20000 + 6 * 0) (Nat.le_of_ble_eq_true rfl) (Nat.le_of_ble_eq_true rfl) ?_
  exact law_loop F (L + 1) 0 (Nat.zero_le _) (by omega) ⟨hPC, hPM2, hO⟩ hS LSt_0 (lv_sub (l' := [(0, .ref b), (1, .ref (aC 0)), (2, .ref (ad10 q1 u 0)), (3, .ref o), (4, .int (nI 0))]) hl [4, 3, 2, 1, 0] rfl)
