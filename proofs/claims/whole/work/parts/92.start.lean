theorem tm_1 {w : Cond} (h : w ∈ tables_1_1) : w ∈ lw_tbl := List.mem_append_right _ (show w ∈ tables_1_1 ++ (tables_1_2 ++ (tables_1_3 ++ (tables_1_4 ++ (tables_1_5 ++ tables_1_6)))) from (List.mem_append_left _ h))
theorem tm_2 {w : Cond} (h : w ∈ tables_1_2) : w ∈ lw_tbl := List.mem_append_right _ (show w ∈ tables_1_1 ++ (tables_1_2 ++ (tables_1_3 ++ (tables_1_4 ++ (tables_1_5 ++ tables_1_6)))) from (List.mem_append_right _ (List.mem_append_left _ h)))
theorem tm_3 {w : Cond} (h : w ∈ tables_1_3) : w ∈ lw_tbl := List.mem_append_right _ (show w ∈ tables_1_1 ++ (tables_1_2 ++ (tables_1_3 ++ (tables_1_4 ++ (tables_1_5 ++ tables_1_6)))) from (List.mem_append_right _ (List.mem_append_right _ (List.mem_append_left _ h))))
theorem tm_4 {w : Cond} (h : w ∈ tables_1_4) : w ∈ lw_tbl := List.mem_append_right _ (show w ∈ tables_1_1 ++ (tables_1_2 ++ (tables_1_3 ++ (tables_1_4 ++ (tables_1_5 ++ tables_1_6)))) from (List.mem_append_right _ (List.mem_append_right _ (List.mem_append_right _ (List.mem_append_left _ h)))))
theorem tm_5 {w : Cond} (h : w ∈ tables_1_5) : w ∈ lw_tbl := List.mem_append_right _ (show w ∈ tables_1_1 ++ (tables_1_2 ++ (tables_1_3 ++ (tables_1_4 ++ (tables_1_5 ++ tables_1_6)))) from (List.mem_append_right _ (List.mem_append_right _ (List.mem_append_right _ (List.mem_append_right _ (List.mem_append_left _ h))))))
theorem tm_6 {w : Cond} (h : w ∈ tables_1_6) : w ∈ lw_tbl := List.mem_append_right _ (show w ∈ tables_1_1 ++ (tables_1_2 ++ (tables_1_3 ++ (tables_1_4 ++ (tables_1_5 ++ tables_1_6)))) from (List.mem_append_right _ (List.mem_append_right _ (List.mem_append_right _ (List.mem_append_right _ (List.mem_append_right _ h))))))
theorem nsX_eq : nsX = ([823, 77, 74, 845, 854, 856, 859, 861, 846, 847, 85, 86, 848, 853, 857, 877, 835, 878, 837, 879, 839, 849, 851, 841, 873, 874, 876, 841, 864, 865, 866, 867, 827, 867, 868, 869, 870, 829, 870, 871, 872, 873, 831, 863, 824, 825, 832, 833, 834, 836, 838, 840, 844, 843, 842] : List Nat).filterMap (fun i => lw_tbl[i]?) := by decide +kernel
theorem nsX_in {w : Cond} (h : w ∈ nsX) : w ∈ lw_tbl := by
  rw [nsX_eq] at h
  obtain ⟨i, -, hi⟩ := List.mem_filterMap.mp h
  exact List.mem_of_getElem? hi
theorem nestW_in : ∀ w ∈ nestW, w ∈ lw_tbl := List.forall_mem_cons.mpr ⟨tm_2 (List.mem_of_getElem? (i := 66) rfl), List.forall_mem_cons.mpr ⟨tm_2 (List.mem_of_getElem? (i := 73) rfl), List.forall_mem_cons.mpr ⟨tm_2 (List.mem_of_getElem? (i := 78) rfl), List.forall_mem_cons.mpr ⟨tm_2 (List.mem_of_getElem? (i := 114) rfl), List.forall_mem_cons.mpr ⟨tm_2 (List.mem_of_getElem? (i := 157) rfl), List.forall_mem_cons.mpr ⟨tm_2 (List.mem_of_getElem? (i := 182) rfl), (fun _ h => absurd h List.not_mem_nil)⟩⟩⟩⟩⟩⟩
theorem nestI_in : ∀ w ∈ nestI, w ∈ lw_tbl := List.forall_mem_cons.mpr ⟨tm_1 (List.mem_of_getElem? (i := 29) rfl), List.forall_mem_cons.mpr ⟨tm_1 (List.mem_of_getElem? (i := 64) rfl), List.forall_mem_cons.mpr ⟨tm_1 (List.mem_of_getElem? (i := 110) rfl), List.forall_mem_cons.mpr ⟨tm_1 (List.mem_of_getElem? (i := 116) rfl), List.forall_mem_cons.mpr ⟨tm_1 (List.mem_of_getElem? (i := 189) rfl), List.forall_mem_cons.mpr ⟨tm_1 (List.mem_of_getElem? (i := 222) rfl), List.forall_mem_cons.mpr ⟨tm_1 (List.mem_of_getElem? (i := 225) rfl), (fun _ h => absurd h List.not_mem_nil)⟩⟩⟩⟩⟩⟩⟩
section
variable {p : Program} {s : State} {m : MethodId} {meth : Method} {c : Code} {b L : Nat} {xs : Nat → Int32}
theorem arr_K {args : Array Value} {ty : FieldType} (hty : ∀ C, ty ≠ .object C) (h : (Cond.arrayClass ty).before args s = true) : ∃ cA, ArrOfT s cA ty ∧ va_RA s cA ty := by
  obtain ⟨cA, kA, comp, h1, h2, h3⟩ := Cond.arrayClass_spec h
  refine ⟨cA, fun n z => ⟨fun k h => (by cases h), kA, h2, comp, h3⟩, ?_⟩
  cases ty with
  | object C => exact absurd rfl (hty C)
  | _ => exact h1
theorem arr_Q {args : Array Value} {C : String} (h : (Cond.arrayOver (.object C)).before args s = true) : ∃ cA, ArrOfT s cA (.object C) ∧ va_RA s cA (.object C) := by
  obtain ⟨comp, cA, kA, h1, -, h2, h3, h4⟩ := Cond.arrayOver_spec h
  exact ⟨cA, fun n z => ⟨fun k h => (by cases h), kA, h2, comp, h3⟩, kA, comp, h2, h3, h1, h4⟩
theorem str_R {args : Array Value} {k : Nat} {tx : String} (h1 : (Cond.stringRef RX9 k tx).before args s = true) (h2 : (Cond.exactly (Term.string RX9 k) "java/lang/String").before args s = true) : ∃ a, vk_R RX9 k tx a s := by
  obtain ⟨a, _, _, _, h3, -⟩ := Cond.exactly_spec h2
  exact ⟨a, vk_R.of h1 h3⟩
theorem law_kC (C0 : lw_At p s m meth c b L xs) : ∃ (D : va_G) (cy : Nat → ClassId), kC D cy s := by
  have hts := C0.2.2.2.2.2.1
  have hT : ∀ w ∈ BW, w.before #[Value.ref b] s = true := fun w hw => hts w (bw_sub hw)
  obtain ⟨c0, i0, h0⟩ := u_known (C := RX0) (T := TX0) (N := 4) (n := 4) hT inlX0 (hT _ mw_1_109)
  obtain ⟨c1, i1, h1⟩ := u_known (C := RX1) (T := TX1) (N := 5) (n := 5) hT inlX1 (hT _ mw_1_224)
  obtain ⟨c2, i2, h2⟩ := u_known (C := RX2) (T := TX2) (N := 6) (n := 6) hT inlX2 (hT _ mw_1_28)
  obtain ⟨c3, i3, h3⟩ := u_known (C := RX3) (T := TX3) (N := 3) (n := 3) hT inlX3 (hT _ mw_1_69)
  obtain ⟨c4, i4, h4⟩ := u_known (C := RX4) (T := TX4) (N := 2) (n := 2) hT inlX4 (hT _ mw_1_207)
  obtain ⟨c5, i5, h5⟩ := u_known (C := RX5) (T := TX5) (N := 5) (n := 5) hT inlX5 (hT _ mw_1_115)
  obtain ⟨c6, i6, h6⟩ := u_known (C := RX6) (T := TX6) (N := 3) (n := 3) hT inlX6 (hT _ mw_1_63)
  obtain ⟨c7, i7, h7⟩ := u_known (C := RX7) (T := TX7) (N := 5) (n := 5) hT inlX7 (hT _ mw_1_102)
  obtain ⟨c8, i8, h8⟩ := u_known (C := RX8) (T := TX8) (N := 4) (n := 4) hT inlX8 (hT _ mw_1_182)
  obtain ⟨c9, i9, h9⟩ := u_known (C := RX9) (T := TX9) (N := 8) (n := 8) hT inlX9 (hT _ mw_1_20)
  obtain ⟨c10, i10, h10⟩ := u_known (C := RX10) (T := TX10) (N := 22) (n := 22) hT inlX10 (hT _ mw_4_132)
  obtain ⟨y0, a0, b0⟩ := arr_K (ty := .int) (fun _ h => by cases h) (hT _ mw_1_60)
  obtain ⟨y1, a1, b1⟩ := arr_K (ty := .long) (fun _ h => by cases h) (hT _ mw_1_61)
  obtain ⟨y2, a2, b2⟩ := arr_K (ty := .boolean) (fun _ h => by cases h) (hT _ mw_4_204)
  obtain ⟨y3, a3, b3⟩ := arr_Q (C := RX0) (hts _ (tm_1 (List.mem_of_getElem? (i := 108) rfl)))
  obtain ⟨y4, a4, b4⟩ := arr_Q (C := RX5) (hts _ (tm_1 (List.mem_of_getElem? (i := 188) rfl)))
  refine ⟨(fun k => if k = 0 then c0 else if k = 1 then c1 else if k = 2 then c2 else if k = 3 then c3 else if k = 4 then c4 else if k = 5 then c5 else if k = 6 then c6 else if k = 7 then c7 else if k = 8 then c8 else if k = 9 then c9 else c10, fun k => if k = 0 then i0 else if k = 1 then i1 else if k = 2 then i2 else if k = 3 then i3 else if k = 4 then i4 else if k = 5 then i5 else if k = 6 then i6 else if k = 7 then i7 else if k = 8 then i8 else if k = 9 then i9 else i10), fun k => if k = 0 then y0 else if k = 1 then y1 else if k = 2 then y2 else if k = 3 then y3 else y4, ⟨fun k q hq => ?_, fun k q hq => ?_⟩, fun w hw => ?_⟩
  · match k, hq with
    | 0, hq => cases hq; exact h0
    | 1, hq => cases hq; exact h1
    | 2, hq => cases hq; exact h2
    | 3, hq => cases hq; exact h3
    | 4, hq => cases hq; exact h4
    | 5, hq => cases hq; exact h5
    | 6, hq => cases hq; exact h6
    | 7, hq => cases hq; exact h7
    | 8, hq => cases hq; exact h8
    | 9, hq => cases hq; exact h9
    | 10, hq => cases hq; exact h10
    | k + 11, hq => cases hq
  · match k, hq with
    | 0, hq => cases hq; exact ⟨a0, b0⟩
    | 1, hq => cases hq; exact ⟨a1, b1⟩
    | 2, hq => cases hq; exact ⟨a2, b2⟩
    | 3, hq => cases hq; exact ⟨a3, b3⟩
    | 4, hq => cases hq; exact ⟨a4, b4⟩
    | k + 5, hq => cases hq
  · obtain ⟨a, i, x, y, rfl⟩ := nest_form hw
    exact va_Nw.of rfl (hts _ (nestW_in _ hw))
theorem law_kI (C0 : lw_At p s m meth c b L xs) : kI s := by
  have hts := C0.2.2.2.2.2.1
  refine ⟨fun w hw => ?_, va_AO.of (hts _ (tm_1 (List.mem_of_getElem? (i := 108) rfl))), va_AO.of (hts _ (tm_1 (List.mem_of_getElem? (i := 188) rfl)))⟩
  obtain ⟨a, i, x, y, rfl⟩ := nestI_form hw
  exact va_Nw.of rfl (hts _ (nestI_in _ hw))
theorem law_kX (C0 : lw_At p s m meth c b L xs) {AC : Nat → Prop} (hA : ∀ q, AC q → s.heap.size ≤ q) : kX AC s := by
  have hts := C0.2.2.2.2.2.1
  have hs := flat_of_before _ C0.2.2.2.2.2.2.2.2.2
  have hN : ∀ a : Nat, a < s.heap.size → ¬ AC a := fun a h1 h2 => absurd h1 (Nat.not_lt.mpr (hA a h2))
  refine ⟨fun w hw => ot_warm (nsX_g hw) (State.WarmedH.refl s) (hts w (nsX_in hw)), ⟨str_R (hts _ (tm_4 (List.mem_of_getElem? (i := 82) rfl))) (hs _ (by decide +kernel)), str_R (hts _ (tm_4 (List.mem_of_getElem? (i := 116) rfl))) (hs _ (by decide +kernel)), str_R (hts _ (tm_4 (List.mem_of_getElem? (i := 129) rfl))) (hs _ (by decide +kernel)), str_R (hts _ (tm_4 (List.mem_of_getElem? (i := 130) rfl))) (hs _ (by decide +kernel))⟩, ?_, ?_⟩
  · exact vx_Zqof (args := #[Value.ref b]) (hts _ (tm_4 (List.mem_of_getElem? (i := 70) rfl))) (hts _ (tm_1 (List.mem_of_getElem? (i := 14) rfl))) (hs _ (by decide +kernel)) hN
  · exact vx_Zqof (args := #[Value.ref b]) (hts _ (tm_4 (List.mem_of_getElem? (i := 72) rfl))) (hts _ (tm_1 (List.mem_of_getElem? (i := 14) rfl))) (hs _ (by decide +kernel)) hN
end
def S0 : SS := ((0, 0, 0), (fun _ => 0), (fun _ => 0), (fun _ => none), (fun _ => 0), (fun _ => false), (fun _ _ => false), (fun _ _ => none), (fun _ => 0), ((fun _ => false), (fun _ => false), (fun _ => [])), [])
theorem zI_0 {k : Nat} (h : k < 9 ∨ 14 ≤ k) : zI k = 0 := by unfold zI; rw [if_neg (by omega)]
theorem wf_0 : wf S0 := by
  have wl : wfl S0 (se S0) := ⟨fun c h => (nomatch h), fun a h => (nomatch h), fun a h => absurd rfl h, fun a => Nat.zero_le _⟩
  refine ⟨⟨Nat.zero_le _, Nat.zero_le _, Nat.zero_le _⟩, fun a h => absurd h (Nat.not_lt_zero a), fun c h => absurd h (Nat.not_lt_zero c), fun d h => absurd h (Nat.not_lt_zero d), fun d h => (nomatch h), fun d c h => (nomatch h), fun d a v h => (nomatch h), fun i h => absurd h (Nat.not_lt_zero i), fun i j _ h => absurd h (Nat.not_lt_zero j), fun d h => (nomatch h), wl, fun sl h => absurd h List.not_mem_nil, Nat.zero_le _⟩
theorem RC_0 : RC S0 zI zL zA zB := by
  refine ⟨⟨zI_0 (by omega), fun c h => absurd h (Nat.not_lt_zero c), fun c h => absurd h (Nat.not_lt_zero c), fun c h => absurd h (Nat.not_lt_zero c), fun c h => absurd h (Nat.not_lt_zero c), fun c h => absurd h (Nat.not_lt_zero c), fun c _ _ => ⟨rfl, rfl, rfl⟩⟩, ⟨zI_0 (by omega), bm_0 (fun _ _ => rfl), zI_0 (by omega), fun i h => absurd h (Nat.not_lt_zero i), fun d h => absurd h (Nat.not_lt_zero d)⟩, ⟨zI_0 (by omega), fun a h => absurd h (Nat.not_lt_zero a), fun a _ => bm_0 (fun _ _ => rfl), fun a d v _ _ h => (nomatch h), fun a h => ⟨bm_0 (fun _ _ => Bool.and_false _), zI_0 (by omega), zI_0 (by omega), fun j h => absurd h (Nat.not_lt_zero j)⟩⟩, ⟨zI_0 (by omega), 0, by decide, zI_0 (by omega), fun k sl h => (nomatch h)⟩, fun a h => absurd h (Nat.not_lt_zero a)⟩
theorem RM_0 : RM S0 (fun _ => 0) (fun _ _ => 0) := by
  refine ⟨⟨rfl, rfl, rfl, rfl⟩, fun a h => absurd h (Nat.not_lt_zero a), fun c h => absurd h (Nat.not_lt_zero c), fun c h => absurd h (Nat.not_lt_zero c), fun d h => absurd h (Nat.not_lt_zero d), fun d _ => rfl, fun d c _ _ => rfl, fun d a _ _ => rfl, fun d a v _ _ h => (nomatch h), fun d c _ _ => rfl, ⟨fun c _ => rfl, fun a _ => rfl, fun a _ => rfl, fun a _ j h => absurd h (Nat.not_lt_zero j)⟩, fun k sl h => (nomatch h)⟩
theorem LSt_0 : LSt zI zL zA zB (fun _ => 0) (fun _ _ => 0) := ⟨S0, RC_0, RM_0, wf_0⟩
