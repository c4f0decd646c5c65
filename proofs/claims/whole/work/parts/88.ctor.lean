-- constructors
theorem ra_uq {U : State} {a b : ClassId} {ty : FieldType} (h1 : va_RA U a ty) (h2 : va_RA U b ty) : a = b := by
  cases ty with
  | object C =>
    obtain ⟨_, _, _, _, _, h1⟩ := h1
    obtain ⟨_, _, _, _, _, h2⟩ := h2
    exact Option.some.inj (h1.symm.trans h2)
  | _ => exact Option.some.inj (Eq.trans (Eq.symm h1) h2)
theorem cy_uq {D : va_G} {cy : Nat → ClassId} {s : State} {cA : ClassId} {ty : FieldType} (t : Nat) (h : va_K D vwCl (tysA cy ++ [(cA, ty)]) s) (ht : (tysA cy ++ [(cA, ty)])[t]? = some (cy t, ty)) : cA = cy t := ra_uq (h.2 5 (cA, ty) rfl).2 (h.2 t (cy t, ty) ht).2
def nestI : List Cond := [.methodLinkNest RX9 9 yX2_init RX9, .methodLinkNest RX9 18 yX6_init RX9, .methodLinkNest RX7 29 yX0_init RX9, .methodLinkNest RX0 17 yX5_init RX9, .methodLinkNest RX8 21 yX5_init RX9, .methodLinkNest RX9 57 yX5_init RX9, .methodLinkNest RX9 64 yX1_init RX9]
def kI (U : State) : Prop := (∀ w ∈ nestI, va_Nw w U) ∧ va_AO RX0 U ∧ va_AO RX5 U
theorem nestI_form {w : Cond} (h : w ∈ nestI) : ∃ a i x h, w = .methodLinkNest a i x h := by
  simp only [nestI, List.mem_cons, List.not_mem_nil, or_false] at h
  rcases h with rfl | rfl | rfl | rfl | rfl | rfl | rfl <;> exact ⟨_, _, _, _, rfl⟩
theorem kI.warm {s U : State} (hW : s.WarmedH U.vm) (h : kI s) : kI U := ⟨fun w hw => by
  obtain ⟨a, i, x, y, rfl⟩ := nestI_form hw
  exact va_Nw.warmM hW (h.1 _ hw), va_AO.moved hW.alike h.2.1, va_AO.moved hW.alike h.2.2⟩
theorem kI.calling {U : State} {g : JFrame} {mk : MethodId} {a : Array Value} (h : kI U) : kI (U.calling g mk a) := kI.warm (U := U.calling g mk a) (State.WarmedH.refl U) h
def nAd (h0 sz : Nat) : Nat → Prop := fun q => q = h0 ∨ sz ≤ q
def CtorMet (l : Launch) (y : MethodName) (bytes : ByteArray) (maxL : Nat) (rm : Room) (D : va_G) (cy : Nat → ClassId) (ci : Nat) (fs0 : List Value) (As : List Value) (WK : Nat → (Nat → Nat) → va_W) (mc ms : Nat) : Prop := ∀ (h0 sz : Nat), Met l y (.code y bytes maxL none :: BW) rm (va_Pc (.ref h0 :: As) (fun U => U.heap.size = sz ∧ kC D cy U ∧ kI U ∧ va_P D vwCl [(h0, .inr (ci, fs0))] U.heap)) (va_Qv (fun _ : Nat → Nat => True) (fun u (t : State) => va_P D vwCl (WK h0 u) t.heap ∧ va_D (nAd h0 sz) (WK h0 u)) (nAd h0 sz)) mc ms (nAd h0 sz)
theorem sing_D {h0 sz : Nat} {e : va_E} : va_D (nAd h0 sz) [(h0, e)] := by
  refine ⟨fun i j p q hp hq _ => ?_, fun k q hq => ?_⟩
  · have := (List.getElem?_eq_some_iff.mp hp).1
    have := (List.getElem?_eq_some_iff.mp hq).1
    simp at *
    omega
  · cases k with
    | zero => cases hq; exact Or.inl rfl
    | succ k => cases hq
theorem joinL {A0 : Nat → Prop} {D : va_G} {ws w1 : va_W} {q : Nat} {e : va_E} {H H1 : Heap} (hP : va_P D vwCl (ws ++ [(q, e)]) H) (hD : va_D A0 (ws ++ [(q, e)])) (hk : ∀ x : Nat, x < H.size → ¬ nAd q H.size x → H1[x]? = H[x]?) (hA : ∀ x, nAd q H.size x → A0 x) (hP1 : va_P D vwCl w1 H1) (hD1 : va_D (nAd q H.size) w1) : va_P D vwCl (ws ++ w1) H1 ∧ va_D A0 (ws ++ w1) := by
  have hl : ∀ {k : Nat} {x : Nat × va_E}, ws[k]? = some x → (ws ++ [(q, e)])[k]? = some x := fun {k x} h => by
    rw [List.getElem?_append_left (List.getElem?_eq_some_iff.mp h).1]; exact h
  have hq : (ws ++ [(q, e)])[ws.length]? = some (q, e) := by simp
  have hw : va_P D vwCl ws H := fun k x h => hP k x (hl h)
  have hn : ∀ {k : Nat} {x : Nat × va_E}, ws[k]? = some x → x.1 < H.size ∧ ¬ nAd q H.size x.1 := fun {k x} h => by
    have h1 := (hw k x h).lt
    refine ⟨h1, fun h2 => ?_⟩
    rcases h2 with h2 | h2
    · have h3 := hD.1 k ws.length x (q, e) (hl h) hq h2
      have h4 := (List.getElem?_eq_some_iff.mp h).1
      omega
    · omega
  refine ⟨(hw.kept (fun k x h => hk x.1 (hn h).1 (hn h).2)).app hP1, fun i j p x hp hx ee => ?_, fun k x hx => ?_⟩
  · by_cases hi : i < ws.length
    · rw [List.getElem?_append_left hi] at hp
      by_cases hj : j < ws.length
      · rw [List.getElem?_append_left hj] at hx
        exact hD.1 i j p x (hl hp) (hl hx) ee
      · rw [List.getElem?_append_right (by omega)] at hx
        exact absurd (hD1.2 _ x hx) (by rw [← ee]; exact (hn hp).2)
    · rw [List.getElem?_append_right (by omega)] at hp
      by_cases hj : j < ws.length
      · rw [List.getElem?_append_left hj] at hx
        exact absurd (hD1.2 _ p hp) (by rw [ee]; exact (hn hx).2)
      · rw [List.getElem?_append_right (by omega)] at hx
        have := hD1.1 _ _ p x hp hx ee
        omega
  · by_cases hi : k < ws.length
    · rw [List.getElem?_append_left hi] at hx
      exact hD.2 k x (hl hx)
    · rw [List.getElem?_append_right (by omega)] at hx
      exact hA _ (hD1.2 _ x hx)
section
variable {p : Program} {l : Launch} {e : Env} {R : Room} {s : State} {m : MethodId} {args : Array Value} {below : List Frame} {meth : Method} {c : Code} {H : Heap} {locs : List Loc} {cells slots : Nat} {Q : State → Prop}
variable {cc : ByteArray} {pc idx : Nat} {ls : Array Slot} {rest : List Value} {H0 : Heap} {own : String} {D : va_G} {cy : Nat → ClassId} {A : Nat → Prop} {ws : va_W}
theorem nw_I (hx : p.tables.exec = Jvm.exec) (hb : c.code = cc) (hT : ∀ w ∈ BW, w.before args s = true) (hK : kC D cy s) (hP : va_P D vwCl ws H) (hD : va_D A ws) (hS : va_S A H0 H locs) (hA : ∀ q, H0.size ≤ q → A q) {n : Int32} {N : Nat} (hn : ¬ n < 0) (hN : n.toNatClampNeg = N) (hby : N * componentBytes .int ≤ 536870912) (hc : cells + 1 ≤ R.cells) (hs : slots + N ≤ R.slots) (hdg : decode cc pc = .ok (.newarray .int, 2)) (kk : ∀ (q : Nat) (H1 : Heap), va_P D vwCl (ws ++ [(q, .inl (cy 0, N, .inl (fun _ => 0)))]) H1 → va_D A (ws ++ [(q, .inl (cy 0, N, .inl (fun _ => 0)))]) → va_S A H0 H1 locs → W p l e R s m args below meth c H1 locs (cells + 1) (slots + N) Q (F0 m (pc + 2) ls (.ref q :: rest))) : W p l e R s m args below meth c H locs cells slots Q (F0 m pc ls (.int n :: rest)) :=
  va_newa (atype := .int) (ty := .int) (a0 := (N, .inl (fun _ => 0))) hx hb (hT _ mw_1_60) rfl hK.1 hP hD hS hA (fun _ => rfl) hn hN hby hc hs hdg (fun q cA H1 hK1 hP1 hD1 hS1 => by
    obtain rfl := cy_uq 0 hK1 rfl
    exact kk q H1 hP1 hD1 hS1)
theorem nw_J (hx : p.tables.exec = Jvm.exec) (hb : c.code = cc) (hT : ∀ w ∈ BW, w.before args s = true) (hK : kC D cy s) (hP : va_P D vwCl ws H) (hD : va_D A ws) (hS : va_S A H0 H locs) (hA : ∀ q, H0.size ≤ q → A q) {n : Int32} {N : Nat} (hn : ¬ n < 0) (hN : n.toNatClampNeg = N) (hby : N * componentBytes .long ≤ 536870912) (hc : cells + 1 ≤ R.cells) (hs : slots + N ≤ R.slots) (hdg : decode cc pc = .ok (.newarray .long, 2)) (kk : ∀ (q : Nat) (H1 : Heap), va_P D vwCl (ws ++ [(q, .inl (cy 1, N, .inr (.inl (fun _ => 0))))]) H1 → va_D A (ws ++ [(q, .inl (cy 1, N, .inr (.inl (fun _ => 0))))]) → va_S A H0 H1 locs → W p l e R s m args below meth c H1 locs (cells + 1) (slots + N) Q (F0 m (pc + 2) ls (.ref q :: rest))) : W p l e R s m args below meth c H locs cells slots Q (F0 m pc ls (.int n :: rest)) :=
  va_newa (atype := .long) (ty := .long) (a0 := (N, .inr (.inl (fun _ => 0)))) hx hb (hT _ mw_1_61) rfl hK.1 hP hD hS hA (fun _ => rfl) hn hN hby hc hs hdg (fun q cA H1 hK1 hP1 hD1 hS1 => by
    obtain rfl := cy_uq 1 hK1 rfl
    exact kk q H1 hP1 hD1 hS1)
theorem nw_Z (hx : p.tables.exec = Jvm.exec) (hb : c.code = cc) (hT : ∀ w ∈ BW, w.before args s = true) (hK : kC D cy s) (hP : va_P D vwCl ws H) (hD : va_D A ws) (hS : va_S A H0 H locs) (hA : ∀ q, H0.size ≤ q → A q) {n : Int32} {N : Nat} (hn : ¬ n < 0) (hN : n.toNatClampNeg = N) (hby : N * componentBytes .boolean ≤ 536870912) (hc : cells + 1 ≤ R.cells) (hs : slots + N ≤ R.slots) (hdg : decode cc pc = .ok (.newarray .boolean, 2)) (kk : ∀ (q : Nat) (H1 : Heap), va_P D vwCl (ws ++ [(q, .inl (cy 2, N, .inl (fun _ => 0)))]) H1 → va_D A (ws ++ [(q, .inl (cy 2, N, .inl (fun _ => 0)))]) → va_S A H0 H1 locs → W p l e R s m args below meth c H1 locs (cells + 1) (slots + N) Q (F0 m (pc + 2) ls (.ref q :: rest))) : W p l e R s m args below meth c H locs cells slots Q (F0 m pc ls (.int n :: rest)) :=
  va_newa (atype := .boolean) (ty := .boolean) (a0 := (N, .inl (fun _ => 0))) hx hb (hT _ mw_4_204) rfl hK.1 hP hD hS hA (fun _ => rfl) hn hN hby hc hs hdg (fun q cA H1 hK1 hP1 hD1 hS1 => by
    obtain rfl := cy_uq 2 hK1 rfl
    exact kk q H1 hP1 hD1 hS1)
theorem nw_Q {C : String} (t : Nat) (hx : p.tables.exec = Jvm.exec) (hb : c.code = cc) (hown : s.vm.findClass own = some m.cls) (hcl : (Cond.classLink own idx C).before args s = true) (ho : va_AO C s) (hK : kC D cy s) (ht : ∀ cA : ClassId, (tysA cy ++ [(cA, .object C)])[t]? = some (cy t, .object C)) (hP : va_P D vwCl ws H) (hD : va_D A ws) (hS : va_S A H0 H locs) (hA : ∀ q, H0.size ≤ q → A q) {n : Int32} {N : Nat} (hn : ¬ n < 0) (hN : n.toNatClampNeg = N) (hby : N * 4 ≤ 536870912) (hc : cells + 1 ≤ R.cells) (hs : slots + N ≤ R.slots) (hdg : decode cc pc = .ok (.anewarray idx, 3)) (kk : ∀ (q : Nat) (H1 : Heap), va_P D vwCl (ws ++ [(q, .inl (cy t, N, .inr (.inr (.inr (.inr (fun _ => none))))))]) H1 → va_D A (ws ++ [(q, .inl (cy t, N, .inr (.inr (.inr (.inr (fun _ => none))))))]) → va_S A H0 H1 locs → W p l e R s m args below meth c H1 locs (cells + 1) (slots + N) Q (F0 m (pc + 3) ls (.ref q :: rest))) : W p l e R s m args below meth c H locs cells slots Q (F0 m pc ls (.int n :: rest)) :=
  va_newq hx hb hown hcl ho hK.1 hP hD hS hA hn hN hby hc hs hdg (fun q cA H1 hK1 hP1 hD1 hS1 => by
    obtain rfl := cy_uq t hK1 (ht cA)
    exact kk q H1 hP1 hD1 hS1)
theorem xo_code : Cond.code objectInit ⟨#[0xb1]⟩ 1 none ∈ BW := bw_1 (List.mem_of_getElem? (i := 26) rfl) rfl
variable {y : MethodName} {bytes : ByteArray} {maxL nL n mc ms ci q : Nat} {rm : Room} {fs0 As : List Value} {WK : Nat → (Nat → Nat) → va_W} {st0 : List Value}
theorem ctorI (hM : CtorMet l y bytes maxL rm D cy ci fs0 As WK mc ms) (hx : p.tables.exec = Jvm.exec) (hb : c.code = cc) (hml : c.maxLocals = nL) (hT : ∀ w ∈ BW, w.before args s = true) (hown : s.vm.findClass own = some m.cls) (hK : kC D cy s) (hI : kI s) (hP : va_P D vwCl (ws ++ [(q, .inr (ci, fs0))]) H) (hD : va_D A (ws ++ [(q, .inr (ci, fs0))])) (hS : va_S A H0 H locs) (hA : ∀ q, H0.size ≤ q → A q) (hw1 : Cond.methodLink own idx y ∈ BW) (hw : Cond.instanceMethod y ∈ BW ∧ Cond.initialized y.cls ∈ BW ∧ Cond.code y bytes maxL none ∈ BW) (hy : y.name = "<init>") (hd : y.cls ≠ "java/lang/invoke/MethodHandle" ∧ y.cls ≠ "java/lang/invoke/VarHandle" ∧ (parseMethodDescriptor y.desc).map (fun d => d.parameters.length) = some n) (hrc : rm.cells = mc ∧ rm.slots = ms) (hR : rm.frames + 1 ≤ R.frames ∧ 8 + (maxL + 11) + rm.locals ≤ R.locals) (hn : As.length = n) (hsz : ls.size = nL) (hst : st0 = As.reverse ++ .ref q :: rest) (hrm : (rest.map fun v => v.category).sum ≤ 8) (hdg : decode cc pc = .ok (.invokespecial idx, 3)) (hcs : cells + mc ≤ R.cells ∧ slots + ms ≤ R.slots)
    (kk : ∀ (u : Nat → Nat) (H1 : Heap) (locs1 : List Loc), va_P D vwCl (ws ++ WK q u) H1 → va_D A (ws ++ WK q u) → va_S A H0 H1 locs1 → W p l e R s m args below meth c H1 locs1 (cells + mc) (slots + ms) Q (F0 m (pc + 3) ls rest)) : W p l e R s m args below meth c H locs cells slots Q (F0 m pc ls st0) := by
  have hq : (ws ++ [(q, Sum.inr (ci, fs0))])[ws.length]? = some (q, (Sum.inr (ci, fs0) : va_E)) := by simp
  have hAq : ∀ x, nAd q H.size x → A x := fun x h => h.elim (fun h => by rw [h]; exact hD.2 _ _ hq) (fun h => hA x (Nat.le_trans hS.1 h))
  have hPc : va_P D vwCl [(q, .inr (ci, fs0))] H := fun k x hx => by
    cases k with
    | zero => cases hx; exact hP _ _ hq
    | succ k => cases hx
  refine va_callv (va_runI (As := As) (rest := rest) (b := q) ⟨hx, hb, hml, hown, hT⟩ (hM q H.size) (cwI n hT (bw_code hw.2.2) rfl hrc.1 hrc.2 (hT _ hw.2.1) (hT _ hw1) (hT _ hw.1) hy hd hR) ⟨fun a U g mk q => ⟨q.1, q.2.1, q.2.2.1.calling, q.2.2.2.1.calling, q.2.2.2.2⟩, fun U hU hW => ⟨rfl, by rw [hU], hK.warm hW, hI.warm hW, by rw [hU]; exact hPc⟩⟩ rfl hn hsz hst (lv_room hrm) hdg hcs) hS (fun x _ h => hAq x h) hAq (fun u t H1 locs1 ht hvm hw hB hz1 hk1 hS1 => ?_)
  subst ht
  obtain ⟨h1, h2⟩ := joinL hP hD hk1 hAq hB.1 hB.2
  exact kk u _ locs1 h1 h2 hS1
theorem ctorN (hM : CtorMet l y bytes maxL rm D cy ci fs0 As WK mc ms) (hx : p.tables.exec = Jvm.exec) (hb : c.code = cc) (hml : c.maxLocals = nL) (hT : ∀ w ∈ BW, w.before args s = true) (hown : s.vm.findClass own = some m.cls) (hK : kC D cy s) (hI : kI s) (hP : va_P D vwCl (ws ++ [(q, .inr (ci, fs0))]) H) (hD : va_D A (ws ++ [(q, .inr (ci, fs0))])) (hS : va_S A H0 H locs) (hA : ∀ q, H0.size ≤ q → A q) (hw1 : Cond.methodLinkNest own idx y RX9 ∈ nestI) (hw : Cond.instanceMethod y ∈ BW ∧ Cond.initialized y.cls ∈ BW ∧ Cond.code y bytes maxL none ∈ BW) (hy : y.name = "<init>") (hd : y.cls ≠ "java/lang/invoke/MethodHandle" ∧ y.cls ≠ "java/lang/invoke/VarHandle" ∧ (parseMethodDescriptor y.desc).map (fun d => d.parameters.length) = some n) (hrc : rm.cells = mc ∧ rm.slots = ms) (hR : rm.frames + 1 ≤ R.frames ∧ 8 + (maxL + 11) + rm.locals ≤ R.locals) (hn : As.length = n) (hsz : ls.size = nL) (hst : st0 = As.reverse ++ .ref q :: rest) (hrm : (rest.map fun v => v.category).sum ≤ 8) (hdg : decode cc pc = .ok (.invokespecial idx, 3)) (hcs : cells + mc ≤ R.cells ∧ slots + ms ≤ R.slots)
    (kk : ∀ (u : Nat → Nat) (H1 : Heap) (locs1 : List Loc), va_P D vwCl (ws ++ WK q u) H1 → va_D A (ws ++ WK q u) → va_S A H0 H1 locs1 → W p l e R s m args below meth c H1 locs1 (cells + mc) (slots + ms) Q (F0 m (pc + 3) ls rest)) : W p l e R s m args below meth c H locs cells slots Q (F0 m pc ls st0) := by
  have hq : (ws ++ [(q, Sum.inr (ci, fs0))])[ws.length]? = some (q, (Sum.inr (ci, fs0) : va_E)) := by simp
  have hAq : ∀ x, nAd q H.size x → A x := fun x h => h.elim (fun h => by rw [h]; exact hD.2 _ _ hq) (fun h => hA x (Nat.le_trans hS.1 h))
  have hPc : va_P D vwCl [(q, .inr (ci, fs0))] H := fun k x hx => by
    cases k with
    | zero => cases hx; exact hP _ _ hq
    | succ k => cases hx
  refine va_callv (va_runIN (As := As) (rest := rest) (b := q) (host := RX9) ⟨hx, hb, hml, hown, hT⟩ (hM q H.size) ⟨va_cnB n hT (bw_code hw.2.2) rfl hrc.1 hrc.2 (hI.1 _ hw1) (hT _ hw.2.1) hd hR, hy, hT _ hw.1⟩ ⟨fun a U g mk q => ⟨q.1, q.2.1, q.2.2.1.calling, q.2.2.2.1.calling, q.2.2.2.2⟩, fun U hU hW => ⟨rfl, by rw [hU], hK.warm hW, hI.warm hW, by rw [hU]; exact hPc⟩⟩ rfl hn hsz hst (lv_room hrm) hdg hcs) hS (fun x _ h => hAq x h) hAq (fun u t H1 locs1 ht hvm hw hB hz1 hk1 hS1 => ?_)
  subst ht
  obtain ⟨h1, h2⟩ := joinL hP hD hk1 hAq hB.1 hB.2
  exact kk u _ locs1 h1 h2 hS1
end
theorem startK {l : Launch} {D : va_G} {cy : Nat → ClassId} {y : MethodName} {cc : ByteArray} {maxL ci mc ms : Nat} {rm : Room} {fs0 As : List Value} {WK : Nat → (Nat → Nat) → va_W} (hy : plainName y.cls = true) (hnm : y.name = "<init>") (hn : ∀ h0 : Nat, (lg_sl (.ref h0 :: As)).length ≤ maxL)
    (body : ∀ (p : Program) (e : Env) (s : State) (m : MethodId) (args : Array Value) (below : List Frame) (meth : Method) (c : Code) (Q : State → Prop) (ls : Array Slot) (h0 : Nat), p.tables.exec = Jvm.exec → c.code = cc → c.maxLocals = maxL → (∀ w ∈ BW, w.before args s = true) → s.vm.findClass y.cls = some m.cls → meth.name = "<init>" → kC D cy s → kI s →
      (∀ {pc : Nat} {ls : Array Slot} {H : Heap} {locs : List Loc} (u : Nat → Nat), decode cc pc = .ok (.return_, 1) → va_P D vwCl (WK h0 u) H → va_D (nAd h0 s.heap.size) (WK h0 u) → va_S (nAd h0 s.heap.size) s.heap H locs → W p l e rm s m args below meth c H locs mc ms Q (F0 m pc ls [])) →
      lv_has ls maxL (lv_args 0 (.ref h0 :: As)) → va_P D vwCl [(h0, .inr (ci, fs0))] s.heap → va_D (nAd h0 s.heap.size) [(h0, .inr (ci, fs0))] → va_S (nAd h0 s.heap.size) s.heap s.heap [] → (∀ q, s.heap.size ≤ q → nAd h0 s.heap.size q) → W p l e rm s m args below meth c s.heap [] 0 0 Q (F0 m 0 ls [])) : CtorMet l y cc maxL rm D cy ci fs0 As WK mc ms := by
  intro h0 sz
  refine Met.ofW (cc := cc) (maxL := maxL) (ret := none) hy rfl ?_
  intro p e s m args below meth c s₁ B9 hml hv
  obtain ⟨rfl, hsz, hK, hI, hP⟩ := hv
  subst hsz
  have hts := atoms_spec (ws := Cond.code y cc maxL none :: BW) B9.pre
  have hlocks := B9.notSynchronized
  have hr := B9.returns
  have hl := lv_entry (.ref h0 :: As) (n := maxL) (hn h0)
  rw [lg_entry_eq]
  refine body p e s m _ below meth c _ _ h0 B9.exec B9.bytes hml (fun w hw => hts w (List.mem_cons_of_mem _ hw)) (findClass_of_methodNamed B9.named) ((name_of_methodNamed B9.named B9.method).1.trans hnm) hK hI ?_ hl hP sing_D va_S.rf (fun q h => Or.inr h)
  intro pc ls H locs u hd hP1 hD1 hS1
  exact W.vret B9.exec B9.bytes hr (fun t ht hW => ⟨⟨u, rfl, trivial, by show va_P _ _ _ t.heap ∧ _; rw [ht]; exact ⟨hP1, hD1⟩⟩, hS1.F ht⟩) hS1.2.2 hd
