theorem ot_warm {w : Cond} {s U : State} {a a' : Array Value} (hg : goodWord w = true ∨ (w.onTables = true ∧ w.faceAtom = true)) (hW : s.WarmedH U.vm) (h : w.before a s = true) : w.before a' U = true := by
  rcases hg with hg | ⟨h1, h2⟩
  · exact word_at hW (good_of_word hg) h
  · exact va_tabs h1 (show (s.setVm U.vm).vm = U.vm from rfl) (Cond.faceAtom_setVm hW.alike w h2 h)
def nsX : List Cond := Cond.classLink RX9 227 nsN :: Cond.initialized nsN :: (nsW RX9 231).filter vx_no
theorem nsX_ot : ∀ w ∈ nsX, vx_ot w = true := by decide +kernel
theorem nsX_ok : ∀ w ∈ nsX, (goodWord w || (w.onTables && w.faceAtom)) = true := by decide +kernel
/-- what a throw needs of a state -/
def kX (A : Nat → Prop) (U : State) : Prop := (∀ w ∈ nsX, w.before #[] U = true) ∧ ((∃ a, vk_R RX9 229 "no number" a U) ∧ (∃ a, vk_R RX9 265 "no such bin" a U) ∧ (∃ a, vk_R RX9 287 "no such figure" a U) ∧ ∃ a, vk_R RX9 289 "no hit has a number there" a U) ∧ vx_Zq Bundle.tN "UNASSIGNED_STACK" Bundle.steD A U U.heap ∧ vx_Zq Bundle.tN "SUPPRESSED_SENTINEL" Bundle.listD A U U.heap
theorem nsX_g {w : Cond} (h : w ∈ nsX) : goodWord w = true ∨ (w.onTables = true ∧ w.faceAtom = true) := by
  have := nsX_ok w h
  simp only [Bool.or_eq_true, Bool.and_eq_true] at this
  exact this
theorem kX.to {A : Nat → Prop} {s U : State} (hW : s.WarmedH U.vm) (hh : ∀ q : Nat, q < s.heap.size → ¬ A q → U.heap[q]? = s.heap[q]?) (h : kX A s) : kX A U := by
  obtain ⟨h1, ⟨⟨a1, h2⟩, ⟨a2, h3⟩, ⟨a3, h4⟩, ⟨a4, h5⟩⟩, h6, h7⟩ := h
  exact ⟨fun w hw => ot_warm (nsX_g hw) hW (h1 w hw), ⟨⟨a1, vk_R.warm hW h2⟩, ⟨a2, vk_R.warm hW h3⟩, ⟨a3, vk_R.warm hW h4⟩, ⟨a4, vk_R.warm hW h5⟩⟩, vx_Zq.moved hW.alike (h6.kept hh), vx_Zq.moved hW.alike (h7.kept hh)⟩
theorem kX.calling {A : Nat → Prop} {U : State} {g : JFrame} {mk : MethodId} {a : Array Value} (h : kX A U) : kX A (U.calling g mk a) := kX.to (U := U.calling g mk a) (State.WarmedH.refl U) (fun _ _ _ => rfl) h
abbrev xC (D : va_G) (cy : Nat → ClassId) (ad : Nat → Nat) (Ad : Nat → Prop) (px : CS → Prop) : String → State → State → Prop := vx_X px (fun E (u : CS) (t : State) => E = nsN ∧ va_P D vwCl (wC cy ad u.1 u.2.1 u.2.2.1 u.2.2.2) t.heap) Ad
set_option maxHeartbeats 1000000 in
theorem startCx {l : Launch} {D : va_G} {cy : Nat → ClassId} {ad : Nat → Nat} {Ad : Nat → Prop} {y : MethodName} {cc : ByteArray} {maxL : Nat} {rm : Room} {av : List Value} {lv : List (Nat × Value)} {pp : Int32 → CS → Prop} {px : CS → Prop} {I : Nat → Int32} {L : Nat → Int64} {A : Nat → Nat → Int32} {B : Nat → Nat → Int64} (hlt : l.stackTraces = false) (hy : plainName y.cls = true) (hyc : y.cls = RX9) (hn : (lg_sl av).length ≤ maxL) (hfr : 5 < rm.frames) (hlo : 82 ≤ rm.locals) (hrc : 1 ≤ rm.cells) (hrs : 6 ≤ rm.slots) (hlv : lv_args 0 av = lv)
    (body : ∀ (p : Program) (e : Env) (s : State) (m : MethodId) (args : Array Value) (below : List Frame) (meth : Method) (c : Code) (Q : State → Prop) (ls : Array Slot), p.tables.exec = Jvm.exec → c.code = cc → c.maxLocals = maxL → (∀ w ∈ BW, w.before args s = true) → s.vm.findClass y.cls = some m.cls → kC D cy s →
      (∀ {pc : Nat} {ls : Array Slot} {H : Heap} {locs : List Loc} (v : Int32) (u : CS), decode cc pc = .ok (.ireturn, 1) → pp v u → va_P D vwCl (wC cy ad u.1 u.2.1 u.2.2.1 u.2.2.2) H → va_S Ad s.heap H locs → W p l e rm s m args below meth c H locs 0 0 Q (F0 m pc ls [.int v])) →
      (∀ {pc : Nat} {ls : Array Slot} {H : Heap} {locs : List Loc} {ix : Nat} {tx : String} (u : CS), decode cc pc = .ok (.new 227, 3) → decode cc (pc + 3) = .ok (.dup, 1) → decode cc (pc + 4) = .ok (.ldc ix, 2) → decode cc (pc + 6) = .ok (.invokespecial 231, 3) → decode cc (pc + 9) = .ok (.athrow, 1) → (∃ a, vk_R RX9 ix tx a s) → ls.size = maxL → px u → va_P D vwCl (wC cy ad u.1 u.2.1 u.2.2.1 u.2.2.2) H → va_S Ad s.heap H locs → W p l e rm s m args below meth c H locs 0 0 Q (F0 m pc ls [])) →
      (∀ {pc : Nat} {ls : Array Slot} {H : Heap} {locs : List Loc} {ix : Nat} {tx : String} (u : CS), decode cc pc = .ok (.new 227, 3) → decode cc (pc + 3) = .ok (.dup, 1) → decode cc (pc + 4) = .ok (.ldc_w ix, 3) → decode cc (pc + 7) = .ok (.invokespecial 231, 3) → decode cc (pc + 10) = .ok (.athrow, 1) → (∃ a, vk_R RX9 ix tx a s) → ls.size = maxL → px u → va_P D vwCl (wC cy ad u.1 u.2.1 u.2.2.1 u.2.2.2) H → va_S Ad s.heap H locs → W p l e rm s m args below meth c H locs 0 0 Q (F0 m pc ls [])) →
      ((∃ a, vk_R RX9 229 "no number" a s) ∧ (∃ a, vk_R RX9 265 "no such bin" a s) ∧ (∃ a, vk_R RX9 287 "no such figure" a s) ∧ ∃ a, vk_R RX9 289 "no hit has a number there" a s) →
      lv_has ls maxL lv → va_P D vwCl (wC cy ad I L A B) s.heap → va_S Ad s.heap s.heap [] → W p l e rm s m args below meth c s.heap [] 0 0 Q (F0 m 0 ls [])) :
    vx_Met l y (Cond.code y cc maxL (some .int) :: BW) rm (va_Pc av (fun U => kC D cy U ∧ va_P D vwCl (wC cy ad I L A B) U.heap ∧ kX Ad U)) (qCi D cy ad Ad pp) (xC D cy ad Ad px) 1 6 Ad := by
  refine vx_ofW (cc := cc) (maxL := maxL) (ret := some .int) hy rfl ?_
  intro p e s m args below meth c s₁ B9 hml htab hv
  obtain ⟨rfl, hK, hP, hX⟩ := hv
  have hts := atoms_spec (ws := Cond.code y cc maxL (some .int) :: BW) B9.pre
  have hlocks := B9.notSynchronized
  have hr := B9.returns
  have hown := findClass_of_methodNamed B9.named
  have hown9 : s.vm.findClass RX9 = some m.cls := by rw [← hyc]; exact hown
  have hl := lv_entry av (n := maxL) hn
  rw [lg_entry_eq]
  rw [hlv] at hl
  have hw : ∀ w ∈ nsX, w.before av.toArray s = true := fun w hw => ot_warm (nsX_g hw) (State.WarmedH.refl s) (hX.1 w hw)
  have fin : ∀ {H : Heap} {locs : List Loc} (u : CS), px u → va_P D vwCl (wC cy ad u.1 u.2.1 u.2.2.1 u.2.2.2) H → va_S Ad s.heap H locs → ∀ t : State, s.vm.Alike t.vm → H.size ≤ t.heap.size → (∀ q : Nat, q < H.size → t.heap[q]? = H[q]?) → xC D cy ad Ad px nsN s t := fun u hpx hP1 hS1 t _ h1 h2 => ⟨u, hpx, ⟨rfl, hP1.kept (fun k q hk => h2 q.1 ((hP1 k q hk).lt))⟩, Nat.le_trans hS1.1 h1, fun q h3 h4 => by rw [h2 q (Nat.lt_of_lt_of_le h3 hS1.1)]; exact hS1.2.1 q h3 h4⟩
  refine body p e s m av.toArray below meth c _ _ B9.exec B9.bytes hml (fun w hw => hts w (List.mem_cons_of_mem _ hw)) hown hK ?_ ?_ ?_ hX.2.1 hl hP va_S.rf
  · intro pc ls H locs v u hd hp hP1 hS1
    exact vx_ret (W.widen (k := 1) (n := 6) (Nat.zero_le _) (Nat.zero_le _) (W.iret B9.exec B9.bytes hr (fun t ht hW => ⟨⟨v, u, rfl, hp, by show va_P _ _ _ t.heap; rw [ht]; exact hP1⟩, hS1.F ht⟩) hS1.2.2 hd))
  · intro pc ls H locs ix tx u d0 d3 d4 d6 d9 hstr hsz hpx hP1 hS1
    obtain ⟨sa, hstr⟩ := hstr
    exact ns_throwS (own := RX9) (text := tx) (ik := 227) (is := ix) (ic := 231) (sa := sa) (A := Ad) B9.exec B9.bytes hlt hown9 (hw _ List.mem_cons_self) (hw _ (List.mem_cons_of_mem _ List.mem_cons_self)) hstr (fun w h9 => hw w (List.mem_cons_of_mem _ (List.mem_cons_of_mem _ h9))) nsX_ot hX.2.2.1 hX.2.2.2 hS1 (hsz.trans hml.symm) d0 d3 d4 d6 d9 (fun x h9 => (htab x h9).elim) hfr (by simpa using hlo) (by simpa using hrc) (by simpa using hrs) hlocks (fin u hpx hP1 hS1) hS1.2.2 (Nat.le_refl _) (Nat.le_refl _)
  · intro pc ls H locs ix tx u d0 d3 d4 d6 d9 hstr hsz hpx hP1 hS1
    obtain ⟨sa, hstr⟩ := hstr
    exact ns_throwSW (own := RX9) (text := tx) (ik := 227) (is := ix) (ic := 231) (sa := sa) (A := Ad) B9.exec B9.bytes hlt hown9 (hw _ List.mem_cons_self) (hw _ (List.mem_cons_of_mem _ List.mem_cons_self)) hstr (fun w h9 => hw w (List.mem_cons_of_mem _ (List.mem_cons_of_mem _ h9))) nsX_ot hX.2.2.1 hX.2.2.2 hS1 (hsz.trans hml.symm) d0 d3 d4 d6 d9 (fun x h9 => (htab x h9).elim) hfr (by simpa using hlo) (by simpa using hrc) (by simpa using hrs) hlocks (fin u hpx hP1 hS1) hS1.2.2 (Nat.le_refl _) (Nat.le_refl _)
