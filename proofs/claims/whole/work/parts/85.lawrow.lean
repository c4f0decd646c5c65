def R_law : String := "DrillCountLaw"
def lw_P (b : Addr) (xs : List Int32) (args : Array Value) (s : State) : Prop := args = #[.ref b] ∧ s.IntsAt b xs ∧ xs.length ≤ 2560 ∧ (Jvm.Cond.and given_1 narrow_1).before args s = true
def lw_Q (_ : Array Value) (s : State) (o : Outcome) (t : State) : Prop := o = .returned (some (.int 1)) ∧ Framed s o t [] 601024 7293034
def lw_Z (below : List Frame) (a : Array Value) (s : State) : State → Prop := fun t => ∃ o, t.status = .running ∧ Ended t below o ∧ lw_Q a s o t
/-- the law's own end, with 1 on the stack, nothing written that was there before, its room as the claim has it -/
theorem lw_ret {p : Program} {l : Launch} {e : Env} {s : State} {m : MethodId} {below : List Frame} {meth : Method} {c : Code} {b : Nat} (hx : p.tables.exec = Jvm.exec) (hb : c.code = code) (hr : meth.sig.returnType = ret) (hlocks : meth.locks = false) {pc : Nat} {H : Heap} {ls : Array Slot} (hdg : decode code pc = .ok (.ireturn, 1)) : W p l e room_1 s m #[Value.ref b] below meth c H [] 601024 7293034 (lw_Z below #[Value.ref b] s) (F0 m pc ls [.int 1]) := by
  intro T hT X
  obtain ⟨fs, hret, hrun, hended, hW, hframe⟩ := X.leave (v := some (.int 1)) (hlocks := hlocks) (fun h => by rw [hr] at h; cases h)
  have hmeth' : T.vm.method? m = some meth := X.method'
  refine ⟨T.setFrames fs, ?_, .returned (some (.int 1)), hrun, hended, rfl, ⟨_, rfl⟩, hW, hframe⟩
  jvm_step X.here [X.here.top, hx, hb, hdg, hmeth', hr, ret, narrow_b1]
  (try refine ⟨rfl, ?_⟩); (try refine ⟨rfl, ?_⟩)
  first | (intro acts; rw [hret _ acts rfl rfl rfl]) | rw [hret _ _ rfl rfl rfl]
  exact Steps.refl _
/-- what holds at the law's entry: the machine, the code, the tables' words (any of lw_tbl by 'hts w (by decide +kernel)'), the script of L ints xs at the cell b, what the Statement gives of the start (any of its parts by flat_of_before) -/
def lw_At (p : Program) (s : State) (m : MethodId) (meth : Method) (c : Code) (b L : Nat) (xs : Nat → Int32) : Prop :=
  p.tables.exec = Jvm.exec ∧ c.code = code ∧ meth.sig.returnType = ret ∧ c.maxLocals = 7 ∧ s.vm.findClass R_law = some m.cls ∧ (∀ w ∈ lw_tbl, w.before #[Value.ref b] s = true) ∧ va_X b L xs s s.heap ∧ b < s.heap.size ∧ meth.locks = false ∧ (Jvm.Cond.and given_1 narrow_1).before #[Value.ref b] s = true
/-- what stands all through the law -/
def LwF (p : Program) (l : Launch) (s : State) (m : MethodId) (meth : Method) (c : Code) (b L : Nat) (xs : Nat → Int32) (D : va_G) (cy : Nat → ClassId) (aC aM : Nat → Nat) (AC AM : Nat → Prop) (o : Nat) : Prop :=
  lw_At p s m meth c b L xs ∧ L ≤ 2560 ∧ l.stackTraces = false ∧ kC D cy s ∧ kX AC s ∧ adok 103 AC aC ∧ adok 16 AM aM ∧ (∀ q, AC q → ¬ AM q) ∧ ¬ AC o ∧ ¬ AM o ∧ (∀ q, AC q → s.heap.size ≤ q) ∧ (∀ q, AM q → s.heap.size ≤ q) ∧ s.heap.size ≤ o
/-- the three worlds -/
def LwP (D : va_G) (cy : Nat → ClassId) (aC aM : Nat → Nat) (o : Nat) (I : Nat → Int32) (Lg : Nat → Int64) (A : Nat → Nat → Int32) (B : Nat → Nat → Int64) (J : Nat → Int32) (E : Nat → Nat → Int32) (f : Nat → Int64) (H : Heap) : Prop := va_P D vwCl (wC cy aC I Lg A B) H ∧ va_P D vwCl (wM cy aM J E) H ∧ va_P D vwCl (wO cy o f) H
/-- both hold one state -/
def LSt (I : Nat → Int32) (Lg : Nat → Int64) (A : Nat → Nat → Int32) (B : Nat → Nat → Int64) (J : Nat → Int32) (E : Nat → Nat → Int32) : Prop := ∃ S, RC S I Lg A B ∧ RM S J E ∧ wf S
abbrev sNew (s : State) : Nat → Prop := fun q : Nat => s.heap.size ≤ q
abbrev WL (p : Program) (l : Launch) (e : Env) (s : State) (m : MethodId) (b : Nat) (below : List Frame) (meth : Method) (c : Code) (H : Heap) (locs : List Loc) (k n : Nat) (g : JFrame) : Prop := W p l e room_1 s m #[Value.ref b] below meth c H locs k n (lw_Z below #[Value.ref b] s) g
section
variable {p : Program} {l : Launch} {e : Env} {s : State} {m : MethodId} {below : List Frame} {meth : Method} {c : Code} {b L : Nat} {xs : Nat → Int32} {D : va_G} {cy : Nat → ClassId} {aC aM : Nat → Nat} {AC AM : Nat → Prop} {o : Nat}
variable {I : Nat → Int32} {Lg : Nat → Int64} {A : Nat → Nat → Int32} {B : Nat → Nat → Int64} {J : Nat → Int32} {E : Nat → Nat → Int32} {f : Nat → Int64} {H : Heap} {locs : List Loc} {cells slots : Nat} {ls : Array Slot} {st0 rest As : List Value} {pc idx maxL n : Nat} {y : MethodName} {bytes : ByteArray} {ret9 : Option FieldType} {rm : Room}
theorem LwF.hT (F : LwF p l s m meth c b L xs D cy aC aM AC AM o) : ∀ w ∈ BW, w.before #[Value.ref b] s = true := fun w hw => F.1.2.2.2.2.2.1 w (bw_sub hw)
theorem LwF.own (F : LwF p l s m meth c b L xs D cy aC aM AC AM o) : s.vm.findClass RL = some m.cls := F.1.2.2.2.2.1
theorem LwF.fix (F : LwF p l s m meth c b L xs D cy aC aM AC AM o) : CallFix p m c code 7 s #[Value.ref b] BW RL := ⟨F.1.1, F.1.2.1, F.1.2.2.2.1, F.own, F.hT⟩
theorem LwF.nb (F : LwF p l s m meth c b L xs D cy aC aM AC AM o) : ¬ sNew s b := Nat.not_le.mpr F.1.2.2.2.2.2.2.2.1
theorem keepMO (F : LwF p l s m meth c b L xs D cy aC aM AC AM o) {H1 : Heap} (hP : LwP D cy aC aM o I Lg A B J E f H) (hk : ∀ q : Nat, q < H.size → ¬ AC q → H1[q]? = H[q]?) : va_P D vwCl (wM cy aM J E) H1 ∧ va_P D vwCl (wO cy o f) H1 :=
  ⟨hP.2.1.kept (fun k q hq => hk q.1 ((hP.2.1 k q hq).lt) (fun h => F.2.2.2.2.2.2.2.1 _ h ((wl_D F.2.2.2.2.2.2.1).2 k q hq))), wO_kept F.2.2.2.2.2.2.2.2.1 hP.2.2 hk⟩
theorem keepCO (F : LwF p l s m meth c b L xs D cy aC aM AC AM o) {H1 : Heap} (hP : LwP D cy aC aM o I Lg A B J E f H) (hk : ∀ q : Nat, q < H.size → ¬ AM q → H1[q]? = H[q]?) : va_P D vwCl (wC cy aC I Lg A B) H1 ∧ va_P D vwCl (wO cy o f) H1 :=
  ⟨hP.1.kept (fun k q hq => hk q.1 ((hP.1 k q hq).lt) (fun h => F.2.2.2.2.2.2.2.1 _ ((wl_D F.2.2.2.2.2.1).2 k q hq) h)), wO_kept F.2.2.2.2.2.2.2.2.2.1 hP.2.2 hk⟩
theorem law_arg (F : LwF p l s m meth c b L xs D cy aC aM AC AM o) {i k : Nat} {kk : Int} {lv : List (Nat × Value)} (j0 j4 : Nat) (hl : lv_has ls 7 lv) (h0 : lv[j0]? = some (0, .ref b)) (h4 : lv[j4]? = some (4, .int (nI i))) (hk : i + k < L) (hkk : Int32.ofInt kk = nI k) (hS : va_S (sNew s) s.heap H locs) (hd0 : decode code pc = .ok (.aload_n 0, 1)) (hd1 : decode code (pc + 1) = .ok (.iload 4, 2)) (hd3 : decode code (pc + 3) = .ok (.iconst kk, 1)) (hd4 : decode code (pc + 4) = .ok (.iadd, 1)) (hd5 : decode code (pc + 5) = .ok (.iaload, 1))
    (kk9 : WL p l e s m b below meth c H locs cells slots (F0 m (pc + 6) ls (.int (xs (i + k)) :: rest))) : WL p l e s m b below meth c H locs cells slots (F0 m pc ls rest) := by
  have hL := F.2.1
  obtain ⟨hx, hb, hr, hml, hown, hts, hX, hbl, hlocks, hgv⟩ := F.1
  refine lv_aload_n hx hb hd0 rfl (lv_at hl j0 h0) ?_
  refine lv_iload hx hb hd1 (lv_at hl j4 h4) ?_
  refine lv_iconst (v := nI k) hx hb hd3 hkk ?_
  refine lv_iadd hx hb hd4 ?_
  rw [n_add]
  refine va_sld hx hb hX hbl F.nb hS (vp_in_nI hk (by omega)) hd5 ?_
  rw [n_c (by omega)]
  exact kk9
theorem lawCi (F : LwF p l s m meth c b L xs D cy aC aM AC AM o) {pp : Int32 → CS → Prop} (hM : Met l y (.code y bytes maxL ret9 :: BW) rm (va_Pc (.ref (aC 0) :: As) (fun U => kC D cy U ∧ va_P D vwCl (wC cy aC I Lg A B) U.heap)) (qCi D cy aC AC pp) 0 0 AC) (hP : LwP D cy aC aM o I Lg A B J E f H) (hS : va_S (sNew s) s.heap H locs) (hw1 : Cond.methodLink RL idx y ∈ BW) (hw : Cond.instanceMethod y ∈ BW ∧ Cond.selects y.cls y y ∈ BW ∧ Cond.initialized y.cls ∈ BW ∧ Cond.code y bytes maxL ret9 ∈ BW) (hyc : y.cls = RX9) (hd : y.cls ≠ "java/lang/invoke/MethodHandle" ∧ y.cls ≠ "java/lang/invoke/VarHandle" ∧ (parseMethodDescriptor y.desc).map (fun d => d.parameters.length) = some n) (hrc : rm.cells = 0 ∧ rm.slots = 0) (hR : rm.frames + 1 ≤ room_1.frames ∧ 8 + (maxL + 11) + rm.locals ≤ room_1.locals) (hn : As.length = n) (hsz : ls.size = 7) (hst : st0 = As.reverse ++ .ref (aC 0) :: rest) (hrm : (rest.map fun v => v.category).sum ≤ 8) (hdg : decode code pc = .ok (.invokevirtual idx, 3)) (hcs : cells ≤ room_1.cells ∧ slots ≤ room_1.slots)
    (kk : ∀ (r : Int32) (u : CS) (H1 : Heap) (locs1 : List Loc), pp r u → LwP D cy aC aM o u.1 u.2.1 u.2.2.1 u.2.2.2 J E f H1 → va_S (sNew s) s.heap H1 locs1 → WL p l e s m b below meth c H1 locs1 cells slots (F0 m (pc + 3) ls (.int r :: rest))) : WL p l e s m b below meth c H locs cells slots (F0 m pc ls st0) := by
  have hK := F.2.2.2.1
  refine va_calli (va_runV (As := As) (rest := rest) (b := aC 0) (C := y.cls) F.fix hM (cwV n F.hT (bw_V hw1 hw.1 hw.2.1 hw.2.2.1 hw.2.2.2) rfl hrc.1 hrc.2 ⟨rfl, hd⟩ hR) ⟨fun a U g mk q => ⟨q.1, q.2.1.calling, q.2.2⟩, by rw [hyc]; exact va_recv hK.1 hP.1 (ci := 9) (q0 := 0) rfl he_X9, fun U hU hW => ⟨rfl, hK.warm hW, by rw [hU]; exact hP.1⟩⟩ rfl hn hsz hst (lv_room hrm) hdg hcs) hS (fun q _ h => F.2.2.2.2.2.2.2.2.2.2.1 q h) (fun q h => F.2.2.2.2.2.2.2.2.2.2.1 q h) (fun r u t H1 locs1 ht hvm hw hB hz1 hk1 hS1 => ?_)
  subst ht
  obtain ⟨h1, h2⟩ := keepMO F hP hk1
  exact kk r u _ locs1 hw ⟨hB, h1, h2⟩ hS1
theorem lawCl (F : LwF p l s m meth c b L xs D cy aC aM AC AM o) {pp : Int64 → CS → Prop} (hM : Met l y (.code y bytes maxL ret9 :: BW) rm (va_Pc (.ref (aC 0) :: As) (fun U => kC D cy U ∧ va_P D vwCl (wC cy aC I Lg A B) U.heap)) (qCl D cy aC AC pp) 0 0 AC) (hP : LwP D cy aC aM o I Lg A B J E f H) (hS : va_S (sNew s) s.heap H locs) (hw1 : Cond.methodLink RL idx y ∈ BW) (hw : Cond.instanceMethod y ∈ BW ∧ Cond.selects y.cls y y ∈ BW ∧ Cond.initialized y.cls ∈ BW ∧ Cond.code y bytes maxL ret9 ∈ BW) (hyc : y.cls = RX9) (hd : y.cls ≠ "java/lang/invoke/MethodHandle" ∧ y.cls ≠ "java/lang/invoke/VarHandle" ∧ (parseMethodDescriptor y.desc).map (fun d => d.parameters.length) = some n) (hrc : rm.cells = 0 ∧ rm.slots = 0) (hR : rm.frames + 1 ≤ room_1.frames ∧ 8 + (maxL + 11) + rm.locals ≤ room_1.locals) (hn : As.length = n) (hsz : ls.size = 7) (hst : st0 = As.reverse ++ .ref (aC 0) :: rest) (hrm : (rest.map fun v => v.category).sum ≤ 8) (hdg : decode code pc = .ok (.invokevirtual idx, 3)) (hcs : cells ≤ room_1.cells ∧ slots ≤ room_1.slots)
    (kk : ∀ (r : Int64) (u : CS) (H1 : Heap) (locs1 : List Loc), pp r u → LwP D cy aC aM o u.1 u.2.1 u.2.2.1 u.2.2.2 J E f H1 → va_S (sNew s) s.heap H1 locs1 → WL p l e s m b below meth c H1 locs1 cells slots (F0 m (pc + 3) ls (.long r :: rest))) : WL p l e s m b below meth c H locs cells slots (F0 m pc ls st0) := by
  have hK := F.2.2.2.1
  refine va_calll (va_runV (As := As) (rest := rest) (b := aC 0) (C := y.cls) F.fix hM (cwV n F.hT (bw_V hw1 hw.1 hw.2.1 hw.2.2.1 hw.2.2.2) rfl hrc.1 hrc.2 ⟨rfl, hd⟩ hR) ⟨fun a U g mk q => ⟨q.1, q.2.1.calling, q.2.2⟩, by rw [hyc]; exact va_recv hK.1 hP.1 (ci := 9) (q0 := 0) rfl he_X9, fun U hU hW => ⟨rfl, hK.warm hW, by rw [hU]; exact hP.1⟩⟩ rfl hn hsz hst (lv_room hrm) hdg hcs) hS (fun q _ h => F.2.2.2.2.2.2.2.2.2.2.1 q h) (fun q h => F.2.2.2.2.2.2.2.2.2.2.1 q h) (fun r u t H1 locs1 ht hvm hw hB hz1 hk1 hS1 => ?_)
  subst ht
  obtain ⟨h1, h2⟩ := keepMO F hP hk1
  exact kk r u _ locs1 hw ⟨hB, h1, h2⟩ hS1
theorem lawMi (F : LwF p l s m meth c b L xs D cy aC aM AC AM o) {pp : Int32 → MS → Prop} (hM : Met l y (.code y bytes maxL ret9 :: BW) rm (va_Pc (.ref (aM 0) :: As) (fun U => kC D cy U ∧ va_P D vwCl (wM cy aM J E) U.heap)) (qMi D cy aM AM pp) 0 0 AM) (hP : LwP D cy aC aM o I Lg A B J E f H) (hS : va_S (sNew s) s.heap H locs) (hw1 : Cond.methodLink RL idx y ∈ BW) (hw : Cond.instanceMethod y ∈ BW ∧ Cond.selects y.cls y y ∈ BW ∧ Cond.initialized y.cls ∈ BW ∧ Cond.code y bytes maxL ret9 ∈ BW) (hyc : y.cls = RX10) (hd : y.cls ≠ "java/lang/invoke/MethodHandle" ∧ y.cls ≠ "java/lang/invoke/VarHandle" ∧ (parseMethodDescriptor y.desc).map (fun d => d.parameters.length) = some n) (hrc : rm.cells = 0 ∧ rm.slots = 0) (hR : rm.frames + 1 ≤ room_1.frames ∧ 8 + (maxL + 11) + rm.locals ≤ room_1.locals) (hn : As.length = n) (hsz : ls.size = 7) (hst : st0 = As.reverse ++ .ref (aM 0) :: rest) (hrm : (rest.map fun v => v.category).sum ≤ 8) (hdg : decode code pc = .ok (.invokevirtual idx, 3)) (hcs : cells ≤ room_1.cells ∧ slots ≤ room_1.slots)
    (kk : ∀ (r : Int32) (u : MS) (H1 : Heap) (locs1 : List Loc), pp r u → LwP D cy aC aM o I Lg A B u.1 u.2 f H1 → va_S (sNew s) s.heap H1 locs1 → WL p l e s m b below meth c H1 locs1 cells slots (F0 m (pc + 3) ls (.int r :: rest))) : WL p l e s m b below meth c H locs cells slots (F0 m pc ls st0) := by
  have hK := F.2.2.2.1
  refine va_calli (va_runV (As := As) (rest := rest) (b := aM 0) (C := y.cls) F.fix hM (cwV n F.hT (bw_V hw1 hw.1 hw.2.1 hw.2.2.1 hw.2.2.2) rfl hrc.1 hrc.2 ⟨rfl, hd⟩ hR) ⟨fun a U g mk q => ⟨q.1, q.2.1.calling, q.2.2⟩, by rw [hyc]; exact va_recv hK.1 hP.2.1 (ci := 10) (q0 := 0) rfl he_X10, fun U hU hW => ⟨rfl, hK.warm hW, by rw [hU]; exact hP.2.1⟩⟩ rfl hn hsz hst (lv_room hrm) hdg hcs) hS (fun q _ h => F.2.2.2.2.2.2.2.2.2.2.2.1 q h) (fun q h => F.2.2.2.2.2.2.2.2.2.2.2.1 q h) (fun r u t H1 locs1 ht hvm hw hB hz1 hk1 hS1 => ?_)
  subst ht
  obtain ⟨h1, h2⟩ := keepCO F hP hk1
  exact kk r u _ locs1 hw ⟨h1, hB, h2⟩ hS1
theorem lawMl (F : LwF p l s m meth c b L xs D cy aC aM AC AM o) {pp : Int64 → MS → Prop} (hM : Met l y (.code y bytes maxL ret9 :: BW) rm (va_Pc (.ref (aM 0) :: As) (fun U => kC D cy U ∧ va_P D vwCl (wM cy aM J E) U.heap)) (qMl D cy aM AM pp) 0 0 AM) (hP : LwP D cy aC aM o I Lg A B J E f H) (hS : va_S (sNew s) s.heap H locs) (hw1 : Cond.methodLink RL idx y ∈ BW) (hw : Cond.instanceMethod y ∈ BW ∧ Cond.selects y.cls y y ∈ BW ∧ Cond.initialized y.cls ∈ BW ∧ Cond.code y bytes maxL ret9 ∈ BW) (hyc : y.cls = RX10) (hd : y.cls ≠ "java/lang/invoke/MethodHandle" ∧ y.cls ≠ "java/lang/invoke/VarHandle" ∧ (parseMethodDescriptor y.desc).map (fun d => d.parameters.length) = some n) (hrc : rm.cells = 0 ∧ rm.slots = 0) (hR : rm.frames + 1 ≤ room_1.frames ∧ 8 + (maxL + 11) + rm.locals ≤ room_1.locals) (hn : As.length = n) (hsz : ls.size = 7) (hst : st0 = As.reverse ++ .ref (aM 0) :: rest) (hrm : (rest.map fun v => v.category).sum ≤ 8) (hdg : decode code pc = .ok (.invokevirtual idx, 3)) (hcs : cells ≤ room_1.cells ∧ slots ≤ room_1.slots)
    (kk : ∀ (r : Int64) (u : MS) (H1 : Heap) (locs1 : List Loc), pp r u → LwP D cy aC aM o I Lg A B u.1 u.2 f H1 → va_S (sNew s) s.heap H1 locs1 → WL p l e s m b below meth c H1 locs1 cells slots (F0 m (pc + 3) ls (.long r :: rest))) : WL p l e s m b below meth c H locs cells slots (F0 m pc ls st0) := by
  have hK := F.2.2.2.1
  refine va_calll (va_runV (As := As) (rest := rest) (b := aM 0) (C := y.cls) F.fix hM (cwV n F.hT (bw_V hw1 hw.1 hw.2.1 hw.2.2.1 hw.2.2.2) rfl hrc.1 hrc.2 ⟨rfl, hd⟩ hR) ⟨fun a U g mk q => ⟨q.1, q.2.1.calling, q.2.2⟩, by rw [hyc]; exact va_recv hK.1 hP.2.1 (ci := 10) (q0 := 0) rfl he_X10, fun U hU hW => ⟨rfl, hK.warm hW, by rw [hU]; exact hP.2.1⟩⟩ rfl hn hsz hst (lv_room hrm) hdg hcs) hS (fun q _ h => F.2.2.2.2.2.2.2.2.2.2.2.1 q h) (fun q h => F.2.2.2.2.2.2.2.2.2.2.2.1 q h) (fun r u t H1 locs1 ht hvm hw hB hz1 hk1 hS1 => ?_)
  subst ht
  obtain ⟨h1, h2⟩ := keepCO F hP hk1
  exact kk r u _ locs1 hw ⟨h1, hB, h2⟩ hS1
/-- a wrapper's call: one cell of six slots may come -/
theorem lawW (F : LwF p l s m meth c b L xs D cy aC aM AC AM o) {hh : List (Nat × Nat × Nat × Nat)} {pp : Int32 → CS × (Nat → Int64) → Prop} (hM : Met l y (.codeWith y bytes maxL ret9 hh :: BW) rm (va_Pc As (fun U => kC D cy U ∧ va_P D vwCl (wC cy aC I Lg A B) U.heap ∧ va_P D vwCl (wO cy o f) U.heap ∧ kX AC U)) (va_Qi pp (fun u (t : State) => va_P D vwCl (wC cy aC u.1.1 u.1.2.1 u.1.2.2.1 u.1.2.2.2) t.heap ∧ va_P D vwCl (wO cy o u.2) t.heap) (AdO AC o)) 1 6 (AdO AC o)) (hP : LwP D cy aC aM o I Lg A B J E f H) (hS : va_S (sNew s) s.heap H locs) (hw1 : Cond.methodLink RL idx y ∈ BW) (hw : Cond.static y ∈ BW ∧ Cond.initialized y.cls ∈ BW ∧ Cond.codeWith y bytes maxL ret9 hh ∈ BW) (hd : y.cls ≠ "java/lang/invoke/MethodHandle" ∧ y.cls ≠ "java/lang/invoke/VarHandle" ∧ (parseMethodDescriptor y.desc).map (fun d => d.parameters.length) = some n) (hrc : rm.cells = 1 ∧ rm.slots = 6) (hR : rm.frames + 1 ≤ room_1.frames ∧ 8 + (maxL + 11) + rm.locals ≤ room_1.locals) (hn : As.length = n) (hsz : ls.size = 7) (hst : st0 = As.reverse ++ rest) (hrm : (rest.map fun v => v.category).sum ≤ 8) (hdg : decode code pc = .ok (.invokestatic idx, 3)) (hcs : cells + 1 ≤ room_1.cells ∧ slots + 6 ≤ room_1.slots)
    (kk : ∀ (r : Int32) (u : CS × (Nat → Int64)) (H1 : Heap) (locs1 : List Loc), pp r u → LwP D cy aC aM o u.1.1 u.1.2.1 u.1.2.2.1 u.1.2.2.2 J E u.2 H1 → va_S (sNew s) s.heap H1 locs1 → WL p l e s m b below meth c H1 locs1 (cells + 1) (slots + 6) (F0 m (pc + 3) ls (.int r :: rest))) : WL p l e s m b below meth c H locs cells slots (F0 m pc ls st0) := by
  have hK := F.2.2.2.1
  have hAO : ∀ q, AdO AC o q → sNew s q := fun q h => h.elim (fun h => F.2.2.2.2.2.2.2.2.2.2.1 q h) (fun h => by rw [h]; exact F.2.2.2.2.2.2.2.2.2.2.2.2)
  have hG : GoodIn BW (va_wsS RL idx y (.codeWith y bytes maxL ret9 hh :: BW)) := by
    intro w hw9
    rcases List.mem_append.mp hw9 with h | h
    · simp only [List.mem_cons, List.not_mem_nil, or_false] at h
      rcases h with rfl | rfl | rfl
      · exact ⟨hw1, bw_good hw1⟩
      · exact ⟨hw.1, bw_good hw.1⟩
      · exact ⟨hw.2.1, bw_good hw.2.1⟩
    · rcases List.mem_cons.mp h with h | h
      · rw [h]; exact ⟨hw.2.2, bw_good hw.2.2⟩
      · exact ⟨h, bw_good h⟩
  refine va_calli (vx_runSW (As := As) (rest := rest) (hh := hh) F.fix hM (vx_cwSW n F.hT hG rfl hrc.1 hrc.2 hd hR) ⟨fun a U g mk q => ⟨q.1, q.2.1.calling, q.2.2.1, q.2.2.2.1, q.2.2.2.2.calling⟩, fun U hU hW => ⟨rfl, hK.warm hW, by rw [hU]; exact hP.1, by rw [hU]; exact hP.2.2, kX.to hW (fun q hq hn9 => by rw [hU]; exact hS.2.1 q hq (fun h9 => absurd hq (Nat.not_lt.mpr h9))) F.2.2.2.2.1⟩⟩ rfl hn hsz hst (lv_room hrm) hdg hcs) hS (fun q _ h => hAO q h) hAO (fun r u t H1 locs1 ht hvm hw hB hz1 hk1 hS1 => ?_)
  subst ht
  have h1 : va_P D vwCl (wM cy aM J E) t.heap := hP.2.1.kept (fun k q hq => hk1 q.1 ((hP.2.1 k q hq).lt) (fun h => by
    have hm := (wl_D F.2.2.2.2.2.2.1).2 k q hq
    rcases h with h | h
    · exact F.2.2.2.2.2.2.2.1 _ h hm
    · rw [h] at hm; exact F.2.2.2.2.2.2.2.2.2.1 hm))
  exact kk r u _ locs1 hw ⟨hB.1, h1, hB.2⟩ hS1
end
