-- words: where they stand
theorem bw_good {w : Cond} (h : w ∈ BW) : (w.onTables && w.keeps) = true ∨ ∃ ty, w = .arrayClass ty := good_of_word (List.mem_filter.mp h).2
theorem bw_sub {w : Cond} (h : w ∈ BW) : w ∈ lw_tbl := (List.mem_filter.mp h).1
theorem bw_code {y : MethodName} {b : ByteArray} {n : Nat} {r : Option FieldType} (h : Cond.code y b n r ∈ BW) : GoodIn BW (.code y b n r :: BW) := fun w hw => (List.mem_cons.mp hw).elim (fun e => by rw [e]; exact ⟨h, bw_good h⟩) (fun h1 => ⟨h1, bw_good h1⟩)
theorem bw_V {own C : String} {i : Nat} {y : MethodName} {b : ByteArray} {n : Nat} {r : Option FieldType} (h1 : Cond.methodLink own i y ∈ BW) (h2 : Cond.instanceMethod y ∈ BW) (h3 : Cond.selects C y y ∈ BW) (h4 : Cond.initialized C ∈ BW) (h5 : Cond.code y b n r ∈ BW) : GoodIn BW (wsV own i C y (.code y b n r :: BW)) := by
  intro w hw
  rcases List.mem_append.mp hw with h | h
  · simp only [List.mem_cons, List.not_mem_nil, or_false] at h
    rcases h with rfl | rfl | rfl | rfl
    · exact ⟨h1, bw_good h1⟩
    · exact ⟨h2, bw_good h2⟩
    · exact ⟨h3, bw_good h3⟩
    · exact ⟨h4, bw_good h4⟩
  · exact bw_code h5 w h
theorem bw_S {own : String} {i : Nat} {y : MethodName} {b : ByteArray} {n : Nat} {r : Option FieldType} (h1 : Cond.methodLink own i y ∈ BW) (h2 : Cond.static y ∈ BW) (h4 : Cond.initialized y.cls ∈ BW) (h5 : Cond.code y b n r ∈ BW) : GoodIn BW (va_wsS own i y (.code y b n r :: BW)) := by
  intro w hw
  rcases List.mem_append.mp hw with h | h
  · simp only [List.mem_cons, List.not_mem_nil, or_false] at h
    rcases h with rfl | rfl | rfl
    · exact ⟨h1, bw_good h1⟩
    · exact ⟨h2, bw_good h2⟩
    · exact ⟨h4, bw_good h4⟩
  · exact bw_code h5 w h
-- loops and joins in a formula
def lfix {α : Type} (b : (α → Prop) → α → Prop) : Nat → α → Prop
  | 0, _ => False
  | n + 1, x => b (lfix b n) x
theorem lfix_ex {α : Type} {b : (α → Prop) → α → Prop} {x : α} (h : ∃ n, lfix b n x) : ∃ (F : Nat → α → Prop) (n : Nat), F n x ∧ (∀ x, ¬ F 0 x) ∧ ∀ n x, F (n + 1) x → b (F n) x := by
  obtain ⟨n, h⟩ := h
  exact ⟨lfix b, n, h, fun _ h => h, fun _ _ h => h⟩
theorem lfix_inv {α : Type} {b : (α → Prop) → α → Prop} (Inv : α → Prop) (μ : α → Nat) (hs : ∀ (r : α → Prop) (x : α), Inv x → (∀ y, Inv y → μ y < μ x → r y) → b r x) {x : α} (hx : Inv x) : ∃ n, lfix b n x := by
  have H : ∀ n x, Inv x → μ x < n → lfix b n x := by
    intro n
    induction n with
    | zero => intro x _ h; omega
    | succ n ih => intro x hx h; exact hs _ x hx (fun y hy hm => ih y hy (by omega))
  exact ⟨μ x + 1, H _ x hx (by omega)⟩
def jn {α : Type} (K : α → Prop) (m : (α → Prop) → Prop) : Prop := m K
theorem jn_ex {α : Type} {K : α → Prop} {m : (α → Prop) → Prop} (h : jn K m) : ∃ k : α → Prop, (∀ x, k x → K x) ∧ m k := ⟨K, fun _ h => h, h⟩
def zb (v : Int32) : Prop := v = 0 ∨ v = 1
theorem zb_n {v : Int32} (h : zb v) : narrow .boolean (.int v) = .int v := by rcases h with rfl | rfl <;> rfl
theorem zb_f {v : Int32} (h : zb v) : fits .boolean (.int v) = true := by rcases h with rfl | rfl <;> rfl
theorem zb_0 : zb 0 := Or.inl rfl
theorem zb_1 : zb 1 := Or.inr rfl
-- the array classes, the private words of nest mates
def tysA (cy : Nat → ClassId) : List (ClassId × FieldType) := [(cy 0, .int), (cy 1, .long), (cy 2, .boolean), (cy 3, .object "DrillCount$Axis"), (cy 4, .object "DrillCount$Selection")]
def nestW : List Cond := [.methodLinkNest RX2 54 yX9_inSet RX9, .methodLinkNest RX7 92 yX9_inSet RX9, .methodLinkNest RX7 103 yX9_bit RX9, .methodLinkNest RX2 32 yX9_bit RX9, .methodLinkNest RX6 36 yX9_bit RX9, .methodLinkNest RX6 32 yX9_inSet RX9]
def kC (D : va_G) (cy : Nat → ClassId) (U : State) : Prop := va_K D vwCl (tysA cy) U ∧ ∀ w ∈ nestW, va_Nw w U
theorem nest_form {w : Cond} (h : w ∈ nestW) : ∃ a i x h, w = .methodLinkNest a i x h := by
  simp only [nestW, List.mem_cons, List.not_mem_nil, or_false] at h
  rcases h with rfl | rfl | rfl | rfl | rfl | rfl <;> exact ⟨_, _, _, _, rfl⟩
theorem kC.warm {D : va_G} {cy : Nat → ClassId} {s U : State} (hW : s.WarmedH U.vm) (h : kC D cy s) : kC D cy U := ⟨va_K.moved hW.alike h.1, fun w hw => by
  obtain ⟨a, i, x, y, rfl⟩ := nest_form hw
  exact va_Nw.warmM hW (h.2 _ hw)⟩
theorem kC.calling {D : va_G} {cy : Nat → ClassId} {U : State} {g : JFrame} {mk : MethodId} {a : Array Value} (h : kC D cy U) : kC D cy (U.calling g mk a) := ⟨va_K.moved (u := U) (U := U.calling g mk a) (Vm.Alike.refl U.vm) h.1, fun w hw => by
  obtain ⟨b, i, x, y, rfl⟩ := nest_form hw
  exact va_Nw.same rfl (u := U) (U := U.calling g mk a) rfl (h.2 _ hw)⟩
-- the class's cells
abbrev CS : Type := (Nat → Int32) × (Nat → Int64) × (Nat → Nat → Int32) × (Nat → Nat → Int64)
def eC (cy : Nat → ClassId) (ad : Nat → Nat) (I : Nat → Int32) (L : Nat → Int64) (A : Nat → Nat → Int32) (B : Nat → Nat → Int64) (j : Nat) : va_E :=
  if j = 0 then .inr (9, [.ref (ad 1), .ref (ad 2), .ref (ad 3), .ref (ad 4), .ref (ad 8), .ref (ad 5), .ref (ad 19), .ref (ad 6)])
  else if j = 1 then .inr (2, [.ref (ad 36), .ref (ad 37), .ref (ad 38), .ref (ad 39), .ref (ad 40), .int (I 1)])
  else if j = 2 then .inr (6, [.ref (ad 7), .long (L 2), .int (I 2)])
  else if j = 3 then .inr (7, [.ref (ad 1), .ref (ad 2), .ref (ad 45), .ref (ad 46), .int (I 3)])
  else if j = 4 then .inr (8, [.ref (ad 47), .ref (ad 48), .int (I 0), .int (I 4)])
  else if j = 5 then .inr (4, [.ref (ad 49), .int (I 5)])
  else if j = 6 then .inr (1, [.ref (ad 50), .ref (ad 51), .ref (ad 52), .ref (ad 53), .int (I 6)])
  else if j < 9 then .inr (3, [.ref (ad (j + 34)), .ref (ad (j + 36)), .int (I j)])
  else if j < 14 then .inr (0, [.int (I j), .ref (ad (j + 5)), .ref (ad (j + 45)), .long (L j)])
  else if j < 36 then .inr (5, [.long (L j), .int (I j), .int (I (j + 22)), .ref (ad (j + 45)), .ref (ad (j + 67))])
  else if j < 38 then .inl (cy 0, 40, .inl (A j))
  else if j < 41 then .inl (cy 1, 40, .inr (.inl (B j)))
  else if j < 45 then .inl (cy 0, 40, .inl (A j))
  else if j = 45 then .inl (cy 3, 5, .inr (.inr (.inr (.inr (fun i => some (ad (9 + i)))))))
  else if j = 46 then .inl (cy 1, 5, .inr (.inl (B j)))
  else if j = 47 then .inl (cy 0, 16, .inl (A j))
  else if j = 48 then .inl (cy 4, 16, .inr (.inr (.inr (.inr (fun i => some (ad (20 + i)))))))
  else if j = 49 then .inl (cy 0, 40, .inl (A j))
  else if j = 50 then .inl (cy 0, 12, .inl (A j))
  else if j = 51 then .inl (cy 1, 12, .inr (.inl (B j)))
  else if j = 52 then .inl (cy 1, 13, .inr (.inl (B j)))
  else if j = 53 then .inl (cy 0, 12, .inl (A j))
  else if j < 59 then .inl (cy 0, 40, .inl (A j))
  else .inl (cy 0, 3, .inl (A j))
def wC (cy : Nat → ClassId) (ad : Nat → Nat) (I : Nat → Int32) (L : Nat → Int64) (A : Nat → Nat → Int32) (B : Nat → Nat → Int64) : va_W := (List.range 103).map (fun k => (ad k, eC cy ad I L A B k))
-- the reference's cells
abbrev MS : Type := (Nat → Int32) × (Nat → Nat → Int32)
def eM (cy : Nat → ClassId) (ad : Nat → Nat) (I : Nat → Int32) (A : Nat → Nat → Int32) (j : Nat) : va_E :=
  if j = 0 then .inr (10, [.int (I 0), .int (I 1), .int (I 2), .int (I 3), .ref (ad 1), .ref (ad 2), .ref (ad 3), .ref (ad 4), .ref (ad 5), .ref (ad 6), .ref (ad 7), .ref (ad 8), .ref (ad 9), .int (I 4), .ref (ad 10), .ref (ad 11), .int (I 5), .ref (ad 12), .int (I 6), .ref (ad 13), .ref (ad 14), .ref (ad 15)])
  else if j = 1 then .inl (cy 0, 5, .inl (A j))
  else if j < 5 then .inl (cy 0, 40, .inl (A j))
  else if j = 5 then .inl (cy 2, 40, .inl (A j))
  else if j = 6 then .inl (cy 2, 1600, .inl (A j))
  else if j = 7 then .inl (cy 0, 200, .inl (A j))
  else if j = 8 then .inl (cy 2, 200, .inl (A j))
  else if j = 9 then .inl (cy 0, 1440, .inl (A j))
  else if j = 10 then .inl (cy 2, 1600, .inl (A j))
  else if j = 11 then .inl (cy 0, 40, .inl (A j))
  else if j = 12 then .inl (cy 0, 1999, .inl (A j))
  else if j = 13 then .inl (cy 0, 24, .inl (A j))
  else .inl (cy 0, 40, .inl (A j))
def wM (cy : Nat → ClassId) (ad : Nat → Nat) (I : Nat → Int32) (A : Nat → Nat → Int32) : va_W := (List.range 16).map (fun k => (ad k, eM cy ad I A k))
-- both are lists of places
def adok (n : Nat) (Ad : Nat → Prop) (ad : Nat → Nat) : Prop := (∀ i j, i < n → j < n → ad i = ad j → i = j) ∧ ∀ i, i < n → Ad (ad i)
theorem wl_get {n : Nat} {ad : Nat → Nat} {f : Nat → va_E} {k : Nat} (hk : k < n) : ((List.range n).map (fun k => (ad k, f k)))[k]? = some (ad k, f k) := by
  simp [hk]
theorem wl_of {n : Nat} {ad : Nat → Nat} {f : Nat → va_E} {k : Nat} {q : Nat × va_E} (h : ((List.range n).map (fun k => (ad k, f k)))[k]? = some q) : k < n ∧ q = (ad k, f k) := by
  have hk : k < n := by
    have := (List.getElem?_eq_some_iff.mp h).1
    simpa using this
  rw [wl_get hk] at h
  exact ⟨hk, (Option.some.inj h).symm⟩
theorem wl_D {n : Nat} {Ad : Nat → Prop} {ad : Nat → Nat} {f : Nat → va_E} (h : adok n Ad ad) : va_D Ad ((List.range n).map (fun k => (ad k, f k))) := by
  refine ⟨fun i j p q hp hq e => ?_, fun k q hk => ?_⟩
  · obtain ⟨h1, rfl⟩ := wl_of hp
    obtain ⟨h2, rfl⟩ := wl_of hq
    exact h.1 i j h1 h2 e
  · obtain ⟨h1, rfl⟩ := wl_of hk
    exact h.2 k h1
theorem wl_set {n : Nat} {ad : Nat → Nat} {f g : Nat → va_E} {k : Nat} {e : va_E} (hk : k < n) (he : g k = e) (ho : ∀ j, j < n → j ≠ k → g j = f j) : ((List.range n).map (fun k => (ad k, f k))).set k (ad k, e) = (List.range n).map (fun k => (ad k, g k)) := by
  apply List.ext_getElem?
  intro i
  rw [List.getElem?_set]
  by_cases h : k = i
  · subst h
    rw [wl_get (f := g) hk, he]
    simp [hk]
  · rw [if_neg h]
    by_cases hi : i < n
    · rw [wl_get hi, wl_get hi, ho i hi (Ne.symm h)]
    · simp [hi]
theorem wC_get {cy : Nat → ClassId} {ad : Nat → Nat} {I : Nat → Int32} {L : Nat → Int64} {A : Nat → Nat → Int32} {B : Nat → Nat → Int64} {k : Nat} (hk : k < 103) : (wC cy ad I L A B)[k]? = some (ad k, eC cy ad I L A B k) := wl_get hk
theorem wM_get {cy : Nat → ClassId} {ad : Nat → Nat} {I : Nat → Int32} {A : Nat → Nat → Int32} {k : Nat} (hk : k < 16) : (wM cy ad I A)[k]? = some (ad k, eM cy ad I A k) := wl_get hk
section
variable {cy : Nat → ClassId} {ad : Nat → Nat} {I : Nat → Int32} {L : Nat → Int64} {A : Nat → Nat → Int32} {B : Nat → Nat → Int64} {k : Nat}
theorem he_X9 : (wC cy ad I L A B)[0]? = some (ad 0, .inr (9, [.ref (ad 1), .ref (ad 2), .ref (ad 3), .ref (ad 4), .ref (ad 8), .ref (ad 5), .ref (ad 19), .ref (ad 6)])) := wC_get (by decide)
theorem he_X2 : (wC cy ad I L A B)[1]? = some (ad 1, .inr (2, [.ref (ad 36), .ref (ad 37), .ref (ad 38), .ref (ad 39), .ref (ad 40), .int (I 1)])) := wC_get (by decide)
theorem he_X6 : (wC cy ad I L A B)[2]? = some (ad 2, .inr (6, [.ref (ad 7), .long (L 2), .int (I 2)])) := wC_get (by decide)
theorem he_X7 : (wC cy ad I L A B)[3]? = some (ad 3, .inr (7, [.ref (ad 1), .ref (ad 2), .ref (ad 45), .ref (ad 46), .int (I 3)])) := wC_get (by decide)
theorem he_X8 : (wC cy ad I L A B)[4]? = some (ad 4, .inr (8, [.ref (ad 47), .ref (ad 48), .int (I 0), .int (I 4)])) := wC_get (by decide)
theorem he_X4 : (wC cy ad I L A B)[5]? = some (ad 5, .inr (4, [.ref (ad 49), .int (I 5)])) := wC_get (by decide)
theorem he_X1 : (wC cy ad I L A B)[6]? = some (ad 6, .inr (1, [.ref (ad 50), .ref (ad 51), .ref (ad 52), .ref (ad 53), .int (I 6)])) := wC_get (by decide)
theorem eC_X3 (h : 7 ≤ k ∧ k < 9) : eC cy ad I L A B k = .inr (3, [.ref (ad (k + 34)), .ref (ad (k + 36)), .int (I k)]) := by
  simp only [eC, show ¬ k = 0 by omega, show ¬ k = 1 by omega, show ¬ k = 2 by omega, show ¬ k = 3 by omega, show ¬ k = 4 by omega, show ¬ k = 5 by omega, show ¬ k = 6 by omega, if_false, h.2, if_true]
theorem eC_X0 (h : 9 ≤ k ∧ k < 14) : eC cy ad I L A B k = .inr (0, [.int (I k), .ref (ad (k + 5)), .ref (ad (k + 45)), .long (L k)]) := by
  simp only [eC, show ¬ k = 0 by omega, show ¬ k = 1 by omega, show ¬ k = 2 by omega, show ¬ k = 3 by omega, show ¬ k = 4 by omega, show ¬ k = 5 by omega, show ¬ k = 6 by omega, show ¬ k < 9 by omega, if_false, h.2, if_true]
theorem eC_X5 (h : 14 ≤ k ∧ k < 36) : eC cy ad I L A B k = .inr (5, [.long (L k), .int (I k), .int (I (k + 22)), .ref (ad (k + 45)), .ref (ad (k + 67))]) := by
  simp only [eC, show ¬ k = 0 by omega, show ¬ k = 1 by omega, show ¬ k = 2 by omega, show ¬ k = 3 by omega, show ¬ k = 4 by omega, show ¬ k = 5 by omega, show ¬ k = 6 by omega, show ¬ k < 9 by omega, show ¬ k < 14 by omega, if_false, h.2, if_true]
theorem eC_R40 (h : (41 ≤ k ∧ k < 45) ∨ (54 ≤ k ∧ k < 59)) : eC cy ad I L A B k = .inl (cy 0, 40, .inl (A k)) := by
  rcases h with h | h
  · obtain rfl | rfl | rfl | rfl : k = 41 ∨ k = 42 ∨ k = 43 ∨ k = 44 := by omega
    all_goals rfl
  · obtain rfl | rfl | rfl | rfl | rfl : k = 54 ∨ k = 55 ∨ k = 56 ∨ k = 57 ∨ k = 58 := by omega
    all_goals rfl
theorem eC_R3 (h : 59 ≤ k) : eC cy ad I L A B k = .inl (cy 0, 3, .inl (A k)) := by
  simp only [eC, show ¬ k = 0 by omega, show ¬ k = 1 by omega, show ¬ k = 2 by omega, show ¬ k = 3 by omega, show ¬ k = 4 by omega, show ¬ k = 5 by omega, show ¬ k = 6 by omega, show ¬ k < 9 by omega, show ¬ k < 14 by omega, show ¬ k < 36 by omega, show ¬ k < 38 by omega, show ¬ k < 41 by omega, show ¬ k < 45 by omega, show ¬ k = 45 by omega, show ¬ k = 46 by omega, show ¬ k = 47 by omega, show ¬ k = 48 by omega, show ¬ k = 49 by omega, show ¬ k = 50 by omega, show ¬ k = 51 by omega, show ¬ k = 52 by omega, show ¬ k = 53 by omega, show ¬ k < 59 by omega, if_false]
theorem he_X3 (h : 7 ≤ k ∧ k < 9) : (wC cy ad I L A B)[k]? = some (ad k, .inr (3, [.ref (ad (k + 34)), .ref (ad (k + 36)), .int (I k)])) := by rw [wC_get (by omega), eC_X3 h]
theorem he_X0 (h : 9 ≤ k ∧ k < 14) : (wC cy ad I L A B)[k]? = some (ad k, .inr (0, [.int (I k), .ref (ad (k + 5)), .ref (ad (k + 45)), .long (L k)])) := by rw [wC_get (by omega), eC_X0 h]
theorem he_X5 (h : 14 ≤ k ∧ k < 36) : (wC cy ad I L A B)[k]? = some (ad k, .inr (5, [.long (L k), .int (I k), .int (I (k + 22)), .ref (ad (k + 45)), .ref (ad (k + 67))])) := by rw [wC_get (by omega), eC_X5 h]
theorem he_X10 : (wM cy ad I A)[0]? = some (ad 0, .inr (10, [.int (I 0), .int (I 1), .int (I 2), .int (I 3), .ref (ad 1), .ref (ad 2), .ref (ad 3), .ref (ad 4), .ref (ad 5), .ref (ad 6), .ref (ad 7), .ref (ad 8), .ref (ad 9), .int (I 4), .ref (ad 10), .ref (ad 11), .int (I 5), .ref (ad 12), .int (I 6), .ref (ad 13), .ref (ad 14), .ref (ad 15)])) := wM_get (by decide)
/-- a cell of the class speaks of its own numbers alone -/
theorem eC_cong {I' : Nat → Int32} {L' : Nat → Int64} {A' : Nat → Nat → Int32} {B' : Nat → Nat → Int64} (hI : ∀ q, ((0 < k ∧ k < 36 ∧ q = k) ∨ (k = 4 ∧ q = 0) ∨ (14 ≤ k ∧ k < 36 ∧ q = k + 22)) → I' q = I q) (hL : L' k = L k) (hA : A' k = A k) (hB : B' k = B k) : eC cy ad I' L' A' B' k = eC cy ad I L A B k := by
  by_cases c0 : k = 0
  · subst c0; rfl
  by_cases c36 : k < 36
  · have h0 : I' k = I k := hI k (Or.inl ⟨by omega, c36, rfl⟩)
    by_cases c1 : k = 1
    · subst c1; simp [eC, h0]
    by_cases c2 : k = 2
    · subst c2; simp [eC, h0, hL]
    by_cases c3 : k = 3
    · subst c3; simp [eC, h0]
    by_cases c4 : k = 4
    · subst c4; simp [eC, h0, hI 0 (Or.inr (Or.inl ⟨rfl, rfl⟩))]
    by_cases c5 : k = 5
    · subst c5; simp [eC, h0]
    by_cases c6 : k = 6
    · subst c6; simp [eC, h0]
    by_cases c9 : k < 9
    · rw [eC_X3 ⟨by omega, c9⟩, eC_X3 ⟨by omega, c9⟩, h0]
    by_cases c14 : k < 14
    · rw [eC_X0 ⟨by omega, c14⟩, eC_X0 ⟨by omega, c14⟩, h0, hL]
    rw [eC_X5 ⟨by omega, c36⟩, eC_X5 ⟨by omega, c36⟩, h0, hL, hI (k + 22) (Or.inr (Or.inr ⟨by omega, c36, rfl⟩))]
  · simp only [eC, c0, show ¬ k = 1 by omega, show ¬ k = 2 by omega, show ¬ k = 3 by omega, show ¬ k = 4 by omega, show ¬ k = 5 by omega, show ¬ k = 6 by omega, show ¬ k < 9 by omega, show ¬ k < 14 by omega, c36, if_false, hA, hB]
theorem eM_cong {I' : Nat → Int32} {A' : Nat → Nat → Int32} (hI : k = 0 → ∀ q, q < 7 → I' q = I q) (hA : A' k = A k) : eM cy ad I' A' k = eM cy ad I A k := by
  by_cases c0 : k = 0
  · subst c0
    simp only [eM, if_true, hI rfl 0 (by decide), hI rfl 1 (by decide), hI rfl 2 (by decide), hI rfl 3 (by decide), hI rfl 4 (by decide), hI rfl 5 (by decide), hI rfl 6 (by decide)]
  · simp only [eM, c0, if_false, hA]
theorem wC_setA {n : Nat} (hk : k < 103) (he : ∀ A', eC cy ad I L A' B k = .inl (cy 0, n, .inl (A' k))) (g : Nat → Int32) : (wC cy ad I L A B).set k (ad k, .inl (cy 0, n, .inl g)) = wC cy ad I L (va_up A k g) B :=
  wl_set hk (by rw [he, va_up_self]) (fun j _ hj => eC_cong (fun _ _ => rfl) rfl (va_up_ne _ _ hj) rfl)
theorem wC_setB {n : Nat} (hk : k < 103) (he : ∀ B', eC cy ad I L A B' k = .inl (cy 1, n, .inr (.inl (B' k)))) (g : Nat → Int64) : (wC cy ad I L A B).set k (ad k, .inl (cy 1, n, .inr (.inl g))) = wC cy ad I L A (va_up B k g) :=
  wl_set hk (by rw [he, va_up_self]) (fun j _ hj => eC_cong (fun _ _ => rfl) rfl rfl (va_up_ne _ _ hj))
theorem wM_setA {n t : Nat} (hk : k < 16) (he : ∀ A', eM cy ad I A' k = .inl (cy t, n, .inl (A' k))) (g : Nat → Int32) : (wM cy ad I A).set k (ad k, .inl (cy t, n, .inl g)) = wM cy ad I (va_up A k g) :=
  wl_set hk (by rw [he, va_up_self]) (fun j _ hj => eM_cong (fun _ _ _ => rfl) (va_up_ne _ _ hj))
end
theorem vp_lt {i : Int32} {n : Nat} (h : vp_in i n) : i.toNatClampNeg < n := Nat.not_le.mp fun q => h (Or.inr q)
theorem sw_out_4 {x : Int32} (h0 : ¬ x = 0) (h1 : ¬ x = 1) (h2 : ¬ x = 2) (h3 : ¬ x = 3) (h4 : ¬ x = 4) : x.toInt < 0 ∨ 4 < x.toInt := by
  rcases Int.lt_or_le x.toInt 0 with h | h
  · exact Or.inl h
  refine Or.inr ?_
  rcases Int.lt_or_le 4 x.toInt with g | g
  · exact g
  exfalso
  have H : ∀ k : Nat, k < 5 → ¬ x.toInt = (k : Int) := by
    intro k hk e
    have e2 : x = nI k := Int32.toInt_inj.mp (by rw [nI_toInt (by omega)]; exact e)
    match k, hk with | 0, _ => exact h0 e2 | 1, _ => exact h1 e2 | 2, _ => exact h2 e2 | 3, _ => exact h3 e2 | 4, _ => exact h4 e2 | j + 5, h => omega
  exact H x.toInt.toNat (by omega) (by omega)
theorem sw_out_8 {x : Int32} (h0 : ¬ x = 0) (h1 : ¬ x = 1) (h2 : ¬ x = 2) (h3 : ¬ x = 3) (h4 : ¬ x = 4) (h5 : ¬ x = 5) (h6 : ¬ x = 6) (h7 : ¬ x = 7) (h8 : ¬ x = 8) : x.toInt < 0 ∨ 8 < x.toInt := by
  rcases Int.lt_or_le x.toInt 0 with h | h
  · exact Or.inl h
  refine Or.inr ?_
  rcases Int.lt_or_le 8 x.toInt with g | g
  · exact g
  exfalso
  have H : ∀ k : Nat, k < 9 → ¬ x.toInt = (k : Int) := by
    intro k hk e
    have e2 : x = nI k := Int32.toInt_inj.mp (by rw [nI_toInt (by omega)]; exact e)
    match k, hk with | 0, _ => exact h0 e2 | 1, _ => exact h1 e2 | 2, _ => exact h2 e2 | 3, _ => exact h3 e2 | 4, _ => exact h4 e2 | 5, _ => exact h5 e2 | 6, _ => exact h6 e2 | 7, _ => exact h7 e2 | 8, _ => exact h8 e2 | j + 9, h => omega
  exact H x.toInt.toNat (by omega) (by omega)
theorem sw_out_40 {x : Int32} (h0 : ¬ x = 0) (h1 : ¬ x = 1) (h2 : ¬ x = 2) (h3 : ¬ x = 3) (h4 : ¬ x = 4) (h5 : ¬ x = 5) (h6 : ¬ x = 6) (h7 : ¬ x = 7) (h8 : ¬ x = 8) (h9 : ¬ x = 9) (h10 : ¬ x = 10) (h11 : ¬ x = 11) (h12 : ¬ x = 12) (h13 : ¬ x = 13) (h14 : ¬ x = 14) (h15 : ¬ x = 15) (h16 : ¬ x = 16) (h17 : ¬ x = 17) (h18 : ¬ x = 18) (h19 : ¬ x = 19) (h20 : ¬ x = 20) (h21 : ¬ x = 21) (h22 : ¬ x = 22) (h23 : ¬ x = 23) (h24 : ¬ x = 24) (h25 : ¬ x = 25) (h26 : ¬ x = 26) (h27 : ¬ x = 27) (h28 : ¬ x = 28) (h29 : ¬ x = 29) (h30 : ¬ x = 30) (h31 : ¬ x = 31) (h32 : ¬ x = 32) (h33 : ¬ x = 33) (h34 : ¬ x = 34) (h35 : ¬ x = 35) (h36 : ¬ x = 36) (h37 : ¬ x = 37) (h38 : ¬ x = 38) (h39 : ¬ x = 39) (h40 : ¬ x = 40) : x.toInt < 0 ∨ 40 < x.toInt := by
  rcases Int.lt_or_le x.toInt 0 with h | h
  · exact Or.inl h
  refine Or.inr ?_
  rcases Int.lt_or_le 40 x.toInt with g | g
  · exact g
  exfalso
  have H : ∀ k : Nat, k < 41 → ¬ x.toInt = (k : Int) := by
    intro k hk e
    have e2 : x = nI k := Int32.toInt_inj.mp (by rw [nI_toInt (by omega)]; exact e)
    match k, hk with | 0, _ => exact h0 e2 | 1, _ => exact h1 e2 | 2, _ => exact h2 e2 | 3, _ => exact h3 e2 | 4, _ => exact h4 e2 | 5, _ => exact h5 e2 | 6, _ => exact h6 e2 | 7, _ => exact h7 e2 | 8, _ => exact h8 e2 | 9, _ => exact h9 e2 | 10, _ => exact h10 e2 | 11, _ => exact h11 e2 | 12, _ => exact h12 e2 | 13, _ => exact h13 e2 | 14, _ => exact h14 e2 | 15, _ => exact h15 e2 | 16, _ => exact h16 e2 | 17, _ => exact h17 e2 | 18, _ => exact h18 e2 | 19, _ => exact h19 e2 | 20, _ => exact h20 e2 | 21, _ => exact h21 e2 | 22, _ => exact h22 e2 | 23, _ => exact h23 e2 | 24, _ => exact h24 e2 | 25, _ => exact h25 e2 | 26, _ => exact h26 e2 | 27, _ => exact h27 e2 | 28, _ => exact h28 e2 | 29, _ => exact h29 e2 | 30, _ => exact h30 e2 | 31, _ => exact h31 e2 | 32, _ => exact h32 e2 | 33, _ => exact h33 e2 | 34, _ => exact h34 e2 | 35, _ => exact h35 e2 | 36, _ => exact h36 e2 | 37, _ => exact h37 e2 | 38, _ => exact h38 e2 | 39, _ => exact h39 e2 | 40, _ => exact h40 e2 | j + 41, h => omega
  exact H x.toInt.toNat (by omega) (by omega)
