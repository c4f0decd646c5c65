section
variable {S : SS} {J : Nat → Int32} {E : Nat → Nat → Int32} {I : Nat → Int32} {L : Nat → Int64} {A : Nat → Nat → Int32} {B : Nat → Nat → Int64}
abbrev sCa (S : SS) (a : Nat) (par : Option Nat) : SS := ((nA S, nC S + 1, nD S), kd S, (fun c => if c = nC S then a else ax S c), (fun c => if c = nC S then par else up S c), sc S, th S, tg S, nm S, od S, se S, hi S)
theorem ax_old {a : Nat} {par : Option Nat} {c : Nat} (h : c < nC S) : ax (sCa S a par) c = ax S c := if_neg (show ¬ c = nC S by omega)
theorem up_old {a : Nat} {par : Option Nat} {c : Nat} (h : c < nC S) : up (sCa S a par) c = up S c := if_neg (show ¬ c = nC S by omega)
theorem up_new {a : Nat} {par : Option Nat} : up (sCa S a par) (nC S) = par := if_pos rfl
theorem ax_new {a : Nat} {par : Option Nat} : ax (sCa S a par) (nC S) = a := if_pos rfl
theorem chn_ca (hW : wf S) {a : Nat} {par : Option Nat} (F : Nat) (x : Option Nat) (hx : ∀ p, x = some p → p < nC S) : chn (up (sCa S a par)) F x = chn (up S) F x ∧ (ends (up S) F x → ends (up (sCa S a par)) F x) := chn_same (N := nC S) (fun c hc p hp => up_ok hW hc hp) (fun c hc => up_old hc) F x hx
theorem inb_old (hW : wf S) {a : Nat} {par : Option Nat} {t c : Nat} (ht : t < nC S) : inb (sCa S a par) t c = inb S t c := by
  unfold inb
  rw [(chn_ca hW 6 (some t) (fun p hp => by cases hp; exact ht)).1]
theorem inb_lt (hW : wf S) {t c : Nat} (ht : t < nC S) (h : inb S t c = true) : c < nC S := by
  unfold inb at h
  exact chn_lt hW 6 (some t) (fun p hp => by cases hp; exact ht) c (by simpa using h)
theorem tg_out (hW : wf S) (d : Nat) : tg S d (nC S) = false := by
  cases q : tg S d (nC S) with
  | false => rfl
  | true => have := (hW.2.2.2.2.2.1 d _ q).2; omega
theorem has_ca (hW : wf S) {a : Nat} {par : Option Nat} (d c : Nat) : has (sCa S a par) d c = has S d c := by
  show exb (fun t => tg S d t && inb (sCa S a par) t c) (nC S + 1) = exb (fun t => tg S d t && inb S t c) (nC S)
  rw [exb, tg_out hW d, Bool.false_and, Bool.or_false]
  exact exb_cong (fun t ht => by rw [inb_old hW ht])
theorem mis_ca (hW : wf S) {a : Nat} {par : Option Nat} (d x : Nat) : mis (sCa S a par) d x = mis S d x := by
  unfold mis
  congr 1
  show alb (fun t => !(ax (sCa S a par) t == x && tg S d t)) (nC S + 1) = _
  rw [alb, tg_out hW d, Bool.and_false, Bool.not_false, Bool.and_true]
  exact alb_cong (fun t ht => by rw [ax_old ht])
theorem se_out {sl : Sl} (h : wfl S sl) : sl.1 (nC S) = false := by
  cases q : sl.1 (nC S) with
  | false => rfl
  | true => have := h.1 _ q; omega
theorem opn_ca {sl : Sl} (h : wfl S sl) {a : Nat} {par : Option Nat} (x : Nat) : opn (sCa S a par) sl x = opn S sl x := by
  unfold opn
  congr 1
  show alb (fun c => !(ax (sCa S a par) c == x) || !sl.1 c) (nC S + 1) = _
  rw [alb, se_out h, Bool.not_false, Bool.or_true, Bool.and_true]
  exact alb_cong (fun t ht => by rw [ax_old ht])
theorem pas_ca (hW : wf S) {sl : Sl} (h : wfl S sl) {a : Nat} {par : Option Nat} (d x : Nat) : pas (sCa S a par) sl d x = pas S sl d x := by
  unfold pas
  rw [opn_ca h, mis_ca hW]
  have e1 : alb (fun c => !(ax (sCa S a par) c == x && sl.1 c) || has (sCa S a par) d c) (nC (sCa S a par)) = alb (fun c => !(ax S c == x && sl.1 c) || has S d c) (nC S) := by
    show alb _ (nC S + 1) = _
    rw [alb, se_out h, Bool.and_false, Bool.not_false, Bool.true_or, Bool.and_true]
    exact alb_cong (fun t ht => by rw [ax_old ht, has_ca hW])
  have e2 : exb (fun c => ax (sCa S a par) c == x && sl.1 c && has (sCa S a par) d c) (nC (sCa S a par)) = exb (fun c => ax S c == x && sl.1 c && has S d c) (nC S) := by
    show exb _ (nC S + 1) = _
    rw [exb, se_out h, Bool.and_false, Bool.false_and, Bool.or_false]
    exact exb_cong (fun t ht => by rw [ax_old ht, has_ca hW])
  rw [e1, e2]
  rfl
theorem wf_ca (hW : wf S) {a : Nat} {par : Option Nat} (h40 : nC S < 40) (ha : a < nA S) (hk : kd S a ≠ 2) (hp : ∀ p, par = some p → p < nC S ∧ ax S p = a) (hl : (chn (up S) 6 par).length ≤ 5) : wf (sCa S a par) := by
  have hend : ends (up S) 6 par := by
    cases par with
    | none => exact trivial
    | some p => exact (hW.2.2.1 p (hp p rfl).1).2.2.1
  have cc := fun F x hx => chn_ca (S := S) hW (a := a) (par := par) F x hx
  obtain ⟨w1, w2, w3, w4, w5, w6, w7, w8, w9, w10, w11, w12, w13⟩ := hW
  have wl : ∀ sl, wfl S sl → wfl (sCa S a par) sl := fun sl h => ⟨fun c hc => Nat.lt_succ_of_lt (h.1 c hc), h.2⟩
  refine ⟨⟨w1.1, by show nC S + 1 ≤ 40; omega, w1.2.2⟩, w2, fun c hc => ?_, w4, w5, fun d c h => ⟨(w6 d c h).1, Nat.lt_succ_of_lt (w6 d c h).2⟩, w7, w8, w9, w10, wl _ w11, fun sl hs => wl sl (w12 sl hs), w13⟩
  have hc' : c < nC S + 1 := hc
  by_cases e : c = nC S
  · subst e
    rw [ax_new, up_new]
    refine ⟨ha, hk, ?_, fun p q => ?_⟩
    · show ends (up (sCa S a par)) 5 (up (sCa S a par) (nC S))
      rw [up_new]
      exact (cc 5 par (fun p hp' => (hp p hp').1)).2 (ends_short hend hl)
    · have := hp p q
      exact ⟨Nat.lt_succ_of_lt this.1, by rw [ax_old this.1]; exact this.2⟩
  · obtain ⟨a1, a2, a3, a4⟩ := w3 c (by omega)
    rw [ax_old (by omega), up_old (by omega)]
    refine ⟨a1, a2, (cc 6 (some c) (fun p hp' => by cases hp'; omega)).2 a3, fun p q => ?_⟩
    have := a4 p q
    exact ⟨Nat.lt_succ_of_lt this.1, by rw [ax_old this.1]; exact this.2⟩
end
