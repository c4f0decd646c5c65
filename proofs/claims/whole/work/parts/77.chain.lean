-- chains in a tree where one has moved
theorem ends_len {up : Nat → Option Nat} : ∀ {n m : Nat} {x : Option Nat}, ends up n x → (chn up n x).length ≤ m → ends up m x
  | n, m, none, _, _ => by cases m <;> exact trivial
  | 0, _, some p, h, _ => absurd h (fun q => q)
  | n + 1, m, some p, h, h2 => by
    rw [chn, List.length_cons] at h2
    obtain ⟨k, rfl⟩ : ∃ k, m = k + 1 := ⟨m - 1, by omega⟩
    exact ends_len (n := n) (m := k) (x := up p) h (by omega)
theorem chn_suf {up : Nat → Option Nat} {e : Nat} : ∀ (F : Nat) (x : Option Nat), ends up F x → e ∈ chn up F x → ∃ pre F', F = pre.length + F' ∧ chn up F x = pre ++ chn up F' (some e) ∧ ends up F' (some e)
  | 0, none, _, h => absurd h (by simp [chn])
  | 0, some p, h, _ => absurd h (fun q => q)
  | F + 1, none, _, h => absurd h (by simp [chn])
  | F + 1, some p, h, he => by
    by_cases q : e = p
    · exact ⟨[], F + 1, by simp, by rw [q]; rfl, by rw [q]; exact h⟩
    · rw [chn] at he
      obtain ⟨pre, F', h1, h2, h3⟩ := chn_suf F (up p) h ((List.mem_cons.mp he).resolve_left q)
      exact ⟨p :: pre, F', by rw [List.length_cons]; omega, by rw [chn, h2]; rfl, h3⟩
theorem chn_nodup {up : Nat → Option Nat} : ∀ (F : Nat) (x : Option Nat), ends up F x → (chn up F x).Nodup
  | 0, none, _ => List.nodup_nil
  | 0, some p, h => absurd h (fun q => q)
  | F + 1, none, _ => List.nodup_nil
  | F + 1, some p, h => by
    rw [chn]
    refine List.nodup_cons.mpr ⟨fun q => ?_, chn_nodup F (up p) h⟩
    obtain ⟨pre, F', h1, h2, h3⟩ := chn_suf F (up p) h q
    have h4 := (ends_more h3 (F + 1) (by omega)).2
    have h5 := congrArg List.length h2
    have h6 := congrArg List.length h4
    rw [List.length_append] at h5
    rw [chn, List.length_cons] at h6
    omega
def mvu (up : Nat → Option Nat) (c : Nat) (par : Option Nat) (t : Nat) : Option Nat := if t = c then par else up t
theorem mv_no {up : Nat → Option Nat} {c : Nat} {par : Option Nat} : ∀ (F : Nat) (x : Option Nat), ends up F x → c ∉ chn up F x → ends (mvu up c par) F x ∧ chn (mvu up c par) F x = chn up F x
  | 0, none, _, _ => ⟨trivial, rfl⟩
  | 0, some p, h, _ => absurd h (fun q => q)
  | F + 1, none, _, _ => ⟨trivial, rfl⟩
  | F + 1, some p, h, hc => by
    rw [chn] at hc
    have hc1 : ¬ p = c := fun q => hc (by rw [q]; exact List.mem_cons_self)
    have e : mvu up c par p = up p := if_neg hc1
    obtain ⟨a, b⟩ := mv_no (par := par) F (up p) h (fun q => hc (List.mem_cons_of_mem _ q))
    refine ⟨?_, ?_⟩
    · show ends (mvu up c par) F (mvu up c par p)
      rw [e]; exact a
    · rw [chn, chn, e, b]
theorem mv_yes {up : Nat → Option Nat} {c : Nat} {par : Option Nat} : ∀ (F : Nat) (x : Option Nat), ends up F x → c ∈ chn up F x → ∃ pre F', F = pre.length + 1 + F' ∧ chn up F x = pre ++ c :: chn up F' (up c) ∧ ends up F' (up c) ∧ ∀ G, ends (mvu up c par) G par → ends (mvu up c par) (pre.length + 1 + G) x ∧ chn (mvu up c par) (pre.length + 1 + G) x = pre ++ c :: chn (mvu up c par) G par
  | 0, none, _, h => absurd h (by simp [chn])
  | 0, some p, h, _ => absurd h (fun q => q)
  | F + 1, none, _, h => absurd h (by simp [chn])
  | F + 1, some p, h, hc => by
    by_cases q : p = c
    · subst q
      refine ⟨[], F, by simp; omega, rfl, h, fun G hG => ?_⟩
      rw [show [].length + 1 + G = G + 1 by simp; omega]
      have e : mvu up p par p = par := if_pos rfl
      refine ⟨?_, ?_⟩
      · show ends (mvu up p par) G (mvu up p par p)
        rw [e]; exact hG
      · rw [chn, e]; rfl
    · rw [chn] at hc
      obtain ⟨pre, F', h1, h2, h3, h4⟩ := mv_yes (par := par) F (up p) h ((List.mem_cons.mp hc).resolve_left (fun q2 => q q2.symm))
      have e : mvu up c par p = up p := if_neg q
      refine ⟨p :: pre, F', by rw [List.length_cons]; omega, by rw [chn, h2]; rfl, h3, fun G hG => ?_⟩
      rw [show (p :: pre).length + 1 + G = (pre.length + 1 + G) + 1 by rw [List.length_cons]; omega]
      obtain ⟨h5, h6⟩ := h4 G hG
      refine ⟨?_, ?_⟩
      · show ends (mvu up c par) (pre.length + 1 + G) (mvu up c par p)
        rw [e]; exact h5
      · rw [chn, e, h6]; rfl
section
variable {S : SS} {c : Nat} {par : Option Nat}
theorem up_ends (hW : wf S) (hc : c < nC S) : ends (up S) 5 (up S c) ∧ c ∉ chn (up S) 6 (up S c) ∧ chn (up S) 6 (some c) = c :: chn (up S) 6 (up S c) := by
  have he : ends (up S) 6 (some c) := (hW.2.2.1 c hc).2.2.1
  have h5 : ends (up S) 5 (up S c) := he
  have h6 := (ends_more h5 6 (by omega)).2
  have hd := chn_nodup 6 (some c) he
  rw [chn] at hd
  refine ⟨h5, by rw [h6]; exact (List.nodup_cons.mp hd).1, by rw [chn, h6]⟩
theorem x_ends (hW : wf S) {x : Option Nat} (hx : ∀ p, x = some p → p < nC S) : ends (up S) 6 x := by
  cases x with
  | none => exact trivial
  | some p => exact (hW.2.2.1 p (hx p rfl)).2.2.1
/-- the chain from t, before and behind the move -/
theorem mv_chn (hW : wf S) (hc : c < nC S) (hp : ∀ p, par = some p → p < nC S) (hpc : c ∉ chn (up S) 6 par) {t : Nat} (ht : t < nC S) : ends (mvu (up S) c par) 12 (some t) ∧ ((inb S t c = false ∧ chn (mvu (up S) c par) 12 (some t) = chn (up S) 6 (some t)) ∨ (inb S t c = true ∧ ∃ pre, (pre ++ c :: chn (up S) 6 (up S c)).Nodup ∧ chn (up S) 6 (some t) = pre ++ c :: chn (up S) 6 (up S c) ∧ chn (mvu (up S) c par) 12 (some t) = pre ++ c :: chn (up S) 6 par)) := by
  have he := x_ends hW (x := some t) (fun p q => by cases q; exact ht)
  have hpe := x_ends hW hp
  have hpm := mv_no (par := par) 6 par hpe hpc
  have hue := up_ends hW hc
  by_cases q : c ∈ chn (up S) 6 (some t)
  · obtain ⟨pre, F', h1, h2, h3, h4⟩ := mv_yes (par := par) 6 (some t) he q
    obtain ⟨h5, h6⟩ := h4 6 hpm.1
    have h7 : chn (up S) F' (up S c) = chn (up S) 6 (up S c) := (ends_more h3 6 (by omega)).2.symm
    obtain ⟨h8, h9⟩ := ends_more h5 12 (by omega)
    refine ⟨h8, Or.inr ⟨by unfold inb; simpa using q, pre, ?_, by rw [h2, h7], by rw [h9, h6, hpm.2]⟩⟩
    rw [← h7, ← h2]
    exact chn_nodup 6 _ he
  · obtain ⟨h5, h6⟩ := mv_no (par := par) 6 (some t) he q
    obtain ⟨h8, h9⟩ := ends_more h5 12 (by omega)
    exact ⟨h8, Or.inl ⟨by unfold inb; simpa using q, by rw [h9, h6]⟩⟩
abbrev sMv (S : SS) (c : Nat) (par : Option Nat) : SS := (S.1, kd S, ax S, mvu (up S) c par, sc S, th S, tg S, nm S, od S, se S, hi S)
theorem wf_mv (hW : wf S) (hc : c < nC S) (hp : ∀ p, par = some p → p < nC S ∧ ax S p = ax S c) (hpc : c ∉ chn (up S) 6 par) (hl : ∀ t, t < nC S → (chn (mvu (up S) c par) 12 (some t)).length ≤ 6) : wf (sMv S c par) := by
  have hm := fun t (ht : t < nC S) => (mv_chn hW hc (fun p q => (hp p q).1) hpc ht).1
  obtain ⟨w1, w2, w3, w4⟩ := hW
  refine ⟨w1, w2, fun t ht => ?_, w4⟩
  obtain ⟨a1, a2, a3, a4⟩ := w3 t ht
  refine ⟨a1, a2, ends_len (hm t ht) (hl t ht), fun p q => ?_⟩
  have q : (if t = c then par else up S t) = some p := q
  by_cases e : t = c
  · rw [if_pos e] at q
    have := hp p q
    exact ⟨this.1, by show ax S p = ax S t; rw [e]; exact this.2⟩
  · rw [if_neg e] at q; exact a4 p q
theorem inb_mv (hW : wf S) (hc : c < nC S) (hp : ∀ p, par = some p → p < nC S) (hpc : c ∉ chn (up S) 6 par) (hl : ∀ t, t < nC S → (chn (mvu (up S) c par) 12 (some t)).length ≤ 6) {t : Nat} (ht : t < nC S) (e : Nat) : inb (sMv S c par) t e = if inb S t c = true then (decide (e ∈ chn (up S) 6 par) || (inb S t e && !decide (e ∈ chn (up S) 6 (up S c)))) else inb S t e := by
  obtain ⟨h1, h2⟩ := mv_chn hW hc hp hpc ht
  have h3 : chn (mvu (up S) c par) 6 (some t) = chn (mvu (up S) c par) 12 (some t) := (ends_more (ends_len h1 (hl t ht)) 12 (by omega)).2.symm
  show decide (e ∈ chn (mvu (up S) c par) 6 (some t)) = _
  rw [h3]
  rcases h2 with ⟨h4, h5⟩ | ⟨h4, pre, h5, h6, h7⟩
  · rw [h4, h5, if_neg (by decide)]
    rfl
  · rw [h4, if_pos rfl, h7]
    have e1 : inb S t e = decide (e ∈ pre ++ c :: chn (up S) 6 (up S c)) := by unfold inb; rw [h6]
    rw [e1]
    by_cases q1 : e ∈ chn (up S) 6 par
    · simp [q1]
    · by_cases q2 : e ∈ chn (up S) 6 (up S c)
      · have := List.nodup_append.mp h5
        have q3 : e ∉ pre := fun q => this.2.2 e q e (List.mem_cons_of_mem _ q2) rfl
        have q4 : e ≠ c := fun q => by rw [q] at q2; exact (up_ends hW hc).2.1 q2
        simp [q1, q2, q3, q4]
      · simp [q1, q2]
theorem has_mv (hW : wf S) (hc : c < nC S) (hp : ∀ p, par = some p → p < nC S) (hpc : c ∉ chn (up S) 6 par) (hl : ∀ t, t < nC S → (chn (mvu (up S) c par) 12 (some t)).length ≤ 6) {e : Nat} (h1 : e ∉ chn (up S) 6 par) (h2 : e ∉ chn (up S) 6 (up S c)) (d : Nat) : has (sMv S c par) d e = has S d e := by
  refine exb_cong (fun t ht => ?_)
  show (tg S d t && inb (sMv S c par) t e) = (tg S d t && inb S t e)
  rw [inb_mv hW hc hp hpc hl ht e]
  split
  · simp [h1, h2]
  · rfl
end
