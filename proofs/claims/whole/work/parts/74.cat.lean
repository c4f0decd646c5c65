theorem ends_short {up : Nat → Option Nat} : ∀ {n : Nat} {x : Option Nat}, ends up (n + 1) x → (chn up (n + 1) x).length ≤ n → ends up n x
  | n, none, _, _ => by cases n <;> exact trivial
  | 0, some p, _, h2 => by rw [chn, List.length_cons] at h2; omega
  | n + 1, some p, h, h2 => by
    rw [chn, List.length_cons] at h2
    exact ends_short (n := n) (x := up p) h (by omega)
theorem chn_same {up up' : Nat → Option Nat} {N : Nat} (hc : ∀ c, c < N → ∀ p, up c = some p → p < N) (he : ∀ c, c < N → up' c = up c) : ∀ (F : Nat) (x : Option Nat), (∀ p, x = some p → p < N) → chn up' F x = chn up F x ∧ (ends up F x → ends up' F x)
  | 0, none, _ => ⟨rfl, fun _ => trivial⟩
  | 0, some p, _ => ⟨rfl, fun h => h⟩
  | F + 1, none, _ => ⟨rfl, fun _ => trivial⟩
  | F + 1, some p, hx => by
    have hp := hx p rfl
    obtain ⟨a, b⟩ := chn_same hc he F (up p) (fun q hq => hc p hp q hq)
    refine ⟨?_, fun h => ?_⟩
    · rw [chn, chn, he p hp, a]
    · show ends up' F (up' p)
      rw [he p hp]; exact b h
