/-! a sheet laid -/
section LAYF
variable {A : ZA} {m : Nat} {L : List Nat} {front en : Int}
theorem free_eq (h1 : ∀ a : Nat, a < m → A 6 7 a = A 1 32 a ∧ A 6 10 a = 10 * A 1 31 a) (hL : ∀ a : Nat, a ∈ L ↔ (a : Int) < (m : Int) ∧ (A 1 33 a = 0 ∨ A 1 33 a = 3)) :
    (∃ a, a ∈ L ∧ ovr A 6 front en a = true) ↔ ∃ a, a < m ∧ ov12 A front en a = true := by
  constructor
  · rintro ⟨a, ha, hp⟩
    obtain ⟨h2, h3⟩ := (hL a).mp ha
    obtain ⟨e1, e2⟩ := h1 a (by omega)
    have hp := of_decide_eq_true hp
    rw [e1, e2] at hp
    exact ⟨a, by omega, decide_eq_true ⟨h3, hp.1, hp.2⟩⟩
  · rintro ⟨a, ha, hp⟩
    have hp := of_decide_eq_true hp
    obtain ⟨e1, e2⟩ := h1 a ha
    refine ⟨a, (hL a).mpr ⟨by omega, hp.1⟩, decide_eq_true ?_⟩
    rw [e1, e2]
    exact hp.2
end LAYF
