/-! the calls without loops -/
theorem zp_wi {x a b : Int} {S : ZS} {Q : Int → Prop} : zp (F_X12_within x a b S) Q ↔ ((a ≤ x ∧ x ≤ b) → Q 1) ∧ (¬(a ≤ x ∧ x ≤ b) → Q 0) := by
  rw [F12_within, zp_some]
  by_cases h : a ≤ x ∧ x ≤ b
  · simp [h]
  · simp [h]
theorem zp_gen (S : ZS) {S' : ZS} {fm : ZS → Option (Int × ZS)} {Q : Int × ZS → Prop} (h0 : S'.2 0 = S.2 0) (h1 : S'.1 1 = S.1 1) (h2 : S'.2 1 = S.2 1)
    (k : ∀ T : ZS, T = S' → T.2 0 = S.2 0 → T.1 1 = S.1 1 → T.2 1 = S.2 1 → zp (fm T) Q) : zp (fm S') Q := k S' rfl h0 h1 h2
section TRIV
variable {n : Nat} {S : ZS} {x1 x2 x3 x4 : Int}
theorem InvX_up {n : Nat} {wp : Int} {I6 : Nat → Int} {A6 A7 : Nat → Nat → Int} {wy ro : Nat → Int} {sheets now jammed : Int} {len head state side stood came turned seeing kept passings passOn passOff : Nat → Int}
    (h : InvX n wp I6 A6 A7 wy ro sheets now jammed len head state side stood came turned seeing kept passings passOn passOff) : InvX (n + 1) wp I6 A6 A7 wy ro sheets now jammed len head state side stood came turned seeing kept passings passOn passOff := by
  obtain ⟨⟨L, P, h1, a1, a2, h2⟩, h3⟩ := h
  exact ⟨⟨L, P, h1, a1, ⟨a2.1, by have := a2.2; omega⟩, h2⟩, h3⟩
end TRIV
