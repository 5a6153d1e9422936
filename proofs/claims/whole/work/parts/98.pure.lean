/-! what is owed of numbers alone -/
theorem pure_law {L : Nat} {xs : Nat → Int} (hL : L ≤ 3072) (hx : ∀ j, zI32 (xs j)) : ∃ μF : ZM, zrun (zc 13) (zseg 253) 0 [zr 0 0, zu, zu, zu] [] (zmu0 L xs []) = some (some (zi 1), μF) ∧ μF.2.2.2.2.1 ≤ 600000 ∧ μF.2.2.2.2.2 ≤ 7302250 := by
  sorry
