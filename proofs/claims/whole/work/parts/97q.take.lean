/-! plan: whether the class takes the next page -/
section TAK
variable {S : ZS} {al : Nat → Int} {f p : Nat}
theorem lp_takes (hJ : JobOK al) (hf : (f : Int) < al 31) (hp : p < 64) (c8 : S.1 14 8 = (f : Int)) (c9 : S.1 14 9 = ((p % 16 : Nat) : Int)) (c10 : S.1 14 10 = ((p / 16 : Nat) : Int)) (hj : PlJ al S) (e5 : S.1 11 5 = al 24) :
    F_X5_takesNext S = some (if (al (8 + f) = 1 ∧ p / 16 + pop4 (p % 16) = 0) ∨ (al (8 + f) ≠ 1 ∧ ((p / 16 + pop4 (p % 16) : Nat) : Int) < al 24) then 1 else 0) := by
  obtain ⟨h7, h0, h3, h4⟩ := hj
  have j2 := hJ.1.2
  have hside := (hJ.2.1 f hf).2
  have e3 := (h4 f hf).2
  have hy : p % 16 < 16 := Nat.mod_lt _ (by decide)
  have hpop : pop4 (p % 16) ≤ 4 := by unfold pop4; omega
  have fz : zadd ((p / 16 : Nat) : Int) (pop4 (p % 16) : Int) = ((p / 16 + pop4 (p % 16) : Nat) : Int) := by rw [zadd_ok (by omega) (by omega)]; rfl
  refine zp_of ?_
  unfold F_X5_takesNext
  rw [c9, c10, c8]
  refine zp_bind.mpr ((zp_eq (lp_bitc hy)).mpr (zp_pos (by rw [h7]; exact Or.inl rfl) (zp_pos (by omega) ?_)))
  rw [fz]
  have g3 : S.2 (S.1 14 7).toNat 3 ((f : Int)).toNat = al (8 + f) - 1 := by rw [h7, Int.toNat_natCast]; exact e3
  have g5 : S.1 (S.1 14 7).toNat 5 = al 24 := by rw [h7]; exact e5
  by_cases c : al (8 + f) = 1
  · refine zp_pos (by rw [g3]; omega) ?_
    by_cases c2 : p / 16 + pop4 (p % 16) = 0
    · exact zp_pos (by omega) (zp_some.mpr (by rw [if_pos (Or.inl ⟨c, c2⟩)]))
    · exact zp_neg (by omega) (zp_some.mpr (by rw [if_neg (fun z => z.elim (fun y => c2 y.2) (fun y => y.1 c))]))
  · refine zp_neg (by rw [g3]; omega) ?_
    by_cases c2 : ((p / 16 + pop4 (p % 16) : Nat) : Int) < al 24
    · exact zp_pos (by rw [g5]; exact c2) (zp_some.mpr (by rw [if_pos (Or.inr ⟨c, c2⟩)]))
    · exact zp_neg (by rw [g5]; exact c2) (zp_some.mpr (by rw [if_neg (fun z => z.elim (fun y => c y.1) (fun y => c2 y.2))]))
end TAK
