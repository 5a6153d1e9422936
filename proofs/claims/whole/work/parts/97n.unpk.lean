/-! plan: the class's state taken apart -/
section UNP
variable {S : ZS} {al : Nat → Int} {f p h t s : Nat}
def unpS (S : ZS) (f p h t s : Nat) : ZS := (zup (zup (zup (zup (zup (zup S.1 14 13 (s : Int)) 14 12 (t : Int)) 14 11 (h : Int)) 14 9 ((p % 16 : Nat) : Int)) 14 10 ((p / 16 : Nat) : Int)) 14 8 (f : Int), S.2)
theorem lp_unpack {v : Nat} (hv : v = (((f * 64 + p) * 31 + h) * 5 + t) * 2 + s) (b1 : f ≤ 8) (b2 : p < 64) (b3 : h ≤ 30) (b4 : t ≤ 4) (b5 : s ≤ 1) : F_X5_unpack (v : Int) S = some (unpS S f p h t s) := by
  have d1 : zrem (v : Int) 2 = (s : Int) := by rw [zrem_ok (by omega) (by omega) (by omega) (by omega)]; omega
  have d2 : zdiv (v : Int) 2 = ((((f * 64 + p) * 31 + h) * 5 + t : Nat) : Int) := by rw [zdiv_ok (by omega) (by omega) (by omega) (by omega)]; omega
  have d3 : zrem ((((f * 64 + p) * 31 + h) * 5 + t : Nat) : Int) 5 = (t : Int) := by rw [zrem_ok (by omega) (by omega) (by omega) (by omega)]; omega
  have d4 : zdiv ((((f * 64 + p) * 31 + h) * 5 + t : Nat) : Int) 5 = (((f * 64 + p) * 31 + h : Nat) : Int) := by rw [zdiv_ok (by omega) (by omega) (by omega) (by omega)]; omega
  have d5 : zrem (((f * 64 + p) * 31 + h : Nat) : Int) 31 = (h : Int) := by rw [zrem_ok (by omega) (by omega) (by omega) (by omega)]; omega
  have d6 : zdiv (((f * 64 + p) * 31 + h : Nat) : Int) 31 = ((f * 64 + p : Nat) : Int) := by rw [zdiv_ok (by omega) (by omega) (by omega) (by omega)]; omega
  have d7 : zrem ((f * 64 + p : Nat) : Int) 16 = ((p % 16 : Nat) : Int) := by rw [zrem_ok (by omega) (by omega) (by omega) (by omega)]; omega
  have d8 : zrem ((f * 64 + p : Nat) : Int) 64 = (p : Int) := by rw [zrem_ok (by omega) (by omega) (by omega) (by omega)]; omega
  have d9 : zdiv ((f * 64 + p : Nat) : Int) 64 = (f : Int) := by rw [zdiv_ok (by omega) (by omega) (by omega) (by omega)]; omega
  have d10 : zdiv (p : Int) 16 = ((p / 16 : Nat) : Int) := by rw [zdiv_ok (by omega) (by omega) (by omega) (by omega)]; omega
  unfold F_X5_unpack zlt unpS
  rw [d1, d2, d3, d4, d5, d6, d7, d8, d9, d10]
  by_cases c : s = 1
  · subst c
    rw [if_pos (show ((1 : Nat) : Int) = 1 from rfl)]
    rfl
  · have : s = 0 := by omega
    subst this
    rw [if_neg (by decide)]
    rfl
theorem lp_gives {i : Nat} (h7 : S.1 14 7 = 11) (hi : i < 4) (hf : f < 8) (e5 : S.2 11 5 i = al (20 + i)) (e4 : S.2 11 4 i = al (16 + i)) (e2 : S.2 11 2 f = al f) :
    F_X5_gives (i : Int) (f : Int) S = some (if al (20 + i) ≠ 0 ∧ al (16 + i) = al f then 1 else 0) := by
  refine zp_of ?_
  unfold F_X5_gives
  have g5 : S.2 (S.1 14 7).toNat 5 ((i : Int)).toNat = al (20 + i) := by rw [h7, Int.toNat_natCast]; exact e5
  have g4 : S.2 (S.1 14 7).toNat 4 ((i : Int)).toNat = al (16 + i) := by rw [h7, Int.toNat_natCast]; exact e4
  have g2 : S.2 (S.1 14 7).toNat 2 ((f : Int)).toNat = al f := by rw [h7, Int.toNat_natCast]; exact e2
  refine zp_pos (by rw [h7]; exact Or.inl rfl) (zp_pos (by omega) ?_)
  by_cases c : al (20 + i) = 0
  · exact zp_pos (by rw [g5]; exact c) (zp_some.mpr (by rw [if_neg (fun z => z.1 c)]))
  · refine zp_neg (by rw [g5]; exact c) (zp_pos (by omega) ?_)
    by_cases c2 : al (16 + i) = al f
    · exact zp_pos (by rw [g4, g2]; exact c2) (zp_some.mpr (by rw [if_pos ⟨c, c2⟩]))
    · exact zp_neg (by rw [g4, g2]; exact c2) (zp_some.mpr (by rw [if_neg (fun z => c2 z.2)]))
end UNP
