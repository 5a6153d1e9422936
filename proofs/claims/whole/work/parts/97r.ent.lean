/-! plan: the class's entry read -/
section ENT
variable {S V : ZS} {al : Nat → Int} {k a : Nat}
theorem ent_code {P c : Nat} (hP : ∃ q, P = q * 2 ^ 24) (hP2 : P < 4611686018427387904) (hc : c < 178560) : zl2i (zland ((P + c : Nat) : Int) 16777215) = (c : Int) := by
  obtain ⟨q, rfl⟩ := hP
  obtain ⟨M, hM⟩ : ∃ M : Nat, M = 2 ^ 24 - 1 := ⟨_, rfl⟩
  have hMi : (16777215 : Int) = (M : Int) := by omega
  have h2 : (q * 2 ^ 24 + c) % 2 ^ 24 = c := by omega
  have hlt : q * 2 ^ 24 + c < 4611686018427387904 + 178560 := Nat.add_lt_add hP2 hc
  generalize q * 2 ^ 24 + c = A at h2 hlt ⊢
  have hA : A < 9223372036854775808 := by omega
  have hM2 : M < 9223372036854775808 := by omega
  have e := zland_n (a := A) (b := M) hA hM2
  have m : A &&& M = A % 2 ^ 24 := by rw [hM]; exact Nat.and_two_pow_sub_one_eq_mod A 24
  rw [hMi, e, m, h2, zl2i_ok (by omega) (by omega)]
theorem CI_fr {x : CS} (h : CI al S k a x) (h5 : V.1 14 5 = S.1 14 5) (h6 : V.1 14 6 = S.1 14 6) (hA : V.2 14 = S.2 14) : CI al V k a x := by
  obtain ⟨N, st, par, ach, wd, h1, h2, h3, h4, h5', h6', ⟨q1, q2, q3⟩, hg⟩ := h
  exact ⟨N, st, par, ach, wd, h1, h2, h3, h4, h5', h6', ⟨h5.trans q1, fun j hj => by rw [hA]; exact q2 j hj, fun s hs => by rw [hA]; exact q3 s hs⟩, h6.trans hg⟩
end ENT
