/-! plan: the class's line -/
section MEET
variable {S : ZS} {al : Nat → Int} {N k a : Nat}
theorem or_pl {P c : Nat} (hc : c < 2 ^ 24) (hP : ∃ q, P = q * 2 ^ 24) : P ||| c = P + c := by
  obtain ⟨q, rfl⟩ := hP
  have := Nat.shiftLeft_add_eq_or_of_lt hc q
  rw [Nat.shiftLeft_eq] at this
  exact this.symm
theorem lp_meet {f p h t s P : Nat} (hv : CVal al (f, p, h, t, s)) (h31 : al 31 ≤ 8) (hP : ∃ q, P = q * 2 ^ 24) (hP2 : P < 2 ^ 62) (h5 : S.1 14 5 = (N : Int)) (hN : N < 65536) (h6 : S.1 14 6 = -1) (h7 : S.1 14 7 = 11) (e0 : S.1 11 0 = al 31) :
    F_X5_meet (f : Int) (p : Int) (h : Int) (t : Int) (s : Int) (P : Int) S = some (if mbit (S.2 14 5) (ccode (f, p, h, t, s)) = true then S else
      (zup (if cac al (f, p, h, t, s) = true then zup S.1 14 6 (N : Int) else S.1) 14 5 ((N + 1 : Nat) : Int), zuA (zuA S.2 14 5 (zset (S.2 14 5) (ccode (f, p, h, t, s) / 64) (zlor (S.2 14 5 (ccode (f, p, h, t, s) / 64)) (zlshl 1 ((ccode (f, p, h, t, s) % 64 : Nat) : Int))))) 14 4 (zset (S.2 14 4) N ((P + ccode (f, p, h, t, s) : Nat) : Int)))) := by
  have hlt := ccode_lt h31 _ hv
  have hac : cac al (f, p, h, t, s) = true ↔ ((f : Int) = al 31 ∧ p = 0) := decide_eq_true_iff
  have hac2 := hac.mpr
  have hac3 := hac.mp
  have hcode : zadd (zmul (zadd (zmul (zadd (zmul (zadd (zmul (f : Int) 64) (p : Int)) 31) (h : Int)) 5) (t : Int)) 2) (s : Int) = (ccode (f, p, h, t, s) : Int) := by
    dsimp only [CVal] at hv
    dsimp only [ccode]
    simp (disch := omega) only [zadd_ok, zmul_ok]
    omega
  generalize hcd : ccode (f, p, h, t, s) = cd at *
  have f1 : zshr (cd : Int) 6 = ((cd / 64 : Nat) : Int) := by rw [zshr_6 (by omega) (by omega)]; omega
  have f2 : zand (cd : Int) 63 = ((cd % 64 : Nat) : Int) := by rw [zand_63 (by omega) (by omega)]; omega
  have f3 : zadd (N : Int) 1 = ((N + 1 : Nat) : Int) := by rw [zadd_ok (by omega) (by omega)]; rfl
  have f4 : zlor (P : Int) (cd : Int) = ((P + cd : Nat) : Int) := by rw [zlor_n (by omega) (by omega), or_pl (by omega) hP]
  have hb : zlcmp (zland (S.2 14 5 (cd / 64)) (zlshl 1 ((cd % 64 : Nat) : Int))) 0 = 0 ↔ ¬ mbit (S.2 14 5) cd = true := by
    rw [zlcmp_0, zbit_and (Nat.mod_lt cd (by decide))]
    unfold mbit
    simp
  refine zp_of ?_
  unfold F_X5_meet
  refine zp_lt.mpr ?_
  rw [hcode]
  clear hP hac hcode
  refine zp_neg (by omega) (zp_pos (by omega) (zp_pos (by omega) (zp_pos h6 (zp_pos (by rw [f1]; omega) ?_))))
  by_cases c : mbit (S.2 14 5) cd = true
  · exact zp_neg (fun z => (hb.mp (by rw [f1, f2, Int.toNat_natCast] at z; exact z)) c) (zp_some.mpr (by rw [if_pos c]))
  · refine zp_pos (by rw [f1, f2, Int.toNat_natCast]; exact hb.mpr c) (zp_lt.mpr (zp_pos (by dsimp only; omega) (zp_lt.mpr (zp_pos (by dsimp only; rw [h7]; exact Or.inl rfl) ?_))))
    rw [if_neg c]
    have e11 : S.1 (S.1 14 7).toNat 0 = al 31 := by rw [h7]; exact e0
    by_cases c1 : (f : Int) = al 31
    · refine zp_pos (by dsimp only; rw [e11]; exact c1) ?_
      by_cases c2 : p = 0
      · refine zp_pos (by omega) (zp_lt.mpr (zp_lt.mpr (zp_some.mpr ?_)))
        rw [if_pos (hac2 ⟨c1, c2⟩)]
        dsimp only
        rw [zup_k (show (5 : Nat) ≠ 6 by decide), h5, f3, f1, f2, f4, Int.toNat_natCast, Int.toNat_natCast, zuA_o (show (4 : Nat) ≠ 5 by decide)]
      · refine zp_neg (by omega) (zp_lt.mpr (zp_some.mpr ?_))
        rw [if_neg (fun z => c2 (hac3 z).2)]
        dsimp only
        rw [h5, f3, f1, f2, f4, Int.toNat_natCast, Int.toNat_natCast, zuA_o (show (4 : Nat) ≠ 5 by decide)]
    · refine zp_neg (by dsimp only; rw [e11]; exact c1) (zp_lt.mpr (zp_some.mpr ?_))
      rw [if_neg (fun z => c1 (hac3 z).1)]
      dsimp only
      rw [h5, f3, f1, f2, f4, Int.toNat_natCast, Int.toNat_natCast, zuA_o (show (4 : Nat) ≠ 5 by decide)]
theorem lp_meet0 {f p h t s P : Nat} (hv : CVal al (f, p, h, t, s)) (h31 : al 31 ≤ 8) (h6 : S.1 14 6 ≠ -1) : F_X5_meet (f : Int) (p : Int) (h : Int) (t : Int) (s : Int) (P : Int) S = some S := by
  have hlt := ccode_lt h31 _ hv
  have hcode : zadd (zmul (zadd (zmul (zadd (zmul (zadd (zmul (f : Int) 64) (p : Int)) 31) (h : Int)) 5) (t : Int)) 2) (s : Int) = (ccode (f, p, h, t, s) : Int) := by
    dsimp only [CVal] at hv
    dsimp only [ccode]
    simp (disch := omega) only [zadd_ok, zmul_ok]
    omega
  refine zp_of ?_
  unfold F_X5_meet
  refine zp_lt.mpr ?_
  rw [hcode]
  refine zp_neg (by omega) (zp_pos (by omega) (zp_if (fun _ => zp_neg h6 (zp_some.mpr rfl)) (fun _ => zp_some.mpr rfl)))
end MEET
