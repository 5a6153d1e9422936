/-! the law: every call's answers are alike -/
section LAW
variable {n N : Nat} {S : ZS} {i : Int} {Q : (Int × ZS) ⊕ (Int × ZS) → Prop} {fx fm : ZS → Option (Int × ZS)} {fi : ZS → Option Int}
theorem law_G {b : Int × ZS → Option ((Int × ZS) ⊕ (Int × ZS))} (hQ : ∀ u : ZS, u.2 0 = S.2 0 → Inv (n + 1) u → Q (.inl (zadd i 6, u))) (h : Pair n S fx fm) (hb : ∀ v : Int × ZS, v.2.2 0 = S.2 0 → b v = (fm v.2).bind fun q => if v.1 = q.1 then some (.inl (zadd i 6, q.2)) else some (.inr (0, q.2))) :
    zp ((fx S).bind b) Q := by
  refine zp_bind.mpr (zp_mono h (fun v hv => ?_))
  rw [hb v hv.1]
  refine zp_bind.mpr (zp_mono hv.2 (fun u hu => ?_))
  exact zp_pos hu.1.symm (zp_some.mpr (hQ u.2 hu.2.1 hu.2.2))
theorem law_W {b : Int × ZS → Option ((Int × ZS) ⊕ (Int × ZS))} (hQ : ∀ u : ZS, u.2 0 = S.2 0 → Inv (n + 1) u → Q (.inl (zadd i 6, u))) (h : Pair n S fx fm) (hb : ∀ v : Int × ZS, v.2.2 0 = S.2 0 → b v = (fm v.2).bind fun q => if zlcmp v.1 q.1 = 0 then some (.inl (zadd i 6, q.2)) else some (.inr (0, q.2))) :
    zp ((fx S).bind b) Q := by
  refine zp_bind.mpr (zp_mono h (fun v hv => ?_))
  rw [hb v hv.1]
  refine zp_bind.mpr (zp_mono hv.2 (fun u hu => ?_))
  exact zp_pos (zlcmp_0.mpr hu.1.symm) (zp_some.mpr (hQ u.2 hu.2.1 hu.2.2))
theorem law_I (hQ : ∀ u : ZS, u.2 0 = S.2 0 → Inv (n + 1) u → Q (.inl (zadd i 6, u))) (h : PairI n S fi fm) :
    zp ((fi S).bind fun r => (fm S).bind fun q => if r = q.1 then some (.inl (zadd i 6, q.2)) else some (.inr (0, q.2))) Q := by
  refine zp_bind.mpr (zp_mono h (fun v hv => ?_))
  refine zp_bind.mpr (zp_mono hv (fun u hu => ?_))
  exact zp_pos hu.1.symm (zp_some.mpr (hQ u.2 hu.2.1 hu.2.2))
theorem law_ok {xs : Nat → Int} (hN : N ≤ 3072) (h0 : Inv 0 S) (hs : S.2 0 0 = xs) : zp (F_L_law_18 N 0 S) (fun v => v.1 = 1) := by
  unfold F_L_law_18
  refine zp_w (fun dd (u : Int × ZS) => ∃ n : Nat, dd = 600 - n ∧ n ≤ 512 ∧ u.1 = ((6 * n : Nat) : Int) ∧ Inv n u.2) ?_ 600 _ ⟨0, rfl, by omega, rfl, h0⟩
  rintro dd ⟨i, U⟩ ⟨n, rfl, hn, hi, hI⟩
  dsimp only at hi hI ⊢
  have fN : zsub (N : Int) 6 = (N : Int) - 6 := zsub_ok (by omega) (by omega)
  rw [fN]
  by_cases ce : (N : Int) - 6 < i
  · exact zp_pos ce (zp_some.mpr (zor2_r.mpr rfl))
  have hz : ∀ k : Int, 0 ≤ k → k ≤ 6 → zadd i k = i + k := fun k h1 h2 => zadd_ok (by omega) (by omega)
  have b0 : 0 ≤ i ∧ i < (N : Int) := by omega
  have b1 : 0 ≤ zadd i 1 ∧ zadd i 1 < (N : Int) := by rw [hz 1 (by decide) (by decide)]; omega
  have b2 : 0 ≤ zadd i 2 ∧ zadd i 2 < (N : Int) := by rw [hz 2 (by decide) (by decide)]; omega
  have b3 : 0 ≤ zadd i 3 ∧ zadd i 3 < (N : Int) := by rw [hz 3 (by decide) (by decide)]; omega
  have b4 : 0 ≤ zadd i 4 ∧ zadd i 4 < (N : Int) := by rw [hz 4 (by decide) (by decide)]; omega
  have b5 : 0 ≤ zadd i 5 ∧ zadd i 5 < (N : Int) := by rw [hz 5 (by decide) (by decide)]; omega
  have b6 : zadd i 6 = ((6 * (n + 1) : Nat) : Int) := by rw [hz 6 (by decide) (by decide), hi]; omega
  have hn5 : n < 512 := by omega
  have hQ : ∀ u : ZS, u.2 0 = U.2 0 → Inv (n + 1) u → zor2 (fun s' : Int × ZS => ∃ m, m < 600 - n ∧ ∃ n' : Nat, m = 600 - n' ∧ n' ≤ 512 ∧ s'.1 = ((6 * n' : Nat) : Int) ∧ Inv n' s'.2) (fun v : Int × ZS => v.1 = 1) (.inl (zadd i 6, u)) :=
    fun u _ hu => zor2_l.mpr ⟨600 - (n + 1), by omega, n + 1, rfl, by omega, b6, hu⟩
  refine zp_neg ce (zp_pos b0 ?_)
  clear hi hz fN ce b6 b0
  by_cases c0 : zand (U.2 0 0 i.toNat) 63 = 0
  · exact zp_pos c0 (zp_pos b1 (zp_pos b2 (zp_pos b3 (zp_pos b4 (zp_pos b5 (law_G hQ (pair_feed hI) (fun v hv => by first | rw [hv] | rfl)))))))
  refine zp_neg c0 ?_
  clear c0
  by_cases c1 : zand (U.2 0 0 i.toNat) 63 = 1
  · exact zp_pos c1 (zp_pos b1 (law_G hQ (pair_text hI) (fun v hv => by first | rw [hv] | rfl)))
  refine zp_neg c1 ?_
  clear c1
  by_cases c2 : zand (U.2 0 0 i.toNat) 63 = 2
  · exact zp_pos c2 (zp_pos b1 (law_I hQ (pair_fault hI)))
  refine zp_neg c2 ?_
  clear c2
  by_cases c3 : zand (U.2 0 0 i.toNat) 63 = 3
  · exact zp_pos c3 (zp_pos b1 (zp_pos b2 (zp_pos b3 (law_G hQ (pair_set hI) (fun v hv => by first | rw [hv] | rfl)))))
  refine zp_neg c3 ?_
  clear c3
  by_cases c4 : zand (U.2 0 0 i.toNat) 63 = 4
  · refine zp_pos c4 (zp_pos b1 (zp_pos b2 (zp_if (fun cz => ?_) (fun cz => ?_))))
    · exact law_G hQ (pair_corner hI (Or.inl rfl)) (fun v hv => by rw [hv]; exact if_pos cz)
    · exact law_G hQ (pair_corner hI (Or.inr rfl)) (fun v hv => by rw [hv]; exact if_neg cz)
  refine zp_neg c4 ?_
  clear c4
  by_cases c5 : zand (U.2 0 0 i.toNat) 63 = 5
  · refine zp_pos c5 (zp_pos b1 (zp_pos b2 (zp_if (fun cz => ?_) (fun cz => ?_))))
    · exact law_G hQ (pair_lay hI (Or.inl rfl)) (fun v hv => by rw [hv]; exact if_pos cz)
    · exact law_G hQ (pair_lay hI (Or.inr rfl)) (fun v hv => by rw [hv]; exact if_neg cz)
  refine zp_neg c5 ?_
  clear c5
  by_cases c6 : zand (U.2 0 0 i.toNat) 63 = 6
  · exact zp_pos c6 (zp_pos b1 (law_G hQ (pair_tick hI hn5) (fun v hv => by first | rw [hv] | rfl)))
  refine zp_neg c6 ?_
  clear c6
  by_cases c7 : zand (U.2 0 0 i.toNat) 63 = 7
  · exact zp_pos c7 (zp_pos b1 (zp_pos b2 (law_I hQ (pair_sheet hI))))
  refine zp_neg c7 ?_
  clear c7
  by_cases c8 : zand (U.2 0 0 i.toNat) 63 = 8
  · refine zp_pos c8 (zp_pos b1 (zp_if (fun cz => ?_) (fun cz => ?_)))
    · exact law_G hQ (pair_clear hI (Or.inl rfl)) (fun v hv => by rw [hv]; exact if_pos cz)
    · exact law_G hQ (pair_clear hI (Or.inr rfl)) (fun v hv => by rw [hv]; exact if_neg cz)
  refine zp_neg c8 ?_
  clear c8
  by_cases c9 : zand (U.2 0 0 i.toNat) 63 = 9
  · exact zp_pos c9 (zp_pos b1 (law_I hQ (pair_sees hI)))
  refine zp_neg c9 ?_
  clear c9
  by_cases c10 : zand (U.2 0 0 i.toNat) 63 = 10
  · exact zp_pos c10 (zp_pos b1 (zp_pos b2 (zp_pos b3 (law_I hQ (pair_passing hI)))))
  refine zp_neg c10 ?_
  clear c10
  by_cases c11 : zand (U.2 0 0 i.toNat) 63 = 11
  · exact zp_pos c11 (zp_pos b1 (zp_pos b2 (zp_pos b3 (law_G hQ (pair_saw hI) (fun v hv => by first | rw [hv] | rfl)))))
  refine zp_neg c11 ?_
  clear c11
  by_cases c12 : zand (U.2 0 0 i.toNat) 63 = 12
  · exact zp_pos c12 (law_G hQ (pair_forget hI) (fun v hv => by first | rw [hv] | rfl))
  refine zp_neg c12 ?_
  clear c12
  by_cases c13 : zand (U.2 0 0 i.toNat) 63 = 13
  · exact zp_pos c13 (zp_pos b1 (zp_pos b2 (law_G hQ (pair_explain hI) (fun v hv => by first | rw [hv] | rfl))))
  refine zp_neg c13 ?_
  clear c13
  by_cases c14 : zand (U.2 0 0 i.toNat) 63 = 14
  · exact zp_pos c14 (zp_pos b1 (zp_pos b2 (zp_pos b3 (law_G hQ (pair_foretold hI) (fun v hv => by first | rw [hv] | rfl)))))
  refine zp_neg c14 ?_
  clear c14
  by_cases c15 : zand (U.2 0 0 i.toNat) 63 = 15
  · exact zp_pos c15 (zp_pos b1 (zp_pos b2 (zp_pos b3 (zp_pos b4 (zp_pos b5 (law_I hQ (pair_crease hI)))))))
  refine zp_neg c15 ?_
  clear c15
  by_cases c16 : zand (U.2 0 0 i.toNat) 63 = 16
  · refine zp_pos c16 (zp_pos b1 (zp_pos b2 (zp_if (fun cz => ?_) (fun cz => ?_))))
    · exact law_G hQ (pair_page hI (Or.inl rfl)) (fun v hv => by rw [hv]; exact if_pos cz)
    · exact law_G hQ (pair_page hI (Or.inr rfl)) (fun v hv => by rw [hv]; exact if_neg cz)
  refine zp_neg c16 ?_
  clear c16
  by_cases c17 : zand (U.2 0 0 i.toNat) 63 = 17
  · refine zp_pos c17 (zp_pos b1 (zp_pos b2 (zp_pos b3 (zp_if (fun cz => ?_) (fun cz => ?_)))))
    · exact law_G hQ (pair_tray hI (Or.inl rfl)) (fun v hv => by rw [hv]; exact if_pos cz)
    · exact law_G hQ (pair_tray hI (Or.inr rfl)) (fun v hv => by rw [hv]; exact if_neg cz)
  refine zp_neg c17 ?_
  clear c17
  by_cases c18 : zand (U.2 0 0 i.toNat) 63 = 18
  · exact zp_pos c18 (zp_pos b1 (zp_pos b2 (law_G hQ (pair_pocket hI) (fun v hv => by first | rw [hv] | rfl))))
  refine zp_neg c18 ?_
  clear c18
  by_cases c19 : zand (U.2 0 0 i.toNat) 63 = 19
  · exact zp_pos c19 (zp_pos b1 (zp_pos b2 (zp_pos b3 (zp_pos b4 (law_G hQ (pair_heat hI) (fun v hv => by first | rw [hv] | rfl))))))
  refine zp_neg c19 ?_
  clear c19
  by_cases c20 : zand (U.2 0 0 i.toNat) 63 = 20
  · exact zp_pos c20 (zp_pos b1 (law_G hQ (pair_plan hI) (fun v hv => by first | rw [hv] | rfl)))
  refine zp_neg c20 ?_
  clear c20
  by_cases c21 : zand (U.2 0 0 i.toNat) 63 = 21
  · exact zp_pos c21 (zp_pos b1 (law_G hQ (pair_copies hI) (fun v hv => by first | rw [hv] | rfl)))
  refine zp_neg c21 ?_
  clear c21
  by_cases c22 : zand (U.2 0 0 i.toNat) 63 = 22
  · exact zp_pos c22 (zp_pos b1 (law_G hQ (pair_out hI) (fun v hv => by first | rw [hv] | rfl)))
  refine zp_neg c22 ?_
  clear c22
  by_cases c23 : zand (U.2 0 0 i.toNat) 63 = 23
  · exact zp_pos c23 (law_G hQ (pair_empty hI) (fun v hv => by first | rw [hv] | rfl))
  refine zp_neg c23 ?_
  clear c23
  by_cases c24 : zand (U.2 0 0 i.toNat) 63 = 24
  · exact zp_pos c24 (zp_pos b1 (law_G hQ (pair_again hI) (fun v hv => by first | rw [hv] | rfl)))
  refine zp_neg c24 ?_
  clear c24
  by_cases c25 : zand (U.2 0 0 i.toNat) 63 = 25
  · exact zp_pos c25 (zp_pos b1 (law_G hQ (pair_lack hI) (fun v hv => by first | rw [hv] | rfl)))
  refine zp_neg c25 ?_
  clear c25
  by_cases c26 : zand (U.2 0 0 i.toNat) 63 = 26
  · exact zp_pos c26 (zp_pos b1 (law_G hQ (pair_kept hI) (fun v hv => by first | rw [hv] | rfl)))
  refine zp_neg c26 ?_
  clear c26
  by_cases c27 : zand (U.2 0 0 i.toNat) 63 = 27
  · exact zp_pos c27 (zp_pos b1 (zp_pos b2 (zp_pos b3 (law_I hQ (pair_pay hI)))))
  refine zp_neg c27 ?_
  clear c27
  by_cases c28 : zand (U.2 0 0 i.toNat) 63 = 28
  · exact zp_pos c28 (zp_pos b1 (zp_pos b2 (zp_pos b3 (zp_pos b4 (law_G hQ (pair_part hI) (fun v hv => by first | rw [hv] | rfl))))))
  refine zp_neg c28 ?_
  clear c28
  by_cases c29 : zand (U.2 0 0 i.toNat) 63 = 29
  · exact zp_pos c29 (zp_pos b1 (zp_pos b2 (zp_pos b3 (law_G hQ (pair_service hI) (fun v hv => by first | rw [hv] | rfl)))))
  refine zp_neg c29 ?_
  clear c29
  by_cases c30 : zand (U.2 0 0 i.toNat) 63 = 30
  · exact zp_pos c30 (zp_pos b1 (zp_pos b2 (zp_pos b3 (law_G hQ (pair_row hI) (fun v hv => by first | rw [hv] | rfl)))))
  refine zp_neg c30 ?_
  clear c30
  by_cases c31 : zand (U.2 0 0 i.toNat) 63 = 31
  · exact zp_pos c31 (zp_pos b1 (zp_pos b2 (zp_pos b3 (zp_pos b4 (law_W hQ (pair_write hI) (fun v hv => by first | rw [hv] | rfl))))))
  refine zp_neg c31 ?_
  clear c31
  by_cases c32 : zand (U.2 0 0 i.toNat) 63 = 32
  · exact zp_pos c32 (zp_pos b1 (law_G hQ (pair_save hI) (fun v hv => by first | rw [hv] | rfl)))
  refine zp_neg c32 ?_
  clear c32
  by_cases c33 : zand (U.2 0 0 i.toNat) 63 = 33
  · exact zp_pos c33 (zp_pos b1 (zp_pos b2 (law_G hQ (pair_load hI) (fun v hv => by first | rw [hv] | rfl))))
  refine zp_neg c33 ?_
  clear c33
  by_cases c34 : zand (U.2 0 0 i.toNat) 63 = 34
  · exact zp_pos c34 (zp_pos b1 (law_G hQ (pair_image hI) (fun v hv => by first | rw [hv] | rfl)))
  refine zp_neg c34 ?_
  clear c34
  by_cases c35 : zand (U.2 0 0 i.toNat) 63 = 35
  · exact zp_pos c35 (zp_pos b1 (law_G hQ (pair_restore hI) (fun v hv => by first | rw [hv] | rfl)))
  refine zp_neg c35 ?_
  clear c35
  by_cases c36 : zand (U.2 0 0 i.toNat) 63 = 36
  · exact zp_pos c36 (zp_pos b1 (law_I hQ (pair_count hI)))
  refine zp_neg c36 ?_
  clear c36
  refine zp_some.mpr (hQ U rfl ?_)
  obtain ⟨hT, hW, hF, hX, hO, hC, hJ, hII, hP, hK, hR, hM⟩ := hI
  exact ⟨hT, hW, hF, InvX_up hX, hO, hC, hJ, hII, hP, hK, hR, hM⟩
end LAW
