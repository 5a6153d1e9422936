/-! plan: the class's pocket -/
section PCK
variable {S : ZS} {al : Nat → Int} {f p h t s : Nat}
def bcv (x0 : Int) : Int :=
  let v1 := zadd (zand (zsub x0 (zand (zushr x0 1) 1431655765)) 858993459) (zand (zushr (zsub x0 (zand (zushr x0 1) 1431655765)) 2) 858993459)
  let v2 := zadd (zand (zadd v1 (zushr v1 4)) 252645135) (zushr (zand (zadd v1 (zushr v1 4)) 252645135) 8)
  zand (zadd v2 (zushr v2 16)) 63
theorem bcv_ok : ∀ y : Nat, y < 16 → bcv (y : Int) = (pop4 y : Int) := by decide +kernel
theorem lp_bitc {y : Nat} (hy : y < 16) : F_J6_bitCount_0f7a4 (y : Int) S = some (pop4 y : Int) := by
  have : F_J6_bitCount_0f7a4 (y : Int) S = some (bcv (y : Int)) := rfl
  rw [this, bcv_ok y hy]
theorem lp_aged {rp en : Nat} {x1 : Int} (h7 : S.1 14 7 = 11) (e6 : S.1 11 6 = al 25) (h25 : 0 ≤ al 25 ∧ al 25 ≤ 4) {y : Nat} (h9 : S.1 14 9 = (y : Int)) (hy : y < 16) (hr : x1 = (rp : Int)) (hr3 : rp ≤ 3) (he : en ≤ 1) :
    F_X5_agedPocket x1 (en : Int) S = some (agd (al 25).toNat rp y en : Int) := by
  subst hr
  obtain ⟨r, hr⟩ : ∃ r : Nat, al 25 = (r : Int) := ⟨_, (Int.toNat_of_nonneg h25.1).symm⟩
  have hr4 : r ≤ 4 := by omega
  have e11 : S.1 (S.1 14 7).toNat 6 = (r : Int) := by rw [h7]; exact e6.trans hr
  have f1 : zshl (y : Int) 1 = ((y * 2 : Nat) : Int) := zshl_n (k := 1) (by decide) (by omega)
  have f2 : zor ((y * 2 : Nat) : Int) (en : Int) = ((y * 2 + en : Nat) : Int) := by
    rw [zor_n (by omega) (by omega)]
    have := Nat.shiftLeft_add_eq_or_of_lt (show en < 2 ^ 1 by omega) y
    rw [Nat.shiftLeft_eq] at this
    rw [show y * 2 = y * 2 ^ 1 by omega, ← this]
  have f3 : zand (zshr ((y * 2 + en : Nat) : Int) (r : Int)) 1 = (((y * 2 + en) / 2 ^ r % 2 : Nat) : Int) := by
    rw [zshr_n (by omega) (by omega) (by omega)]
    have : ((y * 2 + en : Nat) : Int) / ((2 ^ r : Nat) : Int) = (((y * 2 + en) / 2 ^ r : Nat) : Int) := (Int.natCast_ediv _ _).symm
    have hle : (y * 2 + en) / 2 ^ r ≤ y * 2 + en := Nat.div_le_self _ _
    rw [this]
    generalize (y * 2 + en) / 2 ^ r = u at hle ⊢
    rw [zand_1 (by omega) (by omega)]
    omega
  have hp : 1 * 2 ^ r < 2147483648 := by
    have : 2 ^ r ≤ 2 ^ 4 := Nat.pow_le_pow_right (by decide) hr4
    omega
  have f4 : zsub (zshl 1 (r : Int)) 1 = ((2 ^ r - 1 : Nat) : Int) := by
    have e := zshl_n (a := 1) (k := r) (by omega) hp
    have h1 : 1 ≤ 2 ^ r := Nat.one_le_two_pow
    rw [show zshl 1 (r : Int) = zshl ((1 : Nat) : Int) (r : Int) from rfl, e, zsub_ok (by omega) (by omega)]
    omega
  have f5 : zand ((y * 2 + en : Nat) : Int) ((2 ^ r - 1 : Nat) : Int) = (((y * 2 + en) % 2 ^ r : Nat) : Int) := zand_mod r (by omega) (by omega)
  have hm : (y * 2 + en) % 2 ^ r < 2 ^ r := Nat.mod_lt _ (Nat.two_pow_pos r)
  refine zp_of ?_
  unfold F_X5_agedPocket
  refine zp_pos (by rw [h7]; exact Or.inl rfl) (zp_lt.mpr (zp_lt.mpr (zp_some.mpr ?_)))
  rw [h9, e11, f1, f2, f3, f4, f5, show (al 25).toNat = r by omega]
  unfold agd
  have hu : (y * 2 + en) / 2 ^ r % 2 < 2 := Nat.mod_lt _ (by decide)
  generalize (y * 2 + en) / 2 ^ r % 2 = u at hu ⊢
  have h16 : 2 ^ r ≤ 2 ^ 4 := Nat.pow_le_pow_right (by decide) hr4
  generalize (y * 2 + en) % 2 ^ r = w at hm ⊢
  have hw : w < 16 := Nat.lt_of_lt_of_le hm h16
  clear hm h16 hp f1 f2 f3 f4 f5
  simp (disch := omega) only [zadd_ok, zmul_ok]
  omega
end PCK
