/-! plan: the class feeds from each tray: the loop -/
section FEL
variable {S : ZS} {al : Nat → Int} {k : Nat} {f p h t s : Nat}
theorem ahd {i : Nat} (hk : k < 65536) (hi : i < 6) : zlor ((k * 2 ^ 32 : Nat) : Int) (zlshl ((i : Nat) : Int) 24) = ((k * 2 ^ 32 + i * 2 ^ 24 : Nat) : Int) := by
  have e := zlshl_n (a := i) (k := 24) (by decide) (by omega)
  rw [show zlshl ((i : Nat) : Int) 24 = zlshl ((i : Nat) : Int) ((24 : Nat) : Int) from rfl, e, zlor_n (by omega) (by omega)]
  have := Nat.shiftLeft_add_eq_or_of_lt (show i * 2 ^ 24 < 2 ^ 32 by omega) k
  rw [Nat.shiftLeft_eq] at this
  rw [← this]
theorem lp_feed {q hh : Nat} {x1 x2 x3 : Int} (hJ : JobOK al) (hx : CVal al (f, p, h, t, s)) (hf : (f : Int) < al 31) (hk : k < 65536) (c8 : S.1 14 8 = (f : Int)) (c12 : S.1 14 12 = (t : Int)) (c13 : S.1 14 13 = (s : Int)) (hj : PlJ al S)
    (hst : ∀ i, i < 4 → cst al (f, p, h, t, s) (2 + i) = if al (20 + i) ≠ 0 ∧ al (16 + i) = al f ∧ (t = 4 ∨ t = i ∨ s = 1) then some (f + 1, q, hh, i, 0) else none)
    (h1 : x1 = (q : Int)) (h2 : x2 = (hh : Int)) (h3 : x3 = ((k * 2 ^ 32 : Nat) : Int)) (hX : CX al S k 2 (f, p, h, t, s)) :
    zp (F_X5_feedFromEach x1 x2 x3 S) (fun V => FRc S V ∧ CX al V k 6 (f, p, h, t, s)) := by
  subst h1 h2 h3
  have j2 := hJ.1.2
  have hs := hx.2.2.2.2.2.1
  unfold F_X5_feedFromEach F_X5_feedFromEach_3
  refine zp_w (fun dd (u : Int × ZS) => ∃ i : Nat, dd = 4 - i ∧ i ≤ 4 ∧ u.1 = (i : Int) ∧ FRc S u.2 ∧ CX al u.2 k (2 + i) (f, p, h, t, s)) ?_ 4 _ ⟨0, rfl, by omega, rfl, FRc_r S, hX⟩
  rintro dd ⟨y, U⟩ ⟨i, rfl, hi, rfl, u1, u2⟩
  dsimp only at u1 u2 ⊢
  by_cases cc : i = 4
  · subst cc
    exact zp_neg (by omega) (zp_some.mpr (zor2_r.mpr ⟨u1, u2⟩))
  have hi4 : i < 4 := by omega
  have hjU := PlJ_fr hj u1
  have d8 : U.1 14 8 = (f : Int) := (u1.2.1 8 (by decide) (by decide)).trans c8
  have d12 : U.1 14 12 = (t : Int) := (u1.2.1 12 (by decide) (by decide)).trans c12
  have d13 : U.1 14 13 = (s : Int) := (u1.2.1 13 (by decide) (by decide)).trans c13
  have fi : zadd (i : Int) 1 = ((i + 1 : Nat) : Int) := by rw [zadd_ok (by omega) (by omega)]; rfl
  have f2 : zadd 2 (i : Int) = ((2 + i : Nat) : Int) := by rw [zadd_ok (by omega) (by omega)]; rfl
  have ff : zadd (f : Int) 1 = ((f + 1 : Nat) : Int) := by rw [zadd_ok (by omega) (by omega)]; rfl
  have fa : zlor ((k * 2 ^ 32 : Nat) : Int) (zlshl (zadd 2 (i : Int)) 24) = ((k * 2 ^ 32 + (2 + i) * 2 ^ 24 : Nat) : Int) := by rw [f2]; exact ahd hk (by omega)
  have hsi := hst i hi4
  have skip : ¬ (al (20 + i) ≠ 0 ∧ al (16 + i) = al f ∧ (t = 4 ∨ t = i ∨ s = 1)) → zp (some (Sum.inl (zadd (i : Int) 1, U))) (zor2 (fun u : Int × ZS => ∃ m, m < 4 - i ∧ ∃ i' : Nat, m = 4 - i' ∧ i' ≤ 4 ∧ u.1 = (i' : Int) ∧ FRc S u.2 ∧ CX al u.2 k (2 + i') (f, p, h, t, s)) (fun V : ZS => FRc S V ∧ CX al V k 6 (f, p, h, t, s))) := by
    intro hz
    rw [if_neg hz] at hsi
    exact zp_some.mpr (zor2_l.mpr ⟨4 - (i + 1), by omega, i + 1, rfl, by omega, fi, u1, CX_skip u2 hsi⟩)
  have go : (t = 4 ∨ t = i ∨ s = 1) → zp ((F_X5_gives (i : Int) (U.1 14 8) U).bind fun r3 => if r3 = 0 then some (.inl ((zadd (i : Int) 1), U)) else (F_X5_meet (zadd (U.1 14 8) 1) (q : Int) (hh : Int) (i : Int) 0 (zlor ((k * 2 ^ 32 : Nat) : Int) (zlshl (zadd 2 (i : Int)) 24)) U).bind fun S5 => some (.inl ((zadd (i : Int) 1), S5)))
      (zor2 (fun u : Int × ZS => ∃ m, m < 4 - i ∧ ∃ i' : Nat, m = 4 - i' ∧ i' ≤ 4 ∧ u.1 = (i' : Int) ∧ FRc S u.2 ∧ CX al u.2 k (2 + i') (f, p, h, t, s)) (fun V : ZS => FRc S V ∧ CX al V k 6 (f, p, h, t, s))) := by
    intro ho
    rw [d8, ff, fa]
    refine zp_bind.mpr ((zp_eq (lp_gives hjU.1 hi4 (by omega) (hjU.2.2.1 i hi4).1 (hjU.2.2.1 i hi4).2 (hjU.2.2.2 f hf).1)).mpr ?_)
    by_cases g : al (20 + i) ≠ 0 ∧ al (16 + i) = al f
    · rw [if_pos g]
      rw [if_pos ⟨g.1, g.2, ho⟩] at hsi
      refine zp_neg (by decide) (zp_bind.mpr (zp_mono (CX_put hJ u2 hx hsi rfl hjU) (fun V hV => zp_some.mpr (zor2_l.mpr ⟨4 - (i + 1), by omega, i + 1, rfl, by omega, fi, FRc_t u1 hV.1, hV.2⟩))))
    · rw [if_neg g]
      exact zp_pos rfl (skip (fun z => g ⟨z.1, z.2.1⟩))
  refine zp_pos (by omega) ?_
  by_cases c1 : s = 0
  · refine zp_pos (by omega) ?_
    by_cases c2 : t = i
    · exact zp_pos (by omega) (go (Or.inr (Or.inl c2)))
    · refine zp_neg (by omega) ?_
      by_cases c3 : t = 4
      · exact zp_pos (by omega) (go (Or.inl c3))
      · exact zp_neg (by omega) (skip (fun z => by have := z.2.2; omega))
  · exact zp_neg (by omega) (go (Or.inr (Or.inr (by omega))))
end FEL
