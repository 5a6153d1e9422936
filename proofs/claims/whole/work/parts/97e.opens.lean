/-! plan: the reference opens a state, all acts -/
section OPO
variable {S : ZS} {al : Nat → Int} {k : Nat} {pg a b c h t s : Nat}
theorem FRp_55 {V : ZS} (f : FRp S V) (e : S.2 1 55 = al) : V.2 1 55 = al := (f.2.2.2 55 (by decide) (by decide) (by decide) (by decide)).trans e
theorem JobOK_s (hJ : JobOK al) : al 31 ≤ 8 ∧ (0 ≤ al 25 ∧ al 25 ≤ 4) := ⟨hJ.1.2, hJ.2.2.2.2.1⟩
theorem pst_f {i : Nat} (hi : i < 4) : pst al (pg, a, b, c, h, t, s) (2 + i) = if (h : Int) < al 27 then none else if (pg : Int) < al 31 ∧ al (20 + i) ≠ 0 ∧ al (16 + i) = al pg ∧ (t = 4 ∨ t = i ∨ s = 1) then
      (if al (8 + pg) = 1 then (if pli a b c = 0 then some (pg + 1, 5, 5, 5, h - (al 28).toNat, i, 0) else none)
      else if (pli a b c : Int) < al 24 then some (pg + 1, (if pli a b c = 0 then 0 else pln al a), (if pli a b c = 1 then 0 else pln al b), (if pli a b c = 2 then 0 else pln al c), h - (al 28).toNat, i, 0) else none) else none := by
  obtain ⟨act, hact⟩ : ∃ act, act = 2 + i := ⟨_, rfl⟩
  rw [← hact]
  dsimp only [pst]
  have e2 : act - 2 = i := by omega
  rw [if_neg (show ¬ act = 0 by omega), if_neg (show ¬ act = 1 by omega), e2]
  by_cases g : (pg : Int) < al 31 ∧ al (20 + i) ≠ 0 ∧ al (16 + i) = al pg ∧ (t = 4 ∨ t = i ∨ s = 1)
  · rw [if_pos g, if_pos (show act < 6 ∧ _ from ⟨by omega, g⟩)]
  · have g' : ¬ (act < 6 ∧ (pg : Int) < al 31 ∧ al (20 + i) ≠ 0 ∧ al (16 + i) = al pg ∧ (t = 4 ∨ t = i ∨ s = 1)) := fun z => g z.2
    rw [if_neg g, if_neg g']
theorem RI_put {x t : PS} {act : Nat} {z : Int} (hJ : JobOK al) (hx : PVal al x) (hz : z = (pcode t : Int)) (h : RI al S k act x) (ht : pst al x act = some t) {y : Int} (hy : y = (act : Int)) : zp (F_X12_adds z (k : Int) y S) (fun V => FRp S V ∧ RI al V k (act + 1) x) := by
  rw [hz, hy]
  exact RI_add (JobOK_s hJ).1 (JobOK_s hJ).2 h ht (pst_val hJ x act t hx ht)
theorem lp_338 (hJ : JobOK al) (hx : PVal al (pg, a, b, c, h, t, s)) {V : ZS} (e55 : V.2 1 55 = al) {i : Nat} (hi : i < 4) (hI : RI al V k (2 + i) (pg, a, b, c, h, t, s)) (hn : ¬ (h : Int) < al 27) (hpg : (pg : Int) < al 31) (g1 : al (20 + i) ≠ 0) (g2 : al (16 + i) = al pg) (g3 : t = 4 ∨ t = i ∨ s = 1)
    {x3 x4 x12 : Int} (h12 : x12 = ((h - (al 28).toNat : Nat) : Int)) :
    zp (F_X12_opens_338 (k : Int) x3 x4 (pg : Int) (a : Int) (b : Int) (c : Int) x12 (pli a b c : Int) (i : Int) V) (zor2 (fun u : Int × ZS => u.1 = ((i + 1 : Nat) : Int) ∧ FRp V u.2 ∧ RI al u.2 k (2 + (i + 1)) (pg, a, b, c, h, t, s)) (fun _ => False)) := by
  have hJ' := hJ
  obtain ⟨⟨j1, j2⟩, j3, j4, ⟨j5, j6⟩, ⟨j7, j8⟩, ⟨j9, j10⟩, ⟨j11, j12⟩, ⟨j13, j14⟩, ⟨j15, j16⟩, _⟩ := hJ
  have hv := hx
  dsimp only [PVal] at hv
  obtain ⟨v1, v2, v3, v4, v5, v6⟩ := hv
  have hpgn : pg < 8 := by omega
  have fi : zadd (i : Int) 1 = ((i + 1 : Nat) : Int) := by rw [zadd_ok (by omega) (by omega)]; rfl
  have f8 : zadd 8 (pg : Int) = ((8 + pg : Nat) : Int) := by rw [zadd_ok (by omega) (by omega)]; rfl
  have fp : zadd (pg : Int) 1 = ((pg + 1 : Nat) : Int) := by rw [zadd_ok (by omega) (by omega)]; rfl
  have f2 : zadd 2 (i : Int) = ((2 + i : Nat) : Int) := by rw [zadd_ok (by omega) (by omega)]; rfl
  have hside := (j3 pg hpg).2
  have ep : pst al (pg, a, b, c, h, t, s) (2 + i) = (if al (8 + pg) = 1 then (if pli a b c = 0 then some (pg + 1, 5, 5, 5, h - (al 28).toNat, i, 0) else none)
      else if (pli a b c : Int) < al 24 then some (pg + 1, (if pli a b c = 0 then 0 else pln al a), (if pli a b c = 1 then 0 else pln al b), (if pli a b c = 2 then 0 else pln al c), h - (al 28).toNat, i, 0) else none) := by
    rw [pst_f hi, if_neg hn, if_pos ⟨hpg, g1, g2, g3⟩]
  have no : pst al (pg, a, b, c, h, t, s) (2 + i) = none → zp (some (Sum.inl (((i + 1 : Nat) : Int), V))) (zor2 (fun u : Int × ZS => u.1 = ((i + 1 : Nat) : Int) ∧ FRp V u.2 ∧ RI al u.2 k (2 + (i + 1)) (pg, a, b, c, h, t, s)) (fun _ : ZS => False)) := fun hz => zp_some.mpr (zor2_l.mpr ⟨rfl, FRp_r V, RI_skip hI hz⟩)
  have put : ∀ (y : PS) (z : Int), z = (pcode y : Int) → pst al (pg, a, b, c, h, t, s) (2 + i) = some y → zp ((F_X12_adds z (k : Int) (zadd 2 (i : Int)) V).bind fun S11 => some (Sum.inl (((i + 1 : Nat) : Int), S11))) (zor2 (fun u : Int × ZS => u.1 = ((i + 1 : Nat) : Int) ∧ FRp V u.2 ∧ RI al u.2 k (2 + (i + 1)) (pg, a, b, c, h, t, s)) (fun _ : ZS => False)) := by
    intro y z hz hy
    exact zp_bind.mpr (zp_mono (RI_put hJ' hx hz hI hy f2) (fun U hU => zp_some.mpr (zor2_l.mpr ⟨rfl, hU.1, hU.2⟩)))
  have la : F_X12_lain (a : Int) V = some (pln al a : Int) := lp_lain e55 ⟨j7, j8⟩ v2.1
  have lb : F_X12_lain (b : Int) V = some (pln al b : Int) := lp_lain e55 ⟨j7, j8⟩ v2.2.1
  have lc : F_X12_lain (c : Int) V = some (pln al c : Int) := lp_lain e55 ⟨j7, j8⟩ v2.2.2
  unfold F_X12_opens_338
  rw [f8, fi, fp]
  refine zp_pos (by omega) ?_
  by_cases c1 : al (8 + pg) = 1
  · rw [if_pos c1] at ep
    refine zp_pos (by rw [Int.toNat_natCast, e55]; exact c1) ?_
    by_cases c2 : pli a b c = 0
    · rw [if_pos c2] at ep
      refine zp_pos (by omega) (zp_bind.mpr ((zp_eq (lp_state (pg := pg + 1) (a := 5) (b := 5) (c := 5) (h := h - (al 28).toNat) (t := i) (s := 0) rfl rfl rfl rfl h12 rfl rfl (by omega) (by decide) (by decide) (by decide) (by omega) (by omega) (by decide))).mpr (put _ _ rfl ep)))
    · rw [if_neg c2] at ep
      exact zp_neg (by omega) (no ep)
  · rw [if_neg c1] at ep
    refine zp_neg (by rw [Int.toNat_natCast, e55]; exact c1) ?_
    by_cases c2 : (pli a b c : Int) < al 24
    · rw [if_pos c2] at ep
      refine zp_pos (by rw [e55]; exact c2) ?_
      have fd := PkV_feed (al := al) (a := a) (b := b) (c := c) rfl j7 v3 (by omega) (by omega)
      have hp3 : pli a b c < 3 := by omega
      have st : ∀ {y2 y3 y4 : Int}, y2 = ((if pli a b c = 0 then 0 else pln al a : Nat) : Int) → y3 = ((if pli a b c = 1 then 0 else pln al b : Nat) : Int) → y4 = ((if pli a b c = 2 then 0 else pln al c : Nat) : Int) → F_X12_stateOf ((pg + 1 : Nat) : Int) y2 y3 y4 x12 (i : Int) 0 V = some (pcode (pg + 1, (if pli a b c = 0 then 0 else pln al a), (if pli a b c = 1 then 0 else pln al b), (if pli a b c = 2 then 0 else pln al c), h - (al 28).toNat, i, 0) : Int) := by
        intro y2 y3 y4 q2 q3 q4
        exact lp_state (s := 0) rfl q2 q3 q4 h12 rfl rfl (by omega) fd.1.1 fd.1.2.1 fd.1.2.2 (by omega) (by omega) (by decide)
      by_cases p0 : pli a b c = 0
      · refine zp_pos (by omega) (zp_neg (by omega) (zp_bind.mpr ((zp_eq lb).mpr (zp_neg (by omega) (zp_bind.mpr ((zp_eq lc).mpr (zp_bind.mpr ((zp_eq (st ?_ ?_ ?_)).mpr (put _ _ rfl ep)))))))))
        · rw [if_pos p0]; rfl
        · rw [if_neg (by omega)]
        · rw [if_neg (by omega)]
      · refine zp_neg (by omega) (zp_bind.mpr ((zp_eq la).mpr ?_))
        by_cases p1 : pli a b c = 1
        · refine zp_pos (by omega) (zp_neg (by omega) (zp_bind.mpr ((zp_eq lc).mpr (zp_bind.mpr ((zp_eq (st ?_ ?_ ?_)).mpr (put _ _ rfl ep))))))
          · rw [if_neg (by omega)]
          · rw [if_pos p1]; rfl
          · rw [if_neg (by omega)]
        · have p2 : pli a b c = 2 := by omega
          refine zp_neg (by omega) (zp_bind.mpr ((zp_eq lb).mpr (zp_pos (by omega) (zp_bind.mpr ((zp_eq (st ?_ ?_ ?_)).mpr (put _ _ rfl ep))))))
          · rw [if_neg (by omega)]
          · rw [if_neg (by omega)]
          · rw [if_pos p2]; rfl
    · rw [if_neg c2] at ep
      exact zp_neg (by rw [e55]; exact c2) (no ep)
theorem lp_277 (hJ : JobOK al) (hx : PVal al (pg, a, b, c, h, t, s)) {V : ZS} (e55 : V.2 1 55 = al) (hI : RI al V k 2 (pg, a, b, c, h, t, s)) (hn : ¬ (h : Int) < al 27) (hpg : (pg : Int) < al 31) {x12 x13 : Int} (h12 : x12 = ((h - (al 28).toNat : Nat) : Int)) (h13 : x13 = (pli a b c : Int)) :
    zp (F_X12_opens_277 (k : Int) (s : Int) (t : Int) (pg : Int) (a : Int) (b : Int) (c : Int) x12 x13 0 V) (fun U => FRp V U ∧ RI al U k 6 (pg, a, b, c, h, t, s)) := by
  subst h13
  have hj := hJ.1
  unfold F_X12_opens_277
  refine zp_w (fun dd (u : Int × ZS) => ∃ i : Nat, dd = 4 - i ∧ i ≤ 4 ∧ u.1 = (i : Int) ∧ FRp V u.2 ∧ RI al u.2 k (2 + i) (pg, a, b, c, h, t, s)) ?_ 4 _ ⟨0, rfl, by omega, rfl, FRp_r V, hI⟩
  rintro dd ⟨y, U⟩ ⟨i, rfl, hi, rfl, u1, u2⟩
  dsimp only at u1 u2 ⊢
  by_cases cc : i = 4
  · subst cc
    exact zp_neg (by omega) (zp_some.mpr (zor2_r.mpr ⟨u1, u2⟩))
  have hi4 : i < 4 := by omega
  have e55' := FRp_55 u1 e55
  have fi : zadd (i : Int) 1 = ((i + 1 : Nat) : Int) := by rw [zadd_ok (by omega) (by omega)]; rfl
  have f20 : zadd 20 (i : Int) = ((20 + i : Nat) : Int) := by rw [zadd_ok (by omega) (by omega)]; rfl
  have f16 : zadd 16 (i : Int) = ((16 + i : Nat) : Int) := by rw [zadd_ok (by omega) (by omega)]; rfl
  have f0 : zadd 0 (pg : Int) = (pg : Int) := by rw [zadd_ok (by omega) (by omega)]; omega
  rw [f20, f16, f0, fi]
  have skip : ¬ ((pg : Int) < al 31 ∧ al (20 + i) ≠ 0 ∧ al (16 + i) = al pg ∧ (t = 4 ∨ t = i ∨ s = 1)) → zp (some (Sum.inl (((i + 1 : Nat) : Int), U))) (zor2 (fun u : Int × ZS => ∃ m, m < 4 - i ∧ ∃ i' : Nat, m = 4 - i' ∧ i' ≤ 4 ∧ u.1 = (i' : Int) ∧ FRp V u.2 ∧ RI al u.2 k (2 + i') (pg, a, b, c, h, t, s)) (fun U : ZS => FRp V U ∧ RI al U k 6 (pg, a, b, c, h, t, s))) := by
    intro hz
    refine zp_some.mpr (zor2_l.mpr ⟨4 - (i + 1), by omega, i + 1, rfl, by omega, rfl, u1, RI_skip u2 ?_⟩)
    show pst al (pg, a, b, c, h, t, s) (2 + i) = none
    rw [pst_f hi4, if_neg hn, if_neg hz]
  have go : al (20 + i) ≠ 0 → al (16 + i) = al pg → (t = 4 ∨ t = i ∨ s = 1) → zp (F_X12_opens_338 (k : Int) (s : Int) (t : Int) (pg : Int) (a : Int) (b : Int) (c : Int) x12 (pli a b c : Int) (i : Int) U) (zor2 (fun u : Int × ZS => ∃ m, m < 4 - i ∧ ∃ i' : Nat, m = 4 - i' ∧ i' ≤ 4 ∧ u.1 = (i' : Int) ∧ FRp V u.2 ∧ RI al u.2 k (2 + i') (pg, a, b, c, h, t, s)) (fun U : ZS => FRp V U ∧ RI al U k 6 (pg, a, b, c, h, t, s))) := by
    intro z1 z2 z3
    refine zp_mono (lp_338 (x3 := (s : Int)) (x4 := (t : Int)) hJ hx e55' hi4 u2 hn hpg z1 z2 z3 h12) (fun r hr => ?_)
    cases r with
    | inl u => exact zor2_l.mpr ⟨4 - (i + 1), by omega, i + 1, rfl, by omega, hr.1, FRp_t u1 hr.2.1, hr.2.2⟩
    | inr u => exact hr.elim
  refine zp_pos (by omega) (zp_pos (by omega) ?_)
  by_cases c1 : al (20 + i) = 0
  · exact zp_pos (by rw [Int.toNat_natCast, e55']; exact c1) (skip (fun z => z.2.1 c1))
  refine zp_neg (by rw [Int.toNat_natCast, e55']; exact c1) (zp_pos (by omega) (zp_pos (by omega) ?_))
  by_cases c2 : al (16 + i) = al pg
  · refine zp_pos (by rw [Int.toNat_natCast, Int.toNat_natCast, e55']; exact c2) ?_
    by_cases c3 : t = 4
    · exact zp_pos (by omega) (go c1 c2 (Or.inl c3))
    · refine zp_neg (by omega) ?_
      by_cases c4 : t = i
      · exact zp_pos (by omega) (go c1 c2 (Or.inr (Or.inl c4)))
      · refine zp_neg (by omega) ?_
        have hs := hx.2.2.2.2.2
        by_cases c5 : s = 0
        · exact zp_pos (by omega) (skip (fun z => by have := z.2.2.2; omega))
        · exact zp_neg (by omega) (go c1 c2 (Or.inr (Or.inr (by omega))))
  · exact zp_neg (by rw [Int.toNat_natCast, Int.toNat_natCast, e55']; exact c2) (skip (fun z => c2 z.2.2.1))
end OPO
