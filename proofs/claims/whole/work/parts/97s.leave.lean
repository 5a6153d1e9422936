/-! plan: the class leaves a state: its pages -/
section LEA
variable {S V : ZS} {al : Nat → Int} {k : Nat} {f p h t s : Nat}
/-- the job, with its numbers -/
def PlK (al : Nat → Int) (S : ZS) : Prop := PlJ al S ∧ S.1 11 5 = al 24 ∧ S.1 11 6 = al 25 ∧ S.1 11 7 = al 26 ∧ S.1 11 8 = al 27 ∧ S.1 11 9 = al 28 ∧ S.1 11 10 = al 29
theorem PlK_fr (h : PlK al S) (f : FRc S V) : PlK al V := by
  obtain ⟨h1, h2⟩ := h
  refine ⟨PlJ_fr h1 f, ?_⟩
  rw [f.1 11 (by decide)]
  exact h2
theorem cst_0 : cst al (f, p, h, t, s) 0 = some (f, agd (al 25).toNat (p / 16) (p % 16) 0, (if al 27 = 0 then 0 else min 30 (h + (al 29).toNat)), t, 1) := by
  dsimp only [cst]
  rw [if_pos rfl]
theorem cst_cold (hc : (h : Int) < al 27) {a : Nat} (ha : a ≠ 0) : cst al (f, p, h, t, s) a = none := by
  dsimp only [cst]
  rw [if_neg ha, if_pos hc]
theorem cst_1 (hc : ¬ (h : Int) < al 27) : cst al (f, p, h, t, s) 1 = if 0 < p / 16 then some (f, agd (al 25).toNat (p / 16 - 1) (p % 16) 0, h - (al 28).toNat, t, 0) else none := by
  dsimp only [cst]
  rw [if_neg (by decide), if_neg hc, if_pos rfl]
theorem cst_f (hc : ¬ (h : Int) < al 27) {i : Nat} (hi : i < 4) : cst al (f, p, h, t, s) (2 + i) = if (f : Int) < al 31 ∧ al (20 + i) ≠ 0 ∧ al (16 + i) = al f ∧ (t = 4 ∨ t = i ∨ s = 1) then
      (if al (8 + f) = 1 then (if p / 16 + pop4 (p % 16) = 0 then some (f + 1, agd (al 25).toNat (p / 16) (p % 16) 0, h - (al 28).toNat, i, 0) else none)
      else if ((p / 16 + pop4 (p % 16) : Nat) : Int) < al 24 then some (f + 1, agd (al 25).toNat (p / 16) (p % 16) 1, h - (al 28).toNat, i, 0) else none) else none := by
  have e : 2 + i - 2 = i := by omega
  dsimp only [cst]
  rw [if_neg (by omega), if_neg hc, if_neg (by omega), e]
  by_cases c : (f : Int) < al 31 ∧ al (20 + i) ≠ 0 ∧ al (16 + i) = al f ∧ (t = 4 ∨ t = i ∨ s = 1)
  · rw [if_pos c, if_pos ⟨by omega, c⟩]
  · rw [if_neg c, if_neg (fun z => c z.2)]
theorem CX_to {x : CS} : ∀ (d : Nat) {a : Nat}, a + d = 6 → (∀ c, a ≤ c → cst al x c = none) → CX al S k a x → CX al S k 6 x
  | 0, a, h, _, hX => by
    have : a = 6 := by omega
    rw [← this]; exact hX
  | d + 1, a, h, hn, hX => CX_to d (a := a + 1) (by omega) (fun c hc => hn c (by omega)) (CX_skip hX (hn a (Nat.le_refl _)))
theorem lp_leave160 {x2 x4 x6 : Int} (hJ : JobOK al) (hx : CVal al (f, p, h, t, s)) (hk : k < 65536) (hc : ¬ (h : Int) < al 27) (c8 : S.1 14 8 = (f : Int)) (c9 : S.1 14 9 = ((p % 16 : Nat) : Int)) (c10 : S.1 14 10 = ((p / 16 : Nat) : Int)) (c12 : S.1 14 12 = (t : Int)) (c13 : S.1 14 13 = (s : Int)) (hj : PlK al S)
    (h2 : x2 = ((k * 2 ^ 32 : Nat) : Int)) (h4 : x4 = (agd (al 25).toNat (p / 16) (p % 16) 0 : Int)) (h6 : x6 = ((h - (al 28).toNat : Nat) : Int)) (hX : CX al S k 2 (f, p, h, t, s)) :
    zp (F_X5_leave_160 x2 x4 x6 S) (fun V => FRc S V ∧ CX al V k 6 (f, p, h, t, s)) := by
  have hp := hx.2.1
  have hpop := hx.2.2.1
  have j2 := hJ.1.2
  have j25 := hJ.2.2.2.2.1
  obtain ⟨⟨h7, h0, h3, h4'⟩, e5, e6, _⟩ := id hj
  have q6 : cst al (f, p, h, t, s) 6 = none := cst_6 _ (by decide)
  have non : (∀ i, i < 4 → cst al (f, p, h, t, s) (2 + i) = none) → ∀ c, 2 ≤ c → cst al (f, p, h, t, s) c = none := by
    intro hn c hc2
    rcases Nat.lt_or_ge c 6 with z | z
    · have := hn (c - 2) (by omega)
      rwa [show 2 + (c - 2) = c by omega] at this
    · exact cst_6 _ z
  unfold F_X5_leave_160
  refine zp_pos (by rw [h7]; exact Or.inl rfl) ?_
  have e0 : S.1 (S.1 14 7).toNat 0 = al 31 := by rw [h7]; exact h0
  by_cases cf : (f : Int) < al 31
  · refine zp_pos (by rw [e0, c8]; exact cf) (zp_bind.mpr ((zp_eq (lp_takes hJ cf hp c8 c9 c10 hj.1 e5)).mpr ?_))
    by_cases ct : (al (8 + f) = 1 ∧ p / 16 + pop4 (p % 16) = 0) ∨ (al (8 + f) ≠ 1 ∧ ((p / 16 + pop4 (p % 16) : Nat) : Int) < al 24)
    · rw [if_pos ct]
      refine zp_neg (by decide) (zp_pos (by rw [c8]; omega) ?_)
      have g3 : S.2 (S.1 14 7).toNat 3 (S.1 14 8).toNat = al (8 + f) - 1 := by rw [h7, c8, Int.toNat_natCast]; exact (h4' f cf).2
      rcases ct with ⟨ct1, ct2⟩ | ⟨ct1, ct2⟩
      · refine zp_pos (by rw [g3, ct1]; decide) (zp_bind.mpr (zp_mono (lp_feed (q := agd (al 25).toNat (p / 16) (p % 16) 0) (hh := h - (al 28).toNat) hJ hx cf hk c8 c12 c13 hj.1 (fun i hi => ?_) h4 h6 h2 hX) (fun V hV => zp_some.mpr hV)))
        rw [cst_f hc hi]
        by_cases g : al (20 + i) ≠ 0 ∧ al (16 + i) = al f ∧ (t = 4 ∨ t = i ∨ s = 1)
        · rw [if_pos ⟨cf, g⟩, if_pos g, if_pos ct1, if_pos ct2]
        · rw [if_neg (fun z => g z.2), if_neg g]
      · have hside := (hJ.2.1 f cf).2
        refine zp_neg (by rw [g3]; omega) (zp_bind.mpr ((zp_eq (show F_X5_agedPocket (S.1 14 10) 1 S = some _ from lp_aged (en := 1) h7 e6 j25 c9 (Nat.mod_lt p (by decide)) c10 (by omega) (by decide))).mpr (zp_bind.mpr (zp_mono (lp_feed (q := agd (al 25).toNat (p / 16) (p % 16) 1) (hh := h - (al 28).toNat) hJ hx cf hk c8 c12 c13 hj.1 (fun i hi => ?_) rfl h6 h2 hX) (fun V hV => zp_some.mpr hV)))))
        rw [cst_f hc hi]
        by_cases g : al (20 + i) ≠ 0 ∧ al (16 + i) = al f ∧ (t = 4 ∨ t = i ∨ s = 1)
        · rw [if_pos ⟨cf, g⟩, if_pos g, if_neg ct1, if_pos ct2]
        · rw [if_neg (fun z => g z.2), if_neg g]
    · rw [if_neg ct]
      refine zp_pos rfl (zp_some.mpr ⟨FRc_r S, CX_to 4 rfl (non (fun i hi => ?_)) hX⟩)
      rw [cst_f hc hi]
      by_cases g : (f : Int) < al 31 ∧ al (20 + i) ≠ 0 ∧ al (16 + i) = al f ∧ (t = 4 ∨ t = i ∨ s = 1)
      · rw [if_pos g]
        by_cases g1 : al (8 + f) = 1
        · rw [if_pos g1, if_neg (fun z => ct (Or.inl ⟨g1, z⟩))]
        · rw [if_neg g1, if_neg (fun z => ct (Or.inr ⟨g1, z⟩))]
      · rw [if_neg g]
  · refine zp_neg (by rw [e0, c8]; exact cf) (zp_some.mpr ⟨FRc_r S, CX_to 4 rfl (non (fun i hi => ?_)) hX⟩)
    rw [cst_f hc hi, if_neg (fun z => cf z.1)]
end LEA
