/-! plan: the reference opens a state, from the first act on -/
section OPQ
variable {S : ZS} {al : Nat → Int} {k : Nat} {pg a b c h t s : Nat}
theorem lp_224 (hJ : JobOK al) (hx : PVal al (pg, a, b, c, h, t, s)) {V : ZS} (e55 : V.2 1 55 = al) (hI : RI al V k 2 (pg, a, b, c, h, t, s)) (hn : ¬ (h : Int) < al 27) {x12 : Int} (h12 : x12 = ((h - (al 28).toNat : Nat) : Int)) :
    zp (F_X12_opens_224 (k : Int) (s : Int) (t : Int) (pg : Int) (a : Int) (b : Int) (c : Int) x12 V) (fun U => FRp V U ∧ RI al U k 6 (pg, a, b, c, h, t, s)) := by
  have hv := hx
  dsimp only [PVal] at hv
  obtain ⟨v1, v2, v3, v4, v5, v6⟩ := hv
  unfold F_X12_opens_224
  by_cases c1 : (pg : Int) = al 31
  · have no : ∀ i, i < 4 → pst al (pg, a, b, c, h, t, s) (2 + i) = none := fun i hi => by rw [pst_f hi, if_neg hn, if_neg (fun z => by have := z.1; omega)]
    exact zp_pos (by rw [e55]; exact c1) (zp_some.mpr ⟨FRp_r V, RI_skip (a := 5) (RI_skip (a := 4) (RI_skip (a := 3) (RI_skip (a := 2) hI (no 0 (by decide))) (no 1 (by decide))) (no 2 (by decide))) (no 3 (by decide))⟩)
  refine zp_neg (by rw [e55]; exact c1) ?_
  have hpg : (pg : Int) < al 31 := by omega
  have go : ∀ x13 : Int, x13 = (pli a b c : Int) → zp (F_X12_opens_277 (k : Int) (s : Int) (t : Int) (pg : Int) (a : Int) (b : Int) (c : Int) x12 x13 0 V) (fun U => FRp V U ∧ RI al U k 6 (pg, a, b, c, h, t, s)) := fun x13 h13 => lp_277 hJ hx e55 hI hn hpg h12 h13
  have z00 : zadd (zadd 0 0) 0 = 0 := by decide
  have z01 : zadd (zadd 0 0) 1 = 1 := by decide
  have z10 : zadd (zadd 0 1) 0 = 1 := by decide
  have z11 : zadd (zadd 0 1) 1 = 2 := by decide
  have y00 : zadd (zadd 1 0) 0 = 1 := by decide
  have y01 : zadd (zadd 1 0) 1 = 2 := by decide
  have y10 : zadd (zadd 1 1) 0 = 2 := by decide
  have y11 : zadd (zadd 1 1) 1 = 3 := by decide
  have pe : ∀ A B C : Nat, (if a = 5 then 0 else 1) = A → (if b = 5 then 0 else 1) = B → (if c = 5 then 0 else 1) = C → (pli a b c : Int) = ((A + B + C : Nat) : Int) := fun A B C h1 h2 h3 => by unfold pli; rw [h1, h2, h3]
  rw [z00, z01, z10, z11, y00, y01, y10, y11]
  by_cases ca : a = 5
  · refine zp_pos (by omega) ?_
    by_cases cb : b = 5
    · refine zp_pos (by omega) ?_
      by_cases cc : c = 5
      · exact zp_pos (by omega) (go _ (by rw [pe 0 0 0 (if_pos ca) (if_pos cb) (if_pos cc)]; rfl))
      · exact zp_neg (by omega) (go _ (by rw [pe 0 0 1 (if_pos ca) (if_pos cb) (if_neg cc)]; rfl))
    · refine zp_neg (by omega) ?_
      by_cases cc : c = 5
      · exact zp_pos (by omega) (go _ (by rw [pe 0 1 0 (if_pos ca) (if_neg cb) (if_pos cc)]; rfl))
      · exact zp_neg (by omega) (go _ (by rw [pe 0 1 1 (if_pos ca) (if_neg cb) (if_neg cc)]; rfl))
  · refine zp_neg (by omega) ?_
    by_cases cb : b = 5
    · refine zp_pos (by omega) ?_
      by_cases cc : c = 5
      · exact zp_pos (by omega) (go _ (by rw [pe 1 0 0 (if_neg ca) (if_pos cb) (if_pos cc)]; rfl))
      · exact zp_neg (by omega) (go _ (by rw [pe 1 0 1 (if_neg ca) (if_pos cb) (if_neg cc)]; rfl))
    · refine zp_neg (by omega) ?_
      by_cases cc : c = 5
      · exact zp_pos (by omega) (go _ (by rw [pe 1 1 0 (if_neg ca) (if_neg cb) (if_pos cc)]; rfl))
      · exact zp_neg (by omega) (go _ (by rw [pe 1 1 1 (if_neg ca) (if_neg cb) (if_neg cc)]; rfl))
theorem lp_rest (hJ : JobOK al) (hx : PVal al (pg, a, b, c, h, t, s)) {V : ZS} (e55 : V.2 1 55 = al) (hI : RI al V k 1 (pg, a, b, c, h, t, s)) (hn : ¬ (h : Int) < al 27) {v : Int} (h12 : v = ((h - (al 28).toNat : Nat) : Int)) :
    zp (if (a : Int) = 5 then F_X12_opens_224 (k : Int) (s : Int) (t : Int) (pg : Int) (a : Int) (b : Int) (c : Int) v V else if (a : Int) < (V.2 1 55 25) then F_X12_opens_224 (k : Int) (s : Int) (t : Int) (pg : Int) (a : Int) (b : Int) (c : Int) v V else (F_X12_lain (b : Int) V).bind fun r95 => (F_X12_lain (c : Int) V).bind fun r96 => (F_X12_stateOf (pg : Int) r95 r96 5 v (t : Int) 0 V).bind fun r97 => (F_X12_adds r97 (k : Int) 1 V).bind fun S98 => F_X12_opens_224 (k : Int) (s : Int) (t : Int) (pg : Int) (a : Int) (b : Int) (c : Int) v S98) (fun U => FRp V U ∧ RI al U k 6 (pg, a, b, c, h, t, s)) := by
  have hJ' := hJ
  obtain ⟨⟨j1, j2⟩, j3, j4, ⟨j5, j6⟩, ⟨j7, j8⟩, _⟩ := hJ
  have hv := hx
  dsimp only [PVal] at hv
  obtain ⟨v1, v2, v3, v4, v5, v6⟩ := hv
  have p1 : pst al (pg, a, b, c, h, t, s) 1 = if (h : Int) < al 27 then none else if a ≠ 5 ∧ al 25 ≤ (a : Int) then some (pg, pln al b, pln al c, 5, h - (al 28).toNat, t, 0) else none := rfl
  rw [if_neg hn] at p1
  by_cases c1 : a = 5
  · rw [if_neg (fun z => z.1 c1)] at p1
    exact zp_pos (by omega) (lp_224 hJ' hx e55 (RI_skip hI p1) hn h12)
  refine zp_neg (by omega) ?_
  by_cases c2 : (a : Int) < al 25
  · rw [if_neg (fun z => by have := z.2; omega)] at p1
    exact zp_pos (by rw [e55]; exact c2) (lp_224 hJ' hx e55 (RI_skip hI p1) hn h12)
  rw [if_pos ⟨c1, by omega⟩] at p1
  have ag := PkV_age (al := al) (a := a) (b := b) (c := c) rfl j7 v3 (by omega)
  refine zp_neg (by rw [e55]; exact c2) ?_
  refine zp_bind.mpr ((zp_eq (lp_lain e55 ⟨j7, j8⟩ v2.2.1)).mpr ?_)
  refine zp_bind.mpr ((zp_eq (lp_lain e55 ⟨j7, j8⟩ v2.2.2)).mpr ?_)
  refine zp_bind.mpr ((zp_eq (lp_state (pg := pg) (a := pln al b) (b := pln al c) (c := 5) (h := h - (al 28).toNat) (t := t) (s := 0) rfl rfl rfl rfl h12 rfl rfl (by omega) ag.1.2.1 ag.1.2.2 (by decide) (by omega) v5 (by decide))).mpr ?_)
  refine zp_bind.mpr (zp_mono (RI_put hJ' hx rfl hI p1 (y := 1) rfl) (fun U hU => ?_))
  exact zp_mono (lp_224 hJ' hx (FRp_55 hU.1 e55) hU.2 hn h12) (fun W hW => ⟨FRp_t hU.1 hW.1, hW.2⟩)
theorem opens12 (hJ : JobOK al) (hx : PVal al (pg, a, b, c, h, t, s)) (e55 : S.2 1 55 = al) (hk : k < 90000) (e58 : S.2 1 58 k = (pcode (pg, a, b, c, h, t, s) : Int)) (hI : RI al S k 0 (pg, a, b, c, h, t, s)) :
    zp (F_X12_opens (k : Int) S) (fun U => FRp S U ∧ RI al U k 6 (pg, a, b, c, h, t, s)) := by
  have hJ' := hJ
  obtain ⟨⟨j1, j2⟩, j3, j4, ⟨j5, j6⟩, ⟨j7, j8⟩, ⟨j9, j10⟩, ⟨j11, j12⟩, ⟨j13, j14⟩, ⟨j15, j16⟩, _⟩ := hJ
  have hv := hx
  dsimp only [PVal] at hv
  obtain ⟨v1, v2, v3, v4, v5, v6⟩ := hv
  obtain ⟨d1, d2, d3, d4, d5, d6, d7⟩ := dec12 (v := pcode (pg, a, b, c, h, t, s)) rfl (by omega) v2.1 v2.2.1 v2.2.2 v4 v5 v6
  have ag := PkV_age (al := al) (a := a) (b := b) (c := c) rfl j7 v3 (by omega)
  have p0 : pst al (pg, a, b, c, h, t, s) 0 = some (pg, pln al a, pln al b, pln al c, min 30 (h + (al 29).toNat), t, 1) := rfl
  have fg : zadd (h : Int) (al 29) = (h : Int) + al 29 := zadd_ok (by omega) (by omega)
  -- behind the stop
  have tail : ∀ V, FRp S V → RI al V k 1 (pg, a, b, c, h, t, s) → zp (if (h : Int) < (V.2 1 55 27) then some V else if (V.2 1 55 28) < (h : Int) then zlt (zsub (h : Int) (V.2 1 55 28)) fun v => if (a : Int) = 5 then F_X12_opens_224 (k : Int) (s : Int) (t : Int) (pg : Int) (a : Int) (b : Int) (c : Int) v V else if (a : Int) < (V.2 1 55 25) then F_X12_opens_224 (k : Int) (s : Int) (t : Int) (pg : Int) (a : Int) (b : Int) (c : Int) v V else (F_X12_lain (b : Int) V).bind fun r95 => (F_X12_lain (c : Int) V).bind fun r96 => (F_X12_stateOf (pg : Int) r95 r96 5 v (t : Int) 0 V).bind fun r97 => (F_X12_adds r97 (k : Int) 1 V).bind fun S98 => F_X12_opens_224 (k : Int) (s : Int) (t : Int) (pg : Int) (a : Int) (b : Int) (c : Int) v S98 else if (a : Int) = 5 then F_X12_opens_224 (k : Int) (s : Int) (t : Int) (pg : Int) (a : Int) (b : Int) (c : Int) 0 V else if (a : Int) < (V.2 1 55 25) then F_X12_opens_224 (k : Int) (s : Int) (t : Int) (pg : Int) (a : Int) (b : Int) (c : Int) 0 V else (F_X12_lain (b : Int) V).bind fun r95 => (F_X12_lain (c : Int) V).bind fun r96 => (F_X12_stateOf (pg : Int) r95 r96 5 0 (t : Int) 0 V).bind fun r97 => (F_X12_adds r97 (k : Int) 1 V).bind fun S98 => F_X12_opens_224 (k : Int) (s : Int) (t : Int) (pg : Int) (a : Int) (b : Int) (c : Int) 0 S98) (fun U => FRp S U ∧ RI al U k 6 (pg, a, b, c, h, t, s)) := by
    intro V hF hI1
    have e55' := FRp_55 hF e55
    by_cases c1 : (h : Int) < al 27
    · refine zp_pos (by rw [e55']; exact c1) (zp_some.mpr ⟨hF, ?_⟩)
      have no : ∀ i, i < 4 → pst al (pg, a, b, c, h, t, s) (2 + i) = none := fun i hi => by rw [pst_f hi, if_pos c1]
      have n1 : pst al (pg, a, b, c, h, t, s) 1 = none := by
        show (if (h : Int) < al 27 then none else _) = none
        rw [if_pos c1]
      exact RI_skip (a := 5) (RI_skip (a := 4) (RI_skip (a := 3) (RI_skip (a := 2) (RI_skip (a := 1) hI1 n1) (no 0 (by decide))) (no 1 (by decide))) (no 2 (by decide))) (no 3 (by decide))
    · refine zp_neg (by rw [e55']; exact c1) ?_
      by_cases c2 : al 28 < (h : Int)
      · refine zp_pos (by rw [e55']; exact c2) (zp_lt.mpr (zp_mono (lp_rest hJ' hx e55' hI1 c1 ?_) (fun U hU => ⟨FRp_t hF hU.1, hU.2⟩)))
        rw [e55', zsub_ok (by omega) (by omega)]
        omega
      · refine zp_neg (by rw [e55']; exact c2) (zp_mono (lp_rest (v := 0) hJ' hx e55' hI1 c1 ?_) (fun U hU => ⟨FRp_t hF hU.1, hU.2⟩))
        omega
  unfold F_X12_opens
  refine zp_pos (by omega) ?_
  simp only [Int.toNat_natCast, e58, d1, d2, d3, d4, d5, d6, d7, e55, fg]
  refine zp_lt.mpr (zp_lt.mpr ?_)
  have la : F_X12_lain (a : Int) S = some (pln al a : Int) := lp_lain e55 ⟨j7, j8⟩ v2.1
  have lb : F_X12_lain (b : Int) S = some (pln al b : Int) := lp_lain e55 ⟨j7, j8⟩ v2.2.1
  have lc : F_X12_lain (c : Int) S = some (pln al c : Int) := lp_lain e55 ⟨j7, j8⟩ v2.2.2
  by_cases c1 : 30 < (h : Int) + al 29
  · refine zp_pos c1 ?_
    refine zp_bind.mpr ((zp_eq la).mpr ?_)
    refine zp_bind.mpr ((zp_eq lb).mpr ?_)
    refine zp_bind.mpr ((zp_eq lc).mpr ?_)
    refine zp_bind.mpr ((zp_eq (lp_state (pg := pg) (a := pln al a) (b := pln al b) (c := pln al c) (h := min 30 (h + (al 29).toNat)) (t := t) (s := 1) rfl rfl rfl rfl (by omega) rfl rfl (by omega) ag.1.1 ag.1.2.1 ag.1.2.2 (by omega) v5 (by decide))).mpr ?_)
    exact zp_bind.mpr (zp_mono (RI_put hJ' hx rfl hI p0 (y := 0) rfl) (fun V hV => tail V hV.1 hV.2))
  · refine zp_neg c1 (zp_lt.mpr ?_)
    refine zp_bind.mpr ((zp_eq la).mpr ?_)
    refine zp_bind.mpr ((zp_eq lb).mpr ?_)
    refine zp_bind.mpr ((zp_eq lc).mpr ?_)
    refine zp_bind.mpr ((zp_eq (lp_state (pg := pg) (a := pln al a) (b := pln al b) (c := pln al c) (h := min 30 (h + (al 29).toNat)) (t := t) (s := 1) rfl rfl rfl rfl (by omega) rfl rfl (by omega) ag.1.1 ag.1.2.1 ag.1.2.2 (by omega) v5 (by decide))).mpr ?_)
    exact zp_bind.mpr (zp_mono (RI_put hJ' hx rfl hI p0 (y := 0) rfl) (fun V hV => tail V hV.1 hV.2))
end OPQ
