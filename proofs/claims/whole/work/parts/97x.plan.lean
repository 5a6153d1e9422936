/-! plan: the class's search, both together -/
section PPL
variable {n : Nat} {S V : ZS} {al : Nat → Int} {x1 : Int}
theorem lp_sk15 {Z : ZS} (hJ : JobOK al) (hp : ∀ q : Nat, (q : Int) < al 31 → Gvs al q) (hjZ : PlK al Z) (z0 : Z.1 14 0 = 1) (z1 : Z.1 14 1 = -1) (z5 : Z.1 14 5 = 0) (z6 : Z.1 14 6 = -1) (zb : ∀ s, s < 178560 → mbit (Z.2 14 5) s = false) :
    zp (if (Z.1 14 7).toNat = 11 ∨ (Z.1 14 7).toNat = 12 ∨ (Z.1 14 7).toNat = 13 then if (Z.1 ((Z.1 14 7).toNat) 8) = 0 then (F_X5_meet 0 0 0 4 0 0 Z).bind fun S19 => F_X5_seek_81 0 S19 else (F_X5_meet 0 0 (Z.1 ((Z.1 14 7).toNat) 7) 4 0 0 Z).bind fun S18 => F_X5_seek_81 0 S18 else none) (PSk al Z) := by
  have j26 := hJ.2.2.2.2.2.1
  have z7 := hjZ.1.1
  have n8 : Z.1 (Z.1 14 7).toNat 8 = al 27 := by rw [z7]; exact hjZ.2.2.2.2.1
  have n7 : Z.1 (Z.1 14 7).toNat 7 = al 26 := by rw [z7]; exact hjZ.2.2.2.1
  have fin : ∀ V, FRc Z V ∧ (CE al V 0 ∨ CG al V) → zp (F_X5_seek_81 0 V) (PSk al Z) := by
    intro V hV
    refine zp_mono (lp_s81 hJ hp (PlK_fr hjZ hV.1) ((hV.1.2.1 0 (by decide) (by decide)).trans z0) ((hV.1.2.1 1 (by decide) (by decide)).trans z1) hV.2) (fun W hW => ?_)
    exact ⟨fun r hr => (hW.1 r hr).trans (hV.1.1 r hr), fun r hr => (hW.2.1 r hr).trans (hV.1.2.2.1 r hr), hW.2.2⟩
  refine zp_pos (by rw [z7]; exact Or.inl rfl) ?_
  have e0 := csf_0 hJ
  by_cases c : al 27 = 0
  · rw [if_pos c] at e0
    exact zp_pos (by rw [n8]; exact c) (zp_bind.mpr (zp_mono (lp_first (h := 0) hJ hjZ e0 (by decide) z5 z6 zb) fin))
  · rw [if_neg c] at e0
    refine zp_neg (by rw [n8]; exact c) (zp_bind.mpr ?_)
    have e7 : Z.1 (Z.1 14 7).toNat 7 = ((al 26).toNat : Int) := by rw [n7]; omega
    rw [e7]
    exact zp_mono (lp_first (h := (al 26).toNat) hJ hjZ e0 (by omega) z5 z6 zb) fin
theorem lp_sk11 {X : ZS} (hJ : JobOK al) (hj : PlK al X) (x0 : X.1 14 0 = 1) (x1 : X.1 14 1 = -1) (x6 : X.1 14 6 = -1) :
    zp ((F_X5_hasPaperForAll X).bind fun r12 => if r12 = 0 then some X else zlt (X.1, zuA X.2 14 5 (zfl 2791 0 (X.2 14 5))) fun S14 => zlt (zup S14.1 14 5 0, S14.2) fun S15 => if (S15.1 14 7).toNat = 11 ∨ (S15.1 14 7).toNat = 12 ∨ (S15.1 14 7).toNat = 13 then if (S15.1 ((S15.1 14 7).toNat) 8) = 0 then (F_X5_meet 0 0 0 4 0 0 S15).bind fun S19 => F_X5_seek_81 0 S19 else (F_X5_meet 0 0 (S15.1 ((S15.1 14 7).toNat) 7) 4 0 0 S15).bind fun S18 => F_X5_seek_81 0 S18 else none) (PSk al X) := by
  refine zp_bind.mpr (zp_mono (lp_papers hJ hj.1) (fun r hr => ?_))
  rcases hr with ⟨hr, hp⟩ | ⟨hr, q, hq, hn⟩
  rotate_left 1
  · rw [hr]
    exact zp_pos rfl (zp_some.mpr ⟨fun _ _ => rfl, fun _ _ => rfl, x0, Or.inl ⟨x1, fun w hw => hn (acc_pg ((csf_acc hJ w).mpr hw) q hq)⟩⟩)
  rw [hr]
  have hF : FRc X (zup X.1 14 5 0, zuA X.2 14 5 (zfl 2791 0 (X.2 14 5))) := ⟨fun r hr => zup_R hr, fun c h1 _ => zup_k h1, fun r hr => zuA_R hr, fun o _ h2 => zuA_o h2⟩
  refine zp_neg (by decide) (zp_lt.mpr (zp_lt.mpr (zp_mono (lp_sk15 (Z := (zup X.1 14 5 0, zuA X.2 14 5 (zfl 2791 0 (X.2 14 5)))) hJ hp (PlK_fr hj hF) ((hF.2.1 0 (by decide) (by decide)).trans x0) ((hF.2.1 1 (by decide) (by decide)).trans x1) (by dsimp only; rw [zup_s]) ?_ ?_) (fun W hW => ?_))))
  · dsimp only; rw [zup_k (by decide)]; exact x6
  · intro s hs
    unfold mbit
    dsimp only
    rw [zuA_s, zfl_ap, if_pos (by omega)]
    exact zbit_0
  · exact ⟨fun r hr => (hW.1 r hr).trans (hF.1 r hr), fun r hr => (hW.2.1 r hr).trans (hF.2.2.1 r hr), hW.2.2⟩
theorem lp_pseek (hR : JobR (S.1 11) (S.2 11) al) (hP : InvP (S.1 14) (S.2 14) al) : zp (F_X5_seek 11 S) (PSk al S) := by
  unfold F_X5_seek
  rcases hP with h0 | ⟨h0, hP⟩
  rotate_left 1
  · exact zp_neg (by rw [h0]; decide) (zp_some.mpr ⟨fun _ _ => rfl, fun _ _ => rfl, h0, hP⟩)
  obtain ⟨hJ, r0, r5, r6, r7, r8, r9, r10, _, _, rp, rt, _⟩ := hR
  have xI : ∀ r, r ≠ 14 → zup (zup (zup (zup S.1 14 7 ((11 : Nat) : Int)) 14 0 1) 14 1 (-1)) 14 6 (-1) r = S.1 r := by
    intro r hr
    rw [zup_R hr, zup_R hr, zup_R hr, zup_R hr]
  have hj : PlK al (zup (zup (zup (zup S.1 14 7 ((11 : Nat) : Int)) 14 0 1) 14 1 (-1)) 14 6 (-1), S.2) := by
    unfold PlK PlJ
    dsimp only
    rw [xI 11 (by decide)]
    exact ⟨⟨by rw [zup_k (by decide), zup_k (by decide), zup_k (by decide), zup_s]; rfl, r0, fun i hi => ⟨(rt i hi).2, (rt i hi).1⟩, fun p hp => rp p hp⟩, r5, r6, r7, r8, r9, r10⟩
  refine zp_pos h0 (zp_lt.mpr (zp_lt.mpr (zp_lt.mpr (zp_lt.mpr (zp_mono (lp_sk11 (X := (zup (zup (zup (zup S.1 14 7 ((11 : Nat) : Int)) 14 0 1) 14 1 (-1)) 14 6 (-1), S.2)) hJ hj ?_ ?_ (by dsimp only; rw [zup_s])) (fun W hW => ?_))))))
  · dsimp only; rw [zup_k (by decide), zup_k (by decide), zup_s]
  · dsimp only; rw [zup_k (by decide), zup_s]
  · exact ⟨fun r hr => (hW.1 r hr).trans (xI r hr), hW.2.1, hW.2.2⟩
theorem lp_plan11 (hR : JobR (S.1 11) (S.2 11) al) (hP : InvP (S.1 14) (S.2 14) al) : zp (F_X11_plan x1 S) (fun v => PSk al S v.2 ∧ v.1 = plA (v.2.1 14 1) (v.2.2 14 3) x1) := by
  have hJ := hR.1
  unfold F_X11_plan
  refine zp_bind.mpr (zp_mono (lp_pseek hR hP) (fun V hV => ?_))
  by_cases c1 : x1 = -1
  · exact zp_pos c1 (zp_some.mpr ⟨hV, by unfold plA; rw [if_pos c1]⟩)
  refine zp_neg c1 ?_
  by_cases c2 : x1 < 0
  · exact zp_pos c2 (zp_some.mpr ⟨hV, by unfold plA; rw [if_neg c1, if_pos c2]⟩)
  refine zp_neg c2 ?_
  by_cases c3 : x1 < V.1 14 1
  · refine zp_pos c3 (zp_pos ?_ (zp_some.mpr ⟨hV, by unfold plA; rw [if_neg c1, if_neg c2, if_pos c3]⟩))
    have hb : V.1 14 1 ≤ 206 := by
      rcases hV.2.2.2 with ⟨p1, _⟩ | ⟨w, p1, p2, p3, _⟩
      · omega
      · obtain ⟨u, hu1, hu2⟩ := acc_short hJ (acc_pg ((csf_acc hJ w).mpr p1))
        have := p2 u ((csf_acc hJ u).mp hu1)
        rw [p3]
        rcases this with z | z
        · omega
        · omega
    omega
  · exact zp_neg c3 (zp_some.mpr ⟨hV, by unfold plA; rw [if_neg c1, if_neg c2, if_neg c3]⟩)
theorem Inv_pl (h : Inv n S) (i1 : ∀ r, r ≠ 1 → r ≠ 14 → V.1 r = S.1 r) (i2 : ∀ r, r ≠ 1 → r ≠ 14 → V.2 r = S.2 r) (j1 : ∀ k, k ≠ 0 → k ≠ 60 → k ≠ 61 → V.1 1 k = S.1 1 k) (j2 : ∀ o, o ≠ 57 → o ≠ 58 → o ≠ 59 → o ≠ 60 → V.2 1 o = S.2 1 o)
    (hP : InvP (V.1 14) (V.2 14) (S.2 1 55)) : Inv n V := by
  obtain ⟨hT, hW, hF, hX, hO, hC, hJ, hI, _, hK, hR, hM⟩ := h
  unfold Inv
  rw [i1 2 (by decide) (by decide), i1 3 (by decide) (by decide), i1 4 (by decide) (by decide), i1 6 (by decide) (by decide), i1 10 (by decide) (by decide), i1 11 (by decide) (by decide), i1 12 (by decide) (by decide), i1 13 (by decide) (by decide), i1 16 (by decide) (by decide), i1 17 (by decide) (by decide), i1 19 (by decide) (by decide), i1 20 (by decide) (by decide)]
  rw [i2 2 (by decide) (by decide), i2 3 (by decide) (by decide), i2 4 (by decide) (by decide), i2 6 (by decide) (by decide), i2 7 (by decide) (by decide), i2 10 (by decide) (by decide), i2 11 (by decide) (by decide), i2 12 (by decide) (by decide), i2 13 (by decide) (by decide), i2 16 (by decide) (by decide), i2 18 (by decide) (by decide), i2 19 (by decide) (by decide), i2 20 (by decide) (by decide)]
  rw [j1 2 (by decide) (by decide) (by decide), j1 21 (by decide) (by decide) (by decide), j1 22 (by decide) (by decide) (by decide), j1 26 (by decide) (by decide) (by decide), j1 27 (by decide) (by decide) (by decide), j1 28 (by decide) (by decide) (by decide), j1 29 (by decide) (by decide) (by decide)]
  rw [j2 2 (by decide) (by decide) (by decide) (by decide), j2 4 (by decide) (by decide) (by decide) (by decide), j2 6 (by decide) (by decide) (by decide) (by decide), j2 7 (by decide) (by decide) (by decide) (by decide), j2 10 (by decide) (by decide) (by decide) (by decide), j2 24 (by decide) (by decide) (by decide) (by decide), j2 25 (by decide) (by decide) (by decide) (by decide), j2 26 (by decide) (by decide) (by decide) (by decide), j2 31 (by decide) (by decide) (by decide) (by decide), j2 32 (by decide) (by decide) (by decide) (by decide), j2 33 (by decide) (by decide) (by decide) (by decide), j2 34 (by decide) (by decide) (by decide) (by decide), j2 35 (by decide) (by decide) (by decide) (by decide), j2 36 (by decide) (by decide) (by decide) (by decide), j2 37 (by decide) (by decide) (by decide) (by decide), j2 38 (by decide) (by decide) (by decide) (by decide), j2 39 (by decide) (by decide) (by decide) (by decide), j2 40 (by decide) (by decide) (by decide) (by decide), j2 41 (by decide) (by decide) (by decide) (by decide), j2 42 (by decide) (by decide) (by decide) (by decide), j2 43 (by decide) (by decide) (by decide) (by decide), j2 44 (by decide) (by decide) (by decide) (by decide), j2 45 (by decide) (by decide) (by decide) (by decide), j2 55 (by decide) (by decide) (by decide) (by decide), j2 56 (by decide) (by decide) (by decide) (by decide), j2 67 (by decide) (by decide) (by decide) (by decide), j2 68 (by decide) (by decide) (by decide) (by decide), j2 69 (by decide) (by decide) (by decide) (by decide)]
  exact ⟨hT, hW, hF, hX, hO, hC, hJ, hI, hP, hK, hR, hM⟩
theorem pair_plan (h : Inv n S) : Pair n S (F_X11_plan x1) (F_X12_plan x1) := by
  have hInv := h
  obtain ⟨hT, hW, hF, hX, hO, hC, hJ, hI, hP, hK, hR, hM⟩ := h
  have hn1 : Inv (n + 1) S := ⟨hT, hW, hF, InvX_up hX, hO, hC, hJ, hI, hP, hK, hR, hM⟩
  unfold Pair
  refine zp_mono (lp_plan11 hJ hP) (fun v hv => ?_)
  obtain ⟨⟨v1, v2, v3, v4⟩, v5⟩ := hv
  have e1 : v.2.1 1 = S.1 1 := v1 1 (by decide)
  have e2 : v.2.2 1 = S.2 1 := v2 1 (by decide)
  refine ⟨v2 0 (by decide), zp_mono (lp_plan12 (S := v.2) (x1 := x1) hJ.1 (by rw [e2]) v4) (fun u hu => ?_)⟩
  obtain ⟨u1, f1, f2, f3, f4⟩ := hu
  dsimp only at f1 f2 f3 f4
  refine ⟨u1.trans v5.symm, (f3 0 (by decide)).trans (v2 0 (by decide)), Inv_pl hn1 (fun r h1 h14 => ?_) (fun r h1 h14 => ?_) (fun k h0 h60 h61 => ?_) (fun o h1 h2 h3 h4 => ?_) ?_⟩
  · rw [f1 r h1, zup_R h1]; exact v1 r h14
  · rw [f3 r h1]; exact v2 r h14
  · rw [f2 k h60 h61, zup_k h0, e1]
  · rw [f4 o h1 h2 h3 h4, e2]
  · have e3 : u.2.1 14 = v.2.1 14 := (f1 14 (by decide)).trans (zup_R (by decide))
    have e4 : u.2.2 14 = v.2.2 14 := f3 14 (by decide)
    rw [e3, e4]
    exact Or.inr ⟨v3, v4⟩
end PPL
