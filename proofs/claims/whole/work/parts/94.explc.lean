/-! explain: the class's answer to one question -/
section EXPC
variable {S : ZS} {W : Nat} {wy ro sp ey seen on off : Nat → Int} {len a b x : Int} {t u e n7 : Nat}
def InvO' (A10 : Nat → Nat → Int) (eyes : Int) (seen on off : Nat → Int) : Prop := ∀ e : Nat, e < 19 → A10 5 e = seen e ∧ (seen e = 0 ∨ (seen e = 1 ∧ (e : Int) < eyes ∧ A10 6 e = on e ∧ A10 7 e = off e ∧ ObsOK (on e) (off e)))
theorem lp_seenSo (e7 : wy 7 = (n7 : Int)) (h7 : n7 ≤ 19) (w4 : S.1 W 4 = (n7 : Int)) (wE : ∀ e, e < n7 → S.2 W 6 e = ey e) (hey : ∀ e, e < n7 → 1 ≤ ey e ∧ ey e ≤ 300) (HO : InvO' (S.2 10) (wy 7) seen on off)
    (hu : ∀ e, e < n7 → ∃ r, F_X8_isUnderEye 8 (10 * ey e) S = some r ∧ ((r = 1 ∧ cVis wy ro sp ey a b len e t) ∨ (r = 0 ∧ ¬ cVis wy ro sp ey a b len e t))) :
    zp (F_X0_isSeenSo W (t : Int) a b S) (fun v => (v = 1 ∧ cSeen wy ro sp ey seen on off len a b t) ∨ (v = 0 ∧ ¬ cSeen wy ro sp ey seen on off len a b t)) := by
  unfold F_X0_isSeenSo F_X0_isSeenSo_3
  obtain ⟨okE, hok⟩ : ∃ okE : Nat → Prop, okE = fun e => (cDue (on e) (off e) t ↔ (¬ cBl a b e ∧ cVis wy ro sp ey a b len e t)) := ⟨_, rfl⟩
  refine zp_w (fun d (s : Int) => ∃ i : Nat, d = n7 - i ∧ i ≤ n7 ∧ s = (i : Int) ∧ ∀ e : Nat, e < i → seen e ≠ 0 → okE e) ?_ n7 _ ⟨0, rfl, by omega, rfl, fun e he => absurd he (by omega)⟩
  rintro d s ⟨i, rfl, hi, rfl, hd⟩
  by_cases c : i = n7
  · subst c
    refine zp_neg (by omega) (zp_some.mpr (zor2_r.mpr (Or.inl ⟨rfl, fun e he hs => ?_⟩)))
    have := hd e (by omega) hs
    rw [hok] at this
    exact this
  · have hi' : i < n7 := by omega
    refine zp_pos (by omega) (zp_pos (by omega) ?_)
    have fi : zadd (i : Int) 1 = ((i + 1 : Nat) : Int) := by rw [zadd_ok (by omega) (by omega)]; rfl
    have f3 : zadd 30 (i : Int) = 30 + (i : Int) := zadd_ok (by omega) (by omega)
    obtain ⟨o1, o2⟩ := HO i (by omega)
    obtain ⟨y1, y2⟩ := hey i hi'
    obtain ⟨r, hr1, hr2⟩ := hu i hi'
    have fE : F_X8_isUnderEye 8 (zmul (S.2 W 6 ((i : Int)).toNat) 10) S = some r := by
      rw [Int.toNat_natCast, wE i hi', zmul_ok (by omega) (by omega), show ey i * 10 = 10 * ey i by omega]
      exact hr1
    have nx : (seen i ≠ 0 → okE i) → zor2 (fun s : Int => ∃ m, m < n7 - i ∧ ∃ j : Nat, m = n7 - j ∧ j ≤ n7 ∧ s = (j : Int) ∧ ∀ e : Nat, e < j → seen e ≠ 0 → okE e) (fun v : Int => (v = 1 ∧ cSeen wy ro sp ey seen on off len a b t) ∨ (v = 0 ∧ ¬ cSeen wy ro sp ey seen on off len a b t)) (.inl (zadd (i : Int) 1)) := by
      intro h
      rw [fi]
      refine zor2_l.mpr ⟨n7 - (i + 1), by omega, i + 1, rfl, by omega, rfl, fun e he hs => ?_⟩
      by_cases g : e = i
      · rw [g] at hs ⊢; exact h hs
      · exact hd e (by omega) hs
    by_cases hs : seen i = 0
    · exact zp_pos (by rw [Int.toNat_natCast, o1]; exact hs) (zp_some.mpr (nx (fun z => absurd hs z)))
    refine zp_neg (by rw [Int.toNat_natCast, o1]; exact hs) ?_
    obtain ⟨_, o3, o4, o5, o6⟩ := o2.resolve_left hs
    have bad : ¬ okE i → zor2 (fun s : Int => ∃ m, m < n7 - i ∧ ∃ j : Nat, m = n7 - j ∧ j ≤ n7 ∧ s = (j : Int) ∧ ∀ e : Nat, e < j → seen e ≠ 0 → okE e) (fun v : Int => (v = 1 ∧ cSeen wy ro sp ey seen on off len a b t) ∨ (v = 0 ∧ ¬ cSeen wy ro sp ey seen on off len a b t)) (.inr 0) := by
      intro h
      refine zor2_r.mpr (Or.inr ⟨rfl, fun z => h ?_⟩)
      rw [hok]
      exact z i (by rw [e7]; omega) hs
    have good : okE i → _ := fun z => nx (fun _ => z)
    have hoki : okE i ↔ (cDue (on i) (off i) t ↔ (¬ cBl a b i ∧ cVis wy ro sp ey a b len i t)) := by rw [hok]
    rw [hoki] at bad good
    clear nx hd hok
    have hbl : cBl a b i ↔ (a = zadd 30 (i : Int) ∨ b = zadd 30 (i : Int)) := by rw [f3]; rfl
    have hv : (r = 0 ↔ ¬ cVis wy ro sp ey a b len i t) := by
      rcases hr2 with ⟨z, y⟩ | ⟨z, y⟩
      · exact ⟨fun q => absurd (z.symm.trans q) (by decide), fun q => absurd y q⟩
      · exact ⟨fun _ => y, fun _ => z⟩
    have dueB : cDue (on i) (off i) t → zp (if a = zadd 30 (i : Int) then some (.inr 0) else if b = zadd 30 (i : Int) then some (.inr 0) else (F_X8_isUnderEye 8 (zmul (S.2 W 6 ((i : Int)).toNat) 10) S).bind fun r14 => if r14 = 0 then some (.inr 0) else some (.inl (zadd (i : Int) 1))) (zor2 (fun s : Int => ∃ m, m < n7 - i ∧ ∃ j : Nat, m = n7 - j ∧ j ≤ n7 ∧ s = (j : Int) ∧ ∀ e : Nat, e < j → seen e ≠ 0 → okE e) (fun v : Int => (v = 1 ∧ cSeen wy ro sp ey seen on off len a b t) ∨ (v = 0 ∧ ¬ cSeen wy ro sp ey seen on off len a b t))) := by
      intro hdu
      by_cases g1 : a = zadd 30 (i : Int)
      · exact zp_pos g1 (zp_some.mpr (bad (fun z => (z.mp hdu).1 (hbl.mpr (Or.inl g1)))))
      · refine zp_neg g1 ?_
        by_cases g2 : b = zadd 30 (i : Int)
        · exact zp_pos g2 (zp_some.mpr (bad (fun z => (z.mp hdu).1 (hbl.mpr (Or.inr g2)))))
        · refine zp_neg g2 (zp_bind.mpr ((zp_eq fE).mpr ?_))
          by_cases g3 : r = 0
          · exact zp_pos g3 (zp_some.mpr (bad (fun z => (hv.mp g3) (z.mp hdu).2)))
          · exact zp_neg g3 (zp_some.mpr (good ⟨fun _ => ⟨fun z => (hbl.mp z).elim g1 g2, Classical.byContradiction fun z => g3 (hv.mpr z)⟩, fun _ => hdu⟩))
    have ndB : ¬ cDue (on i) (off i) t → zp (F_X0_isSeenSo_70 W (t : Int) a b (i : Int) S) (zor2 (fun s : Int => ∃ m, m < n7 - i ∧ ∃ j : Nat, m = n7 - j ∧ j ≤ n7 ∧ s = (j : Int) ∧ ∀ e : Nat, e < j → seen e ≠ 0 → okE e) (fun v : Int => (v = 1 ∧ cSeen wy ro sp ey seen on off len a b t) ∨ (v = 0 ∧ ¬ cSeen wy ro sp ey seen on off len a b t))) := by
      intro hdu
      unfold F_X0_isSeenSo_70
      by_cases g1 : a = zadd 30 (i : Int)
      · exact zp_pos g1 (zp_some.mpr (good ⟨fun z => absurd z hdu, fun z => absurd (hbl.mpr (Or.inl g1)) z.1⟩))
      · refine zp_neg g1 ?_
        by_cases g2 : b = zadd 30 (i : Int)
        · exact zp_pos g2 (zp_some.mpr (good ⟨fun z => absurd z hdu, fun z => absurd (hbl.mpr (Or.inr g2)) z.1⟩))
        · refine zp_neg g2 (zp_pos (by omega) (zp_bind.mpr ((zp_eq fE).mpr ?_)))
          by_cases g3 : r = 0
          · exact zp_pos g3 (zp_some.mpr (good ⟨fun z => absurd z hdu, fun z => absurd z.2 (hv.mp g3)⟩))
          · exact zp_neg g3 (zp_some.mpr (bad (fun z => hdu (z.mpr ⟨fun y => (hbl.mp y).elim g1 g2, Classical.byContradiction fun y => g3 (hv.mpr y)⟩))))
    by_cases d1 : on i = -1
    · exact zp_pos (by rw [Int.toNat_natCast, o4]; exact d1) (ndB (fun z => z.1 d1))
    refine zp_neg (by rw [Int.toNat_natCast, o4]; exact d1) ?_
    by_cases d2 : (t : Int) < on i
    · exact zp_pos (by rw [Int.toNat_natCast, o4]; exact d2) (ndB (fun z => by have := z.2.1; omega))
    refine zp_neg (by rw [Int.toNat_natCast, o4]; exact d2) ?_
    by_cases d3 : off i = -1
    · exact zp_pos (by rw [Int.toNat_natCast, o5]; exact d3) (dueB ⟨d1, by omega, Or.inl d3⟩)
    refine zp_neg (by rw [Int.toNat_natCast, o5]; exact d3) ?_
    by_cases d4 : (t : Int) < off i
    · exact zp_pos (by rw [Int.toNat_natCast, o5]; exact d4) (dueB ⟨d1, by omega, Or.inr d4⟩)
    · exact zp_neg (by rw [Int.toNat_natCast, o5]; exact d4) (ndB (fun z => z.2.2.elim d3 d4))
theorem lp_allBy (e7 : wy 7 = (n7 : Int)) (h7 : n7 ≤ 19) (w4 : S.1 W 4 = (n7 : Int)) (HO : InvO' (S.2 10) (wy 7) seen on off) :
    zp (F_X0_allSeenBy W (t : Int) S) (fun v => (v = 1 ∧ cAll wy seen on off t) ∨ (v = 0 ∧ ¬ cAll wy seen on off t)) := by
  unfold F_X0_allSeenBy F_X0_allSeenBy_2
  refine zp_w (fun d (s : Int) => ∃ i : Nat, d = n7 - i ∧ i ≤ n7 ∧ s = (i : Int) ∧ ∀ e : Nat, e < i → seen e ≠ 0 → on e ≤ (t : Int) ∧ off e ≤ (t : Int)) ?_ n7 _ ⟨0, rfl, by omega, rfl, fun e he => absurd he (by omega)⟩
  rintro d s ⟨i, rfl, hi, rfl, hd⟩
  by_cases c : i = n7
  · subst c
    exact zp_neg (by omega) (zp_some.mpr (zor2_r.mpr (Or.inl ⟨rfl, fun e he hs => hd e (by omega) hs⟩)))
  · have hi' : i < n7 := by omega
    refine zp_pos (by omega) (zp_pos (by omega) ?_)
    have fi : zadd (i : Int) 1 = ((i + 1 : Nat) : Int) := by rw [zadd_ok (by omega) (by omega)]; rfl
    obtain ⟨o1, o2⟩ := HO i (by omega)
    have he : (i : Int) < wy 7 := by omega
    have nx : (seen i ≠ 0 → on i ≤ (t : Int) ∧ off i ≤ (t : Int)) → ∃ m, m < n7 - i ∧ ∃ j : Nat, m = n7 - j ∧ j ≤ n7 ∧ ((i + 1 : Nat) : Int) = (j : Int) ∧ ∀ e : Nat, e < j → seen e ≠ 0 → on e ≤ (t : Int) ∧ off e ≤ (t : Int) := by
      intro h
      refine ⟨n7 - (i + 1), by omega, i + 1, rfl, by omega, rfl, fun e he hs => ?_⟩
      by_cases g : e = i
      · rw [g] at hs ⊢; exact h hs
      · exact hd e (by omega) hs
    rw [fi]
    by_cases hs : seen i = 0
    · exact zp_pos (by rw [Int.toNat_natCast, o1]; exact hs) (zp_some.mpr (zor2_l.mpr (nx (fun z => absurd hs z))))
    refine zp_neg (by rw [Int.toNat_natCast, o1]; exact hs) ?_
    obtain ⟨_, o3, o4, o5, o6⟩ := o2.resolve_left hs
    by_cases d2 : (t : Int) < on i
    · exact zp_pos (by rw [Int.toNat_natCast, o4]; exact d2) (zp_some.mpr (zor2_r.mpr (Or.inr ⟨rfl, fun z => by have := (z i he hs).1; omega⟩)))
    refine zp_neg (by rw [Int.toNat_natCast, o4]; exact d2) ?_
    by_cases d3 : (t : Int) < off i
    · exact zp_pos (by rw [Int.toNat_natCast, o5]; exact d3) (zp_some.mpr (zor2_r.mpr (Or.inr ⟨rfl, fun z => by have := (z i he hs).2; omega⟩)))
    · exact zp_neg (by rw [Int.toNat_natCast, o5]; exact d3) (zp_some.mpr (zor2_l.mpr (nx (fun _ => ⟨by omega, by omega⟩))))
theorem lp_ex65 (hW : W = 19 ∨ W = 20) (w0 : S.1 W 0 = wy 0) (w6 : S.1 W 6 = wy 1) (w7 : S.1 W 7 = wy 2) (w8 : S.1 W 8 = wy 3) (w9 : S.1 W 9 = wy 4) (b0 : 40 ≤ wy 0 ∧ wy 0 ≤ 300) (b1 : 0 ≤ wy 1 ∧ wy 1 ≤ 300)
    (H : DrOK wy ro sp (cwe a b) (cbe a b)) (k1 : S.1 W 1 = wy 6) (k2 : S.1 W 10 = wy 5) (K : ∀ r : Nat, (r : Int) < wy 6 → S.2 W 3 r = ro r ∧ S.2 W 4 r = sp r) (C : CoOK (cco ey a b) (cma a b)) (hK : TkF ey a b (S.2 5 1) (S.2 5 2) (S.2 5 3) (S.1 5 3))
    (e7 : wy 7 = (n7 : Int)) (h7 : n7 ≤ 19) (w4 : S.1 W 4 = (n7 : Int)) (wE : ∀ e, e < n7 → S.2 W 6 e = ey e) (hey : ∀ e, e < n7 → 1 ≤ ey e ∧ ey e ≤ 300) (HO : InvO' (S.2 10) (wy 7) seen on off)
    (hl : 10 ≤ len ∧ len ≤ 60) (hro : 1 ≤ ro 0 ∧ ro 0 ≤ 300) (hR : CRt 8 W 5 1 S 0 (-1) (alP (cle a b len) (10 * ro 0) 0 0) [0] []) :
    zp (F_X0_explains_65 W a b 1 S) (fun v => (∀ r, r ≠ 8 → v.2.1 r = S.1 r) ∧ (∀ r, r ≠ 8 → v.2.2 r = S.2 r) ∧ ((v.1 = 1 ∧ AccAt wy ro sp ey seen on off len a b) ∨ (v.1 = 0 ∧ ∃ t, RefAt wy ro sp ey seen on off len a b t ∧ v.2.2 8 7 0 = (cSg wy ro sp ey a b len t).1))) := by
  have hW8 : W ≠ 8 := by omega
  have hcl := cle_b (a := a) (b := b) hl
  unfold F_X0_explains_65
  refine zp_w (fun d (s : Int × ZS) => ∃ t : Nat, d = 120 - t ∧ t ≤ 120 ∧ s.1 = (t : Int) + 1 ∧ (∀ r, r ≠ 8 → s.2.1 r = S.1 r) ∧ (∀ r, r ≠ 8 → s.2.2 r = S.2 r) ∧ (∀ u, 1 ≤ u → u ≤ t → cE wy ro sp ey a b len u = false ∧ cSeen wy ro sp ey seen on off len a b u) ∧
    CRt 8 W 5 1 s.2 (t : Int) (-1) (alP (cle a b len) (cSg wy ro sp ey a b len t).1 (cSg wy ro sp ey a b len t).2 0) [0] []) ?_ 120 _ ⟨0, rfl, by omega, rfl, fun _ _ => rfl, fun _ _ => rfl, fun u h1 h2 => absurd h1 (by omega), hR⟩
  rintro d ⟨y, I, A⟩ ⟨t, rfl, ht, rfl, hI, hA, hc, hR'⟩
  dsimp only at hI hA hc hR' ⊢
  by_cases c : t = 120
  · subst c
    exact zp_pos (by omega) (zp_some.mpr (zor2_r.mpr ⟨hI, hA, Or.inl ⟨rfl, Or.inr hc⟩⟩))
  refine zp_neg (by omega) ?_
  have hnE : ∀ i, i < t → cE wy ro sp ey a b len (i + 1) = false := fun i hi => (hc (i + 1) (by omega) (by omega)).1
  obtain ⟨s1, s2, s3, s4⟩ := sgS_b H b0.2 hcl.2 hro.2 t hnE
  have s1 : 10 * ro 0 ≤ (cSg wy ro sp ey a b len t).1 := s1
  have s2 : (cSg wy ro sp ey a b len t).1 ≤ 3700 := s2
  have s3 : 0 ≤ (cSg wy ro sp ey a b len t).2 := s3
  have s4 : (cSg wy ro sp ey a b len t).2 ≤ 4 := s4
  have hT := sgT_b (cor := cco ey a b) (many := cma a b) (its := cle a b len) (t := (t : Int) + 1) H (cSg wy ro sp ey a b len t)
  rw [← cSg_s] at hT
  refine zp_bind.mpr (zp_mono (lp_al8 (S := (I, A)) (W := W) (wy := wy) (ro := ro) (sp := sp) (wear := cwe a b) (beat := cbe a b) (cor := cco ey a b) (many := cma a b) (t := (t : Int)) (q := cSg wy ro sp ey a b len (t + 1)) hW (by omega) (by show I W 0 = _; rw [hI W hW8]; exact w0) (by show I W 6 = _; rw [hI W hW8]; exact w6) (by show I W 7 = _; rw [hI W hW8]; exact w7) (by show I W 8 = _; rw [hI W hW8]; exact w8) (by show I W 9 = _; rw [hI W hW8]; exact w9) b0 b1 H
        (by show I W 1 = _; rw [hI W hW8]; exact k1) (by show I W 10 = _; rw [hI W hW8]; exact k2) (fun r hr => by show A W 3 r = _ ∧ A W 4 r = _ ∧ A 5 1 r = _ ∧ A 5 2 r = _; rw [hA W hW8, hA 5 (by decide)]; exact ⟨(K r hr).1, (K r hr).2, (hK.1 r (by have := H.1; omega)).1, (hK.1 r (by have := H.1; omega)).2⟩) C (by show I 5 3 = _; rw [hI 5 (by decide)]; exact hK.2.1) (fun r hr => by show A 5 3 r = _; rw [hA 5 (by decide)]; exact hK.2.2 r hr)
        hcl (by omega) (by omega) s1 hR' rfl) (fun V hV => ?_))
  obtain ⟨v1, v2, v3, v4, v5, v6, v7, v8, v9⟩ := hV
  have fV : ∀ r, r ≠ 8 → V.1 r = S.1 r := fun r hr => (v1 r hr).trans (hI r hr)
  have fA : ∀ r, r ≠ 8 → V.2 r = S.2 r := fun r hr => (v2 r hr).trans (hA r hr)
  have hu : ∀ e, e < n7 → ∃ r, F_X8_isUnderEye 8 (10 * ey e) V = some r ∧ ((r = 1 ∧ cVis wy ro sp ey a b len e (t + 1)) ∨ (r = 0 ∧ ¬ cVis wy ro sp ey a b len e (t + 1))) := by
    intro e he
    by_cases ho : 10 * wy 0 ≤ (cSg wy ro sp ey a b len (t + 1)).1 - 10 * cle a b len
    · rw [if_pos ho] at v8
      have := lp_under8 (S := V) (T := 8) (m := 1) (N := []) (place := 10 * ey e) (by rw [v8]; rfl) (by decide) (fun j h => absurd h (by simp)) v7 (fun a h => absurd h (by simp))
      exact ⟨_, this, Or.inr ⟨rfl, fun z => z.1 ho⟩⟩
    · rw [if_neg ho] at v8
      have := lp_under8 (S := V) (T := 8) (m := 1) (N := [0]) (place := 10 * ey e) (by rw [v8]; rfl) (by decide) (fun j h => by
        have : j = 0 := by simpa using h
        subst this
        exact v9 ho) v7 (fun a1 h => by
        have : a1 = 0 := by simpa using h
        subst this
        refine ⟨by omega, by omega, ?_, hcl⟩
        show 0 ≤ (cSg wy ro sp ey a b len (t + 1)).1 ∧ (cSg wy ro sp ey a b len (t + 1)).1 ≤ 10000
        omega)
      refine ⟨_, this, ?_⟩
      by_cases g : (cSg wy ro sp ey a b len (t + 1)).1 - 10 * cle a b len < 10 * ey e ∧ 10 * ey e ≤ (cSg wy ro sp ey a b len (t + 1)).1
      · refine Or.inl ⟨if_pos ?_, ⟨ho, g.1, g.2⟩⟩
        rw [List.any_cons, List.any_nil, Bool.or_false]
        exact decide_eq_true g
      · refine Or.inr ⟨if_neg ?_, fun z => g z.2⟩
        rw [List.any_cons, List.any_nil, Bool.or_false]
        exact fun z => g (of_decide_eq_true z)
  have ft : (t : Int) + 1 = ((t + 1 : Nat) : Int) := rfl
  rw [ft]
  refine zp_bind.mpr (zp_mono (lp_seenSo (S := V) (W := W) (t := t + 1) e7 h7 (by rw [fV W hW8]; exact w4) (fun e he => by rw [fA W hW8]; exact wE e he) hey (by rw [fA 10 (by decide)]; exact HO) hu) (fun v hv => ?_))
  have hcE : ∀ u, 1 ≤ u → u < t + 1 → cE wy ro sp ey a b len u = false := fun u hu1 hu2 => (hc u hu1 (by omega)).1
  rcases hv with ⟨rfl, hs⟩ | ⟨rfl, hs⟩
  · refine zp_neg (by decide) ?_
    by_cases g : 10 * wy 0 ≤ (cSg wy ro sp ey a b len (t + 1)).1 - 10 * cle a b len ∨ 5 ≤ (cSg wy ro sp ey a b len (t + 1)).2
    · have hne : V.2 8 6 0 ≠ 0 := by
        rw [v5]
        by_cases g1 : 10 * wy 0 ≤ (cSg wy ro sp ey a b len (t + 1)).1 - 10 * cle a b len
        · rw [if_pos g1]; decide
        · rw [if_neg g1, if_pos (g.resolve_left g1)]; decide
      have hE : cE wy ro sp ey a b len (t + 1) = true := cE_t.mpr g
      refine zp_neg hne (zp_bind.mpr (zp_mono (lp_allBy (S := V) (W := W) (t := t + 1) e7 h7 (by rw [fV W hW8]; exact w4) (by rw [fA 10 (by decide)]; exact HO)) (fun w hw => ?_)))
      rcases hw with ⟨rfl, hw⟩ | ⟨rfl, hw⟩
      · refine zp_pos (Or.inr rfl) (zp_some.mpr (zor2_r.mpr ⟨fV, fA, Or.inl ⟨rfl, Or.inl ⟨t + 1, ⟨by omega, by omega⟩, hcE, fun u hu1 hu2 => ?_, hE, hw⟩⟩⟩))
        by_cases g2 : u = t + 1
        · rw [g2]; exact hs
        · exact (hc u hu1 (by omega)).2
      · exact zp_pos (Or.inl rfl) (zp_some.mpr (zor2_r.mpr ⟨fV, fA, Or.inr ⟨rfl, t + 1, ⟨⟨by omega, by omega⟩, hcE, Or.inr ⟨hE, hw⟩⟩, v3⟩⟩))
    · have h0 : V.2 8 6 0 = 0 := by rw [v5, if_neg (fun z => g (Or.inl z)), if_neg (fun z => g (Or.inr z))]
      refine zp_pos h0 (zp_some.mpr (zor2_l.mpr ⟨120 - (t + 1), by omega, t + 1, rfl, by omega, ?_, fV, fA, fun u hu1 hu2 => ?_, v6 (fun z => g (Or.inl z)) (fun z => g (Or.inr z))⟩))
      · dsimp only
        rw [zadd_ok (by omega) (by omega)]
      · by_cases g2 : u = t + 1
        · rw [g2]; exact ⟨cE_f.mpr g, hs⟩
        · exact hc u hu1 (by omega)
  · exact zp_pos rfl (zp_some.mpr (zor2_r.mpr ⟨fV, fA, Or.inr ⟨rfl, t + 1, ⟨⟨by omega, by omega⟩, hcE, Or.inl hs⟩, v3⟩⟩))
end EXPC
