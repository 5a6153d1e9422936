/-! plan: the reference's answer -/
section PLR
variable {S : ZS} {al : Nat → Int} {k : Nat} {x1 : Int}
theorem PVal_0 (hJ : JobOK al) : PVal al (p0 al) := by
  obtain ⟨⟨j1, j2⟩, j3, j4, ⟨j5, j6⟩, ⟨j7, j8⟩, ⟨j9, j10⟩, _⟩ := hJ
  show ((0 : Nat) : Int) ≤ al 31 ∧ ((5 : Nat) < 6 ∧ (5 : Nat) < 6 ∧ (5 : Nat) < 6) ∧ PkV (al 25).toNat 5 5 5 ∧ (al 26).toNat ≤ 30 ∧ 4 ≤ 4 ∧ 0 ≤ 1
  exact ⟨j1, ⟨by decide, by decide, by decide⟩, Or.inl ⟨rfl, rfl, rfl⟩, by omega, by decide, by decide⟩
theorem lp_finds (hJ : JobOK al) (e55 : S.2 1 55 = al) : zp (F_X12_finds S) (fun v => FRp S v.2 ∧ RFd al v) := by
  have j26 := hJ.2.2.2.2.2.1
  unfold F_X12_finds F_X12_finds_2
  refine zp_w (fun dd (u : Int × ZS) => ∃ i : Nat, dd = 9417 - i ∧ i ≤ 9417 ∧ u.1 = (i : Int) ∧ FRp S u.2 ∧ ∀ j, j < i → u.2.2 1 57 j = 0) ?_ 9417 _ ⟨0, rfl, by omega, rfl, FRp_r S, fun j hj => absurd hj (by omega)⟩
  rintro dd ⟨y, V⟩ ⟨i, rfl, hi, rfl, u1, u2⟩
  dsimp only at u1 u2 ⊢
  by_cases c : i = 9417
  · subst c
    refine zp_neg (by omega) (zp_lt.mpr ?_)
    obtain ⟨X, hX⟩ : ∃ X : ZS, X = (zup V.1 1 60 0, V.2) := ⟨_, rfl⟩
    rw [← hX]
    have x1 : FRp S X := FRp_t u1 (by rw [hX]; exact ⟨fun r hr => zup_R hr, fun c h1 _ => zup_k h1, fun _ _ => rfl, fun _ _ _ _ _ => rfl⟩)
    have x60 : X.1 1 60 = ((0 : Nat) : Int) := by rw [hX]; dsimp only; rw [zup_s]; rfl
    have x57 : ∀ s, s < 602640 → mbit (X.2 1 57) s = false := by
      intro s hs
      rw [hX]
      unfold mbit
      dsimp only
      rw [u2 (s / 64) (by omega)]
      exact zbit_0
    have e55' := FRp_55 x1 e55
    have hv0 := PVal_0 hJ
    have hc0 := pcode_lt (al := al) hJ.1.2 _ hv0
    have hst : F_X12_stateOf 0 5 5 5 (X.2 1 55 26) 4 0 X = some (pcode (p0 al) : Int) := by
      rw [e55']
      exact lp_state (pg := 0) (a := 5) (b := 5) (c := 5) (h := (al 26).toNat) (t := 4) (s := 0) rfl rfl rfl rfl (by omega) rfl rfl (by decide) (by decide) (by decide) (by decide) (by omega) (by decide) (by decide)
    refine zp_bind.mpr ((zp_eq hst).mpr (zp_bind.mpr ?_))
    rw [zp_eq (lp_adds (s := pcode (p0 al)) (N := 0) hc0 x60 (by decide)), if_neg (by rw [x57 _ hc0]; decide)]
    obtain ⟨Y, hY⟩ : ∃ Y : ZS, Y = (zup X.1 1 60 ((0 + 1 : Nat) : Int), zuA (zuA (zuA (zuA X.2 1 57 (zset (X.2 1 57) (pcode (p0 al) / 64) (zlor (X.2 1 57 (pcode (p0 al) / 64)) (zlshl 1 ((pcode (p0 al) % 64 : Nat) : Int))))) 1 58 (zset (X.2 1 58) 0 (pcode (p0 al) : Int))) 1 59 (zset (X.2 1 59) 0 (-1))) 1 60 (zset (X.2 1 60) 0 0)) := ⟨_, rfl⟩
    rw [← hY]
    have y1 : FRp S Y := FRp_t x1 (by rw [hY]; exact ⟨fun r hr => zup_R hr, fun c h1 _ => zup_k h1, fun r hr => by dsimp only; rw [zuA_R hr, zuA_R hr, zuA_R hr, zuA_R hr], fun o h1 h2 h3 h4 => by dsimp only; rw [zuA_o h4, zuA_o h3, zuA_o h2, zuA_o h1]⟩)
    have hRJ : RJ al Y 0 1 (fun _ => p0 al) (fun _ => 0) (fun _ => 0) (fun _ => []) := by
      refine ⟨Bfs_0 rfl rfl, by omega, fun j _ => hv0, fun i j h1 h2 => by omega, fun j hj => absurd hj (by omega), ?_, fun j hj => ?_, fun j hj => ?_, fun j h1 h2 => by omega, fun s hs => ?_⟩
      · rw [hY]; dsimp only; rw [zup_s]
      · have : j = 0 := by omega
        subst this
        rw [hY]; dsimp only
        rw [zuA_o (show (58 : Nat) ≠ 60 by decide), zuA_o (show (58 : Nat) ≠ 59 by decide), zuA_s, zset_ap, if_pos rfl]
      · have : j = 0 := by omega
        subst this
        rw [hY]; dsimp only
        rw [zuA_o (show (59 : Nat) ≠ 60 by decide), zuA_s, zset_ap, if_pos rfl, if_pos rfl]
      · rw [hY]; dsimp only
        rw [zuA_o (show (57 : Nat) ≠ 60 by decide), zuA_o (show (57 : Nat) ≠ 59 by decide), zuA_o (show (57 : Nat) ≠ 58 by decide), zuA_s, mbit_set, x57 s hs, Bool.false_or, decide_eq_true_eq]
        exact ⟨fun z => ⟨0, by omega, z.symm⟩, fun ⟨_, _, z⟩ => z.symm⟩
    exact zp_in.mpr (zp_mono (lp_finds51 hJ (FRp_55 y1 e55) hRJ) (fun v hv => zor2_r.mpr ⟨FRp_t y1 hv.1, hv.2⟩))
  · refine zp_pos (by omega) (zp_pos (by omega) (zp_lt.mpr (zp_some.mpr (zor2_l.mpr ⟨9417 - (i + 1), by omega, i + 1, rfl, by omega, ?_, FRp_t u1 ⟨fun _ _ => rfl, fun _ _ _ => rfl, fun r hr => zuA_R hr, fun o h1 _ _ _ => zuA_o h1⟩, fun j hj => ?_⟩))))
    · dsimp only
      rw [zadd_ok (by omega) (by omega)]
      rfl
    · dsimp only
      rw [zuA_s, zset_ap, Int.toNat_natCast]
      by_cases g : j = i
      · rw [if_pos g]
      · rw [if_neg g]; exact u2 j (by omega)
/-- the answer to the k-th question -/
def plA (slots : Int) (acts : Nat → Int) (k : Int) : Int := if k = -1 then slots else if k < 0 then -1 else if k < slots then acts k.toNat else -1
theorem lp_plan76 {g N : Nat} {st : Nat → PS} {par ach : Nat → Nat} {wd : Nat → List Nat} (h : RJ al S g N st par ach wd) (hg : g < N) (hN : N ≤ 90000) {x : Nat} (hx : x < (wd g).length) (hl : (wd g).length ≤ 90000) :
    zp (F_X12_plan_76 (x : Int) (g : Int) (((wd g).length - 1 : Nat) : Int) S) (fun v => v.2 = S ∧ ∃ y : Nat, (wd g)[x]? = some y ∧ v.1 = (y : Int)) := by
  obtain ⟨⟨b1, b2, b3, b4, b5, b6⟩, _, _, _, _, q1, q2, q3, q4, q5⟩ := h
  unfold F_X12_plan_76
  refine zp_w (fun dd (u : Int × Int) => ∃ i j : Nat, dd = j ∧ u = ((i : Int), (j : Int)) ∧ i < N ∧ x ≤ j ∧ (wd i).length = j + 1 ∧ j < 90000 ∧ ∀ q, q < (wd i).length → (wd i)[q]? = (wd g)[q]?) ?_ ((wd g).length - 1) _ ⟨g, (wd g).length - 1, rfl, rfl, hg, by omega, by omega, by omega, fun _ _ => rfl⟩
  rintro dd u ⟨i, j, rfl, rfl, hi, hxj, hlen, hj9, hpre⟩
  have hi0 : 0 < i := by
    rcases Nat.eq_zero_or_pos i with z | z
    · rw [z, b3] at hlen; simp at hlen
    · exact z
  obtain ⟨p1, p2, p3, p4⟩ := b4 i hi0 hi
  have hlp : (wd (par i)).length = dd := by rw [p4] at hlen; simpa using hlen
  dsimp only
  by_cases c : x < dd
  · refine zp_pos (by omega) (zp_pos (by omega) (zp_some.mpr (zor2_l.mpr ⟨dd - 1, by omega, par i, dd - 1, rfl, ?_, by omega, by omega, by omega, by omega, fun q hq => ?_⟩)))
    · rw [Int.toNat_natCast, q3 i hi, if_neg (by omega), zadd_ok (by omega) (by omega)]
      have : (dd : Int) + -1 = ((dd - 1 : Nat) : Int) := by omega
      rw [this]
    · rw [← hpre q (by omega), p4, List.getElem?_append_left hq]
  · have e : x = dd := by omega
    refine zp_neg (by omega) (zp_pos (by omega) (zp_some.mpr (zor2_r.mpr ⟨rfl, ach i, ?_, ?_⟩)))
    · rw [← hpre x (by omega), p4, e, ← hlp, List.getElem?_concat_length]
    · dsimp only
      rw [Int.toNat_natCast, q4 i hi0 hi]
theorem lp_plan12 (hJ : JobOK al) (e55 : S.2 1 55 = al) {slots : Int} {acts : Nat → Int} (hP : PlanIs al slots acts) :
    zp (F_X12_plan x1 S) (fun v => v.1 = plA slots acts x1 ∧ FRp (zup S.1 1 0 0, S.2) v.2) := by
  obtain ⟨h31, h25⟩ := JobOK_s hJ
  unfold F_X12_plan
  refine zp_lt.mpr (zp_bind.mpr (zp_mono (lp_finds (S := (zup S.1 1 0 0, S.2)) hJ e55) (fun v hv => ?_)))
  obtain ⟨f1, f2⟩ := hv
  rcases f2 with ⟨f2, f3⟩ | ⟨f2, g, N, st, par, ach, wd, f3, f4, f5, f6, f7⟩
  · refine zp_pos f2 (zp_some.mpr ⟨?_, f1⟩)
    rcases hP with ⟨p1, p2⟩ | ⟨w, p1, _⟩
    · unfold plA
      rw [p1]
      by_cases c1 : x1 = -1
      · rw [if_pos c1]
      · rw [if_neg c1]
        by_cases c2 : x1 < 0
        · rw [if_pos c2]
        · rw [if_neg c2, if_neg (by omega)]
    · exact absurd p1 (f3 w)
  · refine zp_neg (by rw [f2]; decide) ?_
    rcases hP with ⟨p1, p2⟩ | ⟨w, p1, p2, p3, p4⟩
    · exact absurd f6 (p2 _)
    have hw : wd g = w := wlt_ir (f7 w p1) (p2 _ f6)
    have hNb := RJ_b h31 h25 f3
    obtain ⟨⟨b1, b2, b3, b4, b5, b6⟩, _, _, _, _, q1, q2, q3, q4, q5⟩ := id f3
    unfold F_X12_plan_21
    rw [f5]
    refine zp_w (fun dd (u : Int × Int) => ∃ i n : Nat, dd = i ∧ u = ((n : Int), (i : Int)) ∧ i < N ∧ n + (wd i).length = (wd g).length ∧ n + i ≤ g) ?_ g _ ⟨g, 0, rfl, rfl, f4, by omega, by omega⟩
    rintro dd u ⟨i, n, rfl, rfl, hi, hlen, hni⟩
    dsimp only
    refine zp_pos (by omega) ?_
    by_cases c0 : dd = 0
    · subst c0
      have hl : n = w.length := by rw [b3] at hlen; rw [← hw]; simpa using hlen
      refine zp_pos (by rw [Int.toNat_natCast, q3 0 hi, if_pos rfl]) ?_
      by_cases c1 : x1 = -1
      · refine zp_pos c1 (zp_some.mpr (zor2_r.mpr ⟨?_, f1⟩))
        unfold plA
        rw [if_pos c1, p3, hl]
      · refine zp_neg c1 (zp_bind.mpr ?_)
        have fs : zsub (n : Int) 1 = (n : Int) - 1 := zsub_ok (by omega) (by omega)
        rw [fs, F12_within, zp_some]
        by_cases c2 : 0 ≤ x1 ∧ x1 ≤ (n : Int) - 1
        · rw [if_pos c2]
          refine zp_neg (by decide) (zp_in.mpr ?_)
          obtain ⟨x, rfl⟩ : ∃ x : Nat, x1 = (x : Int) := ⟨_, (Int.toNat_of_nonneg c2.1).symm⟩
          have hn1 : (n : Int) - 1 = (((wd g).length - 1 : Nat) : Int) := by rw [hw]; omega
          rw [hn1]
          refine zp_mono (lp_plan76 f3 f4 (by omega) (x := x) (by rw [hw]; omega) (by rw [hw]; omega)) (fun r hr => ?_)
          obtain ⟨r1, y, r2, r3⟩ := hr
          rw [hw] at r2
          obtain ⟨hxl, hy⟩ := List.getElem?_eq_some_iff.mp r2
          refine zor2_r.mpr ⟨?_, by rw [r1]; exact f1⟩
          unfold plA
          rw [if_neg c1, if_neg (by omega), p3, if_pos (by omega), Int.toNat_natCast, p4 x hxl, r3, hy]
        · rw [if_neg c2]
          refine zp_pos rfl (zp_some.mpr (zor2_r.mpr ⟨?_, f1⟩))
          unfold plA
          rw [if_neg c1, p3]
          by_cases c3 : x1 < 0
          · rw [if_pos c3]
          · rw [if_neg c3, if_neg (by omega)]
    · obtain ⟨p1', p2', p3', p4'⟩ := b4 dd (by omega) hi
      refine zp_neg (by rw [Int.toNat_natCast, q3 dd hi, if_neg c0]; omega) (zp_some.mpr (zor2_l.mpr ⟨par dd, p1', par dd, n + 1, rfl, ?_, by omega, ?_, by omega⟩))
      · rw [Int.toNat_natCast, q3 dd hi, if_neg c0, zadd_ok (by omega) (by omega)]
        rfl
      · rw [p4'] at hlen
        rw [List.length_append, List.length_singleton] at hlen
        omega
end PLR
