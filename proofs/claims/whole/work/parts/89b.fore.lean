section FORB
variable {n : Nat} {S : ZS} {W m : Nat} {wy ro sp wear beat cor : Nat → Int} {many : Nat} {its t h st x1 x2 x3 grow : Int} {q : Int × Int}
theorem fNw_b {roller grow : Int} (hg : 0 ≤ grow ∧ grow ≤ 100) (hw : ∀ r, r < 10 → 0 ≤ wear r ∧ wear r ≤ 1000) : ∀ k r, r < 10 → 0 ≤ fNw wear roller grow k r ∧ fNw wear roller grow k r ≤ 1000
  | 0, r, hr => hw r hr
  | k + 1, r, hr => by
    have ih := fNw_b (roller := roller) hg hw k r hr
    show 0 ≤ (if (r : Int) = roller then min 1000 (fNw wear roller grow k r + grow) else fNw wear roller grow k r) ∧ (if (r : Int) = roller then min 1000 (fNw wear roller grow k r + grow) else fNw wear roller grow k r) ≤ 1000
    split <;> omega
theorem DrOK_g {wear' : Nat → Int} (H : DrOK wy ro sp wear beat) (hw : ∀ r, r < 10 → 0 ≤ wear' r ∧ wear' r ≤ 1000) : DrOK wy ro sp wear' beat := by
  obtain ⟨H1, H2, H3⟩ := H
  exact ⟨H1, H2, fun r hr => ⟨(H3 r hr).1, (H3 r hr).2.1, hw r (by omega), (H3 r hr).2.2.2⟩⟩
/-- the first to fail -/
def fFo (wy ro sp wear beat cor : Nat → Int) (many : Nat) (its roller grow : Int) : Int :=
  if fnd (fun k => !alO wy ro sp (fNw wear roller grow (k + 1)) beat cor many its) 60 < 60 then (fnd (fun k => !alO wy ro sp (fNw wear roller grow (k + 1)) beat cor many its) 60 : Int) + 1 else -1
theorem fFo_at {roller : Int} {k : Nat} (hk : k < 60) (h : ∀ i, i < k → alO wy ro sp (fNw wear roller grow (i + 1)) beat cor many its = true) (hn : alO wy ro sp (fNw wear roller grow (k + 1)) beat cor many its = false) : fFo wy ro sp wear beat cor many its roller grow = (k : Int) + 1 := by
  have e : fnd (fun k => !alO wy ro sp (fNw wear roller grow (k + 1)) beat cor many its) 60 = k := fnd_eq hk (by rw [hn]; rfl) (fun i hi => by rw [h i hi]; rfl)
  unfold fFo
  rw [e, if_pos hk]
theorem fFo_no {roller : Int} (h : ∀ i, i < 60 → alO wy ro sp (fNw wear roller grow (i + 1)) beat cor many its = true) : fFo wy ro sp wear beat cor many its roller grow = -1 := by
  have e : fnd (fun k => !alO wy ro sp (fNw wear roller grow (k + 1)) beat cor many its) 60 = 60 := fnd_none (fun i hi => by rw [h i hi]; rfl)
  unfold fFo
  rw [e, if_neg (by decide)]
theorem lp_fo12 (H : DrOK wy ro sp wear beat) (hwr : ∀ r, r < 10 → 0 ≤ wear r ∧ wear r ≤ 1000) (C : CoOK cor many) (e4 : S.2 1 4 = wy) (e6 : S.2 1 6 = ro) (e7 : S.2 1 7 = sp) (K : ∀ r : Nat, (r : Int) < wy 6 → S.2 1 47 r = wear r ∧ S.2 1 48 r = beat r) (KC : ∀ c : Nat, c < many → S.2 1 49 c = cor c) (hm : S.1 1 51 = (many : Int))
    (b0 : 40 ≤ wy 0 ∧ wy 0 ≤ 300) (hi : 10 ≤ its ∧ its ≤ 70) (hro : 1 ≤ ro 0 ∧ ro 0 ≤ 300) {x : Nat} (hx : (x : Int) < wy 6) (hg : 0 ≤ grow ∧ grow ≤ 100) :
    zp (F_X12_foretold_129 (x : Int) grow its 1 S) (fun v => v.1 = fFo wy ro sp wear beat cor many its (x : Int) grow ∧ (∀ r, r ≠ 1 → v.2.1 r = S.1 r) ∧ (∀ k, k ≠ 52 → k ≠ 53 → v.2.1 1 k = S.1 1 k) ∧ (∀ r, r ≠ 1 → v.2.2 r = S.2 r) ∧ (∀ o, o ≠ 47 → v.2.2 1 o = S.2 1 o)) := by
  have hx10 : x < 10 := by have := H.1; omega
  unfold F_X12_foretold_129
  refine zp_w (fun d (s : Int × ZS) => ∃ k : Nat, d = 60 - k ∧ k ≤ 60 ∧ s.1 = (k : Int) + 1 ∧ (∀ i, i < k → alO wy ro sp (fNw wear (x : Int) grow (i + 1)) beat cor many its = true) ∧ (∀ r, r ≠ 1 → s.2.1 r = S.1 r) ∧ (∀ k, k ≠ 52 → k ≠ 53 → s.2.1 1 k = S.1 1 k) ∧ (∀ r, r ≠ 1 → s.2.2 r = S.2 r) ∧ (∀ o, o ≠ 47 → s.2.2 1 o = S.2 1 o) ∧
    ∀ r : Nat, (r : Int) < wy 6 → s.2.2 1 47 r = fNw wear (x : Int) grow k r) ?_ 60 _ ⟨0, rfl, by omega, rfl, fun i hi => absurd hi (by omega), fun _ _ => rfl, fun _ _ _ => rfl, fun _ _ => rfl, fun _ _ => rfl, fun r hr => (K r hr).1⟩
  rintro d ⟨y, I, A⟩ ⟨k, rfl, hk, rfl, hO, hI, hI1, hA, hA1, hN⟩
  dsimp only at hI hI1 hA hA1 hN ⊢
  by_cases c : k = 60
  · subst c
    exact zp_pos (by omega) (zp_some.mpr (zor2_r.mpr ⟨(fFo_no hO).symm, hI, hI1, hA, hA1⟩))
  · refine zp_neg (by omega) (zp_pos (by omega) ?_)
    rw [Int.toNat_natCast]
    have nb := fNw_b (roller := (x : Int)) hg hwr k x hx10
    have hNx := hN x hx
    have fz : zadd (A 1 47 x) grow = fNw wear (x : Int) grow k x + grow := by rw [hNx]; exact zadd_ok (by omega) (by omega)
    rw [fz]
    have H' : DrOK wy ro sp (fNw wear (x : Int) grow (k + 1)) beat := DrOK_g H (fNw_b hg hwr (k + 1))
    have nx : fNw wear (x : Int) grow (k + 1) x = min 1000 (fNw wear (x : Int) grow k x + grow) := if_pos rfl
    have go : ∀ w, w = min 1000 (fNw wear (x : Int) grow k x + grow) → ∀ P : Int × ZS → Prop, (∀ v : Int × ZS, v.1 = (if alO wy ro sp (fNw wear (x : Int) grow (k + 1)) beat cor many its = true then 1 else 0) → (∀ r, r ≠ 1 → v.2.1 r = S.1 r) → (∀ k, k ≠ 52 → k ≠ 53 → v.2.1 1 k = S.1 1 k) → (∀ r, r ≠ 1 → v.2.2 r = S.2 r) → (∀ o, o ≠ 47 → v.2.2 1 o = S.2 1 o) →
        (∀ r : Nat, (r : Int) < wy 6 → v.2.2 1 47 r = fNw wear (x : Int) grow (k + 1) r) → P v) → zp (F_X12_isOutAlone its 400 (I, zuA A 1 47 (zset (A 1 47) x w))) P := by
      intro w hw P hP
      have h47 : ∀ r : Nat, (r : Int) < wy 6 → zuA A 1 47 (zset (A 1 47) x w) 1 47 r = fNw wear (x : Int) grow (k + 1) r := by
        intro r hr
        rw [zuA_s, zset_ap]
        show _ = (if (r : Int) = (x : Int) then min 1000 (fNw wear (x : Int) grow k r + grow) else fNw wear (x : Int) grow k r)
        by_cases e : r = x
        · subst e
          rw [if_pos rfl, if_pos rfl, hw]
        · rw [if_neg e, if_neg (by omega), hN r hr]
      have h1o : ∀ o, o ≠ 47 → zuA A 1 47 (zset (A 1 47) x w) 1 o = S.2 1 o := fun o ho => by rw [zuA_o ho]; exact hA1 o ho
      refine zp_mono (lp_outA12 (S := (I, zuA A 1 47 (zset (A 1 47) x w))) (many := many) H' C ((h1o 4 (by decide)).trans e4) ((h1o 6 (by decide)).trans e6) ((h1o 7 (by decide)).trans e7) (fun r hr => ⟨h47 r hr, by dsimp only; rw [h1o 48 (by decide)]; exact (K r hr).2⟩) (fun c hc => by dsimp only; rw [h1o 49 (by decide)]; exact KC c hc) ((hI1 51 (by decide) (by decide)).trans hm) b0 hi hro) (fun v hv => ?_)
      obtain ⟨q1, q2, q3, q4⟩ := hv
      refine hP v q1 (fun r hr => (q3 r hr).trans (hI r hr)) (fun j h1 h2 => (q4 j h1 h2).trans (hI1 j h1 h2)) (fun r hr => ?_) (fun o ho => ?_) (fun r hr => ?_)
      · rw [q2]; dsimp only; rw [zuA_R hr]; exact hA r hr
      · rw [q2]; exact h1o o ho
      · rw [q2]; exact h47 r hr
    have fin : ∀ v : Int × ZS, v.1 = (if alO wy ro sp (fNw wear (x : Int) grow (k + 1)) beat cor many its = true then 1 else 0) → (∀ r, r ≠ 1 → v.2.1 r = S.1 r) → (∀ k, k ≠ 52 → k ≠ 53 → v.2.1 1 k = S.1 1 k) → (∀ r, r ≠ 1 → v.2.2 r = S.2 r) → (∀ o, o ≠ 47 → v.2.2 1 o = S.2 1 o) →
        (∀ r : Nat, (r : Int) < wy 6 → v.2.2 1 47 r = fNw wear (x : Int) grow (k + 1) r) → zp (if v.1 = 0 then some (.inr ((k : Int) + 1, v.2)) else some (.inl ((zadd ((k : Int) + 1) 1), v.2))) (zor2 (fun s : Int × ZS => ∃ m, m < 60 - k ∧ ∃ k : Nat, m = 60 - k ∧ k ≤ 60 ∧ s.1 = (k : Int) + 1 ∧ (∀ i, i < k → alO wy ro sp (fNw wear (x : Int) grow (i + 1)) beat cor many its = true) ∧ (∀ r, r ≠ 1 → s.2.1 r = S.1 r) ∧ (∀ k, k ≠ 52 → k ≠ 53 → s.2.1 1 k = S.1 1 k) ∧ (∀ r, r ≠ 1 → s.2.2 r = S.2 r) ∧ (∀ o, o ≠ 47 → s.2.2 1 o = S.2 1 o) ∧
    ∀ r : Nat, (r : Int) < wy 6 → s.2.2 1 47 r = fNw wear (x : Int) grow k r) (fun v : Int × ZS => v.1 = fFo wy ro sp wear beat cor many its (x : Int) grow ∧ (∀ r, r ≠ 1 → v.2.1 r = S.1 r) ∧ (∀ k, k ≠ 52 → k ≠ 53 → v.2.1 1 k = S.1 1 k) ∧ (∀ r, r ≠ 1 → v.2.2 r = S.2 r) ∧ (∀ o, o ≠ 47 → v.2.2 1 o = S.2 1 o))) := by
      intro v v1 v2 v3 v4 v5 v6
      by_cases e : alO wy ro sp (fNw wear (x : Int) grow (k + 1)) beat cor many its = true
      · rw [if_pos e] at v1
        refine zp_neg (by rw [v1]; decide) (zp_some.mpr (zor2_l.mpr ⟨60 - (k + 1), by omega, k + 1, rfl, by omega, ?_, fun i hi => ?_, v2, v3, v4, v5, v6⟩))
        · dsimp only
          rw [zadd_ok (by omega) (by omega)]
          omega
        · by_cases e2 : i = k
          · subst e2; exact e
          · exact hO i (by omega)
      · rw [if_neg e] at v1
        exact zp_pos v1 (zp_some.mpr (zor2_r.mpr ⟨(fFo_at (by omega) hO (by simpa using e)).symm, v2, v3, v4, v5⟩))
    by_cases g : 1000 < fNw wear (x : Int) grow k x + grow
    · exact zp_pos g (zp_lt.mpr (zp_bind.mpr (go 1000 (by omega) _ fin)))
    · exact zp_neg g (zp_lt.mpr (zp_bind.mpr (go (fNw wear (x : Int) grow k x + grow) (by omega) _ fin)))
/-- the reference's copies -/
theorem lp_fo48 (H : DrOK (S.2 1 4) (S.2 1 6) (S.2 1 7) (S.2 1 24) (S.2 1 25)) (hwr : ∀ r, r < 10 → 0 ≤ S.2 1 24 r ∧ S.2 1 24 r ≤ 1000) (C : CoOK (S.2 1 26) many) (hm : S.1 1 26 = (many : Int))
    (b0 : 40 ≤ S.2 1 4 0 ∧ S.2 1 4 0 ≤ 300) (hi : 10 ≤ its ∧ its ≤ 70) (hro : 1 ≤ S.2 1 6 0 ∧ S.2 1 6 0 ≤ 300) {x : Nat} (hx : (x : Int) < S.2 1 4 6) (hg : 0 ≤ grow ∧ grow ≤ 100) :
    zp (F_X12_foretold_48 (x : Int) grow its 0 S) (fun v => v.1 = fFo (S.2 1 4) (S.2 1 6) (S.2 1 7) (S.2 1 24) (S.2 1 25) (S.2 1 26) many its (x : Int) grow ∧ (∀ r, r ≠ 1 → v.2.1 r = S.1 r) ∧ (∀ k, k ≠ 51 → k ≠ 52 → k ≠ 53 → v.2.1 1 k = S.1 1 k) ∧ (∀ r, r ≠ 1 → v.2.2 r = S.2 r) ∧ (∀ o, o ≠ 47 → o ≠ 48 → o ≠ 49 → v.2.2 1 o = S.2 1 o)) := by
  unfold F_X12_foretold_48
  refine zp_w (fun d (s : Int × ZS) => ∃ i : Nat, d = 10 - i ∧ i ≤ 10 ∧ s.1 = (i : Int) ∧ s.2.1 = S.1 ∧ (∀ r, r ≠ 1 → s.2.2 r = S.2 r) ∧ (∀ o, o ≠ 47 → o ≠ 48 → s.2.2 1 o = S.2 1 o) ∧ ∀ r, r < i → s.2.2 1 47 r = S.2 1 24 r ∧ s.2.2 1 48 r = S.2 1 25 r) ?_ 10 _ ⟨0, rfl, by omega, rfl, rfl, fun _ _ => rfl, fun _ _ _ => rfl, fun r hr => absurd hr (by omega)⟩
  rintro d ⟨y, I, A⟩ ⟨i, rfl, hi10, rfl, rfl, hA, hA1, hN⟩
  dsimp only at hA hA1 hN ⊢
  by_cases c : i = 10
  · subst c
    refine zp_neg (by omega) (zp_in.mpr ?_)
    unfold F_X12_foretold_92
    refine zp_mono (P := fun v => v.1 = fFo (S.2 1 4) (S.2 1 6) (S.2 1 7) (S.2 1 24) (S.2 1 25) (S.2 1 26) many its (x : Int) grow ∧ (∀ r, r ≠ 1 → v.2.1 r = S.1 r) ∧ (∀ k, k ≠ 51 → k ≠ 52 → k ≠ 53 → v.2.1 1 k = S.1 1 k) ∧ (∀ r, r ≠ 1 → v.2.2 r = S.2 r) ∧ (∀ o, o ≠ 47 → o ≠ 48 → o ≠ 49 → v.2.2 1 o = S.2 1 o)) ?_ (fun v hv => zor2_r.mpr hv)
    refine zp_w (fun d (s : Int × ZS) => ∃ i : Nat, d = 3 - i ∧ i ≤ 3 ∧ s.1 = (i : Int) ∧ s.2.1 = S.1 ∧ (∀ r, r ≠ 1 → s.2.2 r = S.2 r) ∧ (∀ o, o ≠ 47 → o ≠ 48 → o ≠ 49 → s.2.2 1 o = S.2 1 o) ∧ (∀ r, r < 10 → s.2.2 1 47 r = S.2 1 24 r ∧ s.2.2 1 48 r = S.2 1 25 r) ∧ ∀ r, r < i → s.2.2 1 49 r = S.2 1 26 r) ?_ 3 _ ⟨0, rfl, by omega, rfl, rfl, hA, fun o h1 h2 _ => hA1 o h1 h2, hN, fun r hr => absurd hr (by omega)⟩
    rintro d ⟨y, I, B⟩ ⟨j, rfl, hj, rfl, rfl, hB, hB1, hM, hQ⟩
    dsimp only at hB hB1 hM hQ ⊢
    by_cases c : j = 3
    · subst c
      refine zp_neg (by omega) (zp_lt.mpr (zp_in.mpr ?_))
      refine zp_mono (lp_fo12 (S := (zup S.1 1 51 (S.1 1 26), B)) (wy := S.2 1 4) (ro := S.2 1 6) (sp := S.2 1 7) (wear := S.2 1 24) (beat := S.2 1 25) (cor := S.2 1 26) (many := many) H hwr C (hB1 4 (by decide) (by decide) (by decide)) (hB1 6 (by decide) (by decide) (by decide)) (hB1 7 (by decide) (by decide) (by decide)) (fun r hr => hM r (by have := H.1; omega)) (fun c hc => hQ c (by have := C.1; omega)) (by dsimp only; rw [zup_s]; exact hm) b0 hi hro hx hg) (fun v hv => ?_)
      obtain ⟨v1, v2, v3, v4, v5⟩ := hv
      refine zor2_r.mpr ⟨v1, fun r hr => ?_, fun k h1 h2 h3 => ?_, fun r hr => (v4 r hr).trans (hB r hr), fun o h1 h2 h3 => (v5 o h1).trans (hB1 o h1 h2 h3)⟩
      · rw [v2 r hr]; dsimp only; rw [zup_R hr]
      · rw [v3 k h2 h3]; dsimp only; rw [zup_k h1]
    · refine zp_pos (by omega) (zp_pos (by omega) (zp_lt.mpr (zp_some.mpr (zor2_l.mpr ⟨3 - (j + 1), by omega, j + 1, rfl, by omega, ?_, rfl, fun r hr => ?_, fun o h1 h2 h3 => ?_, fun r hr => ?_, fun r hr => ?_⟩))))
      · dsimp only
        rw [zadd_ok (by omega) (by omega)]
        rfl
      · dsimp only; rw [zuA_R hr]; exact hB r hr
      · dsimp only; rw [zuA_o h3]; exact hB1 o h1 h2 h3
      · dsimp only; rw [zuA_o (by decide), zuA_o (by decide)]; exact hM r hr
      · dsimp only
        rw [zuA_s, zset_ap, Int.toNat_natCast, hB1 26 (by decide) (by decide) (by decide)]
        by_cases e : r = j
        · rw [if_pos e, e]
        · rw [if_neg e]; exact hQ r (by omega)
  · refine zp_pos (by omega) (zp_pos (by omega) (zp_lt.mpr (zp_lt.mpr (zp_some.mpr (zor2_l.mpr ⟨10 - (i + 1), by omega, i + 1, rfl, by omega, ?_, rfl, fun r hr => ?_, fun o h1 h2 => ?_, fun r hr => ?_⟩)))))
    · dsimp only
      rw [zadd_ok (by omega) (by omega)]
      rfl
    · dsimp only; rw [zuA_R hr, zuA_R hr]; exact hA r hr
    · dsimp only; rw [zuA_o h2, zuA_o h1]; exact hA1 o h1 h2
    · dsimp only
      rw [zuA_o (show (47 : Nat) ≠ 48 by decide), zuA_s, zuA_s, zset_ap, zset_ap, Int.toNat_natCast, zuA_o (show (25 : Nat) ≠ 47 by decide), zuA_o (show (48 : Nat) ≠ 47 by decide), hA1 24 (by decide) (by decide), hA1 25 (by decide) (by decide)]
      by_cases e : r = i
      · rw [if_pos e, if_pos e, e]; exact ⟨rfl, rfl⟩
      · rw [if_neg e, if_neg e]; exact hN r (by omega)
/-- the class -/
theorem lp_fo11 (hW : W = 19 ∨ W = 20) (w0 : S.1 W 0 = wy 0) (w6 : S.1 W 6 = wy 1) (w7 : S.1 W 7 = wy 2) (w8 : S.1 W 8 = wy 3) (w9 : S.1 W 9 = wy 4) (b0 : 40 ≤ wy 0 ∧ wy 0 ≤ 300) (b1 : 0 ≤ wy 1 ∧ wy 1 ≤ 300)
    (H : DrOK wy ro sp wear beat) (hwr : ∀ r, r < 10 → 0 ≤ wear r ∧ wear r ≤ 1000) (k1 : S.1 W 1 = wy 6) (k2 : S.1 W 10 = wy 5) (K : ∀ r : Nat, (r : Int) < wy 6 → S.2 W 3 r = ro r ∧ S.2 W 4 r = sp r) (K4 : ∀ r : Nat, r < 10 → S.2 4 1 r = wear r ∧ S.2 4 2 r = beat r)
    (C : CoOK cor many) (k3 : S.1 4 3 = (many : Int)) (KC : ∀ c : Nat, c < many → S.2 4 3 c = cor c)
    (hi : 10 ≤ its ∧ its ≤ 70) (hro : 1 ≤ ro 0 ∧ ro 0 ≤ 300) {x : Nat} (hx : (x : Int) < wy 6) (hg : 0 ≤ grow ∧ grow ≤ 100) :
    zp (F_X0_firstToFail W 4 (x : Int) grow its S) (fun v => v.1 = fFo wy ro sp wear beat cor many its (x : Int) grow ∧ (∀ r, r ≠ 5 → r ≠ 8 → r ≠ 9 → v.2.1 r = S.1 r ∧ v.2.2 r = S.2 r)) := by
  have hx10 : x < 10 := by have := H.1; omega
  have hW5 : W ≠ 5 := by omega
  have hW8 : W ≠ 8 := by omega
  have hW9 : W ≠ 9 := by omega
  have eS : F_X1_becomeLike 5 4 S = some (zup S.1 5 3 (S.1 4 3), zuA (zuA (zuA S.2 5 1 (zcY 10 (S.2 4 1) (S.2 5 1))) 5 2 (zcY 10 (S.2 4 2) (S.2 5 2))) 5 3 (zcY 3 (S.2 4 3) (S.2 5 3))) := by
    unfold F_X1_becomeLike zlt
    dsimp only
    rw [if_pos (by decide)]
    simp only [zuA_R (show (4 : Nat) ≠ 5 by decide), zuA_o (show (2 : Nat) ≠ 1 by decide), zuA_o (show (3 : Nat) ≠ 1 by decide), zuA_o (show (3 : Nat) ≠ 2 by decide)]
  unfold F_X0_firstToFail F_X0_firstToFail_11
  rw [eS, Option.bind_some]
  refine zp_w (fun d (s : Int × ZS) => ∃ k : Nat, d = 60 - k ∧ k ≤ 60 ∧ s.1 = (k : Int) + 1 ∧ (∀ i, i < k → alO wy ro sp (fNw wear (x : Int) grow (i + 1)) beat cor many its = true) ∧ (∀ r, r ≠ 5 → r ≠ 8 → r ≠ 9 → s.2.1 r = S.1 r ∧ s.2.2 r = S.2 r) ∧
    (∀ r : Nat, r < 10 → s.2.2 5 1 r = fNw wear (x : Int) grow k r ∧ s.2.2 5 2 r = beat r) ∧ s.2.1 5 3 = (many : Int) ∧ (∀ c, c < many → s.2.2 5 3 c = cor c)) ?_ 60 _ ⟨0, rfl, by omega, rfl, fun i hi => absurd hi (by omega), fun r h5 h8 h9 => ?_, fun r hr => ?_, ?_, fun c hc => ?_⟩
  · rintro d ⟨y, I, A⟩ ⟨k, rfl, hk, rfl, hO, hF, hN, hm, hC⟩
    dsimp only at hF hN hm hC ⊢
    by_cases c : k = 60
    · subst c
      exact zp_pos (by omega) (zp_some.mpr (zor2_r.mpr ⟨(fFo_no hO).symm, hF⟩))
    · refine zp_neg (by omega) (zp_pos (by omega) (zp_lt.mpr ?_))
      rw [Int.toNat_natCast]
      have nb := fNw_b (roller := (x : Int)) hg hwr k x hx10
      have hNx := (hN x hx10).1
      have fz : zmin 1000 (zadd (A 5 1 x) grow) = min 1000 (fNw wear (x : Int) grow k x + grow) := by
        rw [hNx, zadd_ok (by omega) (by omega), zmin_d]
      rw [fz]
      have H' : DrOK wy ro sp (fNw wear (x : Int) grow (k + 1)) beat := DrOK_g H (fNw_b hg hwr (k + 1))
      have h51 : ∀ r : Nat, r < 10 → zuA A 5 1 (zset (A 5 1) x (min 1000 (fNw wear (x : Int) grow k x + grow))) 5 1 r = fNw wear (x : Int) grow (k + 1) r := by
        intro r hr
        rw [zuA_s, zset_ap]
        show _ = (if (r : Int) = (x : Int) then min 1000 (fNw wear (x : Int) grow k r + grow) else fNw wear (x : Int) grow k r)
        by_cases e : r = x
        · subst e
          rw [if_pos rfl, if_pos rfl]
        · rw [if_neg e, if_neg (by omega), (hN r hr).1]
      obtain ⟨X, hX⟩ : ∃ X : ZS, X = (I, zuA A 5 1 (zset (A 5 1) x (min 1000 (fNw wear (x : Int) grow k x + grow)))) := ⟨_, rfl⟩
      have xF : ∀ r, r ≠ 5 → r ≠ 8 → r ≠ 9 → X.1 r = S.1 r ∧ X.2 r = S.2 r := fun r h5 h8 h9 => by rw [hX]; exact ⟨(hF r h5 h8 h9).1, by dsimp only; rw [zuA_R h5]; exact (hF r h5 h8 h9).2⟩
      have x51 : ∀ r : Nat, r < 10 → X.2 5 1 r = fNw wear (x : Int) grow (k + 1) r ∧ X.2 5 2 r = beat r := fun r hr => by rw [hX]; exact ⟨h51 r hr, by dsimp only; rw [zuA_o (by decide)]; exact (hN r hr).2⟩
      have x53 : X.1 5 3 = (many : Int) := by rw [hX]; exact hm
      have xc : ∀ c, c < many → X.2 5 3 c = cor c := fun c hc => by rw [hX]; dsimp only; rw [zuA_o (by decide)]; exact hC c hc
      rw [← hX]
      refine zp_bind.mpr (zp_mono (zp_bind.mp (lp_lay8 (S := X) (W := W) (ro := ro) hW hi hro (by rw [(xF W hW5 hW8 hW9).2]; exact (K 0 (by omega)).1) rfl)) (fun Y hY => zp_bind.mpr (zp_mono hY (fun v hv => ?_))))
      obtain ⟨_, v2, v3⟩ := hv
      refine zp_mono (lp_71 (S := v.2) (W := W) (wy := wy) (ro := ro) (sp := sp) (wear := fNw wear (x : Int) grow (k + 1)) (beat := beat) (cor := cor) (many := many) (its := its) hW
        (by rw [(v2 W hW8 hW9).1, (xF W hW5 hW8 hW9).1]; exact w0) (by rw [(v2 W hW8 hW9).1, (xF W hW5 hW8 hW9).1]; exact w6) (by rw [(v2 W hW8 hW9).1, (xF W hW5 hW8 hW9).1]; exact w7) (by rw [(v2 W hW8 hW9).1, (xF W hW5 hW8 hW9).1]; exact w8) (by rw [(v2 W hW8 hW9).1, (xF W hW5 hW8 hW9).1]; exact w9) b0 b1 H'
        (by rw [(v2 W hW8 hW9).1, (xF W hW5 hW8 hW9).1]; exact k1) (by rw [(v2 W hW8 hW9).1, (xF W hW5 hW8 hW9).1]; exact k2)
        (fun r hr => by rw [(v2 W hW8 hW9).2, (xF W hW5 hW8 hW9).2, (v2 5 (by decide) (by decide)).2]; exact ⟨(K r hr).1, (K r hr).2, x51 r (by have := H.1; omega)⟩) C (by rw [(v2 5 (by decide) (by decide)).1]; exact x53) (fun c hc => by rw [(v2 5 (by decide) (by decide)).2]; exact xc c hc) hi hro v3) (fun u hu => ?_)
      obtain ⟨V, V1, V2, hu⟩ := hu
      have fV : ∀ r, r ≠ 5 → r ≠ 8 → r ≠ 9 → V.1 r = S.1 r ∧ V.2 r = S.2 r := fun r h5 h8 h9 => by rw [V1 r h8, V2 r h8, (v2 r h8 h9).1, (v2 r h8 h9).2]; exact xF r h5 h8 h9
      by_cases e : alO wy ro sp (fNw wear (x : Int) grow (k + 1)) beat cor many its = true
      · rw [if_pos e] at hu
        subst hu
        refine zor2_l.mpr ⟨60 - (k + 1), by omega, k + 1, rfl, by omega, ?_, fun i hi => ?_, fV, fun r hr => ?_, ?_, fun c hc => ?_⟩
        · dsimp only
          rw [zadd_ok (by omega) (by omega)]
          omega
        · by_cases e2 : i = k
          · subst e2; exact e
          · exact hO i (by omega)
        · dsimp only; rw [V2 5 (by decide), (v2 5 (by decide) (by decide)).2]; exact x51 r hr
        · dsimp only; rw [V1 5 (by decide), (v2 5 (by decide) (by decide)).1]; exact x53
        · dsimp only; rw [V2 5 (by decide), (v2 5 (by decide) (by decide)).2]; exact xc c hc
      · rw [if_neg e] at hu
        subst hu
        exact zor2_r.mpr ⟨(fFo_at (by omega) hO (by simpa using e)).symm, fV⟩
  · dsimp only
    rw [zup_R h5, zuA_R h5, zuA_R h5, zuA_R h5]
    exact ⟨rfl, rfl⟩
  · dsimp only
    rw [zuA_o (show (1 : Nat) ≠ 3 by decide), zuA_o (show (1 : Nat) ≠ 2 by decide), zuA_s, zuA_o (show (2 : Nat) ≠ 3 by decide), zuA_s]
    unfold zcY
    rw [if_pos hr, if_pos hr]
    exact K4 r hr
  · dsimp only
    rw [zup_s]
    exact k3
  · dsimp only
    rw [zuA_s]
    unfold zcY
    rw [if_pos (by have := C.1; omega)]
    exact KC c hc
/-- the pictures behind a call that changes none of them -/
theorem Inv_fr {S V : ZS} (h : Inv n S) (i1 : ∀ r, r ≠ 1 → r ≠ 5 → r ≠ 8 → r ≠ 9 → r ≠ 10 → V.1 r = S.1 r) (i2 : ∀ r, r ≠ 1 → r ≠ 5 → r ≠ 8 → r ≠ 9 → r ≠ 10 → V.2 r = S.2 r) (j1 : ∀ k, 1 ≤ k → k ≤ 29 → V.1 1 k = S.1 1 k) (j2 : ∀ o, o ≠ 47 → o ≠ 48 → o ≠ 49 → o ≠ 50 → o ≠ 51 → V.2 1 o = S.2 1 o)
    (hO : InvO (V.1 10) (V.2 10) (S.2 1 4 7) (S.2 1 38) (S.2 1 44) (S.2 1 45)) (hC : InvC (V.1 10) (S.2 1 4) (S.2 1 6) (S.2 1 7) (S.2 1 10) (S.2 1 38) (S.2 1 44) (S.2 1 45)) : Inv n V := by
  obtain ⟨hT, hW, hF, hX, _, _, hJ, hI, hP, hK, hR, hM⟩ := h
  unfold Inv

  rw [i1 2 (by decide) (by decide) (by decide) (by decide) (by decide), i1 3 (by decide) (by decide) (by decide) (by decide) (by decide), i1 4 (by decide) (by decide) (by decide) (by decide) (by decide), i1 6 (by decide) (by decide) (by decide) (by decide) (by decide), i1 11 (by decide) (by decide) (by decide) (by decide) (by decide), i1 12 (by decide) (by decide) (by decide) (by decide) (by decide), i1 13 (by decide) (by decide) (by decide) (by decide) (by decide), i1 14 (by decide) (by decide) (by decide) (by decide) (by decide), i1 16 (by decide) (by decide) (by decide) (by decide) (by decide), i1 17 (by decide) (by decide) (by decide) (by decide) (by decide), i1 19 (by decide) (by decide) (by decide) (by decide) (by decide), i1 20 (by decide) (by decide) (by decide) (by decide) (by decide)]
  rw [i2 2 (by decide) (by decide) (by decide) (by decide) (by decide), i2 3 (by decide) (by decide) (by decide) (by decide) (by decide), i2 4 (by decide) (by decide) (by decide) (by decide) (by decide), i2 6 (by decide) (by decide) (by decide) (by decide) (by decide), i2 7 (by decide) (by decide) (by decide) (by decide) (by decide), i2 11 (by decide) (by decide) (by decide) (by decide) (by decide), i2 12 (by decide) (by decide) (by decide) (by decide) (by decide), i2 13 (by decide) (by decide) (by decide) (by decide) (by decide), i2 14 (by decide) (by decide) (by decide) (by decide) (by decide), i2 16 (by decide) (by decide) (by decide) (by decide) (by decide), i2 18 (by decide) (by decide) (by decide) (by decide) (by decide), i2 19 (by decide) (by decide) (by decide) (by decide) (by decide), i2 20 (by decide) (by decide) (by decide) (by decide) (by decide)]
  rw [j1 2 (by decide) (by decide), j1 21 (by decide) (by decide), j1 22 (by decide) (by decide), j1 26 (by decide) (by decide), j1 27 (by decide) (by decide), j1 28 (by decide) (by decide), j1 29 (by decide) (by decide)]
  rw [j2 2 (by decide) (by decide) (by decide) (by decide) (by decide), j2 4 (by decide) (by decide) (by decide) (by decide) (by decide), j2 6 (by decide) (by decide) (by decide) (by decide) (by decide), j2 7 (by decide) (by decide) (by decide) (by decide) (by decide), j2 10 (by decide) (by decide) (by decide) (by decide) (by decide), j2 24 (by decide) (by decide) (by decide) (by decide) (by decide), j2 25 (by decide) (by decide) (by decide) (by decide) (by decide), j2 26 (by decide) (by decide) (by decide) (by decide) (by decide), j2 31 (by decide) (by decide) (by decide) (by decide) (by decide), j2 32 (by decide) (by decide) (by decide) (by decide) (by decide), j2 33 (by decide) (by decide) (by decide) (by decide) (by decide), j2 34 (by decide) (by decide) (by decide) (by decide) (by decide), j2 35 (by decide) (by decide) (by decide) (by decide) (by decide), j2 36 (by decide) (by decide) (by decide) (by decide) (by decide), j2 37 (by decide) (by decide) (by decide) (by decide) (by decide), j2 38 (by decide) (by decide) (by decide) (by decide) (by decide), j2 39 (by decide) (by decide) (by decide) (by decide) (by decide), j2 40 (by decide) (by decide) (by decide) (by decide) (by decide), j2 41 (by decide) (by decide) (by decide) (by decide) (by decide), j2 42 (by decide) (by decide) (by decide) (by decide) (by decide), j2 43 (by decide) (by decide) (by decide) (by decide) (by decide), j2 44 (by decide) (by decide) (by decide) (by decide) (by decide), j2 45 (by decide) (by decide) (by decide) (by decide) (by decide), j2 55 (by decide) (by decide) (by decide) (by decide) (by decide), j2 56 (by decide) (by decide) (by decide) (by decide) (by decide), j2 67 (by decide) (by decide) (by decide) (by decide) (by decide), j2 68 (by decide) (by decide) (by decide) (by decide) (by decide), j2 69 (by decide) (by decide) (by decide) (by decide) (by decide)]
  exact ⟨hT, hW, hF, hX, hO, hC, hJ, hI, hP, hK, hR, hM⟩
theorem pair_foretold (h : Inv n S) : Pair n S (F_X11_foretold x1 x2 x3) (F_X12_foretold x1 x2 x3) := by
  have hInv := h
  obtain ⟨hT, hW, hF, hX, hO, hC, hJ, hI, hP, hK, hR, hM⟩ := h
  have hX := InvX_up hX
  obtain ⟨hWo, hWd⟩ := id hW
  obtain ⟨⟨g1, g2⟩, ⟨g3, g4⟩, ⟨g5, g6⟩, g7, g8, g9, g10, g11, g12⟩ := id hWo
  obtain ⟨W, hw1, hw2, hWR⟩ : ∃ W : Nat, (W = 19 ∨ W = 20) ∧ (S.1 2 11).toNat = W ∧ WayR (S.1 W) (S.2 W) (S.2 1 4) (S.2 1 6) (S.2 1 7) (S.2 1 10) := by
    rcases hWd with ⟨q1, q2, q3⟩ | ⟨q1, q2, q3⟩
    · exact ⟨19, Or.inl rfl, by rw [q1]; rfl, q3⟩
    · exact ⟨20, Or.inr rfl, by rw [q1]; rfl, q3⟩
  obtain ⟨w0, w1, w2, w3, w4, w5, w6, w7, w8, w9⟩ := id hWR
  obtain ⟨hf1, hf2, ⟨hf3, hf4⟩, hf5⟩ := id hF
  obtain ⟨m, hm⟩ : ∃ m : Nat, S.1 1 26 = (m : Int) := ⟨_, (Int.toNat_of_nonneg hf3).symm⟩
  have hn1 : Inv (n + 1) S := ⟨hT, hW, hF, hX, hO, hC, hJ, hI, hP, hK, hR, hM⟩
  have ref : ∀ T : ZS, T.1 1 = S.1 1 → T.2 1 = S.2 1 → ∀ v : Int, (¬ (0 ≤ x1 ∧ x1 < S.2 1 4 6) ∧ v = -2 ∨ (0 ≤ x1 ∧ x1 < S.2 1 4 6) ∧ ¬ ((0 ≤ x2 ∧ x2 ≤ 100) ∧ (10 ≤ x3 ∧ x3 ≤ 60)) ∧ v = -3) → F_X12_foretold x1 x2 x3 T = some (v, (zup T.1 1 0 0, T.2)) := by
    intro T t1 t2 v hv
    unfold F_X12_foretold zlt F_X12_isRoller
    dsimp only
    rw [t2, F12_within, F12_within]
    rcases hv with ⟨c, rfl⟩ | ⟨c, d, rfl⟩
    · by_cases c1 : x1 < 0
      · rw [if_pos c1, Option.bind_some, if_pos rfl]
      · rw [if_neg c1, if_neg (by omega), Option.bind_some, if_pos rfl]
    · rw [if_neg (by omega), if_pos c.2, Option.bind_some, if_neg (by decide)]
      by_cases d1 : 0 ≤ x2 ∧ x2 ≤ 100
      · rw [if_pos d1, Option.bind_some, if_neg (by decide), if_neg (fun z => d ⟨d1, z⟩), Option.bind_some, if_pos rfl]
      · rw [if_neg d1, Option.bind_some, if_pos rfl]
  have bad : ∀ v : Int, (¬ (0 ≤ x1 ∧ x1 < S.2 1 4 6) ∧ v = -2 ∨ (0 ≤ x1 ∧ x1 < S.2 1 4 6) ∧ ¬ ((0 ≤ x2 ∧ x2 ≤ 100) ∧ (10 ≤ x3 ∧ x3 ≤ 60)) ∧ v = -3) → ((v, S) : Int × ZS).2.2 0 = S.2 0 ∧ zp (F_X12_foretold x1 x2 x3 ((v, S) : Int × ZS).2) fun u => u.1 = ((v, S) : Int × ZS).1 ∧ u.2.2 0 = S.2 0 ∧ Inv (n + 1) u.2 := by
    intro v hv
    refine ⟨rfl, ?_⟩
    rw [zp_eq (ref S rfl rfl v hv)]
    exact ⟨rfl, rfl, hn1⟩
  unfold Pair F_X11_foretold F_X10_hasRoller F_X11_isSheetLength
  rw [hw2]
  refine zp_pos hw1 (zp_bind.mpr ?_)
  rw [w1]
  by_cases c0 : 0 ≤ x1 ∧ x1 < S.2 1 4 6
  rotate_left 1
  · by_cases c1 : x1 < 0
    · exact zp_pos c1 (zp_some.mpr (zp_pos rfl (zp_some.mpr (bad _ (Or.inl ⟨c0, rfl⟩)))))
    · exact zp_neg c1 (zp_neg (by omega) (zp_some.mpr (zp_pos rfl (zp_some.mpr (bad _ (Or.inl ⟨c0, rfl⟩))))))
  refine zp_neg (by omega) (zp_pos c0.2 (zp_some.mpr (zp_neg (by decide) ?_)))
  by_cases c2 : x2 < 0
  · exact zp_pos c2 (zp_some.mpr (bad _ (Or.inr ⟨c0, by omega, rfl⟩)))
  refine zp_neg c2 ?_
  by_cases c3 : 100 < x2
  · exact zp_pos c3 (zp_some.mpr (bad _ (Or.inr ⟨c0, by omega, rfl⟩)))
  refine zp_neg c3 (zp_bind.mpr ?_)
  by_cases c4 : x3 < 10
  · exact zp_pos c4 (zp_some.mpr (zp_pos rfl (zp_some.mpr (bad _ (Or.inr ⟨c0, by omega, rfl⟩)))))
  refine zp_neg c4 ?_
  by_cases c5 : 60 < x3
  · exact zp_pos c5 (zp_some.mpr (zp_pos rfl (zp_some.mpr (bad _ (Or.inr ⟨c0, by omega, rfl⟩)))))
  refine zp_neg c5 (zp_some.mpr (zp_neg (by decide) (zp_bind.mpr ?_)))
  obtain ⟨x, rfl⟩ : ∃ x : Nat, x1 = (x : Int) := ⟨_, (Int.toNat_of_nonneg c0.1).symm⟩
  obtain ⟨H, C⟩ := DrOK_of (many := m) hWo (by rw [← hm]; exact hF)
  have hwr : ∀ r, r < 10 → 0 ≤ S.2 1 24 r ∧ S.2 1 24 r ≤ 1000 := fun r hr => (hf1 r hr).2.1
  have hro : 1 ≤ S.2 1 6 0 ∧ S.2 1 6 0 ≤ 300 := by have := g9 0 (by omega); omega
  have b1 : 0 ≤ S.2 1 4 1 ∧ S.2 1 4 1 ≤ 300 := by rcases g7 with z | z <;> omega
  refine zp_mono (lp_fo11 (S := S) (W := W) (its := x3) (grow := x2) (x := x) hw1 w0 w3 w4 w5 w6 ⟨g1, g2⟩ b1 H hwr w1 w7 (fun r hr => w8 r hr) (fun r hr => ⟨(hf1 r hr).1, (hf1 r hr).2.2.1⟩) C (hf2.trans hm) (fun c hc => (hf5 c (by omega)).1) (by omega) hro c0.2 (by omega)) (fun v hv => ?_)
  obtain ⟨v1, v2⟩ := hv
  refine zp_some.mpr ⟨(v2 0 (by decide) (by decide) (by decide)).2, ?_⟩
  dsimp only
  have t1 : v.2.1 1 = S.1 1 := (v2 1 (by decide) (by decide) (by decide)).1
  have t2 : v.2.2 1 = S.2 1 := (v2 1 (by decide) (by decide) (by decide)).2
  unfold F_X12_foretold F_X12_isRoller
  refine zp_lt.mpr ?_
  dsimp only
  rw [t2, F12_within, F12_within, if_neg (show ¬ (x : Int) < 0 by omega), if_pos c0.2, Option.bind_some, if_neg (by decide), if_pos (show 0 ≤ x2 ∧ x2 ≤ 100 by omega), Option.bind_some, if_neg (by decide), if_pos (show 10 ≤ x3 ∧ x3 ≤ 60 by omega), Option.bind_some, if_neg (by decide)]
  have key : zp (F_X12_foretold_48 (x : Int) x2 x3 0 (zup v.2.1 1 0 0, v.2.2)) _ := lp_fo48 (S := (zup v.2.1 1 0 0, v.2.2)) (many := m) (its := x3) (grow := x2) (x := x) (by rw [t2]; exact H) (by rw [t2]; exact hwr) (by rw [t2]; exact C) (by dsimp only; rw [zup_k (by decide), t1]; exact hm) (by rw [t2]; exact ⟨g1, g2⟩) (by omega) (by rw [t2]; exact hro) (by rw [t2]; exact c0.2) (by omega)
  refine zp_mono key (fun u hu => ?_)
  obtain ⟨u1, u2, u3, u4, u5⟩ := hu
  dsimp only at u1 u2 u3 u4 u5
  rw [t2] at u1
  refine ⟨by rw [u1, v1], ?_, Inv_fr hn1 (fun r h1 h5 h8 h9 _ => ?_) (fun r h1 h5 h8 h9 _ => ?_) (fun k hk1 hk2 => ?_) (fun o h1 h2 h3 _ _ => ?_) ?_ ?_⟩
  · rw [u4 0 (by decide)]; exact (v2 0 (by decide) (by decide) (by decide)).2
  · rw [u2 r h1, zup_R h1]; exact (v2 r h5 h8 h9).1
  · rw [u4 r h1]; exact (v2 r h5 h8 h9).2
  · rw [u3 k (by omega) (by omega) (by omega), zup_k (by omega), t1]
  · rw [u5 o h1 h2 h3, t2]
  · rw [u2 10 (by decide), zup_R (by decide), u4 10 (by decide), (v2 10 (by decide) (by decide) (by decide)).1, (v2 10 (by decide) (by decide) (by decide)).2]; exact hO
  · rw [u2 10 (by decide), zup_R (by decide), (v2 10 (by decide) (by decide) (by decide)).1]; exact hC
end FORB
