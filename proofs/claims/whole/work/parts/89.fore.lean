/-! foretold -/
theorem sgB_cong {cor' cor : Nat → Int} {top to : Int} : ∀ n : Nat, (∀ c, c < n → cor' c = cor c) → sgB cor' top to n = sgB cor top to n
  | 0, _ => rfl
  | c + 1, h => by rw [sgB_s, sgB_s, sgB_cong c (fun i hi => h i (by omega)), h c (by omega)]
def alE (wy ro sp wear beat cor : Nat → Int) (many : Nat) (its : Int) (t : Nat) : Bool := decide (10 * wy 0 ≤ (sgS wy ro sp wear beat cor many its t).1 - 10 * its ∨ 5 ≤ (sgS wy ro sp wear beat cor many its t).2)
def alN (wy ro sp wear beat cor : Nat → Int) (many : Nat) (its : Int) : Nat := fnd (fun i => alE wy ro sp wear beat cor many its (i + 1)) 400
def alO (wy ro sp wear beat cor : Nat → Int) (many : Nat) (its : Int) : Bool := decide (alN wy ro sp wear beat cor many its < 400 ∧ 10 * wy 0 ≤ (sgS wy ro sp wear beat cor many its (alN wy ro sp wear beat cor many its + 1)).1 - 10 * its)
/-- wear grown n times -/
def fNw (wear : Nat → Int) (roller grow : Int) : Nat → Nat → Int
  | 0 => wear
  | n + 1 => fun r => if (r : Int) = roller then min 1000 (fNw wear roller grow n r + grow) else fNw wear roller grow n r
section FORE
variable {n : Nat} {S : ZS} {W m : Nat} {wy ro sp wear beat cor : Nat → Int} {many : Nat} {its t h st x1 x2 x3 grow : Int} {q : Int × Int}
theorem sgT_cong {wear' beat' cor' : Nat → Int} (h6 : 0 ≤ wy 6) (K : ∀ r : Nat, (r : Int) < wy 6 → wear' r = wear r ∧ beat' r = beat r) (KC : ∀ c : Nat, c < many → cor' c = cor c) : sgT wy ro sp wear' beat' cor' many its t q = sgT wy ro sp wear beat cor many its t q := by
  unfold sgT
  rw [sgD_cong (wy' := wy) (ro' := ro) (sp' := sp) (wear' := wear') (beat' := beat') (wy := wy) (ro := ro) (sp := sp) (wear := wear) (beat := beat) (wy 6).toNat rfl (fun i hi => ⟨rfl, rfl, K i (by omega)⟩)]
  dsimp only
  rw [sgB_cong many KC]
theorem DrOK_w {wear' beat' : Nat → Int} (H : DrOK wy ro sp wear beat) (K : ∀ r : Nat, (r : Int) < wy 6 → wear' r = wear r ∧ beat' r = beat r) : DrOK wy ro sp wear' beat' := by
  obtain ⟨H1, H2, H3⟩ := H
  refine ⟨H1, H2, fun r hr => ?_⟩
  rw [(K r hr).1, (K r hr).2]
  exact H3 r hr
theorem lp_goes2 (H : DrOK wy ro sp wear beat) (C : CoOK cor many) (e4 : S.2 1 4 = wy) (e6 : S.2 1 6 = ro) (e7 : S.2 1 7 = sp) (K : ∀ r : Nat, (r : Int) < wy 6 → S.2 1 47 r = wear r ∧ S.2 1 48 r = beat r) (KC : ∀ c : Nat, c < many → S.2 1 49 c = cor c) (hm : S.1 1 51 = (many : Int))
    (ht : 0 ≤ t ∧ t < 2147483648) (hi : 0 ≤ its ∧ its ≤ 100) (h52 : S.1 1 52 = h) (h53 : S.1 1 53 = st) (bh : 0 ≤ h ∧ h ≤ 9000) (bs : 0 ≤ st ∧ st ≤ 1000) (hq : q = sgT wy ro sp wear beat cor many its t (h, st)) :
    F_X12_goesAlone its t S = some (zup (zup S.1 1 53 q.2) 1 52 q.1, S.2) := by
  subst e4 e6 e7 h52 h53
  refine lp_goes1 (many := many) (DrOK_w H K) ⟨C.1, fun c hc => by rw [KC c hc]; exact C.2 c hc⟩ hm ht hi bh bs ?_
  rw [hq]
  exact (sgT_cong H.1.1 K KC).symm
theorem sgS_s (k : Nat) : sgS wy ro sp wear beat cor many its (k + 1) = sgT wy ro sp wear beat cor many its ((k : Int) + 1) (sgS wy ro sp wear beat cor many its k) := rfl
theorem sgS_b (H : DrOK wy ro sp wear beat) (b0 : wy 0 ≤ 300) (hi : its ≤ 70) (hro : ro 0 ≤ 300) : ∀ k : Nat, (∀ i, i < k → alE wy ro sp wear beat cor many its (i + 1) = false) →
    10 * ro 0 ≤ (sgS wy ro sp wear beat cor many its k).1 ∧ (sgS wy ro sp wear beat cor many its k).1 ≤ 3700 ∧ 0 ≤ (sgS wy ro sp wear beat cor many its k).2 ∧ (sgS wy ro sp wear beat cor many its k).2 ≤ 4
  | 0, _ => by
    show 10 * ro 0 ≤ 10 * ro 0 ∧ 10 * ro 0 ≤ 3700 ∧ (0 : Int) ≤ 0 ∧ (0 : Int) ≤ 4
    omega
  | k + 1, hk => by
    have ih := sgS_b H b0 hi hro k (fun i hi => hk i (by omega))
    have h1 := of_decide_eq_false (hk k (by omega))
    rw [sgS_s] at h1 ⊢
    have h2 := sgT_b (cor := cor) (many := many) (its := its) (t := (k : Int) + 1) H (sgS wy ro sp wear beat cor many its k)
    have h3 := h2.2.2 ih.2.2.1
    omega
theorem lp_outA12 (H : DrOK wy ro sp wear beat) (C : CoOK cor many) (e4 : S.2 1 4 = wy) (e6 : S.2 1 6 = ro) (e7 : S.2 1 7 = sp) (K : ∀ r : Nat, (r : Int) < wy 6 → S.2 1 47 r = wear r ∧ S.2 1 48 r = beat r) (KC : ∀ c : Nat, c < many → S.2 1 49 c = cor c) (hm : S.1 1 51 = (many : Int))
    (b0 : 40 ≤ wy 0 ∧ wy 0 ≤ 300) (hi : 10 ≤ its ∧ its ≤ 70) (hro : 1 ≤ ro 0 ∧ ro 0 ≤ 300) :
    zp (F_X12_isOutAlone its 400 S) (fun v => v.1 = (if alO wy ro sp wear beat cor many its = true then 1 else 0) ∧ v.2.2 = S.2 ∧ (∀ r, r ≠ 1 → v.2.1 r = S.1 r) ∧ (∀ k, k ≠ 52 → k ≠ 53 → v.2.1 1 k = S.1 1 k)) := by
  have f0 : zmul 10 (S.2 1 6 0) = 10 * ro 0 := by rw [e6, zmul_ok (by omega) (by omega)]
  have f1 : zmul 10 its = 10 * its := zmul_ok (by omega) (by omega)
  have f2 : zmul 10 (wy 0) = 10 * wy 0 := zmul_ok (by omega) (by omega)
  have hl := fnd_le (fun i => alE wy ro sp wear beat cor many its (i + 1)) 400
  unfold F_X12_isOutAlone F_X12_isOutAlone_20
  refine zp_lt.mpr (zp_lt.mpr ?_)
  dsimp only
  rw [f0]
  refine zp_w (fun k (s : Int × ZS) => ∃ t : Nat, k = 400 - t ∧ t ≤ 400 ∧ s.1 = (t : Int) + 1 ∧ (∀ i, i < t → alE wy ro sp wear beat cor many its (i + 1) = false) ∧ s.2.2 = S.2 ∧ (∀ r, r ≠ 1 → s.2.1 r = S.1 r) ∧ (∀ k, k ≠ 52 → k ≠ 53 → s.2.1 1 k = S.1 1 k) ∧
    s.2.1 1 52 = (sgS wy ro sp wear beat cor many its t).1 ∧ s.2.1 1 53 = (sgS wy ro sp wear beat cor many its t).2) ?_ 400 _ ⟨0, rfl, by omega, rfl, fun i hi => absurd hi (by omega), rfl, fun r hr => ?_, fun k h1 h2 => ?_, ?_, ?_⟩
  · rintro k ⟨x, I, A⟩ ⟨t, rfl, ht, rfl, hE, rfl, hI, hI1, h52, h53⟩
    dsimp only at hI hI1 h52 h53 ⊢
    by_cases c : t = 400
    · subst c
      refine zp_pos (by omega) (zp_some.mpr (zor2_r.mpr ⟨?_, rfl, hI, hI1⟩))
      have e : alN wy ro sp wear beat cor many its = 400 := fnd_none (fun i hi => hE i hi)
      rw [if_neg]
      unfold alO
      rw [e]
      simp
    · refine zp_neg (by omega) ?_
      obtain ⟨b1, b2, b3, b4⟩ := sgS_b H b0.2 hi.2 hro.2 t hE
      rw [lp_goes2 (S := (I, S.2)) (h := (sgS wy ro sp wear beat cor many its t).1) (st := (sgS wy ro sp wear beat cor many its t).2) (t := (t : Int) + 1) H C e4 e6 e7 K KC (by show I 1 51 = _; rw [hI1 51 (by decide) (by decide)]; exact hm) (by omega) (by omega) h52 h53 (by omega) (by omega) rfl, Option.bind_some]
      have eq : sgT wy ro sp wear beat cor many its ((t : Int) + 1) ((sgS wy ro sp wear beat cor many its t).1, (sgS wy ro sp wear beat cor many its t).2) = sgS wy ro sp wear beat cor many its (t + 1) := rfl
      rw [eq]
      dsimp only
      have g1 : zup (zup I 1 53 (sgS wy ro sp wear beat cor many its (t + 1)).2) 1 52 (sgS wy ro sp wear beat cor many its (t + 1)).1 1 52 = (sgS wy ro sp wear beat cor many its (t + 1)).1 := zup_s
      have g2 : zup (zup I 1 53 (sgS wy ro sp wear beat cor many its (t + 1)).2) 1 52 (sgS wy ro sp wear beat cor many its (t + 1)).1 1 53 = (sgS wy ro sp wear beat cor many its (t + 1)).2 := (zup_k (by decide)).trans zup_s
      have g3 : ∀ r, r ≠ 1 → zup (zup I 1 53 (sgS wy ro sp wear beat cor many its (t + 1)).2) 1 52 (sgS wy ro sp wear beat cor many its (t + 1)).1 r = S.1 r := fun r hr => by rw [zup_R hr, zup_R hr, hI r hr]
      have g4 : ∀ k, k ≠ 52 → k ≠ 53 → zup (zup I 1 53 (sgS wy ro sp wear beat cor many its (t + 1)).2) 1 52 (sgS wy ro sp wear beat cor many its (t + 1)).1 1 k = S.1 1 k := fun k h1 h2 => by rw [zup_k h1, zup_k h2, hI1 k h1 h2]
      have hT := sgT_b (cor := cor) (many := many) (its := its) (t := (t : Int) + 1) H (sgS wy ro sp wear beat cor many its t)
      rw [← sgS_s t] at hT
      have hT3 := hT.2.2 b3
      have f3 : zsub (sgS wy ro sp wear beat cor many its (t + 1)).1 (10 * its) = (sgS wy ro sp wear beat cor many its (t + 1)).1 - 10 * its := zsub_ok (by omega) (by omega)
      simp only [g1, g2, f1, f3, e4, f2]
      by_cases d : 10 * wy 0 ≤ (sgS wy ro sp wear beat cor many its (t + 1)).1 - 10 * its
      · refine zp_neg (by omega) (zp_some.mpr (zor2_r.mpr ⟨?_, rfl, g3, g4⟩))
        have e : alN wy ro sp wear beat cor many its = t := fnd_eq (by omega) (decide_eq_true (Or.inl d)) (fun i hi => hE i hi)
        rw [if_pos]
        unfold alO
        rw [e]
        exact decide_eq_true ⟨by omega, d⟩
      · refine zp_pos (by omega) ?_
        by_cases d2 : 5 ≤ (sgS wy ro sp wear beat cor many its (t + 1)).2
        · refine zp_neg (by omega) (zp_some.mpr (zor2_r.mpr ⟨?_, rfl, g3, g4⟩))
          have e : alN wy ro sp wear beat cor many its = t := fnd_eq (by omega) (decide_eq_true (Or.inr d2)) (fun i hi => hE i hi)
          rw [if_neg]
          unfold alO
          rw [e]
          exact fun z => d (of_decide_eq_true z).2
        · refine zp_pos (by omega) (zp_some.mpr (zor2_l.mpr ⟨400 - (t + 1), by omega, t + 1, rfl, by omega, ?_, fun i hi => ?_, rfl, g3, g4, g1, g2⟩))
          · dsimp only
            rw [zadd_ok (by omega) (by omega)]
            omega
          · by_cases e : i = t
            · subst e
              exact decide_eq_false (by omega)
            · exact hE i (by omega)
  · dsimp only
    rw [zup_R hr, zup_R hr]
  · dsimp only
    rw [zup_k h2, zup_k h1]
  · dsimp only
    rw [zup_k (by decide), zup_s]
    rfl
  · dsimp only
    rw [zup_s]
    rfl
/-- the class's trial to its end -/
theorem lp_71 (hW : W = 19 ∨ W = 20) (w0 : S.1 W 0 = wy 0) (w6 : S.1 W 6 = wy 1) (w7 : S.1 W 7 = wy 2) (w8 : S.1 W 8 = wy 3) (w9 : S.1 W 9 = wy 4) (b0 : 40 ≤ wy 0 ∧ wy 0 ≤ 300) (b1 : 0 ≤ wy 1 ∧ wy 1 ≤ 300)
    (H : DrOK wy ro sp wear beat) (k1 : S.1 W 1 = wy 6) (k2 : S.1 W 10 = wy 5) (K : ∀ r : Nat, (r : Int) < wy 6 → S.2 W 3 r = ro r ∧ S.2 W 4 r = sp r ∧ S.2 5 1 r = wear r ∧ S.2 5 2 r = beat r)
    (C : CoOK cor many) (k3 : S.1 5 3 = (many : Int)) (KC : ∀ c : Nat, c < many → S.2 5 3 c = cor c)
    (hi : 10 ≤ its ∧ its ≤ 70) (hro : 1 ≤ ro 0 ∧ ro 0 ≤ 300) (hR : CRt 8 W 5 1 S 0 (-1) (alP its (10 * ro 0) 0 0) [0] []) {q1 : Nat} {y3 y4 y5 : Int} :
    zp (F_X0_firstToFail_71 q1 y3 y4 y5 t 0 S) (fun v => ∃ V : ZS, (∀ r, r ≠ 8 → V.1 r = S.1 r) ∧ (∀ r, r ≠ 8 → V.2 r = S.2 r) ∧ v = if alO wy ro sp wear beat cor many its = true then .inl ((zadd t 1), V) else .inr (t, V)) := by
  have hW8 : W ≠ 8 := by omega
  unfold F_X0_firstToFail_71 F_X0_firstToFail_104
  refine zp_w (fun k (s : Int × ZS) => ∃ t : Nat, k = 400 - t ∧ t ≤ 400 ∧ s.1 = (t : Int) ∧ (∀ r, r ≠ 8 → s.2.1 r = S.1 r) ∧ (∀ r, r ≠ 8 → s.2.2 r = S.2 r) ∧
    (((∀ i, i < t → alE wy ro sp wear beat cor many its (i + 1) = false) ∧ CRt 8 W 5 1 s.2 (t : Int) (-1) (alP its (sgS wy ro sp wear beat cor many its t).1 (sgS wy ro sp wear beat cor many its t).2 0) [0] []) ∨
      (alN wy ro sp wear beat cor many its < 400 ∧ s.2.2 8 6 0 = if 10 * wy 0 ≤ (sgS wy ro sp wear beat cor many its (alN wy ro sp wear beat cor many its + 1)).1 - 10 * its then 2 else 3))) ?_ 400 _ ⟨0, rfl, by omega, rfl, fun r hr => rfl, fun r hr => rfl, Or.inl ⟨fun i hi => absurd hi (by omega), hR⟩⟩
  rintro k ⟨x, I, A⟩ ⟨t', rfl, ht, rfl, hI, hA, hc⟩
  dsimp only at hI hA hc ⊢
  have fin : ∀ e : A 8 6 0 = (if alO wy ro sp wear beat cor many its = true then 2 else 3) ∨ (A 8 6 0 = 0 ∧ alO wy ro sp wear beat cor many its = false), zp (zjn (σ := Int × ZS) (if A 8 6 0 = 2 then some (Sum.inl (zadd t 1, (I, A))) else some (Sum.inr (t, (I, A)))))
      (zor2 (fun s' : Int × ZS => ∃ m, m < 400 - t' ∧ ∃ t : Nat, m = 400 - t ∧ t ≤ 400 ∧ s'.1 = (t : Int) ∧ (∀ r, r ≠ 8 → s'.2.1 r = S.1 r) ∧ (∀ r, r ≠ 8 → s'.2.2 r = S.2 r) ∧
    (((∀ i, i < t → alE wy ro sp wear beat cor many its (i + 1) = false) ∧ CRt 8 W 5 1 s'.2 (t : Int) (-1) (alP its (sgS wy ro sp wear beat cor many its t).1 (sgS wy ro sp wear beat cor many its t).2 0) [0] []) ∨
      (alN wy ro sp wear beat cor many its < 400 ∧ s'.2.2 8 6 0 = if 10 * wy 0 ≤ (sgS wy ro sp wear beat cor many its (alN wy ro sp wear beat cor many its + 1)).1 - 10 * its then 2 else 3))) (fun v : (Int × ZS) ⊕ (Int × ZS) => ∃ V : ZS, (∀ r, r ≠ 8 → V.1 r = S.1 r) ∧ (∀ r, r ≠ 8 → V.2 r = S.2 r) ∧ v = if alO wy ro sp wear beat cor many its = true then .inl ((zadd t 1), V) else .inr (t, V))) := by
    intro e
    refine zp_in.mpr ?_
    rcases e with e | ⟨e, e'⟩
    · rw [e]
      by_cases d : alO wy ro sp wear beat cor many its = true
      · rw [if_pos d, if_pos rfl]
        exact zp_some.mpr ⟨(I, A), hI, hA, by rw [if_pos d]⟩
      · rw [if_neg d, if_neg (by decide)]
        exact zp_some.mpr ⟨(I, A), hI, hA, by rw [if_neg d]⟩
    · rw [e, if_neg (by decide)]
      exact zp_some.mpr ⟨(I, A), hI, hA, by rw [e', if_neg (by decide)]⟩
  rcases hc with ⟨hE, hc⟩ | ⟨hN, hc⟩
  · have c6 : A 8 6 0 = 0 := (hc.2.2.2.2.2.2.2.1 0 (by omega)).1
    by_cases c : t' = 400
    · refine zp_neg (by omega) (fin (Or.inr ⟨c6, ?_⟩))
      have e : alN wy ro sp wear beat cor many its = 400 := fnd_none (fun i hi => hE i (by omega))
      unfold alO
      rw [e]
      simp
    · refine zp_pos (by omega) (zp_pos c6 ?_)
      obtain ⟨d1, d2, d3, d4⟩ := sgS_b H b0.2 hi.2 hro.2 t' hE
      refine zp_bind.mpr (zp_mono (lp_al8 (S := (I, A)) (W := W) (wy := wy) (ro := ro) (sp := sp) (wear := wear) (beat := beat) (cor := cor) (many := many) (t := (t' : Int)) hW (by omega) (by show I W 0 = _; rw [hI W hW8]; exact w0) (by show I W 6 = _; rw [hI W hW8]; exact w6) (by show I W 7 = _; rw [hI W hW8]; exact w7) (by show I W 8 = _; rw [hI W hW8]; exact w8) (by show I W 9 = _; rw [hI W hW8]; exact w9) b0 b1 H
        (by show I W 1 = _; rw [hI W hW8]; exact k1) (by show I W 10 = _; rw [hI W hW8]; exact k2) (fun r hr => by show A W 3 r = _ ∧ A W 4 r = _ ∧ A 5 1 r = _ ∧ A 5 2 r = _; rw [hA W hW8, hA 5 (by decide)]; exact K r hr) C (by show I 5 3 = _; rw [hI 5 (by decide)]; exact k3) (fun r hr => by show A 5 3 r = _; rw [hA 5 (by decide)]; exact KC r hr)
        hi (by omega) (by omega) d1 hc rfl) (fun V hV => ?_))
      have eq : sgT wy ro sp wear beat cor many its ((t' : Int) + 1) ((sgS wy ro sp wear beat cor many its t').1, (sgS wy ro sp wear beat cor many its t').2) = sgS wy ro sp wear beat cor many its (t' + 1) := rfl
      rw [eq] at hV
      obtain ⟨v1, v2, v3, v3', v4, v5, _⟩ := hV
      refine zp_some.mpr (zor2_l.mpr ⟨400 - (t' + 1), by omega, t' + 1, rfl, by omega, ?_, fun r hr => by rw [v1 r hr]; exact hI r hr, fun r hr => by rw [v2 r hr]; exact hA r hr, ?_⟩)
      · dsimp only
        rw [zadd_ok (by omega) (by omega)]
        rfl
      · by_cases d : 10 * wy 0 ≤ (sgS wy ro sp wear beat cor many its (t' + 1)).1 - 10 * its ∨ 5 ≤ (sgS wy ro sp wear beat cor many its (t' + 1)).2
        · have e : alN wy ro sp wear beat cor many its = t' := fnd_eq (by omega) (decide_eq_true d) (fun i hi => hE i hi)
          refine Or.inr ⟨by omega, ?_⟩
          rw [e, v4]
          by_cases d2 : 10 * wy 0 ≤ (sgS wy ro sp wear beat cor many its (t' + 1)).1 - 10 * its
          · rw [if_pos d2, if_pos d2]
          · rw [if_neg d2, if_neg d2, if_pos (d.resolve_left d2)]
        · refine Or.inl ⟨fun i hi => ?_, v5 (fun z => d (Or.inl z)) (fun z => d (Or.inr z))⟩
          by_cases e : i = t'
          · subst e
            exact decide_eq_false d
          · exact hE i (by omega)
  · have e : A 8 6 0 = (if alO wy ro sp wear beat cor many its = true then 2 else 3) := by
      rw [hc]
      unfold alO
      by_cases d : 10 * wy 0 ≤ (sgS wy ro sp wear beat cor many its (alN wy ro sp wear beat cor many its + 1)).1 - 10 * its
      · rw [if_pos d, if_pos (decide_eq_true ⟨hN, d⟩)]
      · rw [if_neg d, if_neg (fun z => d (of_decide_eq_true z).2)]
    by_cases c : t' < 400
    · refine zp_pos (by omega) (zp_neg (fun z => ?_) (fin (Or.inl e)))
      rw [z] at e
      split at e <;> exact absurd e (by decide)
    · exact zp_neg (by omega) (fin (Or.inl e))
end FORE
