/-! a sheet alone: the class's trial, the reference's -/
def alP (its h st state : Int) : Nat → Nat → Int := fun o _ => if o = 31 then its else if o = 32 then h else if o = 33 then state else if o = 34 then 1 else if o = 35 then st else 0
section ALONE
variable {S : ZS} {W m : Nat} {wy ro sp wear beat cor : Nat → Int} {many : Nat} {its t h st : Int} {q : Int × Int}
theorem sgT_b (H : DrOK wy ro sp wear beat) (q : Int × Int) : q.1 ≤ (sgT wy ro sp wear beat cor many its t q).1 ∧ (sgT wy ro sp wear beat cor many its t q).1 ≤ q.1 + 90 ∧ (0 ≤ q.2 → 0 ≤ (sgT wy ro sp wear beat cor many its t q).2 ∧ (sgT wy ro sp wear beat cor many its t q).2 ≤ q.2 + 1) := by
  obtain ⟨H1, _⟩ := id H
  have hd := sgD_b (top := q.1) (low := q.1 - 10 * its) (t := t) H (wy 6).toNat (by omega)
  have hb := sgB_b (cor := cor) (top := q.1) (to := q.1 + sgD wy ro sp wear beat q.1 (q.1 - 10 * its) t (wy 6).toNat) (by omega) many
  unfold sgT
  dsimp only
  split
  · refine ⟨?_, ?_, fun _ => ?_⟩ <;> (dsimp only; omega)
  · refine ⟨?_, ?_, fun _ => ?_⟩ <;> (dsimp only; omega)
theorem lp_goes1 (H : DrOK (S.2 1 4) (S.2 1 6) (S.2 1 7) (S.2 1 47) (S.2 1 48)) (C : CoOK (S.2 1 49) many) (hm : S.1 1 51 = (many : Int)) (ht : 0 ≤ t ∧ t < 2147483648) (hi : 0 ≤ its ∧ its ≤ 100) (h52 : 0 ≤ S.1 1 52 ∧ S.1 1 52 ≤ 9000) (h53 : 0 ≤ S.1 1 53 ∧ S.1 1 53 ≤ 1000)
    (hq : q = sgT (S.2 1 4) (S.2 1 6) (S.2 1 7) (S.2 1 47) (S.2 1 48) (S.2 1 49) many its t (S.1 1 52, S.1 1 53)) :
    F_X12_goesAlone its t S = some (zup (zup S.1 1 53 q.2) 1 52 q.1, S.2) := by
  obtain ⟨H1, _⟩ := id H
  have hd := sgD_b (top := S.1 1 52) (low := S.1 1 52 - 10 * its) (t := t) H (S.2 1 4 6).toNat (by omega)
  have f1 : zsub (S.1 1 52) (zmul 10 its) = S.1 1 52 - 10 * its := by rw [zmul_ok (by omega) (by omega), zsub_ok (by omega) (by omega)]
  have f2 : zadd (S.1 1 52) (sgD (S.2 1 4) (S.2 1 6) (S.2 1 7) (S.2 1 47) (S.2 1 48) (S.1 1 52) (S.1 1 52 - 10 * its) t (S.2 1 4 6).toNat) = S.1 1 52 + sgD (S.2 1 4) (S.2 1 6) (S.2 1 7) (S.2 1 47) (S.2 1 48) (S.1 1 52) (S.1 1 52 - 10 * its) t (S.2 1 4 6).toNat := zadd_ok (by omega) (by omega)
  have f3 : zadd (S.1 1 53) 1 = S.1 1 53 + 1 := zadd_ok (by omega) (by omega)
  unfold F_X12_goesAlone zlt
  rw [f1, lp_drive12 (q4 := 47) (q5 := 48) H ht, Option.bind_some, f2, hm, lp_bound12 (q2 := 49) C, Option.bind_some, f3]
  unfold sgT at hq
  dsimp only at hq
  generalize sgB (S.2 1 49) (S.1 1 52) (S.1 1 52 + sgD (S.2 1 4) (S.2 1 6) (S.2 1 7) (S.2 1 47) (S.2 1 48) (S.1 1 52) (S.1 1 52 - 10 * its) t (S.2 1 4 6).toNat) many = to at hq
  have e : ∀ v, zup S.1 1 53 v 1 52 = S.1 1 52 := fun v => zup_k (by decide)
  by_cases c : S.1 1 52 < to
  · rw [if_pos c] at hq
    rw [if_pos c]
    simp only [e]
    rw [if_pos c, hq]
  · rw [if_neg c] at hq
    rw [if_neg c]
    simp only [e]
    rw [if_neg c, hq]
theorem tqq_al (H : DrOK wy ro sp wear beat) (hh : h ≤ 9000) : tqq wy ro sp wear beat cor many t its h st 1 0 1000000 = sgT wy ro sp wear beat cor many its t (h, st) := by
  obtain ⟨H1, _⟩ := id H
  have hd := sgD_b (top := h) (low := h - 10 * its) (t := t) H (wy 6).toNat (by omega)
  have hb := sgB_b (cor := cor) (top := h) (to := h + sgD wy ro sp wear beat h (h - 10 * its) t (wy 6).toNat) (by omega) many
  unfold tqq tdr tto sgT
  dsimp only
  rw [if_neg (by omega), show min (sgB cor h (h + sgD wy ro sp wear beat h (h - 10 * its) t (wy 6).toNat) many) 1000000 = sgB cor h (h + sgD wy ro sp wear beat h (h - 10 * its) t (wy 6).toNat) many by omega]
theorem mvN_al (H : DrOK wy ro sp wear beat) (hh : h ≤ 9000) (hq : q = sgT wy ro sp wear beat cor many its t (h, st)) :
    mvN wy ro sp wear beat cor many t [0] (alP its h st 0) [] 1 = (pmv (alP its h st 0) 0 q.1 q.2 (if 10 * wy 0 ≤ q.1 - 10 * its then 2 else 0) 0, if 10 * wy 0 ≤ q.1 - 10 * its then [] else [0], [], if 10 * wy 0 ≤ q.1 - 10 * its then 1000000 else q.1 - 10 * its) := by
  have e : mvq wy ro sp wear beat cor many t (alP its h st 0) 0 1000000 = q := by rw [hq]; exact tqq_al H hh
  have e2 : mvp wy ro sp wear beat cor many t (alP its h st 0) [] 0 1000000 = pmv (alP its h st 0) 0 q.1 q.2 (if 10 * wy 0 ≤ q.1 - 10 * its then 2 else 0) 0 := by
    unfold mvp
    rw [e, if_neg (show ¬ twt wy (alP its h st 0 31 0) q.1 (alP its h st 0 34 0) (alP its h st 0 37 0) from fun z => absurd (show (0 : Int) = 1 from z.1) (by decide)), if_neg (show ¬ (twt wy (alP its h st 0 31 0) q.1 (alP its h st 0 34 0) (alP its h st 0 37 0) ∧ _) from fun z => absurd (show (0 : Int) = 1 from z.1.1) (by decide)), if_neg (show ¬ (twt wy (alP its h st 0 31 0) q.1 (alP its h st 0 34 0) (alP its h st 0 37 0) ∧ _) from fun z => absurd (show (0 : Int) = 1 from z.1.1) (by decide))]
    rfl
  show mv1 wy ro sp wear beat cor many t (alP its h st 0, [], [], 1000000) 0 = _
  unfold mv1
  dsimp only
  rw [e2]
  by_cases c : 10 * wy 0 ≤ q.1 - 10 * its
  · simp only [if_pos c]
    rfl
  · simp only [if_neg c]
    rfl
theorem lp_al8 (hW : W = 19 ∨ W = 20) (bn : 0 ≤ t ∧ t < 2147483647)
    (w0 : S.1 W 0 = wy 0) (w6 : S.1 W 6 = wy 1) (w7 : S.1 W 7 = wy 2) (w8 : S.1 W 8 = wy 3) (w9 : S.1 W 9 = wy 4) (b0 : 40 ≤ wy 0 ∧ wy 0 ≤ 300) (b1 : 0 ≤ wy 1 ∧ wy 1 ≤ 300)
    (H : DrOK wy ro sp wear beat) (k1 : S.1 W 1 = wy 6) (k2 : S.1 W 10 = wy 5) (K : ∀ r : Nat, (r : Int) < wy 6 → S.2 W 3 r = ro r ∧ S.2 W 4 r = sp r ∧ S.2 5 1 r = wear r ∧ S.2 5 2 r = beat r)
    (C : CoOK cor many) (k3 : S.1 5 3 = (many : Int)) (KC : ∀ c : Nat, c < many → S.2 5 3 c = cor c)
    (hi : 10 ≤ its ∧ its ≤ 70) (hh : 0 ≤ h ∧ h ≤ 9000) (hs : 0 ≤ st ∧ st ≤ 1000) (hro : 10 * ro 0 ≤ h)
    (hR : CRt 8 W 5 1 S t (-1) (alP its h st 0) [0] []) (hq : q = sgT wy ro sp wear beat cor many its (t + 1) (h, st)) :
    zp (F_X8_carryOn 8 S) (fun V => (∀ r, r ≠ 8 → V.1 r = S.1 r) ∧ (∀ r, r ≠ 8 → V.2 r = S.2 r) ∧ V.2 8 7 0 = q.1 ∧ V.2 8 10 0 = 10 * its ∧ V.2 8 6 0 = (if 10 * wy 0 ≤ q.1 - 10 * its then 2 else if 5 ≤ q.2 then 3 else 0) ∧ 
      (¬ 10 * wy 0 ≤ q.1 - 10 * its → ¬ 5 ≤ q.2 → CRt 8 W 5 1 V (t + 1) (-1) (alP its q.1 q.2 0) [0] []) ∧
      CRel 8 V.2 1 (alP its q.1 q.2 (if 10 * wy 0 ≤ q.1 - 10 * its then 2 else if 5 ≤ q.2 then 3 else 0)) ∧ V.1 8 13 = (if 10 * wy 0 ≤ q.1 - 10 * its then 0 else 1) ∧ (¬ 10 * wy 0 ≤ q.1 - 10 * its → V.2 8 13 0 = 0)) := by
  have hK : TkOK wy ro 1 t (alP its h st 0) [0] [] := by
    refine ⟨by omega, fun a ha => ?_, List.pairwise_singleton _ _, fun a ha _ => ?_, fun a ha z => ?_, fun a ha => absurd ha (by simp), Or.inl ⟨fun a ha => rfl, rfl⟩⟩
    · have := List.mem_singleton.mp ha
      subst this
      exact ⟨by omega, rfl, hh, hi, Or.inl rfl, hs⟩
    · exact hro
    · exact absurd (show (0 : Int) = 1 from z) (by decide)
  refine zp_mono (lp_carry8 (T := 8) (F := 5) (now := t + 1) (Or.inr rfl) hW (Or.inr rfl) (by omega) w0 w6 w7 w8 w9 b0 b1 H k1 k2 K C k3 KC rfl bn.1 hK hR (mvN_al (cor := cor) (many := many) H hh.2 hq)) (fun V hV => ?_)
  obtain ⟨v1, v2, v3⟩ := hV
  refine ⟨v1, v2, ?_⟩
  have eB : ∀ p N, tkB wy (t + 1) p N [] = (p, N, []) := by
    intro p N
    unfold tkB
    rw [if_neg]
    unfold cbB
    simp
  rw [eB] at v3
  dsimp only at v3
  by_cases c : 10 * wy 0 ≤ q.1 - 10 * its
  · simp only [if_pos c] at v3 ⊢
    have eJ : ∀ p, tkJ p [] = p := fun p => rfl
    rw [eJ] at v3
    obtain ⟨r1, r2, r3, r4, r5, r6, r7, r8, r9, r10⟩ := v3
    obtain ⟨c1, c2, c3, c4, c5, c6, c7⟩ := r8 0 (by omega)
    have hC : CRel 8 V.2 1 (alP its q.1 q.2 2) := by
      intro s hs
      have z0 : s = 0 := by omega
      subst z0
      exact ⟨c1, c2, c3, c4, c5, c6, fun z => absurd (show (2 : Int) = 1 from z) (by decide)⟩
    exact ⟨c2, c5, c1, fun z => absurd c z, hC, by rw [r5]; rfl, fun z => absurd c z⟩
  · simp only [if_neg c] at v3 ⊢
    have eK : jmK (pmv (alP its h st 0) 0 q.1 q.2 0 0 35) [0] = if 5 ≤ q.2 then 0 else 1 := by
      show fnd (fun i => decide (5 ≤ pmv (alP its h st 0) 0 q.1 q.2 0 0 35 ([0].getD i 0))) 1 = _
      by_cases d : 5 ≤ q.2
      · rw [if_pos d]
        exact fnd_eq (by omega) (decide_eq_true d) (fun i hi => absurd hi (by omega))
      · rw [if_neg d]
        refine fnd_none (fun i hi => ?_)
        have : i = 0 := by omega
        subst this
        exact decide_eq_false d
    by_cases d : 5 ≤ q.2
    · rw [if_pos d] at eK ⊢
      have eJ : tkJ (pmv (alP its h st 0) 0 q.1 q.2 0 0) [0] = (fun o j => if o = 33 ∧ j = 0 then 3 else pmv (alP its h st 0) 0 q.1 q.2 0 0 o j) := by
        unfold tkJ
        rw [eK, if_pos (by show 0 < 1; omega)]
        rfl
      rw [eJ] at v3
      obtain ⟨r1, r2, r3, r4, r5, r6, r7, r8, r9, r10⟩ := v3
      obtain ⟨c1, c2, c3, c4, c5, c6, c7⟩ := r8 0 (by omega)
      have hC : CRel 8 V.2 1 (alP its q.1 q.2 3) := by
        intro s hs
        have z0 : s = 0 := by omega
        subst z0
        exact ⟨c1, c2, c3, c4, c5, c6, fun z => absurd (show (3 : Int) = 1 from z) (by decide)⟩
      exact ⟨c2, c5, c1, fun _ z => absurd d z, hC, by rw [r5]; rfl, fun _ => r9 0 (by decide)⟩
    · rw [if_neg d] at eK ⊢
      have eJ : tkJ (pmv (alP its h st 0) 0 q.1 q.2 0 0) [0] = pmv (alP its h st 0) 0 q.1 q.2 0 0 := by
        unfold tkJ
        rw [eK, if_neg (by show ¬ 1 < 1; omega)]
      have ej : tkj (pmv (alP its h st 0) 0 q.1 q.2 0 0) [0] = -1 := by
        unfold tkj
        rw [eK, if_neg (by show ¬ 1 < 1; omega)]
      rw [eJ, ej] at v3
      obtain ⟨r1, r2, r3, r4, r5, r6, r7, r8, r9, r10⟩ := v3
      obtain ⟨c1, c2, c3, c4, c5, c6, c7⟩ := r8 0 (by omega)
      have hC : CRel 8 V.2 1 (alP its q.1 q.2 0) := by
        intro s hs
        have z0 : s = 0 := by omega
        subst z0
        exact ⟨c1, c2, c3, c4, c5, c6, fun z => absurd (show (0 : Int) = 1 from z) (by decide)⟩
      exact ⟨c2, c5, c1, fun _ _ => ⟨r1, r2, r3, r4, r5, r6, r7, hC, r9, r10⟩, hC, by rw [r5]; rfl, fun _ => r9 0 (by decide)⟩
/-- a trial laid -/
theorem lp_lay8 (hW : W = 19 ∨ W = 20) (hi : 10 ≤ its ∧ its ≤ 70) (hro : 1 ≤ ro 0 ∧ ro 0 ≤ 300) (er : S.2 W 3 0 = ro 0) {q1 : Nat} (e1 : q1 = W) :
    zp ((F_X8_start 8 q1 5 S).bind fun S8 => F_X8_begin 8 its 0 S8) (fun v => v.1 = 0 ∧ (∀ r, r ≠ 8 → r ≠ 9 → v.2.1 r = S.1 r ∧ v.2.2 r = S.2 r) ∧ CRt 8 W 5 1 v.2 0 (-1) (alP its (10 * ro 0) 0 0) [0] []) := by
  subst e1
  rw [lp_start8, Option.bind_some]
  have hW8 : q1 ≠ 8 := by omega
  have hW9 : q1 ≠ 8 + 1 := by omega
  refine zp_mono (lp_begin8 (T := 8) (W := q1) (m := 0) (L := []) (Or.inr rfl) hW (by dsimp only; simp only [zup_ap]; simp) (by dsimp only; simp only [zup_ap]; simp) (by omega) (by omega) (Or.inl rfl) (by dsimp only; simp only [zup_ap]; simp) (by simp) (fun i hi => absurd hi (by simp)) (fun a ha => absurd ha (by simp)) (by dsimp only; rw [zuA_R hW9, zuA_R hW9, zuA_R hW9, er]; omega)) (fun v hv => ?_)
  obtain ⟨v1, k, G, hk, _, _, v2, _, hG, _⟩ := hv
  have hk0 : k = 0 := by simpa using hk
  subst hk0
  refine ⟨v1, fun r h8 h9 => ?_, ?_⟩
  · rw [v2]
    dsimp only
    unfold tP
    refine ⟨?_, ?_⟩
    · simp only [zup_R h8]
    · simp only [zuA_R h8, zuA_R (show r ≠ 8 + 1 from h9)]
  · rw [v2]
    dsimp only
    rw [zuA_R hW9, zuA_R hW9, zuA_R hW9, er]
    unfold tP
    refine ⟨?_, ?_, ?_, ?_, ?_, ?_, ?_, fun s hs => ?_, fun i hi => ?_, fun i hi => absurd hi (by simp)⟩
    · simp [zup_ap]
    · simp [zup_ap]
    · simp [zup_ap]
    · simp [zup_ap]
    · simp [zup_ap]
    · simp [zup_ap]
    · simp [zup_ap]
    · have : s = 0 := by omega
      subst this
      simp [zuA_ap, zset_ap, alP]
    · have : i = 0 := by simpa using hi
      subst this
      dsimp only
      rw [zuA_s]
      exact hG
end ALONE
