/-! explain: the reference's answer -/
section EXPS
variable {S Z : ZS} {wy ro sp ey seen on off : Nat → Int} {len a b x its x2 : Int} {t u e T n7 : Nat}
theorem cle_b (hl : 10 ≤ len ∧ len ≤ 60) : 10 ≤ cle a b len ∧ cle a b len ≤ 70 := by
  unfold cle
  split <;> omega
/-- looked at: so many ticks -/
def cLk (wy ro sp ey : Nat → Int) (a b len : Int) (T : Nat) : Prop := (1 ≤ T ∧ T ≤ 120) ∧ (∀ u, 1 ≤ u → u < T → ¬ cJam wy ro sp ey a b len u) ∧ (T = 120 ∨ cJam wy ro sp ey a b len T)
theorem lp_look55 (H : DrOK wy ro sp (cwe a b) (cbe a b)) (C : CoOK (cco ey a b) (cma a b)) (e4 : S.2 1 4 = wy) (e6 : S.2 1 6 = ro) (e7' : S.2 1 7 = sp) (e10 : S.2 1 10 = ey) (e7 : wy 7 = (n7 : Int)) (h7 : n7 ≤ 19) (hey : ∀ e, e < n7 → 1 ≤ ey e ∧ ey e ≤ 300)
    (K : ∀ r : Nat, (r : Int) < wy 6 → S.2 1 47 r = cwe a b r ∧ S.2 1 48 r = cbe a b r) (KC : ∀ c : Nat, c < cma a b → S.2 1 49 c = cco ey a b c) (hm : S.1 1 51 = (cma a b : Int))
    (b0 : 40 ≤ wy 0 ∧ wy 0 ≤ 300) (hl : 10 ≤ len ∧ len ≤ 60) (hro : 1 ≤ ro 0 ∧ ro 0 ≤ 300) (h52 : S.1 1 52 = 10 * ro 0) (h53 : S.1 1 53 = 0) (ha : ∀ e, e < n7 → S.2 1 50 e = -1 ∧ S.2 1 51 e = -1) :
    zp (F_X12_looksAlone_55 (cle a b len) 0 1 S) (fun V => FRx S V ∧ ∃ T, cLk wy ro sp ey a b len T ∧ ∀ e, e < n7 → V.2 1 50 e = fOn wy ro sp ey a b len e T ∧ V.2 1 51 e = fOf wy ro sp ey a b len e T) := by
  have hcl := cle_b (a := a) (b := b) hl
  unfold F_X12_looksAlone_55
  refine zp_w (fun d (s : Int × Int × ZS) => ∃ t : Nat, d = 120 - t ∧ t ≤ 120 ∧ s.2.1 = (t : Int) + 1 ∧ FRx S s.2.2 ∧ (∀ o, o ≠ 50 → o ≠ 51 → s.2.2.2 1 o = S.2 1 o) ∧ s.2.2.1 1 51 = S.1 1 51 ∧ (∀ u, 1 ≤ u → u < t → ¬ cJam wy ro sp ey a b len u) ∧ (∀ e, e < n7 → s.2.2.2 1 50 e = fOn wy ro sp ey a b len e t ∧ s.2.2.2 1 51 e = fOf wy ro sp ey a b len e t) ∧
    ((s.1 = 0 ∧ (1 ≤ t → ¬ cOut wy ro sp ey a b len t) ∧ s.2.2.1 1 52 = (cSg wy ro sp ey a b len t).1 ∧ s.2.2.1 1 53 = (cSg wy ro sp ey a b len t).2) ∨ (s.1 = 1 ∧ 1 ≤ t ∧ cOut wy ro sp ey a b len t ∧ (0 ≤ s.2.2.1 1 52 ∧ s.2.2.1 1 52 ≤ 9000) ∧ s.2.2.1 1 53 = 0))) ?_ 120 _
    ⟨0, rfl, by omega, rfl, FRx_r S, fun _ _ _ => rfl, rfl, fun u h1 h2 => absurd h1 (by omega), ha, Or.inl ⟨rfl, fun z => absurd z (by omega), h52, h53⟩⟩
  rintro d ⟨fl, y, I, A⟩ ⟨t, rfl, ht, rfl, hF, hA, h51, hnj, hrr, hc⟩
  dsimp only at hF hA h51 hnj hrr hc ⊢
  have exit : t = 120 ∨ (1 ≤ t ∧ cJam wy ro sp ey a b len t) → FRx S (I, A) ∧ ∃ T, cLk wy ro sp ey a b len T ∧ ∀ e, e < n7 → A 1 50 e = fOn wy ro sp ey a b len e T ∧ A 1 51 e = fOf wy ro sp ey a b len e T := by
    intro h
    refine ⟨hF, t, ⟨⟨by omega, ht⟩, hnj, ?_⟩, hrr⟩
    rcases h with h | h
    · exact Or.inl h
    · exact Or.inr h.2
  by_cases c : t = 120
  · exact zp_pos (by omega) (zp_some.mpr (zor2_r.mpr (exit (Or.inl c))))
  refine zp_neg (by omega) ?_
  have z7 : A 1 4 = wy := (hA 4 (by decide) (by decide)).trans e4
  have z10 : A 1 10 = ey := (hA 10 (by decide) (by decide)).trans e10
  -- one tick more looked at
  have nx : ∀ (I' : Nat → Nat → Int) (x2 : Int), (∀ r, r ≠ 1 → I' r = I r) → (∀ k, k ≠ 52 → k ≠ 53 → I' 1 k = I 1 k) → (0 ≤ I' 1 52 ∧ I' 1 52 ≤ 9000) → (1 ≤ t → ¬ cJam wy ro sp ey a b len t) →
      ((x2 = 0 ∧ ¬ cOut wy ro sp ey a b len (t + 1) ∧ I' 1 52 = (cSg wy ro sp ey a b len (t + 1)).1 ∧ I' 1 53 = (cSg wy ro sp ey a b len (t + 1)).2) ∨ (x2 = 1 ∧ cOut wy ro sp ey a b len (t + 1) ∧ I' 1 53 = 0)) →
      zp (F_X12_looksAlone_122 (cle a b len) x2 ((t : Int) + 1) 0 (I', A)) (zor2 (fun s : Int × Int × ZS => ∃ m, m < 120 - t ∧ ∃ t : Nat, m = 120 - t ∧ t ≤ 120 ∧ s.2.1 = (t : Int) + 1 ∧ FRx S s.2.2 ∧ (∀ o, o ≠ 50 → o ≠ 51 → s.2.2.2 1 o = S.2 1 o) ∧ s.2.2.1 1 51 = S.1 1 51 ∧ (∀ u, 1 ≤ u → u < t → ¬ cJam wy ro sp ey a b len u) ∧ (∀ e, e < n7 → s.2.2.2 1 50 e = fOn wy ro sp ey a b len e t ∧ s.2.2.2 1 51 e = fOf wy ro sp ey a b len e t) ∧
    ((s.1 = 0 ∧ (1 ≤ t → ¬ cOut wy ro sp ey a b len t) ∧ s.2.2.1 1 52 = (cSg wy ro sp ey a b len t).1 ∧ s.2.2.1 1 53 = (cSg wy ro sp ey a b len t).2) ∨ (s.1 = 1 ∧ 1 ≤ t ∧ cOut wy ro sp ey a b len t ∧ (0 ≤ s.2.2.1 1 52 ∧ s.2.2.1 1 52 ≤ 9000) ∧ s.2.2.1 1 53 = 0)))
        (fun V : ZS => FRx S V ∧ ∃ T, cLk wy ro sp ey a b len T ∧ ∀ e, e < n7 → V.2 1 50 e = fOn wy ro sp ey a b len e T ∧ V.2 1 51 e = fOf wy ro sp ey a b len e T)) := by
    intro I' x2 i1 i2 i3 hj hx
    refine zp_mono (lp_look122 (Z := (I', A)) (x2 := x2) (t := t) e7 h7 (by dsimp only; rw [z7]) z10 hey hcl i3 ht (fun e he => ?_) hrr) (fun r hr => ?_)
    · rcases hx with ⟨x0, x1, x3, x4⟩ | ⟨x0, x1, x3⟩
      · dsimp only
        rw [x3]
        exact ⟨fun z => ⟨x0, z.2.1, z.2.2⟩, fun z => ⟨x1, z.2.1, z.2.2⟩⟩
      · exact ⟨fun z => absurd x1 z.1, fun z => absurd (x0.symm.trans z.1) (by decide)⟩
    · obtain ⟨B, rfl, q1, q2, q3⟩ := hr
      refine zor2_l.mpr ⟨120 - (t + 1), by omega, t + 1, rfl, by omega, rfl, FRx_t hF ⟨i1, fun k h1 h2 h3 => i2 k h2 h3, q1, fun o h1 h2 h3 h4 h5 => q2 o h4 h5⟩, fun o h1 h2 => (q2 o h1 h2).trans (hA o h1 h2), (i2 51 (by decide) (by decide)).trans h51, fun u hu1 hu2 => ?_, q3, ?_⟩
      · by_cases g : u = t
        · rw [g]; exact hj (by omega)
        · exact hnj u hu1 (by omega)
      · rcases hx with ⟨x0, x1, x3, x4⟩ | ⟨x0, x1, x3⟩
        · exact Or.inl ⟨x0, fun _ => x1, x3, x4⟩
        · exact Or.inr ⟨x0, by omega, x1, i3, x3⟩
  rcases hc with ⟨c1, c2, c3, c4⟩ | ⟨c1, c2, c3, c4, c5⟩
  · by_cases g : I 1 53 < 5
    · refine zp_pos g (zp_pos c1 ?_)
      have hnE : ∀ i, i < t → cE wy ro sp ey a b len (i + 1) = false := by
        intro i hi
        refine cE_f.mpr (fun z => ?_)
        rcases z with z | z
        · exact c2 (by omega) (cOut_mn H (by omega) z)
        · by_cases g2 : i + 1 = t
          · rw [g2] at z; omega
          · refine hnj (i + 1) (by omega) (by omega) (fun y => ?_)
            rcases y with y | y
            · exact c2 (by omega) (cOut_mn H (by omega) y)
            · omega
      obtain ⟨s1, s2, s3, s4⟩ := sgS_b H b0.2 hcl.2 hro.2 t hnE
      have s1 : 10 * ro 0 ≤ (cSg wy ro sp ey a b len t).1 := s1
      have s2 : (cSg wy ro sp ey a b len t).1 ≤ 3700 := s2
      have s3 : 0 ≤ (cSg wy ro sp ey a b len t).2 := s3
      have s4 : (cSg wy ro sp ey a b len t).2 ≤ 4 := s4
      have hT := sgT_b (cor := cco ey a b) (many := cma a b) (its := cle a b len) (t := (t : Int) + 1) H (cSg wy ro sp ey a b len t)
      rw [← cSg_s] at hT
      rw [lp_goes2 (S := (I, A)) (wy := wy) (ro := ro) (sp := sp) (wear := cwe a b) (beat := cbe a b) (cor := cco ey a b) (many := cma a b) (h := (cSg wy ro sp ey a b len t).1) (st := (cSg wy ro sp ey a b len t).2) (t := (t : Int) + 1) (q := cSg wy ro sp ey a b len (t + 1)) H C z7 ((hA 6 (by decide) (by decide)).trans e6) ((hA 7 (by decide) (by decide)).trans e7') (fun r hr => by dsimp only; rw [hA 47 (by decide) (by decide), hA 48 (by decide) (by decide)]; exact K r hr) (fun c hc => by dsimp only; rw [hA 49 (by decide) (by decide)]; exact KC c hc) (h51.trans hm) (by omega) (by omega) c3 c4 (by omega) (by omega) rfl, Option.bind_some]
      have hjt : 1 ≤ t → ¬ cJam wy ro sp ey a b len t := fun _ z => z (Or.inr (by omega))
      generalize hq : cSg wy ro sp ey a b len (t + 1) = q at *
      have k52 : zup (zup I 1 53 q.2) 1 52 q.1 1 52 = q.1 := zup_s
      have k53 : zup (zup I 1 53 q.2) 1 52 q.1 1 53 = q.2 := (zup_k (by decide)).trans zup_s
      have k1 : ∀ r, r ≠ 1 → zup (zup I 1 53 q.2) 1 52 q.1 r = I r := fun r hr => by rw [zup_R hr, zup_R hr]
      have k2 : ∀ k, k ≠ 52 → k ≠ 53 → zup (zup I 1 53 q.2) 1 52 q.1 1 k = I 1 k := fun k h1 h2 => by rw [zup_k h1, zup_k h2]
      have f1 : zmul 10 (cle a b len) = 10 * cle a b len := zmul_ok (by omega) (by omega)
      have f2 : zsub q.1 (10 * cle a b len) = q.1 - 10 * cle a b len := zsub_ok (by omega) (by omega)
      have f3 : zmul 10 (wy 0) = 10 * wy 0 := zmul_ok (by omega) (by omega)
      have ho : cOut wy ro sp ey a b len (t + 1) ↔ 10 * wy 0 ≤ q.1 - 10 * cle a b len := by unfold cOut; rw [hq]
      unfold F_X12_looksAlone_79
      refine zp_pos c1 ?_
      have hcd : zsub (zup (zup I 1 53 q.2) 1 52 q.1 1 52) (zmul 10 (cle a b len)) < zmul 10 (A 1 4 0) ↔ q.1 - 10 * cle a b len < 10 * wy 0 := by rw [k52, f1, f2, z7, f3]
      by_cases g2 : q.1 - 10 * cle a b len < 10 * wy 0
      · refine zp_pos (hcd.mpr g2) (nx _ 0 k1 k2 (by rw [k52]; omega) hjt (Or.inl ⟨rfl, fun z => by have := ho.mp z; omega, by rw [k52], by rw [k53]⟩))
      · refine zp_neg (fun z => g2 (hcd.mp z)) (zp_lt.mpr (nx _ 1 (fun r hr => by rw [zup_R hr]; exact k1 r hr) (fun k h1 h2 => by rw [zup_k h2]; exact k2 k h1 h2) (by dsimp only; rw [zup_k (by decide), k52]; omega) hjt (Or.inr ⟨rfl, ho.mpr (by omega), zup_s⟩)))
    · refine zp_neg g (zp_some.mpr (zor2_r.mpr (exit (Or.inr ?_))))
      by_cases g2 : t = 0
      · subst g2
        rw [c4] at g
        exact absurd (show (0 : Int) < 5 by decide) g
      · refine ⟨by omega, fun z => ?_⟩
        rcases z with z | z
        · exact c2 (by omega) z
        · omega
  · refine zp_pos (by omega) (zp_neg (by omega) ?_)
    unfold F_X12_looksAlone_79
    refine zp_neg (by omega) (zp_lt.mpr (nx _ 1 (fun r hr => zup_R hr) (fun k h1 h2 => zup_k h2) (by dsimp only; rw [zup_k (by decide)]; exact c4) (fun _ z => z (Or.inl c3)) (Or.inr ⟨rfl, cOut_mn H (by omega) c3, zup_s⟩)))
end EXPS
