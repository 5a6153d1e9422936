/-! explain: the reference's answer to one question -/
section EXPT
variable {S Z : ZS} {wy ro sp ey seen on off : Nat → Int} {len a b x its x2 : Int} {t u e T n7 : Nat}
theorem lp_looks1 (H : DrOK wy ro sp (cwe a b) (cbe a b)) (C : CoOK (cco ey a b) (cma a b)) (e4 : S.2 1 4 = wy) (e6 : S.2 1 6 = ro) (e7' : S.2 1 7 = sp) (e10 : S.2 1 10 = ey) (e7 : wy 7 = (n7 : Int)) (h7 : n7 ≤ 19) (hey : ∀ e, e < n7 → 1 ≤ ey e ∧ ey e ≤ 300)
    (K : ∀ r : Nat, (r : Int) < wy 6 → S.2 1 47 r = cwe a b r ∧ S.2 1 48 r = cbe a b r) (KC : ∀ c : Nat, c < cma a b → S.2 1 49 c = cco ey a b c) (hm : S.1 1 51 = (cma a b : Int))
    (b0 : 40 ≤ wy 0 ∧ wy 0 ≤ 300) (hl : 10 ≤ len ∧ len ≤ 60) (hro : 1 ≤ ro 0 ∧ ro 0 ≤ 300) :
    zp (F_X12_looksAlone (cle a b len) S) (fun V => FRx S V ∧ ∃ T, cLk wy ro sp ey a b len T ∧ ∀ e, e < n7 → V.2 1 50 e = fOn wy ro sp ey a b len e T ∧ V.2 1 51 e = fOf wy ro sp ey a b len e T) := by
  have f0 : zmul 10 (S.2 1 6 0) = 10 * ro 0 := by rw [e6, zmul_ok (by omega) (by omega)]
  unfold F_X12_looksAlone F_X12_looksAlone_20
  refine zp_lt.mpr (zp_lt.mpr ?_)
  dsimp only
  rw [f0]
  refine zp_w (fun d (s : Int × ZS) => ∃ i : Nat, d = n7 - i ∧ i ≤ n7 ∧ s.1 = (i : Int) ∧ s.2.1 = zup (zup S.1 1 52 (10 * ro 0)) 1 53 0 ∧ (∀ r, r ≠ 1 → s.2.2 r = S.2 r) ∧ (∀ o, o ≠ 50 → o ≠ 51 → s.2.2 1 o = S.2 1 o) ∧ ∀ e, e < i → s.2.2 1 50 e = -1 ∧ s.2.2 1 51 e = -1) ?_ n7 _ ⟨0, rfl, by omega, rfl, rfl, fun _ _ => rfl, fun _ _ _ => rfl, fun e he => absurd he (by omega)⟩
  rintro d ⟨y, I, A⟩ ⟨i, rfl, hi, rfl, hI, hA, hA1, hd⟩
  dsimp only at hI hA hA1 hd ⊢
  have a47 : A 1 4 7 = (n7 : Int) := by rw [hA1 4 (by decide) (by decide), e4, e7]
  by_cases c : i = n7
  · subst c
    refine zp_neg (by omega) (zp_in.mpr (zp_mono (lp_look55 (S := (I, A)) (n7 := i) H C ((hA1 4 (by decide) (by decide)).trans e4) ((hA1 6 (by decide) (by decide)).trans e6) ((hA1 7 (by decide) (by decide)).trans e7') ((hA1 10 (by decide) (by decide)).trans e10) e7 h7 hey
      (fun r hr => by dsimp only; rw [hA1 47 (by decide) (by decide), hA1 48 (by decide) (by decide)]; exact K r hr) (fun c hc => by dsimp only; rw [hA1 49 (by decide) (by decide)]; exact KC c hc) (by dsimp only; rw [hI, zup_k (by decide), zup_k (by decide)]; exact hm) b0 hl hro (by dsimp only; rw [hI, zup_k (by decide), zup_s]) (by dsimp only; rw [hI, zup_s]) hd) (fun V hV => zor2_r.mpr ⟨FRx_t ⟨fun r hr => ?_, fun k h1 h2 h3 => ?_, hA, fun o _ _ _ h4 h5 => hA1 o h4 h5⟩ hV.1, hV.2⟩)))
    · dsimp only; rw [hI, zup_R hr, zup_R hr]
    · dsimp only; rw [hI, zup_k h3, zup_k h2]
  · refine zp_pos (by omega) (zp_pos (by omega) (zp_lt.mpr (zp_lt.mpr (zp_some.mpr (zor2_l.mpr ⟨n7 - (i + 1), by omega, i + 1, rfl, by omega, ?_, hI, fun r hr => ?_, fun o h1 h2 => ?_, fun e he => ?_⟩)))))
    · dsimp only
      rw [zadd_ok (by omega) (by omega)]
      rfl
    · dsimp only; rw [zuA_R hr, zuA_R hr]; exact hA r hr
    · dsimp only; rw [zuA_o h2, zuA_o h1]; exact hA1 o h1 h2
    · dsimp only
      rw [zuA_o (show (50 : Nat) ≠ 51 by decide), zuA_s, zuA_s, zset_ap, zset_ap, zuA_o (show (51 : Nat) ≠ 50 by decide), Int.toNat_natCast]
      by_cases g : e = i
      · rw [if_pos g, if_pos g]; exact ⟨rfl, rfl⟩
      · rw [if_neg g, if_neg g]; exact hd e (by omega)
def eyGood (a b : Int) (A : ZA) (e : Nat) : Prop := (cBl a b e ∧ -1 = A 1 44 e ∧ -1 = A 1 45 e) ∨ (¬ cBl a b e ∧ A 1 50 e = A 1 44 e ∧ A 1 51 e = A 1 45 e)
theorem lp_ex84 (e7 : S.2 1 4 7 = (n7 : Int)) (h7 : n7 ≤ 19) :
    zp (F_X12_explains_84 a b 0 S) (fun v => v.2 = S ∧ ((v.1 = 1 ∧ ∀ e : Nat, e < n7 → S.2 1 38 e ≠ 0 → eyGood a b S.2 e) ∨ (v.1 = 0 ∧ ∃ e : Nat, e < n7 ∧ S.2 1 38 e ≠ 0 ∧ ¬ eyGood a b S.2 e))) := by
  unfold F_X12_explains_84
  refine zp_w (fun d (s : Int) => ∃ i : Nat, d = n7 - i ∧ i ≤ n7 ∧ s = (i : Int) ∧ ∀ e : Nat, e < i → S.2 1 38 e ≠ 0 → eyGood a b S.2 e) ?_ n7 _ ⟨0, rfl, by omega, rfl, fun e he => absurd he (by omega)⟩
  rintro d s ⟨i, rfl, hi, rfl, hd⟩
  by_cases c : i = n7
  · subst c
    exact zp_neg (by omega) (zp_some.mpr (zor2_r.mpr ⟨rfl, Or.inl ⟨rfl, hd⟩⟩))
  · refine zp_pos (by omega) (zp_pos (by omega) ?_)
    have hi' : i < n7 := by omega
    have fi : zadd (i : Int) 1 = ((i + 1 : Nat) : Int) := by rw [zadd_ok (by omega) (by omega)]; rfl
    have f3 : zadd 30 (i : Int) = 30 + (i : Int) := zadd_ok (by omega) (by omega)
    have ok : (S.2 1 38 i ≠ 0 → eyGood a b S.2 i) → ∃ m, m < n7 - i ∧ ∃ j : Nat, m = n7 - j ∧ j ≤ n7 ∧ ((i + 1 : Nat) : Int) = (j : Int) ∧ ∀ e : Nat, e < j → S.2 1 38 e ≠ 0 → eyGood a b S.2 e := by
      intro h
      refine ⟨n7 - (i + 1), by omega, i + 1, rfl, by omega, rfl, fun e he hs => ?_⟩
      by_cases g : e = i
      · rw [g] at hs ⊢; exact h hs
      · exact hd e (by omega) hs
    by_cases hs : S.2 1 38 i = 0
    · refine zp_pos (by rw [Int.toNat_natCast]; exact hs) (zp_some.mpr (zor2_l.mpr ?_))
      rw [fi]
      exact ok (fun z => absurd hs z)
    refine zp_neg (by rw [Int.toNat_natCast]; exact hs) ?_
    have bad : ¬ eyGood a b S.2 i → zor2 (fun s : Int => ∃ m, m < n7 - i ∧ ∃ j : Nat, m = n7 - j ∧ j ≤ n7 ∧ s = (j : Int) ∧ ∀ e : Nat, e < j → S.2 1 38 e ≠ 0 → eyGood a b S.2 e) (fun v : Int × ZS => v.2 = S ∧ ((v.1 = 1 ∧ ∀ e : Nat, e < n7 → S.2 1 38 e ≠ 0 → eyGood a b S.2 e) ∨ (v.1 = 0 ∧ ∃ e : Nat, e < n7 ∧ S.2 1 38 e ≠ 0 ∧ ¬ eyGood a b S.2 e))) (.inr (0, S)) := fun z => zor2_r.mpr ⟨rfl, Or.inr ⟨rfl, i, hi', hs, z⟩⟩
    have good : eyGood a b S.2 i → zor2 (fun s : Int => ∃ m, m < n7 - i ∧ ∃ j : Nat, m = n7 - j ∧ j ≤ n7 ∧ s = (j : Int) ∧ ∀ e : Nat, e < j → S.2 1 38 e ≠ 0 → eyGood a b S.2 e) (fun v : Int × ZS => v.2 = S ∧ ((v.1 = 1 ∧ ∀ e : Nat, e < n7 → S.2 1 38 e ≠ 0 → eyGood a b S.2 e) ∨ (v.1 = 0 ∧ ∃ e : Nat, e < n7 ∧ S.2 1 38 e ≠ 0 ∧ ¬ eyGood a b S.2 e))) (.inl (zadd (i : Int) 1)) := fun z => zor2_l.mpr (by rw [fi]; exact ok (fun _ => z))
    have hbl : cBl a b i ↔ (a = zadd 30 (i : Int) ∨ b = zadd 30 (i : Int)) := by rw [f3]; rfl
    unfold eyGood at bad good
    rw [hbl] at bad good
    clear ok hbl
    by_cases g1 : a = zadd 30 (i : Int)
    · refine zp_pos g1 (zp_pos (by omega) ?_)
      by_cases g2 : -1 = S.2 1 44 i
      · refine zp_pos (by rw [Int.toNat_natCast]; exact g2) ?_
        by_cases g3 : -1 = S.2 1 45 i
        · exact zp_pos (by rw [Int.toNat_natCast]; exact g3) (zp_some.mpr (good (Or.inl ⟨Or.inl g1, g2, g3⟩)))
        · exact zp_neg (by rw [Int.toNat_natCast]; exact g3) (zp_some.mpr (bad (fun z => z.elim (fun y => g3 y.2.2) (fun y => y.1 (Or.inl g1)))))
      · exact zp_neg (by rw [Int.toNat_natCast]; exact g2) (zp_some.mpr (bad (fun z => z.elim (fun y => g2 y.2.1) (fun y => y.1 (Or.inl g1)))))
    · refine zp_neg g1 ?_
      unfold F_X12_explains_124
      by_cases g0 : b = zadd 30 (i : Int)
      · refine zp_pos g0 (zp_pos (by omega) (zp_pos (by omega) ?_))
        by_cases g2 : -1 = S.2 1 44 i
        · refine zp_pos (by rw [Int.toNat_natCast]; exact g2) ?_
          by_cases g3 : -1 = S.2 1 45 i
          · exact zp_pos (by rw [Int.toNat_natCast]; exact g3) (zp_some.mpr (good (Or.inl ⟨Or.inr g0, g2, g3⟩)))
          · exact zp_neg (by rw [Int.toNat_natCast]; exact g3) (zp_some.mpr (bad (fun z => z.elim (fun y => g3 y.2.2) (fun y => y.1 (Or.inr g0)))))
        · exact zp_neg (by rw [Int.toNat_natCast]; exact g2) (zp_some.mpr (bad (fun z => z.elim (fun y => g2 y.2.1) (fun y => y.1 (Or.inr g0)))))
      · refine zp_neg g0 ?_
        unfold F_X12_explains_143
        refine zp_pos (by omega) ?_
        have nb : ¬ (a = zadd 30 (i : Int) ∨ b = zadd 30 (i : Int)) := fun z => z.elim g1 g0
        by_cases g2 : S.2 1 50 i = S.2 1 44 i
        · refine zp_pos (by rw [Int.toNat_natCast]; exact g2) ?_
          by_cases g3 : S.2 1 51 i = S.2 1 45 i
          · exact zp_pos (by rw [Int.toNat_natCast]; exact g3) (zp_some.mpr (good (Or.inr ⟨nb, g2, g3⟩)))
          · exact zp_neg (by rw [Int.toNat_natCast]; exact g3) (zp_some.mpr (bad (fun z => z.elim (fun y => nb y.1) (fun y => g3 y.2.2))))
        · exact zp_neg (by rw [Int.toNat_natCast]; exact g2) (zp_some.mpr (bad (fun z => z.elim (fun y => nb y.1) (fun y => g2 y.2.1))))
/-- causes asked together: none, one, or two in order -/
def cPr (a b : Int) : Prop := (a = -1 ∧ b = -1) ∨ ((0 ≤ a ∧ a < 69) ∧ (b = -1 ∨ (a < b ∧ b < 69)))
theorem cOk_of {wy ey : Nat → Int} {x : Int} (hx : x < 69) (hw : (0 ≤ wy 7 ∧ wy 7 ≤ 19)) (hey : ∀ e : Nat, (e : Int) < wy 7 → 1 ≤ ey e ∧ ey e ≤ wy 0) (b0 : wy 0 ≤ 300) (h : 50 ≤ x → x - 50 < wy 7) : cOk ey x := by
  intro h50
  have := hey (x - 50).toNat (by have := h h50; omega)
  omega
theorem lp_expl12 (hWo : WayOK (S.2 1 4) (S.2 1 6) (S.2 1 7) (S.2 1 10)) (h6 : 0 < S.2 1 4 6) (OB : ∀ e : Nat, (e : Int) < S.2 1 4 7 → S.2 1 38 e ≠ 0 → ObsOK (S.2 1 44 e) (S.2 1 45 e)) (hl : 10 ≤ len ∧ len ≤ 60) (hp : cPr a b) (ha : 50 ≤ a → a - 50 < S.2 1 4 7) (hb : 50 ≤ b → b - 50 < S.2 1 4 7) :
    zp (F_X12_explains a b len S) (fun v => FRx S v.2 ∧ ((v.1 = 1 ∧ Expl (S.2 1 4) (S.2 1 6) (S.2 1 7) (S.2 1 10) (S.2 1 38) (S.2 1 44) (S.2 1 45) len a b) ∨ (v.1 = 0 ∧ ¬ Expl (S.2 1 4) (S.2 1 6) (S.2 1 7) (S.2 1 10) (S.2 1 38) (S.2 1 44) (S.2 1 45) len a b))) := by
  obtain ⟨⟨g1, g2⟩, ⟨g3, g4⟩, ⟨g5, g6⟩, g7, g8, g9, g10, g11, g12⟩ := id hWo
  have H0 : DrOK (S.2 1 4) (S.2 1 6) (S.2 1 7) (fun _ => 0) (fun _ => 0) := ⟨⟨g3, g4⟩, g8, fun r hr => by have := g9 r hr; exact ⟨by omega, by omega, (show (0 : Int) ≤ 0 ∧ (0 : Int) ≤ 1000 from ⟨by decide, by decide⟩), Or.inl rfl⟩⟩
  have H : DrOK (S.2 1 4) (S.2 1 6) (S.2 1 7) (cwe a b) (cbe a b) := DrOK_c H0
  have hroo : 1 ≤ S.2 1 6 0 ∧ S.2 1 6 0 ≤ 300 := by have := g9 0 (by omega); omega
  have hoa : cOk (S.2 1 10) a := cOk_of (wy := S.2 1 4) (by rcases hp with z | z <;> omega) ⟨g5, g6⟩ g10 g2 ha
  have hob : cOk (S.2 1 10) b := cOk_of (wy := S.2 1 4) (by rcases hp with z | z <;> omega) ⟨g5, g6⟩ g10 g2 hb
  have C : CoOK (cco (S.2 1 10) a b) (cma a b) := CoOK_c hoa hob
  obtain ⟨n7, e7⟩ : ∃ n7 : Nat, S.2 1 4 7 = (n7 : Int) := ⟨_, (Int.toNat_of_nonneg g5).symm⟩
  have h7 : n7 ≤ 19 := by omega
  have hey : ∀ e, e < n7 → 1 ≤ S.2 1 10 e ∧ S.2 1 10 e ≤ 300 := fun e he => by have := g10 e (by omega); omega
  have hp1 : -1 ≤ a ∧ a < 69 ∧ -1 ≤ b ∧ b < 69 := by rcases hp with z | z <;> omega
  -- the last of it
  have last : ∀ X : ZS, FRx S X → TkF (S.2 1 10) a b (X.2 1 47) (X.2 1 48) (X.2 1 49) (X.1 1 51) → zp (F_X12_explains_57 a b len X) (fun v => FRx S v.2 ∧ ((v.1 = 1 ∧ Expl (S.2 1 4) (S.2 1 6) (S.2 1 7) (S.2 1 10) (S.2 1 38) (S.2 1 44) (S.2 1 45) len a b) ∨ (v.1 = 0 ∧ ¬ Expl (S.2 1 4) (S.2 1 6) (S.2 1 7) (S.2 1 10) (S.2 1 38) (S.2 1 44) (S.2 1 45) len a b))) := by
    intro X hF hK
    have kk : ∀ o, o ≠ 47 → o ≠ 48 → o ≠ 49 → o ≠ 50 → o ≠ 51 → X.2 1 o = S.2 1 o := hF.2.2.2
    have x4 := kk 4 (by decide) (by decide) (by decide) (by decide) (by decide)
    have key : zp ((F_X12_looksAlone (cle a b len) X).bind fun S17 => F_X12_explains_84 a b 0 S17) (fun v => FRx S v.2 ∧ ((v.1 = 1 ∧ Expl (S.2 1 4) (S.2 1 6) (S.2 1 7) (S.2 1 10) (S.2 1 38) (S.2 1 44) (S.2 1 45) len a b) ∨ (v.1 = 0 ∧ ¬ Expl (S.2 1 4) (S.2 1 6) (S.2 1 7) (S.2 1 10) (S.2 1 38) (S.2 1 44) (S.2 1 45) len a b))) := by
      refine zp_bind.mpr (zp_mono (lp_looks1 (S := X) (wy := S.2 1 4) (ro := S.2 1 6) (sp := S.2 1 7) (ey := S.2 1 10) (a := a) (b := b) (len := len) (n7 := n7) H C x4 (kk 6 (by decide) (by decide) (by decide) (by decide) (by decide)) (kk 7 (by decide) (by decide) (by decide) (by decide) (by decide)) (kk 10 (by decide) (by decide) (by decide) (by decide) (by decide)) e7 h7 hey (fun r hr => hK.1 r (by omega)) hK.2.2 hK.2.1 ⟨g1, g2⟩ hl hroo) (fun V hV => ?_))
      obtain ⟨v1, T, ⟨v2, v3, v4⟩, v5⟩ := hV
      have hSV := FRx_t hF v1
      have kv : ∀ o, o ≠ 47 → o ≠ 48 → o ≠ 49 → o ≠ 50 → o ≠ 51 → V.2 1 o = S.2 1 o := hSV.2.2.2
      have c4 := kv 4 (by decide) (by decide) (by decide) (by decide) (by decide)
      have c38 := kv 38 (by decide) (by decide) (by decide) (by decide) (by decide)
      have c44 := kv 44 (by decide) (by decide) (by decide) (by decide) (by decide)
      have c45 := kv 45 (by decide) (by decide) (by decide) (by decide) (by decide)
      have hT := Expl_T (seen := S.2 1 38) (on := S.2 1 44) (off := S.2 1 45) H OB v2 v3 v4
      have hG : ∀ e, e < n7 → (eyGood a b V.2 e ↔ ((cBl a b e ∧ -1 = S.2 1 44 e ∧ -1 = S.2 1 45 e) ∨ (¬ cBl a b e ∧ fOn (S.2 1 4) (S.2 1 6) (S.2 1 7) (S.2 1 10) a b len e T = S.2 1 44 e ∧ fOf (S.2 1 4) (S.2 1 6) (S.2 1 7) (S.2 1 10) a b len e T = S.2 1 45 e))) := by
        intro e he
        unfold eyGood
        rw [c44, c45, (v5 e he).1, (v5 e he).2]
      refine zp_mono (lp_ex84 (S := V) (n7 := n7) (by rw [c4]; exact e7) h7) (fun v hv => ?_)
      obtain ⟨w1, w2⟩ := hv
      refine ⟨by rw [w1]; exact hSV, ?_⟩
      rw [c38] at w2
      rcases w2 with ⟨w2, w3⟩ | ⟨w2, e, w3, w4, w5⟩
      · refine Or.inl ⟨w2, hT.mpr (fun e he hs => ?_)⟩
        rw [e7] at he
        exact (hG e (by omega)).mp (w3 e (by omega) hs)
      · refine Or.inr ⟨w2, fun z => w5 ((hG e w3).mpr (hT.mp z e (by rw [e7]; omega) w4))⟩
    have f1 : zadd len 10 = len + 10 := zadd_ok (by omega) (by omega)
    have f0 : zadd len 0 = len := by rw [zadd_ok (by omega) (by omega)]; omega
    unfold F_X12_explains_57
    rw [f1, f0]
    unfold cle at key
    by_cases q1 : a = 49
    · refine zp_pos q1 ?_
      rw [if_pos (Or.inl q1)] at key
      exact key
    · refine zp_neg q1 ?_
      by_cases q2 : b = 49
      · refine zp_pos q2 ?_
        rw [if_pos (Or.inr q2)] at key
        exact key
      · refine zp_neg q2 ?_
        rw [if_neg (fun z => z.elim q1 q2)] at key
        exact key
  unfold F_X12_explains F_X12_explains_3
  refine zp_w (fun d (s : Int × ZS) => ∃ i : Nat, d = 10 - i ∧ i ≤ 10 ∧ s.1 = (i : Int) ∧ FRx S s.2 ∧ ∀ r, r < i → s.2.2 1 47 r = 0 ∧ s.2.2 1 48 r = 0) ?_ 10 _ ⟨0, rfl, by omega, rfl, FRx_r S, fun r hr => absurd hr (by omega)⟩
  rintro d ⟨y, I, A⟩ ⟨i, rfl, hi, rfl, hF, hd⟩
  dsimp only at hF hd ⊢
  by_cases c : i = 10
  · subst c
    refine zp_neg (by omega) (zp_lt.mpr ?_)
    have hF1 : FRx S (zup I 1 51 0, A) := FRx_t hF ⟨fun r hr => zup_R hr, fun k h1 h2 h3 => zup_k h1, fun _ _ => rfl, fun _ _ _ _ _ _ => rfl⟩
    have hK0 : TkF (S.2 1 10) (-1) (-1) (A 1 47) (A 1 48) (A 1 49) (zup I 1 51 0 1 51) := TkF_0 hd zup_s
    have e10 : A 1 10 = S.2 1 10 := hF.2.2.2 10 (by decide) (by decide) (by decide) (by decide) (by decide)
    have hey' : ∀ x : Int, 0 ≤ x → x < 69 → (50 ≤ x → x - 50 < S.2 1 4 7) → 50 ≤ x → 1 ≤ S.2 1 10 (x - 50).toNat ∧ S.2 1 10 (x - 50).toNat ≤ 300 := fun x h1 h2 h3 h4 => hey _ (by have := h3 h4; omega)
    have two : ∀ X : ZS, FRx S X → TkF (S.2 1 10) a (-1) (X.2 1 47) (X.2 1 48) (X.2 1 49) (X.1 1 51) → zp (F_X12_explains_47 a b len X) (fun v => FRx S v.2 ∧ ((v.1 = 1 ∧ Expl (S.2 1 4) (S.2 1 6) (S.2 1 7) (S.2 1 10) (S.2 1 38) (S.2 1 44) (S.2 1 45) len a b) ∨ (v.1 = 0 ∧ ¬ Expl (S.2 1 4) (S.2 1 6) (S.2 1 7) (S.2 1 10) (S.2 1 38) (S.2 1 44) (S.2 1 45) len a b))) := by
      intro X hX hK
      unfold F_X12_explains_47
      by_cases q : b = -1
      · refine zp_pos q (last X hX ?_)
        rw [q]
        exact hK
      · have x10 : X.2 1 10 = S.2 1 10 := hX.2.2.2 10 (by decide) (by decide) (by decide) (by decide) (by decide)
        refine zp_neg q (zp_bind.mpr (zp_mono (lp_takes12 (S := X) (a := a) (x := b) (by omega) (by rcases hp with z | z <;> omega) (fun h => by rw [x10]; exact hey' b (by omega) (by omega) hb h) (by rw [x10]; exact hK)) (fun V hV => last V (FRx_t hX hV.1) ?_)))
        have := hV.2
        rwa [x10] at this
    by_cases q : a = -1
    · refine zp_pos q (zp_in.mpr (zp_mono (two _ hF1 ?_) (fun v hv => zor2_r.mpr hv)))
      rw [q]
      exact hK0
    · refine zp_neg q (zp_bind.mpr (zp_mono (lp_takes12 (S := (zup I 1 51 0, A)) (a := -1) (x := a) (by omega) (by omega) (fun h => by dsimp only; rw [e10]; exact hey' a (by omega) (by omega) ha h) (by dsimp only; rw [e10]; exact hK0)) (fun V hV => zp_in.mpr (zp_mono (two V (FRx_t hF1 hV.1) ?_) (fun v hv => zor2_r.mpr hv)))))
      have := hV.2
      dsimp only at this
      rw [e10] at this
      exact TkF_sw this
  · refine zp_pos (by omega) (zp_pos (by omega) (zp_lt.mpr (zp_lt.mpr (zp_some.mpr (zor2_l.mpr ⟨10 - (i + 1), by omega, i + 1, rfl, by omega, ?_, FRx_t hF ⟨fun _ _ => rfl, fun _ _ _ _ => rfl, fun r hr => ?_, fun o h1 h2 _ _ _ => ?_⟩, fun r hr => ?_⟩)))))
    · dsimp only
      rw [zadd_ok (by omega) (by omega)]
      rfl
    · dsimp only; rw [zuA_R hr, zuA_R hr]
    · dsimp only; rw [zuA_o h2, zuA_o h1]
    · dsimp only
      rw [zuA_o (show (47 : Nat) ≠ 48 by decide), zuA_s, zuA_s, zset_ap, zset_ap, zuA_o (show (48 : Nat) ≠ 47 by decide), Int.toNat_natCast]
      by_cases g : r = i
      · rw [if_pos g, if_pos g]; exact ⟨rfl, rfl⟩
      · rw [if_neg g, if_neg g]; exact hd r (by omega)
end EXPT
