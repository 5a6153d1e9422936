/-! explain: the reference's question -/
def TkF (ey : Nat → Int) (a b : Int) (w be co : Nat → Int) (m : Int) : Prop := (∀ r : Nat, r < 10 → w r = cwe a b r ∧ be r = cbe a b r) ∧ m = (cma a b : Int) ∧ ∀ c : Nat, c < cma a b → co c = cco ey a b c
def FRx (S V : ZS) : Prop := (∀ r, r ≠ 1 → V.1 r = S.1 r) ∧ (∀ k, k ≠ 51 → k ≠ 52 → k ≠ 53 → V.1 1 k = S.1 1 k) ∧ (∀ r, r ≠ 1 → V.2 r = S.2 r) ∧ (∀ o, o ≠ 47 → o ≠ 48 → o ≠ 49 → o ≠ 50 → o ≠ 51 → V.2 1 o = S.2 1 o)
theorem FRx_r (S : ZS) : FRx S S := ⟨fun _ _ => rfl, fun _ _ _ _ => rfl, fun _ _ => rfl, fun _ _ _ _ _ _ => rfl⟩
theorem FRx_t {S V U : ZS} (h : FRx S V) (k : FRx V U) : FRx S U := ⟨fun r hr => (k.1 r hr).trans (h.1 r hr), fun c h1 h2 h3 => (k.2.1 c h1 h2 h3).trans (h.2.1 c h1 h2 h3), fun r hr => (k.2.2.1 r hr).trans (h.2.2.1 r hr), fun o h1 h2 h3 h4 h5 => (k.2.2.2 o h1 h2 h3 h4 h5).trans (h.2.2.2 o h1 h2 h3 h4 h5)⟩
section TKF
variable {ey w be co w' be' co' : Nat → Int} {a b m m' : Int}
theorem TkF_0 (h : ∀ r : Nat, r < 10 → w r = 0 ∧ be r = 0) (hm : m = 0) : TkF ey (-1) (-1) w be co m := by
  have e : cma (-1) (-1) = 0 := rfl
  refine ⟨fun r hr => ?_, by rw [hm, e]; rfl, fun c hc => absurd hc (by rw [e]; omega)⟩
  rw [(h r hr).1, (h r hr).2]
  unfold cwe cbe
  refine ⟨?_, ?_⟩
  · rw [if_neg (by omega), if_neg (by omega)]
  · rw [if_neg (by omega)]
theorem TkF_sw (h : TkF ey (-1) a w be co m) : TkF ey a (-1) w be co m := by
  have e : cma a (-1) = cma (-1) a := by unfold cma; omega
  obtain ⟨h1, h2, h3⟩ := h
  refine ⟨fun r hr => ?_, by rw [e]; exact h2, fun c hc => ?_⟩
  · rw [(h1 r hr).1, (h1 r hr).2]
    unfold cwe cbe
    refine ⟨?_, ?_⟩ <;> (repeat' split) <;> first | rfl | (exfalso; omega)
  · rw [e] at hc
    rw [h3 c hc]
    unfold cma at hc
    rw [if_neg (show ¬ 50 ≤ (-1 : Int) by omega)] at hc
    split at hc
    · rename_i z
      unfold cco
      rw [if_neg (fun z => absurd z.1 (by omega)), if_pos ⟨z, by omega⟩]
    · omega
theorem TkF_w (h : TkF ey a (-1) w be co m) (hab : a < b) (hb : 0 ≤ b ∧ b < 10) (hw : ∀ r : Nat, r < 10 → w' r = if (r : Int) = b then max (w r) 200 else w r) : TkF ey a b w' be co m := by
  obtain ⟨h1, h2, h3⟩ := h
  refine ⟨fun r hr => ?_, by rw [cma_b (by omega)]; exact h2, fun c hc => ?_⟩
  · rw [hw r hr, (h1 r hr).1, (h1 r hr).2]
    unfold cwe cbe
    refine ⟨?_, ?_⟩ <;> (repeat' split) <;> omega
  · rw [cma_b (by omega)] at hc
    rw [h3 c hc]
    unfold cma at hc
    rw [if_neg (show ¬ 50 ≤ a by omega), if_neg (show ¬ 50 ≤ (-1 : Int) by omega)] at hc
    omega
theorem TkF_h (h : TkF ey a (-1) w be co m) (hab : a < b) (hb : 10 ≤ b ∧ b < 20) (hw : ∀ r : Nat, r < 10 → w' r = if (r : Int) = b - 10 then 500 else w r) : TkF ey a b w' be co m := by
  obtain ⟨h1, h2, h3⟩ := h
  refine ⟨fun r hr => ?_, by rw [cma_b (by omega)]; exact h2, fun c hc => ?_⟩
  · rw [hw r hr, (h1 r hr).1, (h1 r hr).2]
    unfold cwe cbe
    refine ⟨?_, ?_⟩ <;> (repeat' split) <;> omega
  · rw [cma_b (by omega)] at hc
    rw [h3 c hc]
    unfold cma at hc
    rw [if_neg (show ¬ 50 ≤ a by omega), if_neg (show ¬ 50 ≤ (-1 : Int) by omega)] at hc
    omega
theorem TkF_b (h : TkF ey a (-1) w be co m) (hab : a < b) (hb : 20 ≤ b ∧ b < 30) (hw : ∀ r : Nat, r < 10 → be' r = if (r : Int) = b - 20 then 3 else be r) : TkF ey a b w be' co m := by
  obtain ⟨h1, h2, h3⟩ := h
  refine ⟨fun r hr => ?_, by rw [cma_b (by omega)]; exact h2, fun c hc => ?_⟩
  · rw [hw r hr, (h1 r hr).1, (h1 r hr).2]
    unfold cwe cbe
    refine ⟨?_, ?_⟩ <;> (repeat' split) <;> omega
  · rw [cma_b (by omega)] at hc
    rw [h3 c hc]
    unfold cma at hc
    rw [if_neg (show ¬ 50 ≤ a by omega), if_neg (show ¬ 50 ≤ (-1 : Int) by omega)] at hc
    omega
theorem TkF_n (h : TkF ey a (-1) w be co m) (hab : a < b) (hb : 30 ≤ b ∧ b < 50) : TkF ey a b w be co m := by
  obtain ⟨h1, h2, h3⟩ := h
  refine ⟨fun r hr => ?_, by rw [cma_b (by omega)]; exact h2, fun c hc => ?_⟩
  · rw [(h1 r hr).1, (h1 r hr).2]
    unfold cwe cbe
    refine ⟨?_, ?_⟩ <;> (repeat' split) <;> omega
  · rw [cma_b (by omega)] at hc
    rw [h3 c hc]
    unfold cma at hc
    rw [if_neg (show ¬ 50 ≤ a by omega), if_neg (show ¬ 50 ≤ (-1 : Int) by omega)] at hc
    omega
theorem TkF_c (h : TkF ey a (-1) w be co m) (hab : a < b) (hb : 50 ≤ b) (hm : m' = m + 1) (hw : ∀ c : Nat, c < 3 → co' c = if (c : Int) = m then ey (b - 50).toNat + 2 else co c) : TkF ey a b w be co' m' := by
  obtain ⟨h1, h2, h3⟩ := h
  have e : cma a b = cma a (-1) + 1 := by unfold cma; rw [if_pos hb, if_neg (show ¬ 50 ≤ (-1 : Int) by omega)]
  have e2 : cma a (-1) ≤ 1 := by unfold cma; rw [if_neg (show ¬ 50 ≤ (-1 : Int) by omega)]; split <;> omega
  refine ⟨fun r hr => ?_, by rw [hm, h2, e]; rfl, fun c hc => ?_⟩
  · rw [(h1 r hr).1, (h1 r hr).2]
    unfold cwe cbe
    refine ⟨?_, ?_⟩ <;> (repeat' split) <;> omega
  · rw [e] at hc
    rw [hw c (by omega)]
    by_cases g : (c : Int) = m
    · rw [if_pos g]
      unfold cco
      rw [if_neg]
      intro z
      unfold cma at h2
      rw [if_pos z.1] at h2
      omega
    · rw [if_neg g, h3 c (by omega)]
      unfold cco
      have hc1 : c < cma a (-1) := by omega
      unfold cma at hc1
      rw [if_neg (show ¬ 50 ≤ (-1 : Int) by omega)] at hc1
      split at hc1
      · rename_i z
        rw [if_pos ⟨z, by omega⟩, if_pos ⟨z, by omega⟩]
      · omega
theorem TkF_m (h : TkF ey a b w be co m) : 0 ≤ m ∧ m ≤ 2 := by
  rw [h.2.1]
  unfold cma
  split <;> split <;> omega
theorem TkF_m1 (h : TkF ey a (-1) w be co m) : 0 ≤ m ∧ m ≤ 1 := by
  rw [h.2.1]
  unfold cma
  rw [if_neg (show ¬ 50 ≤ (-1 : Int) by omega)]
  split <;> omega
end TKF
section EXPR
variable {S Z : ZS} {wy ro sp ey seen on off : Nat → Int} {len a b x its x2 : Int} {t u e T n7 : Nat}
theorem lp_takes12 (hx : 0 ≤ x ∧ x < 69) (hab : a < x) (he : 50 ≤ x → 1 ≤ S.2 1 10 (x - 50).toNat ∧ S.2 1 10 (x - 50).toNat ≤ 300) (h : TkF (S.2 1 10) a (-1) (S.2 1 47) (S.2 1 48) (S.2 1 49) (S.1 1 51)) :
    zp (F_X12_takesCause x S) (fun V => FRx S V ∧ TkF (S.2 1 10) a x (V.2 1 47) (V.2 1 48) (V.2 1 49) (V.1 1 51)) := by
  have hm := TkF_m1 h
  have f1 : 10 ≤ x → zsub x 10 = x - 10 := fun z => zsub_ok (by omega) (by omega)
  have f2 : 10 ≤ x → zsub x 20 = x - 20 := fun z => zsub_ok (by omega) (by omega)
  have f3 : 10 ≤ x → zsub x 50 = x - 50 := fun z => zsub_ok (by omega) (by omega)
  unfold F_X12_takesCause
  by_cases c1 : x < 10
  · refine zp_pos c1 (zp_pos ⟨hx.1, c1⟩ ?_)
    by_cases c2 : 200 < S.2 1 47 x.toNat
    · refine zp_pos c2 (zp_lt.mpr (zp_some.mpr ⟨⟨fun _ _ => rfl, fun _ _ _ _ => rfl, fun r hr => ?_, fun o h1 h2 h3 h4 h5 => ?_⟩, ?_⟩))
      · exact zuA_R hr
      · exact zuA_o h1
      · dsimp only
        rw [zuA_s, zuA_o (by decide), zuA_o (by decide)]
        refine TkF_w h hab ⟨hx.1, c1⟩ (fun r hr => ?_)
        rw [zset_ap]
        by_cases g : r = x.toNat
        · rw [if_pos g, if_pos (by omega), g]; omega
        · rw [if_neg g, if_neg (by omega)]
    · refine zp_neg c2 (zp_lt.mpr (zp_some.mpr ⟨⟨fun _ _ => rfl, fun _ _ _ _ => rfl, fun r hr => ?_, fun o h1 h2 h3 h4 h5 => ?_⟩, ?_⟩))
      · exact zuA_R hr
      · exact zuA_o h1
      · dsimp only
        rw [zuA_s, zuA_o (by decide), zuA_o (by decide)]
        refine TkF_w h hab ⟨hx.1, c1⟩ (fun r hr => ?_)
        rw [zset_ap]
        by_cases g : r = x.toNat
        · rw [if_pos g, if_pos (by omega), g]; omega
        · rw [if_neg g, if_neg (by omega)]
  · refine zp_neg c1 ?_
    rw [f1 (by omega), f2 (by omega), f3 (by omega)]
    by_cases c2 : x < 20
    · refine zp_pos c2 (zp_pos (by omega) (zp_lt.mpr (zp_some.mpr ⟨⟨fun _ _ => rfl, fun _ _ _ _ => rfl, fun r hr => ?_, fun o h1 h2 h3 h4 h5 => ?_⟩, ?_⟩)))
      · exact zuA_R hr
      · exact zuA_o h1
      · dsimp only
        rw [zuA_s, zuA_o (by decide), zuA_o (by decide)]
        refine TkF_h h hab ⟨by omega, c2⟩ (fun r hr => ?_)
        rw [zset_ap]
        by_cases g : r = (x - 10).toNat
        · rw [if_pos g, if_pos (by omega)]
        · rw [if_neg g, if_neg (by omega)]
    · refine zp_neg c2 ?_
      by_cases c3 : x < 30
      · refine zp_pos c3 (zp_pos (by omega) (zp_lt.mpr (zp_some.mpr ⟨⟨fun _ _ => rfl, fun _ _ _ _ => rfl, fun r hr => ?_, fun o h1 h2 h3 h4 h5 => ?_⟩, ?_⟩)))
        · exact zuA_R hr
        · exact zuA_o h2
        · dsimp only
          rw [zuA_s, zuA_o (by decide), zuA_o (by decide)]
          refine TkF_b h hab ⟨by omega, c3⟩ (fun r hr => ?_)
          rw [zset_ap]
          by_cases g : r = (x - 20).toNat
          · rw [if_pos g, if_pos (by omega)]
          · rw [if_neg g, if_neg (by omega)]
      · refine zp_neg c3 ?_
        by_cases c4 : x < 50
        · exact zp_pos c4 (zp_some.mpr ⟨FRx_r S, TkF_n h hab ⟨by omega, c4⟩⟩)
        · have he' := he (by omega)
          have f4 : zadd (S.2 1 10 (x - 50).toNat) 2 = S.2 1 10 (x - 50).toNat + 2 := zadd_ok (by omega) (by omega)
          have f5 : zadd (S.1 1 51) 1 = S.1 1 51 + 1 := zadd_ok (by omega) (by omega)
          refine zp_neg c4 (zp_pos (by omega) (zp_pos (by omega) (zp_lt.mpr (zp_lt.mpr (zp_some.mpr ⟨⟨fun r hr => ?_, fun k h1 h2 h3 => ?_, fun r hr => ?_, fun o h1 h2 h3 h4 h5 => ?_⟩, ?_⟩)))))
          · exact zup_R hr
          · exact zup_k h1
          · exact zuA_R hr
          · exact zuA_o h3
          · dsimp only
            rw [zuA_s, zuA_o (by decide), zuA_o (by decide), zup_s, f4, f5]
            refine TkF_c h hab (by omega) rfl (fun c hc => ?_)
            rw [zset_ap]
            by_cases g : c = (S.1 1 51).toNat
            · rw [if_pos g, if_pos (by omega)]
            · rw [if_neg g, if_neg (by omega)]
theorem lp_look122 (e7 : wy 7 = (n7 : Int)) (h7 : n7 ≤ 19) (z7 : Z.2 1 4 7 = wy 7) (z10 : Z.2 1 10 = ey) (hey : ∀ e, e < n7 → 1 ≤ ey e ∧ ey e ≤ 300) (hi : 10 ≤ its ∧ its ≤ 70) (h52 : 0 ≤ Z.1 1 52 ∧ Z.1 1 52 ≤ 9000) (ht : t ≤ 120)
    (hv : ∀ e, e < n7 → (cVis wy ro sp ey a b len e (t + 1) ↔ (x2 = 0 ∧ Z.1 1 52 - 10 * its < 10 * ey e ∧ 10 * ey e ≤ Z.1 1 52))) (ha : ∀ e, e < n7 → Z.2 1 50 e = fOn wy ro sp ey a b len e t ∧ Z.2 1 51 e = fOf wy ro sp ey a b len e t) :
    zp (F_X12_looksAlone_122 its x2 ((t : Int) + 1) 0 Z) (fun r => ∃ A : ZA, r = .inl (x2, (t : Int) + 1 + 1, (Z.1, A)) ∧ (∀ r, r ≠ 1 → A r = Z.2 r) ∧ (∀ o, o ≠ 50 → o ≠ 51 → A 1 o = Z.2 1 o) ∧ ∀ e, e < n7 → A 1 50 e = fOn wy ro sp ey a b len e (t + 1) ∧ A 1 51 e = fOf wy ro sp ey a b len e (t + 1)) := by
  unfold F_X12_looksAlone_122
  refine zp_w (fun d (s : Int × ZS) => ∃ (i : Nat) (A : ZA), d = n7 - i ∧ i ≤ n7 ∧ s = ((i : Int), (Z.1, A)) ∧ (∀ r, r ≠ 1 → A r = Z.2 r) ∧ (∀ o, o ≠ 50 → o ≠ 51 → A 1 o = Z.2 1 o) ∧ (∀ e, e < i → A 1 50 e = fOn wy ro sp ey a b len e (t + 1) ∧ A 1 51 e = fOf wy ro sp ey a b len e (t + 1)) ∧
    ∀ e, i ≤ e → e < n7 → A 1 50 e = fOn wy ro sp ey a b len e t ∧ A 1 51 e = fOf wy ro sp ey a b len e t) ?_ n7 _ ⟨0, Z.2, rfl, by omega, rfl, fun _ _ => rfl, fun _ _ _ => rfl, fun e he => absurd he (by omega), fun e _ he => ha e he⟩
  rintro d s ⟨i, A, rfl, hi7, rfl, hA, hA1, hd, hr⟩
  have a47 : A 1 4 7 = (n7 : Int) := by rw [hA1 4 (by decide) (by decide), z7, e7]
  have a10 : A 1 10 = ey := by rw [hA1 10 (by decide) (by decide), z10]
  dsimp only
  by_cases c : i = n7
  · subst c
    refine zp_neg (by omega) (zp_some.mpr (zor2_r.mpr ⟨A, ?_, hA, hA1, hd⟩))
    rw [zadd_ok (by omega) (by omega)]
  · refine zp_pos (by omega) ?_
    obtain ⟨r1, r2⟩ := hr i (Nat.le_refl _) (by omega)
    obtain ⟨y1, y2⟩ := hey i (by omega)
    have hvi := hv i (by omega)
    have en : fOn wy ro sp ey a b len i (t + 1) = @ite Int (fOn wy ro sp ey a b len i t = -1 ∧ cVis wy ro sp ey a b len i (t + 1)) (Classical.propDecidable _) ((t : Int) + 1) (fOn wy ro sp ey a b len i t) := rfl
    have ef : fOf wy ro sp ey a b len i (t + 1) = @ite Int (¬ cVis wy ro sp ey a b len i (t + 1) ∧ fOn wy ro sp ey a b len i t ≠ -1 ∧ fOf wy ro sp ey a b len i t = -1) (Classical.propDecidable _) ((t : Int) + 1) (fOf wy ro sp ey a b len i t) := rfl
    have fi : zadd (i : Int) 1 = ((i + 1 : Nat) : Int) := by rw [zadd_ok (by omega) (by omega)]; rfl
    have f1 : zmul 10 its = 10 * its := zmul_ok (by omega) (by omega)
    have f2 : zsub (Z.1 1 52) (10 * its) = Z.1 1 52 - 10 * its := zsub_ok (by omega) (by omega)
    have f3 : zmul 10 (ey i) = 10 * ey i := zmul_ok (by omega) (by omega)
    have hc1 : zsub (Z.1 1 52) (zmul 10 its) < zmul 10 (A 1 10 ((i : Int)).toNat) ↔ Z.1 1 52 - 10 * its < 10 * ey i := by rw [a10, Int.toNat_natCast, f1, f2, f3]
    have hc2 : Z.1 1 52 < zmul 10 (A 1 10 ((i : Int)).toNat) ↔ Z.1 1 52 < 10 * ey i := by rw [a10, Int.toNat_natCast, f3]
    have hc3 : A 1 50 ((i : Int)).toNat = -1 ↔ fOn wy ro sp ey a b len i t = -1 := by rw [Int.toNat_natCast, r1]
    have hc4 : A 1 51 ((i : Int)).toNat = -1 ↔ fOf wy ro sp ey a b len i t = -1 := by rw [Int.toNat_natCast, r2]
    have fin : ∀ A' : ZA, (∀ r, r ≠ 1 → A' r = A r) → (∀ o, o ≠ 50 → o ≠ 51 → A' 1 o = A 1 o) → (∀ e, e ≠ i → A' 1 50 e = A 1 50 e ∧ A' 1 51 e = A 1 51 e) → A' 1 50 i = fOn wy ro sp ey a b len i (t + 1) → A' 1 51 i = fOf wy ro sp ey a b len i (t + 1) →
        ∃ m, m < n7 - i ∧ ∃ (j : Nat) (B : ZA), m = n7 - j ∧ j ≤ n7 ∧ (((i + 1 : Nat) : Int), ((Z.1, A') : ZS)) = ((j : Int), (Z.1, B)) ∧ (∀ r, r ≠ 1 → B r = Z.2 r) ∧ (∀ o, o ≠ 50 → o ≠ 51 → B 1 o = Z.2 1 o) ∧ (∀ e, e < j → B 1 50 e = fOn wy ro sp ey a b len e (t + 1) ∧ B 1 51 e = fOf wy ro sp ey a b len e (t + 1)) ∧
    ∀ e, j ≤ e → e < n7 → B 1 50 e = fOn wy ro sp ey a b len e t ∧ B 1 51 e = fOf wy ro sp ey a b len e t := by
      intro A' a1 a2 a3 a4 a5
      refine ⟨n7 - (i + 1), by omega, i + 1, A', rfl, by omega, rfl, fun r hr => (a1 r hr).trans (hA r hr), fun o h1 h2 => (a2 o h1 h2).trans (hA1 o h1 h2), fun e he => ?_, fun e he1 he2 => ?_⟩
      · by_cases g : e = i
        · rw [g]; exact ⟨a4, a5⟩
        · rw [(a3 e g).1, (a3 e g).2]; exact hd e (by omega)
      · rw [(a3 e (by omega)).1, (a3 e (by omega)).2]; exact hr e (by omega) he2
    have no : ¬ cVis wy ro sp ey a b len i (t + 1) → zp (F_X12_looksAlone_181 its x2 ((t : Int) + 1) (i : Int) (Z.1, A)) (zor2 (fun s => ∃ m, m < n7 - i ∧ ∃ (j : Nat) (B : ZA), m = n7 - j ∧ j ≤ n7 ∧ s = ((j : Int), (Z.1, B)) ∧ (∀ r, r ≠ 1 → B r = Z.2 r) ∧ (∀ o, o ≠ 50 → o ≠ 51 → B 1 o = Z.2 1 o) ∧ (∀ e, e < j → B 1 50 e = fOn wy ro sp ey a b len e (t + 1) ∧ B 1 51 e = fOf wy ro sp ey a b len e (t + 1)) ∧
    ∀ e, j ≤ e → e < n7 → B 1 50 e = fOn wy ro sp ey a b len e t ∧ B 1 51 e = fOf wy ro sp ey a b len e t) (fun r : (Int × Int × ZS) ⊕ ZS => ∃ A : ZA, r = .inl (x2, (t : Int) + 1 + 1, (Z.1, A)) ∧ (∀ r, r ≠ 1 → A r = Z.2 r) ∧ (∀ o, o ≠ 50 → o ≠ 51 → A 1 o = Z.2 1 o) ∧ ∀ e, e < n7 → A 1 50 e = fOn wy ro sp ey a b len e (t + 1) ∧ A 1 51 e = fOf wy ro sp ey a b len e (t + 1))) := by
      intro nv
      rw [if_neg (fun z => nv z.2)] at en
      unfold F_X12_looksAlone_181 F_X12_looksAlone_211
      refine zp_pos rfl (zp_pos (by omega) ?_)
      by_cases g1 : fOn wy ro sp ey a b len i t = -1
      · rw [if_neg (fun z => z.2.1 g1)] at ef
        exact zp_pos (hc3.mpr g1) (zp_some.mpr (zor2_l.mpr (by rw [fi]; exact fin A (fun _ _ => rfl) (fun _ _ _ => rfl) (fun _ _ => ⟨rfl, rfl⟩) (by rw [en]; exact r1) (by rw [ef]; exact r2))))
      · refine zp_neg (fun z => g1 (hc3.mp z)) ?_
        by_cases g2 : fOf wy ro sp ey a b len i t = -1
        · rw [if_pos ⟨nv, g1, g2⟩] at ef
          refine zp_pos (hc4.mpr g2) (zp_lt.mpr (zp_some.mpr (zor2_l.mpr (by rw [fi, Int.toNat_natCast]; exact fin _ (fun r hr => zuA_R hr) (fun o h1 h2 => zuA_o h2) (fun e he => ⟨by rw [zuA_o (by decide)], by rw [zuA_s, zset_ap, if_neg he]⟩) (by rw [zuA_o (by decide), en]; exact r1) (by rw [zuA_s, zset_ap, if_pos rfl, ef])))))
        · rw [if_neg (fun z => g2 z.2.2)] at ef
          exact zp_neg (fun z => g2 (hc4.mp z)) (zp_some.mpr (zor2_l.mpr (by rw [fi]; exact fin A (fun _ _ => rfl) (fun _ _ _ => rfl) (fun _ _ => ⟨rfl, rfl⟩) (by rw [en]; exact r1) (by rw [ef]; exact r2))))
    by_cases g : x2 = 0
    · refine zp_pos g (zp_pos (by omega) ?_)
      by_cases g2 : Z.1 1 52 - 10 * its < 10 * ey i
      · refine zp_pos (hc1.mpr g2) ?_
        by_cases g3 : Z.1 1 52 < 10 * ey i
        · exact zp_pos (hc2.mpr g3) (no (fun z => by have := (hvi.mp z).2.2; omega))
        · have v : cVis wy ro sp ey a b len i (t + 1) := hvi.mpr ⟨g, g2, by omega⟩
          rw [if_neg (fun z => z.1 v)] at ef
          refine zp_neg (fun z => g3 (hc2.mp z)) ?_
          by_cases g4 : fOn wy ro sp ey a b len i t = -1
          · rw [if_pos ⟨g4, v⟩] at en
            refine zp_pos (hc3.mpr g4) (zp_lt.mpr (zp_some.mpr (zor2_l.mpr (by rw [fi, Int.toNat_natCast]; exact fin _ (fun r hr => zuA_R hr) (fun o h1 h2 => zuA_o h1) (fun e he => ⟨by rw [zuA_s, zset_ap, if_neg he], by rw [zuA_o (by decide)]⟩) (by rw [zuA_s, zset_ap, if_pos rfl, en]) (by rw [zuA_o (by decide), ef]; exact r2)))))
          · rw [if_neg (fun z => g4 z.1)] at en
            refine zp_neg (fun z => g4 (hc3.mp z)) ?_
            unfold F_X12_looksAlone_211
            refine zp_neg (by decide) ?_
            rw [fi]
            exact zp_some.mpr (zor2_l.mpr (fin A (fun _ _ => rfl) (fun _ _ _ => rfl) (fun _ _ => ⟨rfl, rfl⟩) (by rw [en]; exact r1) (by rw [ef]; exact r2)))
      · exact zp_neg (fun z => g2 (hc1.mp z)) (no (fun z => g2 (hvi.mp z).2.1))
    · exact zp_neg g (no (fun z => g (hvi.mp z).1))
end EXPR
