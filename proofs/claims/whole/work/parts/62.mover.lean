/-! one sheet's move in a tick: the class, whole; the reference -/
section MOVER
variable {S : ZS} {T W F s : Nat} {wy ro sp wear beat cor : Nat → Int} {many p : Nat} {now ln h st side turned limit : Int}
theorem tto_b (H : DrOK wy ro sp wear beat) : tto wy ro sp wear beat cor many now ln h limit ≤ h + 90 := by
  have hd := sgD_b (top := h) (low := h - 10 * ln) (t := now) H (wy 6).toNat (by have := H.1; omega)
  have hb := sgB_b (cor := cor) (top := h) (to := h + sgD wy ro sp wear beat h (h - 10 * ln) now (wy 6).toNat) (by omega) many
  unfold tto
  omega
theorem tdr_b (H : DrOK wy ro sp wear beat) : (h ≤ (tdr wy ro sp wear beat cor many now ln h st limit).1 ∧ (tdr wy ro sp wear beat cor many now ln h st limit).1 ≤ h + 90) ∧ ((tdr wy ro sp wear beat cor many now ln h st limit).2 = 0 ∨ (tdr wy ro sp wear beat cor many now ln h st limit).2 = st + 1) ∧ ((tdr wy ro sp wear beat cor many now ln h st limit).1 = h ∨ (tdr wy ro sp wear beat cor many now ln h st limit).1 ≤ limit) := by
  have := tto_b (cor := cor) (many := many) (now := now) (ln := ln) (h := h) (limit := limit) H
  unfold tdr
  split
  · refine ⟨by dsimp only; omega, Or.inl rfl, Or.inr ?_⟩
    unfold tto
    dsimp only
    omega
  · exact ⟨by dsimp only; omega, Or.inr rfl, Or.inl rfl⟩
theorem lp_move8 (hs : s < 40) (hW : W = 19 ∨ W = 20) (hF : F = 4 ∨ F = 5) (t15 : S.1 T 15 = (W : Int)) (t16 : S.1 T 16 = (F : Int)) (t2 : S.1 T 2 = now) (t4 : S.1 T 4 = (p : Int)) (bn : 0 ≤ now ∧ now < 2147483648)
    (w0 : S.1 W 0 = wy 0) (w6 : S.1 W 6 = wy 1) (w8 : S.1 W 8 = wy 3) (b0 : 40 ≤ wy 0 ∧ wy 0 ≤ 300) (b1 : 0 ≤ wy 1 ∧ wy 1 ≤ 300) (b3 : wy 3 ≤ 3 ∨ turned = 0)
    (a7 : S.2 T 7 s = h) (a10 : S.2 T 10 s = 10 * ln) (a8 : S.2 T 8 s = side) (a12 : S.2 T 12 s = turned) (a9 : S.2 T 9 s = st) (a6 : S.2 T 6 s = 0)
    (bh : 0 ≤ h ∧ h ≤ 9000) (bl : 10 ≤ ln ∧ ln ≤ 70) (bt : turned = 0 ∨ turned = 1) (bs : 0 ≤ st ∧ st ≤ 1000)
    (H : DrOK wy ro sp wear beat) (k1 : S.1 W 1 = wy 6) (k2 : S.1 W 10 = wy 5) (K : ∀ r : Nat, (r : Int) < wy 6 → S.2 W 3 r = ro r ∧ S.2 W 4 r = sp r ∧ S.2 F 1 r = wear r ∧ S.2 F 2 r = beat r)
    (C : CoOK cor many) (k3 : S.1 F 3 = (many : Int)) (KC : ∀ c : Nat, c < many → S.2 F 3 c = cor c)
    {q : Int × Int} (hq : q = tqq wy ro sp wear beat cor many now ln h st side turned limit) :
    F_X8_move T (s : Int) limit S = some ((if twt wy ln q.1 side turned ∧ (p : Int) < wy 3 then zup S.1 T 4 ((p + 1 : Nat) : Int) else S.1), tA (if twt wy ln q.1 side turned ∧ (p : Int) < wy 3 then zuA S.2 T 15 (zset (S.2 T 15) p s) else S.2) T s q.1 (if twt wy ln q.1 side turned then 0 else q.2)
      (if twt wy ln q.1 side turned ∧ (p : Int) < wy 3 then 1 else if 10 * wy 0 ≤ q.1 - 10 * ln then 2 else 0) (if twt wy ln q.1 side turned ∧ (p : Int) < wy 3 then now else S.2 T 11 s)) := by
  unfold F_X8_move
  rw [lp_wait8 hs hW t15 w6 b1 a7 a10 a8 a12 ⟨bh.1, by omega⟩ bl bt, Option.bind_some]
  unfold tqq at hq
  by_cases c : twt wy ln h side turned
  · rw [if_pos c] at hq
    subst hq
    rw [if_pos c, if_neg (by decide)]
    exact lp_m14 hs hW t15 t2 t4 w0 w6 w8 b0 b1 b3 a7 a10 a8 a12 a9 a6 ⟨bh.1, by omega⟩ bl bt
  · rw [if_neg c] at hq
    have hb := tdr_b (cor := cor) (many := many) (now := now) (ln := ln) (h := h) (st := st) (limit := limit) H
    rw [if_neg c, if_pos rfl, lp_drv8 (limit := limit) hs hW hF t15 t16 t2 bn a7 a10 a9 ⟨bh.1, by omega⟩ bl bs H k1 k2 K C k3 KC, Option.bind_some, ← hq]
    rw [← hq] at hb
    have hm := lp_m14 (S := (S.1, zuA (zuA S.2 T 7 (zset (S.2 T 7) s q.1)) T 9 (zset (S.2 T 9) s q.2))) (h := q.1) (st := q.2) (ln := ln) (side := side) (turned := turned) hs hW t15 t2 t4 w0 w6 w8 b0 b1 b3
      (by simp [zuA_ap, zset_ap]) (by simp [zuA_ap]; exact a10) (by simp [zuA_ap]; exact a8) (by simp [zuA_ap]; exact a12) (by simp [zuA_ap, zset_ap]) (by simp [zuA_ap]; exact a6) (by omega) bl bt
    rw [hm]
    congr 2
    have e11 : zuA (zuA S.2 T 7 (zset (S.2 T 7) s q.1)) T 9 (zset (S.2 T 9) s q.2) T 11 s = S.2 T 11 s := by simp [zuA_ap]
    have e15 : zuA (zuA S.2 T 7 (zset (S.2 T 7) s q.1)) T 9 (zset (S.2 T 9) s q.2) T 15 = S.2 T 15 := (zuA_o (by decide)).trans (zuA_o (by decide))
    dsimp only
    rw [e11, e15]
    clear hm
    funext r o j
    rw [tA_ap, tA_ap]
    by_cases hr : r = T ∧ j = s
    · rw [if_pos hr, if_pos hr]
      by_cases o7 : o = 7
      · rw [if_pos o7, if_pos o7]
      · rw [if_neg o7, if_neg o7]
        by_cases o9 : o = 9
        · rw [if_pos o9, if_pos o9]
        · rw [if_neg o9, if_neg o9]
          by_cases o6 : o = 6
          · rw [if_pos o6, if_pos o6]
          · rw [if_neg o6, if_neg o6]
            by_cases o11 : o = 11
            · rw [if_pos o11, if_pos o11]
            · rw [if_neg o11, if_neg o11]
              by_cases d : twt wy ln q.1 side turned ∧ (p : Int) < wy 3
              · rw [if_pos d, if_pos d]
                simp [zuA_ap, o7, o9]
              · rw [if_neg d, if_neg d]
                simp [zuA_ap, o7, o9]
    · rw [if_neg hr, if_neg hr]
      have e : zuA (zuA S.2 T 7 (zset (S.2 T 7) s q.1)) T 9 (zset (S.2 T 9) s q.2) r o j = S.2 r o j := by
        simp only [zuA_ap, zset_ap]
        by_cases h1 : r = T
        · have h2 : ¬ j = s := fun z => hr ⟨h1, z⟩
          rw [if_neg h2, if_neg h2]
          (repeat' split) <;> first | rfl | (rename_i z; rw [z.1, z.2])
        · rw [if_neg (fun z => h1 z.1), if_neg (fun z => h1 z.1)]
      by_cases d : twt wy ln q.1 side turned ∧ (p : Int) < wy 3
      · rw [if_pos d, if_pos d, zuA_ap (o := 15), zuA_ap (o := 15), e]
      · rw [if_neg d, if_neg d, e]
end MOVER
