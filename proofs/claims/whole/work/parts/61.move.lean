/-! one sheet's move in a tick: the class -/
theorem zset_id {g : Nat → Int} {k : Nat} : zset g k (g k) = g := by
  funext j
  rw [zset_ap]
  split
  · rename_i h; rw [h]
  · rfl
abbrev twt (wy : Nat → Int) (ln h side turned : Int) : Prop := turned = 1 ∧ side = 1 ∧ 10 * wy 1 ≤ h - 10 * ln
/-- where it would come to -/
def tto (wy ro sp wear beat cor : Nat → Int) (many : Nat) (t ln h limit : Int) : Int := min (sgB cor h (h + sgD wy ro sp wear beat h (h - 10 * ln) t (wy 6).toNat) many) limit
def tdr (wy ro sp wear beat cor : Nat → Int) (many : Nat) (t ln h st limit : Int) : Int × Int :=
  if h < tto wy ro sp wear beat cor many t ln h limit then (tto wy ro sp wear beat cor many t ln h limit, 0) else (h, st + 1)
def tqq (wy ro sp wear beat cor : Nat → Int) (many : Nat) (t ln h st side turned limit : Int) : Int × Int := if twt wy ln h side turned then (h, st) else tdr wy ro sp wear beat cor many t ln h st limit
/-- head, stood, state, whether it enters -/
def tmS (wy ro sp wear beat cor : Nat → Int) (many : Nat) (t ln h st side turned limit : Int) (p : Nat) : Int × Int × Int × Bool :=
  let q := tqq wy ro sp wear beat cor many t ln h st side turned limit
  let e := decide (twt wy ln q.1 side turned ∧ (p : Int) < wy 3)
  (q.1, (if twt wy ln q.1 side turned then 0 else q.2), (if e then 1 else if 10 * wy 0 ≤ q.1 - 10 * ln then 2 else 0), e)
/-- head at 7, stood at 9, state at 6, came at 11 -/
def tA (A : ZA) (T s : Nat) (h st state came : Int) : ZA := zuA (zuA (zuA (zuA A T 7 (zset (A T 7) s h)) T 9 (zset (A T 9) s st)) T 6 (zset (A T 6) s state)) T 11 (zset (A T 11) s came)
section MOVE
variable {S : ZS} {T W F s : Nat} {wy ro sp wear beat cor : Nat → Int} {many p : Nat} {now ln h st side turned limit : Int}
theorem lp_wait8 (hs : s < 40) (hW : W = 19 ∨ W = 20) (t15 : S.1 T 15 = (W : Int)) (w6 : S.1 W 6 = wy 1) (hb : 0 ≤ wy 1 ∧ wy 1 ≤ 300) (a7 : S.2 T 7 s = h) (a10 : S.2 T 10 s = 10 * ln) (a8 : S.2 T 8 s = side) (a12 : S.2 T 12 s = turned) (bh : 0 ≤ h ∧ h ≤ 10000) (bl : 10 ≤ ln ∧ ln ≤ 70) (bt : turned = 0 ∨ turned = 1) :
    F_X8_waits T (s : Int) S = some (if twt wy ln h side turned then 1 else 0) := by
  have e1 : zsub h (10 * ln) = h - 10 * ln := zsub_ok (by omega) (by omega)
  have e2 : zmul (wy 1) 10 = 10 * wy 1 := by rw [zmul_ok (by omega) (by omega)]; omega
  have hr : (0 : Int) ≤ (s : Int) ∧ (s : Int) < 40 := by omega
  unfold F_X8_waits F_X8_tailOf
  rw [if_pos hr, if_pos hr, Int.toNat_natCast, a12, a8, a7, a10, e1, Option.bind_some]
  simp only [t15, Int.toNat_natCast, w6, e2]
  rcases bt with bt | bt
  · rw [if_pos bt, if_neg (by omega)]
  · rw [if_neg (by omega)]
    by_cases c : side = 1
    · rw [if_pos c, if_pos hW]
      by_cases d : h - 10 * ln < 10 * wy 1
      · rw [if_pos d, if_neg (by omega)]
      · rw [if_neg d, if_pos (by omega)]
    · rw [if_neg c, if_neg (by omega)]
theorem lp_drv8 (hs : s < 40) (hW : W = 19 ∨ W = 20) (hF : F = 4 ∨ F = 5) (t15 : S.1 T 15 = (W : Int)) (t16 : S.1 T 16 = (F : Int)) (t2 : S.1 T 2 = now) (bn : 0 ≤ now ∧ now < 2147483648)
    (a7 : S.2 T 7 s = h) (a10 : S.2 T 10 s = 10 * ln) (a9 : S.2 T 9 s = st) (bh : 0 ≤ h ∧ h ≤ 10000) (bl : 10 ≤ ln ∧ ln ≤ 70) (bs : 0 ≤ st ∧ st ≤ 1000)
    (H : DrOK wy ro sp wear beat) (k1 : S.1 W 1 = wy 6) (k2 : S.1 W 10 = wy 5) (K : ∀ r : Nat, (r : Int) < wy 6 → S.2 W 3 r = ro r ∧ S.2 W 4 r = sp r ∧ S.2 F 1 r = wear r ∧ S.2 F 2 r = beat r)
    (C : CoOK cor many) (k3 : S.1 F 3 = (many : Int)) (KC : ∀ c : Nat, c < many → S.2 F 3 c = cor c) :
    F_X8_drive T (s : Int) limit S = some (S.1, zuA (zuA S.2 T 7 (zset (S.2 T 7) s (tdr wy ro sp wear beat cor many now ln h st limit).1)) T 9 (zset (S.2 T 9) s (tdr wy ro sp wear beat cor many now ln h st limit).2)) := by
  have e1 : zsub h (10 * ln) = h - 10 * ln := zsub_ok (by omega) (by omega)
  have d1 := lp_drive11 (F := F) (W := W) (S := S) (top := h) (low := h - 10 * ln) H bn k1 k2 K
  have hd := sgD_b (top := h) (low := h - 10 * ln) (t := now) H (wy 6).toNat (by have := H.1; omega)
  have d2 := lp_limit11 (top := h) C k3 KC
  have d3 := sgB_min (cor := cor) (top := h) (to := h + sgD wy ro sp wear beat h (h - 10 * ln) now (wy 6).toNat) (by omega) many
  unfold F_X8_drive F_X8_tailOf
  simp only [t15, t16, t2, Int.toNat_natCast]
  rw [if_pos hF, if_pos hW, if_pos (by omega), if_pos (by omega), a7, a10, e1, Option.bind_some, d1, Option.bind_some, d2, Option.bind_some, a9]
  dsimp only [zlt]
  have e3 : zmin (zadd h (sgD wy ro sp wear beat h (h - 10 * ln) now (wy 6).toNat)) (zmin limit (sgB cor h 1000000 many)) = tto wy ro sp wear beat cor many now ln h limit := by
    rw [zadd_ok (by omega) (by omega), zmin_d, zmin_d]
    unfold tto
    rw [d3]
    omega
  rw [e3]
  unfold tdr
  by_cases c : h < tto wy ro sp wear beat cor many now ln h limit
  · have e4 : zuA S.2 T 7 (zset (S.2 T 7) s (tto wy ro sp wear beat cor many now ln h limit)) T 9 = S.2 T 9 := zuA_o (by decide)
    rw [if_pos c, if_pos c, e4]
  · rw [if_neg c, if_neg c, zadd_ok (by omega) (by omega)]
    dsimp only
    rw [← a7, zset_id, zuA_same]
theorem lp_ent8 (hs : s < 40) (hW : W = 19 ∨ W = 20) (t15 : S.1 T 15 = (W : Int)) (t2 : S.1 T 2 = now) (t4 : S.1 T 4 = (p : Int)) (w8 : S.1 W 8 = wy 3) (hb : wy 3 ≤ 3) :
    F_X8_enterPocket T (s : Int) S = some (if (p : Int) < wy 3 then (zup S.1 T 4 ((p + 1 : Nat) : Int), zuA (zuA (zuA S.2 T 15 (zset (S.2 T 15) p s)) T 6 (zset (S.2 T 6) s 1)) T 11 (zset (S.2 T 11) s now)) else S) := by
  have e1 : zadd (p : Int) 1 = ((p + 1 : Nat) : Int) ∨ ¬(p : Int) < wy 3 := by
    by_cases c : (p : Int) < wy 3
    · exact Or.inl (by rw [zadd_ok (by omega) (by omega)]; rfl)
    · exact Or.inr c
  unfold F_X8_enterPocket
  simp only [t15, t4, Int.toNat_natCast, w8]
  rw [if_pos hW]
  by_cases c : (p : Int) < wy 3
  · have e1 : zadd (p : Int) 1 = ((p + 1 : Nat) : Int) := by rw [zadd_ok (by omega) (by omega)]; rfl
    rw [if_pos c, if_pos c, if_pos (by omega), if_pos (by omega)]
    dsimp only [zlt]
    rw [if_pos (by omega), t4, e1]
    have e2 : zup S.1 T 4 ((p + 1 : Nat) : Int) T 2 = now := by rw [zup_ap, if_neg (fun z => absurd z.2 (by decide))]; exact t2
    have e3 : zuA S.2 T 15 (zset (S.2 T 15) p s) T 6 = S.2 T 6 := zuA_o (by decide)
    have e4 : zuA (zuA S.2 T 15 (zset (S.2 T 15) p s)) T 6 (zset (S.2 T 6) s 1) T 11 = S.2 T 11 := (zuA_o (by decide)).trans (zuA_o (by decide))
    rw [e3, e4, e2]
  · rw [if_neg c, if_neg c]
theorem lp_out8 (hs : s < 40) (hW : W = 19 ∨ W = 20) (t15 : S.1 T 15 = (W : Int)) (w0 : S.1 W 0 = wy 0) (hb : 40 ≤ wy 0 ∧ wy 0 ≤ 300) (a7 : S.2 T 7 s = h) (a10 : S.2 T 10 s = 10 * ln) (bh : 0 ≤ h ∧ h ≤ 10000) (bl : 10 ≤ ln ∧ ln ≤ 70) :
    F_X8_move_34 T (s : Int) S = some (if S.2 T 6 s = 0 ∧ 10 * wy 0 ≤ h - 10 * ln then (S.1, zuA S.2 T 6 (zset (S.2 T 6) s 2)) else S) := by
  have e1 : zsub h (10 * ln) = h - 10 * ln := zsub_ok (by omega) (by omega)
  have e2 : zmul (wy 0) 10 = 10 * wy 0 := by rw [zmul_ok (by omega) (by omega)]; omega
  have hr : (0 : Int) ≤ (s : Int) ∧ (s : Int) < 40 := by omega
  unfold F_X8_move_34 F_X8_tailOf
  simp only [t15, Int.toNat_natCast, w0, e2]
  rw [if_pos hr, if_pos hr, a7, a10, e1]
  by_cases c : S.2 T 6 s = 0
  · rw [if_pos c, Option.bind_some, if_pos hW]
    by_cases d : h - 10 * ln < 10 * wy 0
    · rw [if_pos d, if_neg (by omega)]
    · rw [if_neg d, if_pos ⟨c, by omega⟩]
      rfl
  · rw [if_neg c, if_neg (fun z => c z.1)]

theorem tA_ap {A : ZA} {came state : Int} {r o j : Nat} : tA A T s h st state came r o j = if r = T ∧ j = s then (if o = 7 then h else if o = 9 then st else if o = 6 then state else if o = 11 then came else A r o j) else A r o j := by
  unfold tA
  simp only [zuA_ap, zset_ap]
  by_cases hr : r = T
  · subst hr
    by_cases hj : j = s
    · subst hj
      simp only [true_and, and_self, if_true]
      (repeat' split) <;> first | rfl | (exfalso; omega) | (subst_vars; rfl) | (simp_all)
    · simp only [hj, and_false, if_false, true_and]
      (repeat' split) <;> first | rfl | (exfalso; omega) | (subst_vars; rfl) | (simp_all)
  · simp only [hr, false_and, if_false]
theorem lp_m14 (hs : s < 40) (hW : W = 19 ∨ W = 20) (t15 : S.1 T 15 = (W : Int)) (t2 : S.1 T 2 = now) (t4 : S.1 T 4 = (p : Int)) (w0 : S.1 W 0 = wy 0) (w6 : S.1 W 6 = wy 1) (w8 : S.1 W 8 = wy 3)
    (b0 : 40 ≤ wy 0 ∧ wy 0 ≤ 300) (b1 : 0 ≤ wy 1 ∧ wy 1 ≤ 300) (b3 : wy 3 ≤ 3 ∨ turned = 0)
    (a7 : S.2 T 7 s = h) (a10 : S.2 T 10 s = 10 * ln) (a8 : S.2 T 8 s = side) (a12 : S.2 T 12 s = turned) (a9 : S.2 T 9 s = st) (a6 : S.2 T 6 s = 0)
    (bh : 0 ≤ h ∧ h ≤ 10000) (bl : 10 ≤ ln ∧ ln ≤ 70) (bt : turned = 0 ∨ turned = 1) :
    F_X8_move_14 T (s : Int) S = some ((if twt wy ln h side turned ∧ (p : Int) < wy 3 then zup S.1 T 4 ((p + 1 : Nat) : Int) else S.1), tA (if twt wy ln h side turned ∧ (p : Int) < wy 3 then zuA S.2 T 15 (zset (S.2 T 15) p s) else S.2) T s h (if twt wy ln h side turned then 0 else st)
      (if twt wy ln h side turned ∧ (p : Int) < wy 3 then 1 else if 10 * wy 0 ≤ h - 10 * ln then 2 else 0) (if twt wy ln h side turned ∧ (p : Int) < wy 3 then now else S.2 T 11 s)) := by
  have hr : (0 : Int) ≤ (s : Int) ∧ (s : Int) < 40 := by omega
  unfold F_X8_move_14
  rw [lp_wait8 hs hW t15 w6 b1 a7 a10 a8 a12 bh bl bt, Option.bind_some]
  by_cases c : twt wy ln h side turned
  · rw [if_pos c, if_neg (by decide), if_pos hr, if_pos c]
    dsimp only [zlt]
    rw [Int.toNat_natCast, lp_ent8 (S := (S.1, zuA S.2 T 9 (zset (S.2 T 9) s 0))) hs hW t15 t2 t4 w8 (by rcases b3 with b3 | b3; exact b3; exact absurd c.1 (by omega)), Option.bind_some]
    dsimp only
    by_cases d : (p : Int) < wy 3
    · rw [if_pos d, if_pos ⟨c, d⟩, if_pos ⟨c, d⟩, if_pos ⟨c, d⟩, if_pos ⟨c, d⟩]
      have g15 : zup S.1 T 4 ((p + 1 : Nat) : Int) T 15 = (W : Int) := by rw [zup_ap, if_neg (fun z => absurd z.2 (by decide))]; exact t15
      have g0 : zup S.1 T 4 ((p + 1 : Nat) : Int) W 0 = wy 0 := by rw [zup_ap, if_neg (fun z => absurd z.2 (by decide))]; exact w0
      rw [lp_out8 (S := (zup S.1 T 4 ((p + 1 : Nat) : Int), _)) (h := h) (ln := ln) hs hW g15 g0 b0 (by simp only [zuA_ap]; simpa using a7) (by simp only [zuA_ap]; simpa using a10) bh bl]
      rw [if_neg (by simp [zuA_ap, zset_ap])]
      congr 2
      funext r o j
      rw [tA_ap]
      simp only [zuA_ap, zset_ap]
      by_cases hr : r = T
      · subst hr
        by_cases hj : j = s
        · subst hj
          simp only [true_and, and_self, if_true]
          (repeat' split) <;> first | rfl | (exfalso; omega) | (subst_vars; rfl) | (simp_all)
        · simp only [hj, and_false, if_false, true_and]
          (repeat' split) <;> first | rfl | (exfalso; omega) | (subst_vars; rfl) | (simp_all)
      · simp only [hr, false_and, if_false]
    · have nd : ¬(twt wy ln h side turned ∧ (p : Int) < wy 3) := fun z => d z.2
      rw [if_neg d, if_neg nd, if_neg nd, if_neg nd, if_neg nd]
      rw [lp_out8 (S := (S.1, zuA S.2 T 9 (zset (S.2 T 9) s 0))) (h := h) (ln := ln) hs hW t15 w0 b0 (by simp only [zuA_ap]; simpa using a7) (by simp only [zuA_ap]; simpa using a10) bh bl]
      by_cases e : 10 * wy 0 ≤ h - 10 * ln
      · rw [if_pos ⟨by simp only [zuA_ap]; simpa using a6, e⟩, if_pos e]
        congr 2
        funext r o j
        rw [tA_ap]
        simp only [zuA_ap, zset_ap]
        by_cases hr : r = T
        · subst hr
          by_cases hj : j = s
          · subst hj
            simp only [true_and, and_self, if_true]
            (repeat' split) <;> first | rfl | (exfalso; omega) | (subst_vars; rfl) | (simp_all)
          · simp only [hj, and_false, if_false, true_and]
            (repeat' split) <;> first | rfl | (exfalso; omega) | (subst_vars; rfl) | (simp_all)
        · simp only [hr, false_and, if_false]
      · rw [if_neg (fun z => e z.2), if_neg e]
        congr 2
        funext r o j
        rw [tA_ap]
        simp only [zuA_ap, zset_ap]
        by_cases hr : r = T
        · subst hr
          by_cases hj : j = s
          · subst hj
            simp only [true_and, and_self, if_true]
            (repeat' split) <;> first | rfl | (exfalso; omega) | (subst_vars; rfl) | (simp_all)
          · simp only [hj, and_false, if_false, true_and]
            (repeat' split) <;> first | rfl | (exfalso; omega) | (subst_vars; rfl) | (simp_all)
        · simp only [hr, false_and, if_false]
  · have nd : ¬(twt wy ln h side turned ∧ (p : Int) < wy 3) := fun z => c z.1
    rw [if_neg c, if_pos rfl, if_neg nd, if_neg nd, if_neg nd, if_neg nd, if_neg c, lp_out8 hs hW t15 w0 b0 a7 a10 bh bl]
    by_cases e : 10 * wy 0 ≤ h - 10 * ln
    · rw [if_pos ⟨a6, e⟩, if_pos e]
      congr 2
      funext r o j
      rw [tA_ap]
      simp only [zuA_ap, zset_ap]
      by_cases hr : r = T
      · subst hr
        by_cases hj : j = s
        · subst hj
          simp only [true_and, and_self, if_true]
          (repeat' split) <;> first | rfl | (exfalso; omega) | (subst_vars; rfl) | (simp_all)
        · simp only [hj, and_false, if_false, true_and]
          (repeat' split) <;> first | rfl | (exfalso; omega) | (subst_vars; rfl) | (simp_all)
      · simp only [hr, false_and, if_false]
    · rw [if_neg (fun z => e z.2), if_neg e]
      show some (S.1, S.2) = _
      congr 2
      funext r o j
      rw [tA_ap]
      by_cases hr : r = T
      · subst hr
        by_cases hj : j = s
        · subst hj
          simp only [true_and, and_self, if_true]
          (repeat' split) <;> first | rfl | (exfalso; omega) | (subst_vars; rfl) | (simp_all)
        · simp only [hj, and_false, if_false]
      · simp only [hr, false_and, if_false]
end MOVE
