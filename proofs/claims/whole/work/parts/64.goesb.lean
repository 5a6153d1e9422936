/-! one sheet's move in a tick: the reference, whole -/
section GOESB
variable {S : ZS} {s p m : Nat} {many : Nat} {now ln h st side turned limit : Int}
theorem mA_over {A A' : ZA} {state came : Int} (H : ∀ r o j, ¬(r = 1 ∧ j = s ∧ (o = 32 ∨ o = 35)) → A' r o j = A r o j) : mA A' s h st state came = mA A s h st state came := by
  funext r o j
  rw [mA_ap, mA_ap]
  by_cases hr : r = 1 ∧ j = s
  · rw [if_pos hr, if_pos hr]
    by_cases o1 : o = 32
    · rw [if_pos o1, if_pos o1]
    · by_cases o2 : o = 35
      · rw [if_neg o1, if_neg o1, if_pos o2, if_pos o2]
      · rw [H r o j (fun z => by rcases z.2.2 with z | z; exact o1 z; exact o2 z)]
  · rw [if_neg hr, if_neg hr]
    exact H r o j (fun z => hr ⟨z.1, z.2.1⟩)
theorem lp_g92 {to : Int} (hs : s < 40) (hm : S.1 1 27 = (m : Int)) (hm40 : m ≤ 40) (t28 : S.1 1 28 = now) (hp : cnt (fun e => decide (S.2 1 33 e = 1)) m = p) (b3 : turned = 1 → (p : Int) ≤ S.2 1 4 3)
    (b0 : 40 ≤ S.2 1 4 0 ∧ S.2 1 4 0 ≤ 300) (b1 : 0 ≤ S.2 1 4 1 ∧ S.2 1 4 1 ≤ 300)
    (a32 : S.2 1 32 s = h) (a31 : S.2 1 31 s = ln) (a34 : S.2 1 34 s = side) (a37 : S.2 1 37 s = turned) (a35 : S.2 1 35 s = st) (a33 : S.2 1 33 s = 0)
    (bh : 0 ≤ h ∧ h ≤ 9000) (bl : 10 ≤ ln ∧ ln ≤ 70) (bt : turned = 0 ∨ turned = 1) (bs : 0 ≤ st ∧ st ≤ 1000) (bo : to ≤ h + 90) {q : Int × Int} (hq : q = if h < to then (to, 0) else (h, st + 1)) :
    F_X12_goes_92 (s : Int) to S = some (S.1, mA S.2 s q.1 (if twt (S.2 1 4) ln q.1 side turned then 0 else q.2)
      (if twt (S.2 1 4) ln q.1 side turned ∧ (p : Int) < S.2 1 4 3 then 1 else if 10 * S.2 1 4 0 ≤ q.1 - 10 * ln then 2 else 0) (if twt (S.2 1 4) ln q.1 side turned ∧ (p : Int) < S.2 1 4 3 then now else S.2 1 36 s)) := by
  have hr : (0 : Int) ≤ (s : Int) ∧ (s : Int) < 40 := by omega
  unfold F_X12_goes_92
  rw [if_pos hr, Int.toNat_natCast, a32, a35]
  by_cases c : h < to
  · rw [if_pos c] at hq
    subst hq
    rw [if_pos c]
    dsimp only [zlt]
    have e35 : zuA S.2 1 32 (zset (S.2 1 32) s to) 1 35 = S.2 1 35 := zuA_o (by decide)
    rw [e35]
    have g := lp_g129 (S := (S.1, zuA (zuA S.2 1 32 (zset (S.2 1 32) s to)) 1 35 (zset (S.2 1 35) s 0))) (h := to) (st := 0) (ln := ln) (side := side) (turned := turned) (p := p) hs hm hm40 t28 hp (fun z => b3 z.1) b0 b1 (by simp [zuA_ap, zset_ap]) a31 a34 a37 (by simp [zuA_ap, zset_ap]) a33 (by omega) bl bt
    rw [g]
    congr 2
    refine mA_over fun r o j hn => ?_
    simp only [zuA_ap, zset_ap]
    (repeat' split) <;> first | rfl | (exfalso; omega) | (rename_i z1 z2; rw [z1.1, z1.2])
  · rw [if_neg c] at hq
    subst hq
    rw [if_neg c]
    dsimp only [zlt]
    rw [zadd_ok (by omega) (by omega)]
    have g := lp_g129 (S := (S.1, zuA S.2 1 35 (zset (S.2 1 35) s (st + 1)))) (h := h) (st := st + 1) (ln := ln) (side := side) (turned := turned) (p := p) hs hm hm40 t28 hp (fun z => b3 z.1) b0 b1 a32 a31 a34 a37 (by simp [zuA_ap, zset_ap]) a33 (by omega) bl bt
    rw [g]
    congr 2
    refine mA_over fun r o j hn => ?_
    simp only [zuA_ap, zset_ap]
    (repeat' split) <;> first | rfl | (exfalso; omega) | (rename_i z1 z2; rw [z1.1, z1.2])
theorem lp_goes12 (hs : s < 40) (hm : S.1 1 27 = (m : Int)) (hm40 : m ≤ 40) (t28 : S.1 1 28 = now) (bn : 0 ≤ now ∧ now < 2147483648) (hp : cnt (fun e => decide (S.2 1 33 e = 1)) m = p) (b3 : turned = 1 → (p : Int) ≤ S.2 1 4 3)
    (b0 : 40 ≤ S.2 1 4 0 ∧ S.2 1 4 0 ≤ 300) (b1 : 0 ≤ S.2 1 4 1 ∧ S.2 1 4 1 ≤ 300)
    (a32 : S.2 1 32 s = h) (a31 : S.2 1 31 s = ln) (a34 : S.2 1 34 s = side) (a37 : S.2 1 37 s = turned) (a35 : S.2 1 35 s = st) (a33 : S.2 1 33 s = 0)
    (bh : 0 ≤ h ∧ h ≤ 9000) (bl : 10 ≤ ln ∧ ln ≤ 70) (bt : turned = 0 ∨ turned = 1) (bs : 0 ≤ st ∧ st ≤ 1000) (bin : h - 10 * ln < 10 * S.2 1 4 0)
    (H : DrOK (S.2 1 4) (S.2 1 6) (S.2 1 7) (S.2 1 24) (S.2 1 25)) (C : CoOK (S.2 1 26) many) (k3 : S.1 1 26 = (many : Int))
    (ha : ∃ r, F_X12_ahead (s : Int) S = some r ∧ ((r = -1 ∧ limit = 1000000) ∨ ∃ a : Nat, a < 40 ∧ r = (a : Int) ∧ limit = S.2 1 32 a - 10 * S.2 1 31 a ∧ (0 ≤ S.2 1 32 a ∧ S.2 1 32 a ≤ 10000) ∧ (10 ≤ S.2 1 31 a ∧ S.2 1 31 a ≤ 70)))
    {q : Int × Int} (hq : q = tqq (S.2 1 4) (S.2 1 6) (S.2 1 7) (S.2 1 24) (S.2 1 25) (S.2 1 26) many now ln h st side turned limit) :
    F_X12_goes (s : Int) S = some (S.1, mA S.2 s q.1 (if twt (S.2 1 4) ln q.1 side turned then 0 else q.2)
      (if twt (S.2 1 4) ln q.1 side turned ∧ (p : Int) < S.2 1 4 3 then 1 else if 10 * S.2 1 4 0 ≤ q.1 - 10 * ln then 2 else 0) (if twt (S.2 1 4) ln q.1 side turned ∧ (p : Int) < S.2 1 4 3 then now else S.2 1 36 s)) := by
  have hr : (0 : Int) ≤ (s : Int) ∧ (s : Int) < 40 := by omega
  unfold tqq at hq
  unfold F_X12_goes
  rw [lp_wait12 hs b1 a32 a31 a34 a37 ⟨bh.1, by omega⟩ bl bt, Option.bind_some]
  by_cases c : twt (S.2 1 4) ln h side turned
  · rw [if_pos c] at hq
    subst hq
    rw [if_pos c, if_neg (by decide), lp_now12 hs hm hm40 t28 hp (b3 c.1), Option.bind_some]
    dsimp only
    rw [if_pos c]
    by_cases d : (p : Int) < S.2 1 4 3
    · rw [if_pos d, if_pos ⟨c, d⟩, if_pos ⟨c, d⟩]
      congr 2
      funext r o j
      rw [mA_ap]
      simp only [zuA_ap, zset_ap]
      by_cases hr : r = 1
      · subst hr
        by_cases hj : j = s
        · subst hj
          simp only [true_and, and_self, if_true]
          (repeat' split) <;> first | rfl | (exfalso; omega) | (subst o; first | rfl | exact a32 | exact a33 | exact a35 | exact a32.symm | exact a33.symm | exact a35.symm)
        · simp only [hj, and_false, if_false, true_and]
          (repeat' split) <;> first | rfl | (exfalso; omega) | (subst o; rfl)
      · simp only [hr, false_and, if_false]
    · have nd : ¬(twt (S.2 1 4) ln h side turned ∧ (p : Int) < S.2 1 4 3) := fun z => d z.2
      have nl : ¬(10 * S.2 1 4 0 ≤ h - 10 * ln) := by omega
      rw [if_neg d, if_neg nd, if_neg nd, if_neg nl]
      congr 2
      funext r o j
      rw [mA_ap]
      simp only [zuA_ap, zset_ap]
      by_cases hr : r = 1
      · subst hr
        by_cases hj : j = s
        · subst hj
          simp only [true_and, and_self, if_true]
          (repeat' split) <;> first | rfl | (exfalso; omega) | (subst o; first | rfl | exact a32 | exact a33 | exact a35 | exact a32.symm | exact a33.symm | exact a35.symm)
        · simp only [hj, and_false, if_false, true_and]
          (repeat' split) <;> first | rfl | (exfalso; omega) | (subst o; rfl)
      · simp only [hr, false_and, if_false]
  · rw [if_neg c] at hq
    have e0 : zmul 10 ln = 10 * ln := zmul_ok (by omega) (by omega)
    have e1 : zsub h (10 * ln) = h - 10 * ln := zsub_ok (by omega) (by omega)
    have d1 := lp_drive12 (S := S) (top := h) (low := h - 10 * ln) (t := now) H bn
    have hd := sgD_b (top := h) (low := h - 10 * ln) (t := now) H (S.2 1 4 6).toNat (by have := H.1; omega)
    have d2 := lp_bound12 (S := S) (q2 := 26) (top := h) (to := h + sgD (S.2 1 4) (S.2 1 6) (S.2 1 7) (S.2 1 24) (S.2 1 25) h (h - 10 * ln) now (S.2 1 4 6).toNat) C
    have d3 := sgB_b (cor := S.2 1 26) (top := h) (to := h + sgD (S.2 1 4) (S.2 1 6) (S.2 1 7) (S.2 1 24) (S.2 1 25) h (h - 10 * ln) now (S.2 1 4 6).toNat) (by omega) many
    obtain ⟨r, ha1, ha2⟩ := ha
    have ht : F_X12_tail (s : Int) S = some (h - 10 * ln) := by
      unfold F_X12_tail
      rw [if_pos hr, Int.toNat_natCast, a32, a31, e0, e1]
    rw [if_neg c, if_pos rfl, if_pos hr, ht, Option.bind_some, Int.toNat_natCast, a32, t28, d1, Option.bind_some, zadd_ok (by omega) (by omega), k3, d2, Option.bind_some, ha1, Option.bind_some]
    unfold tdr tto at hq
    generalize hB : sgB (S.2 1 26) h (h + sgD (S.2 1 4) (S.2 1 6) (S.2 1 7) (S.2 1 24) (S.2 1 25) h (h - 10 * ln) now (S.2 1 4 6).toNat) many = B at *
    have g92 := fun to bo => lp_g92 (to := to) (S := S) (now := now) (p := p) (side := side) hs hm hm40 t28 hp b3 b0 b1 a32 a31 a34 a37 a35 a33 bh bl bt bs bo (q := q)
    rcases ha2 with ⟨y1, y2⟩ | ⟨a, y1, y2, y3, y4, y5⟩
    · rw [if_pos y1]
      refine g92 B (by omega) ?_
      rw [hq, y2, Int.min_eq_left (by omega)]
    · have f0 : zmul 10 (S.2 1 31 a) = 10 * S.2 1 31 a := zmul_ok (by omega) (by omega)
      have ht2 : F_X12_tail r S = some limit := by
        unfold F_X12_tail
        rw [y2, if_pos (by omega), Int.toNat_natCast, f0, zsub_ok (by omega) (by omega), y3]
      rw [if_neg (by omega), ht2, Option.bind_some]
      by_cases e : limit < B
      · rw [if_pos e, Option.bind_some]
        refine g92 limit (by omega) ?_
        rw [hq, Int.min_eq_right (by omega)]
      · rw [if_neg e]
        refine g92 B (by omega) ?_
        rw [hq, Int.min_eq_left (by omega)]
end GOESB
