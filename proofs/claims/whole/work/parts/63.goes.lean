/-! one sheet's move in a tick: the reference -/
def mA (A : ZA) (s : Nat) (h st state came : Int) : ZA := zuA (zuA (zuA (zuA A 1 32 (zset (A 1 32) s h)) 1 35 (zset (A 1 35) s st)) 1 33 (zset (A 1 33) s state)) 1 36 (zset (A 1 36) s came)
section GOES
variable {S : ZS} {s p m : Nat} {many : Nat} {now ln h st side turned limit : Int}
theorem mA_ap {A : ZA} {came state : Int} {r o j : Nat} : mA A s h st state came r o j = if r = 1 ∧ j = s then (if o = 32 then h else if o = 35 then st else if o = 33 then state else if o = 36 then came else A r o j) else A r o j := by
  unfold mA
  simp only [zuA_ap, zset_ap]
  by_cases hr : r = 1
  · subst hr
    by_cases hj : j = s
    · subst hj
      simp only [true_and, and_self, if_true]
      (repeat' split) <;> first | rfl | (exfalso; omega) | (subst_vars; rfl) | (simp_all)
    · simp only [hj, and_false, if_false, true_and]
      (repeat' split) <;> first | rfl | (exfalso; omega) | (subst_vars; rfl) | (simp_all)
  · simp only [hr, false_and, if_false]
theorem lp_wait12 (hs : s < 40) (hb : 0 ≤ S.2 1 4 1 ∧ S.2 1 4 1 ≤ 300) (a32 : S.2 1 32 s = h) (a31 : S.2 1 31 s = ln) (a34 : S.2 1 34 s = side) (a37 : S.2 1 37 s = turned) (bh : 0 ≤ h ∧ h ≤ 10000) (bl : 10 ≤ ln ∧ ln ≤ 70) (bt : turned = 0 ∨ turned = 1) :
    F_X12_waits (s : Int) S = some (if twt (S.2 1 4) ln h side turned then 1 else 0) := by
  have e0 : zmul 10 ln = 10 * ln := zmul_ok (by omega) (by omega)
  have e1 : zsub h (10 * ln) = h - 10 * ln := zsub_ok (by omega) (by omega)
  have e2 : zmul 10 (S.2 1 4 1) = 10 * S.2 1 4 1 := zmul_ok (by omega) (by omega)
  have hr : (0 : Int) ≤ (s : Int) ∧ (s : Int) < 40 := by omega
  unfold F_X12_waits F_X12_tail
  rw [if_pos hr, if_pos hr, Int.toNat_natCast, a37, a34, a32, a31, e0, e1, e2, Option.bind_some]
  rcases bt with bt | bt
  · rw [if_pos bt, if_neg (by omega)]
  · rw [if_neg (by omega)]
    by_cases c : side = 1
    · rw [if_pos c]
      by_cases d : h - 10 * ln < 10 * S.2 1 4 1
      · rw [if_pos d, if_neg (by omega)]
      · rw [if_neg d, if_pos (by omega)]
    · rw [if_neg c, if_neg (by omega)]
theorem lp_now12 (hs : s < 40) (hm : S.1 1 27 = (m : Int)) (hm40 : m ≤ 40) (t28 : S.1 1 28 = now) (hp : cnt (fun e => decide (S.2 1 33 e = 1)) m = p) (b3 : (p : Int) ≤ S.2 1 4 3) :
    F_X12_waitsNow (s : Int) S = some (S.1, if (p : Int) < S.2 1 4 3 then zuA (zuA (zuA S.2 1 35 (zset (S.2 1 35) s 0)) 1 33 (zset (S.2 1 33) s 1)) 1 36 (zset (S.2 1 36) s now) else zuA S.2 1 35 (zset (S.2 1 35) s 0)) := by
  have hr : (0 : Int) ≤ (s : Int) ∧ (s : Int) < 40 := by omega
  unfold F_X12_waitsNow
  rw [if_pos hr]
  dsimp only [zlt]
  rw [Int.toNat_natCast, lp_inPocket (S := (S.1, zuA S.2 1 35 (zset (S.2 1 35) s 0))) hm hm40, Option.bind_some]
  have e : cnt (fun e => decide (zuA S.2 1 35 (zset (S.2 1 35) s 0) 1 33 e = 1)) m = p := hp
  have e4 : zuA S.2 1 35 (zset (S.2 1 35) s 0) 1 4 3 = S.2 1 4 3 := rfl
  dsimp only
  simp only [e, e4]
  by_cases c : (p : Int) = S.2 1 4 3
  · rw [if_pos c, if_neg (by omega)]
  · rw [if_neg c, if_pos (by omega), t28]
    rfl
theorem lp_out12 (hs : s < 40) (hb : 40 ≤ S.2 1 4 0 ∧ S.2 1 4 0 ≤ 300) (a32 : S.2 1 32 s = h) (a31 : S.2 1 31 s = ln) (bh : 0 ≤ h ∧ h ≤ 10000) (bl : 10 ≤ ln ∧ ln ≤ 70) :
    F_X12_goes_142 (s : Int) S = some (if S.2 1 33 s = 0 ∧ 10 * S.2 1 4 0 ≤ h - 10 * ln then (S.1, zuA S.2 1 33 (zset (S.2 1 33) s 2)) else S) := by
  have e0 : zmul 10 ln = 10 * ln := zmul_ok (by omega) (by omega)
  have e1 : zsub h (10 * ln) = h - 10 * ln := zsub_ok (by omega) (by omega)
  have e2 : zmul 10 (S.2 1 4 0) = 10 * S.2 1 4 0 := zmul_ok (by omega) (by omega)
  have hr : (0 : Int) ≤ (s : Int) ∧ (s : Int) < 40 := by omega
  unfold F_X12_goes_142 F_X12_tail
  rw [if_pos hr, if_pos hr, Int.toNat_natCast, a32, a31, e0, e1, e2]
  by_cases c : S.2 1 33 s = 0
  · rw [if_pos c, Option.bind_some]
    by_cases d : h - 10 * ln < 10 * S.2 1 4 0
    · rw [if_pos d, if_neg (by omega)]
    · rw [if_neg d, if_pos ⟨c, by omega⟩]
      rfl
  · rw [if_neg c, if_neg (fun z => c z.1)]
theorem lp_g129 (hs : s < 40) (hm : S.1 1 27 = (m : Int)) (hm40 : m ≤ 40) (t28 : S.1 1 28 = now) (hp : cnt (fun e => decide (S.2 1 33 e = 1)) m = p) (b3 : twt (S.2 1 4) ln h side turned → (p : Int) ≤ S.2 1 4 3)
    (b0 : 40 ≤ S.2 1 4 0 ∧ S.2 1 4 0 ≤ 300) (b1 : 0 ≤ S.2 1 4 1 ∧ S.2 1 4 1 ≤ 300)
    (a32 : S.2 1 32 s = h) (a31 : S.2 1 31 s = ln) (a34 : S.2 1 34 s = side) (a37 : S.2 1 37 s = turned) (a35 : S.2 1 35 s = st) (a33 : S.2 1 33 s = 0)
    (bh : 0 ≤ h ∧ h ≤ 10000) (bl : 10 ≤ ln ∧ ln ≤ 70) (bt : turned = 0 ∨ turned = 1) :
    F_X12_goes_129 (s : Int) S = some (S.1, mA S.2 s h (if twt (S.2 1 4) ln h side turned then 0 else st)
      (if twt (S.2 1 4) ln h side turned ∧ (p : Int) < S.2 1 4 3 then 1 else if 10 * S.2 1 4 0 ≤ h - 10 * ln then 2 else 0) (if twt (S.2 1 4) ln h side turned ∧ (p : Int) < S.2 1 4 3 then now else S.2 1 36 s)) := by
  unfold F_X12_goes_129
  rw [lp_wait12 hs b1 a32 a31 a34 a37 bh bl bt, Option.bind_some]
  have fin : ∀ A : ZA, ∀ st' state came : Int, (∀ r o j, A r o j = if r = 1 ∧ j = s then (if o = 32 then h else if o = 35 then st' else if o = 33 then state else if o = 36 then came else S.2 r o j) else S.2 r o j) → some (S.1, A) = some (S.1, mA S.2 s h st' state came) := by
    intro A st' state came hA
    congr 2
    funext r o j
    rw [hA, mA_ap]
  by_cases c : twt (S.2 1 4) ln h side turned
  · rw [if_pos c, if_neg (by decide), lp_now12 hs hm hm40 t28 hp (b3 c), Option.bind_some, if_pos c]
    by_cases d : (p : Int) < S.2 1 4 3
    · rw [if_pos d, if_pos ⟨c, d⟩, if_pos ⟨c, d⟩]
      rw [lp_out12 (S := (S.1, zuA (zuA (zuA S.2 1 35 (zset (S.2 1 35) s 0)) 1 33 (zset (S.2 1 33) s 1)) 1 36 (zset (S.2 1 36) s now))) hs b0 a32 a31 bh bl, if_neg (by simp [zuA_ap, zset_ap])]
      refine fin _ _ _ _ fun r o j => ?_
      simp only [zuA_ap, zset_ap]
      by_cases hr : r = 1
      · subst hr
        by_cases hj : j = s
        · subst hj
          simp only [true_and, and_self, if_true]
          (repeat' split) <;> first | rfl | (exfalso; omega) | (subst o; first | rfl | exact a32 | exact a33 | exact a35 | exact a32.symm | exact a33.symm | exact a35.symm)
        · simp only [hj, and_false, if_false, true_and]
          (repeat' split) <;> first | rfl | (exfalso; omega) | (subst o; first | rfl | exact a32 | exact a33 | exact a35 | exact a32.symm | exact a33.symm | exact a35.symm)
      · simp only [hr, false_and, if_false]
    · have nd : ¬(twt (S.2 1 4) ln h side turned ∧ (p : Int) < S.2 1 4 3) := fun z => d z.2
      rw [if_neg d, if_neg nd, if_neg nd]
      rw [lp_out12 (S := (S.1, zuA S.2 1 35 (zset (S.2 1 35) s 0))) hs b0 a32 a31 bh bl]
      have e4 : zuA S.2 1 35 (zset (S.2 1 35) s 0) 1 4 0 = S.2 1 4 0 := rfl
      have e33 : zuA S.2 1 35 (zset (S.2 1 35) s 0) 1 33 s = S.2 1 33 s := rfl
      dsimp only
      simp only [e4, e33]
      by_cases e : 10 * S.2 1 4 0 ≤ h - 10 * ln
      · rw [if_pos ⟨a33, e⟩, if_pos e]
        refine fin _ _ _ _ fun r o j => ?_
        simp only [zuA_ap, zset_ap]
        by_cases hr : r = 1
        · subst hr
          by_cases hj : j = s
          · subst hj
            simp only [true_and, and_self, if_true]
            (repeat' split) <;> first | rfl | (exfalso; omega) | (subst o; first | rfl | exact a32 | exact a33 | exact a35 | exact a32.symm | exact a33.symm | exact a35.symm)
          · simp only [hj, and_false, if_false, true_and]
            (repeat' split) <;> first | rfl | (exfalso; omega) | (subst o; first | rfl | exact a32 | exact a33 | exact a35 | exact a32.symm | exact a33.symm | exact a35.symm)
        · simp only [hr, false_and, if_false]
      · rw [if_neg (fun z => e z.2), if_neg e]
        refine fin _ _ _ _ fun r o j => ?_
        simp only [zuA_ap, zset_ap]
        by_cases hr : r = 1
        · subst hr
          by_cases hj : j = s
          · subst hj
            simp only [true_and, and_self, if_true]
            (repeat' split) <;> first | rfl | (exfalso; omega) | (subst o; first | rfl | exact a32 | exact a33 | exact a35 | exact a32.symm | exact a33.symm | exact a35.symm)
          · simp only [hj, and_false, if_false, true_and]
            (repeat' split) <;> first | rfl | (exfalso; omega) | (subst o; first | rfl | exact a32 | exact a33 | exact a35 | exact a32.symm | exact a33.symm | exact a35.symm)
        · simp only [hr, false_and, if_false]
  · have nd : ¬(twt (S.2 1 4) ln h side turned ∧ (p : Int) < S.2 1 4 3) := fun z => c z.1
    rw [if_neg c, if_pos rfl, if_neg nd, if_neg nd, if_neg c, lp_out12 hs b0 a32 a31 bh bl]
    by_cases e : 10 * S.2 1 4 0 ≤ h - 10 * ln
    · rw [if_pos ⟨a33, e⟩, if_pos e]
      refine fin _ _ _ _ fun r o j => ?_
      simp only [zuA_ap, zset_ap]
      by_cases hr : r = 1
      · subst hr
        by_cases hj : j = s
        · subst hj
          simp only [true_and, and_self, if_true]
          (repeat' split) <;> first | rfl | (exfalso; omega) | (subst o; first | rfl | exact a32 | exact a33 | exact a35 | exact a32.symm | exact a33.symm | exact a35.symm)
        · simp only [hj, and_false, if_false, true_and]
          (repeat' split) <;> first | rfl | (exfalso; omega) | (subst o; first | rfl | exact a32 | exact a33 | exact a35 | exact a32.symm | exact a33.symm | exact a35.symm)
      · simp only [hr, false_and, if_false]
    · rw [if_neg (fun z => e z.2), if_neg e]
      show some (S.1, S.2) = _
      refine fin _ _ _ _ fun r o j => ?_
      by_cases hr : r = 1
      · subst hr
        by_cases hj : j = s
        · subst hj
          simp only [true_and, and_self, if_true]
          (repeat' split) <;> first | rfl | (exfalso; omega) | (subst o; first | rfl | exact a32 | exact a33 | exact a35 | exact a32.symm | exact a33.symm | exact a35.symm)
        · simp only [hj, and_false, if_false]
      · simp only [hr, false_and, if_false]
end GOES
