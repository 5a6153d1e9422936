/-! corners, what was observed, pay, counts -/
section SEEK
variable {S : ZS} {n : Nat} {x : Int}
theorem lp_cornerAt {F : Nat} (hn : S.1 F 3 = (n : Int)) (h3 : n ≤ 3) : F_X1_cornerAt F x S = some (if fnd (fun i => decide (S.2 F 3 i = x)) n < n then (fnd (fun i => decide (S.2 F 3 i = x)) n : Int) else -1) := by
  unfold F_X1_cornerAt F_X1_cornerAt_2
  refine zw_fnd (fun i => decide (S.2 F 3 i = x)) (fun i => (i : Int)) n (fun i => (i : Int)) (-1) rfl (fun i hi hp => ?_) (fun i hi hp => ?_) ?_
  · have hp := of_decide_eq_false hp
    simp (disch := omega) only [hn, if_pos, Int.toNat_natCast, zadd_ok]
    rw [if_neg hp]; rfl
  · have hp := of_decide_eq_true hp
    simp (disch := omega) only [hn, if_pos, Int.toNat_natCast]
    try rw [if_pos hp]
  · simp (disch := omega) only [hn, if_neg]
theorem lp_cornerOf (hn : S.1 1 26 = (n : Int)) (h3 : n ≤ 3) : F_X12_cornerOf x S = some (if fnd (fun i => decide (S.2 1 26 i = x)) n < n then (fnd (fun i => decide (S.2 1 26 i = x)) n : Int) else -1) := by
  unfold F_X12_cornerOf F_X12_cornerOf_2
  refine zw_fnd (fun i => decide (S.2 1 26 i = x)) (fun i => (i : Int)) n (fun i => (i : Int)) (-1) rfl (fun i hi hp => ?_) (fun i hi hp => ?_) ?_
  · have hp := of_decide_eq_false hp
    simp (disch := omega) only [hn, if_pos, Int.toNat_natCast, zadd_ok]
    rw [if_neg hp]; rfl
  · have hp := of_decide_eq_true hp
    simp (disch := omega) only [hn, if_pos, Int.toNat_natCast]
    try rw [if_pos hp]
  · simp (disch := omega) only [hn, if_neg]
theorem lp_drop : F_X0_dropObserved S = some (S.1 10 0, (zup (zup S.1 10 0 0) 10 10 (-1), zuA S.2 10 5 (zrg 0 19 (fun _ => 0) (S.2 10 5)))) := by
  unfold F_X0_dropObserved F_X0_dropObserved_7
  refine zw_for (fun i => ((i : Int), (S.1, zuA S.2 10 5 (zrg 0 i (fun _ => 0) (S.2 10 5))))) 19 ?_ (fun i hi => ?_) ?_
  · rw [zrg_0, zuA_same]; rfl
  · simp (disch := omega) only [zlt, if_pos, zadd_ok, Int.toNat_natCast, zuA_s, zuA_A]
    rw [zrg_z rfl]; rfl
  · simp (disch := omega) only [zlt, if_neg]
theorem lp_observed12 (hn : S.2 1 4 7 = (n : Int)) (h19 : n ≤ 19) : F_X12_observed S = some (cnt (fun e => decide (S.2 1 38 e ≠ 0)) n : Int) := by
  unfold F_X12_observed F_X12_observed_4
  refine zw_for (fun i => ((cnt (fun e => decide (S.2 1 38 e ≠ 0)) i : Int), (i : Int))) n rfl (fun i hi => ?_) ?_
  · have hc := cnt_le (fun e => decide (S.2 1 38 e ≠ 0)) i
    have ec : cnt (fun e => decide (S.2 1 38 e ≠ 0)) (i + 1) = cnt (fun e => decide (S.2 1 38 e ≠ 0)) i + (if decide (S.2 1 38 i ≠ 0) then 1 else 0) := rfl
    simp (disch := omega) only [hn, if_pos, Int.toNat_natCast, zadd_ok]
    rw [ec]
    by_cases q : S.2 1 38 i = 0
    · rw [if_pos q, if_neg (by simp [q])]; rfl
    · rw [if_neg q, if_pos (by simp [q])]; rfl
  · simp (disch := omega) only [hn, if_neg]
theorem lp_forget12 {y : Int} : F_X12_forget_12 y 0 S = some (y, (S.1, zuA S.2 1 38 (zrg 0 19 (fun _ => 0) (S.2 1 38)))) := by
  unfold F_X12_forget_12
  refine zw_for (fun i => ((i : Int), (S.1, zuA S.2 1 38 (zrg 0 i (fun _ => 0) (S.2 1 38))))) 19 ?_ (fun i hi => ?_) ?_
  · rw [zrg_0, zuA_same]; rfl
  · simp (disch := omega) only [zlt, if_pos, zadd_ok, Int.toNat_natCast, zuA_s, zuA_A]
    rw [zrg_z rfl]; rfl
  · simp (disch := omega) only [if_neg]
theorem lp_inPocket (hn : S.1 1 27 = (n : Int)) (h40 : n ≤ 40) : F_X12_inPocket S = some (cnt (fun e => decide (S.2 1 33 e = 1)) n : Int) := by
  unfold F_X12_inPocket F_X12_inPocket_4
  refine zw_for (fun i => ((cnt (fun e => decide (S.2 1 33 e = 1)) i : Int), (i : Int))) n rfl (fun i hi => ?_) ?_
  · have hc := cnt_le (fun e => decide (S.2 1 33 e = 1)) i
    have ec : cnt (fun e => decide (S.2 1 33 e = 1)) (i + 1) = cnt (fun e => decide (S.2 1 33 e = 1)) i + (if decide (S.2 1 33 i = 1) then 1 else 0) := rfl
    simp (disch := omega) only [hn, if_pos, Int.toNat_natCast, zadd_ok]
    rw [ec]
    by_cases q : S.2 1 33 i = 1
    · rw [if_pos q, if_pos (by simp [q])]; rfl
    · rw [if_neg q, if_neg (by simp [q])]; rfl
  · simp (disch := omega) only [hn, if_neg]
/-- sides of the first i of the stack -/
def psd (al : Nat → Int) : Nat → Int
  | 0 => 0
  | i + 1 => psd al i + al (8 + (al (33 + i)).toNat)
theorem psd_b {al : Nat → Int} (h : ∀ i : Nat, i < n → al (8 + (al (33 + i)).toNat) = 1 ∨ al (8 + (al (33 + i)).toNat) = 2) : ∀ i, i ≤ n → 0 ≤ psd al i ∧ psd al i ≤ 2 * (i : Int)
  | 0, _ => by unfold psd; omega
  | i + 1, hi => by
    have := psd_b h i (by omega)
    have := h i (by omega)
    unfold psd
    omega
theorem lp_sides11 {al : Nat → Int} (hR : JobR (S.1 11) (S.2 11) al) (hn : al 32 = (n : Int)) : F_X2_stackSides 11 S = some (psd al n) := by
  obtain ⟨⟨⟨j1, j2⟩, j3, j4, j5, j6, j7, j8, j9, j10, j11, ⟨j12, j13⟩, j14, j15⟩, e0, e5, e6, e7, e8, e9, e10, e11, e12, k1, k2, k3, k4⟩ := hR
  have hs : ∀ i : Nat, i < n → al (8 + (al (33 + i)).toNat) = 1 ∨ al (8 + (al (33 + i)).toNat) = 2 := fun i hi => (j3 (al (33 + i)).toNat (by have := j14 i (by omega); omega)).2
  unfold F_X2_stackSides F_X2_stackSides_4
  refine zw_for (fun i => (psd al i, (i : Int))) n rfl (fun i hi => ?_) ?_
  · have hb := psd_b hs i (by omega)
    have h1 := j14 i (by omega)
    have h2 := k3 i (by omega)
    have h3 := k1 (al (33 + i)).toNat (by omega)
    have h4 := hs i hi
    have ep : psd al (i + 1) = psd al i + al (8 + (al (33 + i)).toNat) := rfl
    dsimp only
    rw [e12, hn, if_pos (by omega), if_pos (by omega), Int.toNat_natCast, h2, if_pos (by omega), h3.2, zadd_ok (x := (i : Int)) (by omega) (by omega)]
    rw [ep]
    rcases h4 with q | q
    · rw [q, if_pos (by omega), zadd_ok (by omega) (by omega)]; rfl
    · rw [q, if_neg (by omega), zadd_ok (by omega) (by omega)]; rfl
  · dsimp only
    rw [e12, hn, if_neg (by omega)]
theorem mul_bd {x y a b : Int} (h1 : 0 ≤ x) (h2 : x ≤ a) (h3 : 0 ≤ y) (h4 : y ≤ b) : 0 ≤ x * y ∧ x * y ≤ a * b :=
  ⟨Int.mul_nonneg h1 h3, Int.mul_le_mul h2 h4 h3 (by omega)⟩
theorem lp_pay12 {x1 x2 x3 : Int} (hJ : JobOK (S.2 1 55)) (hn : S.2 1 55 32 = (n : Int)) (c1 : 0 ≤ x1 ∧ x1 ≤ 1000) (c2 : 0 ≤ x2 ∧ x2 ≤ 100) (c3 : 0 ≤ x3 ∧ x3 ≤ 100) :
    F_X12_pay_49 x1 x2 x3 0 0 S = some (if psd (S.2 1 55) n < x1 then x2 * psd (S.2 1 55) n else x2 * x1 + x3 * (psd (S.2 1 55) n - x1), S) := by
  obtain ⟨⟨j1, j2⟩, j3, j4, j5, j6, j7, j8, j9, j10, j11, ⟨j12, j13⟩, j14, j15⟩ := hJ
  have hs : ∀ i : Nat, i < n → S.2 1 55 (8 + (S.2 1 55 (33 + i)).toNat) = 1 ∨ S.2 1 55 (8 + (S.2 1 55 (33 + i)).toNat) = 2 := fun i hi => (j3 (S.2 1 55 (33 + i)).toNat (by have := j14 i (by omega); omega)).2
  unfold F_X12_pay_49
  refine zw_for (fun i => (psd (S.2 1 55) i, (i : Int))) n rfl (fun i hi => ?_) ?_
  · have hb := psd_b hs i (by omega)
    have h1 := j14 i (by omega)
    have h4 := hs i hi
    have ep : psd (S.2 1 55) (i + 1) = psd (S.2 1 55) i + S.2 1 55 (8 + (S.2 1 55 (33 + i)).toNat) := rfl
    dsimp only
    rw [hn, if_pos (by omega), zadd_ok (x := 33) (by omega) (by omega), if_pos (by omega), show (33 + (i : Int)).toNat = 33 + i by omega, zadd_ok (x := 8) (by omega) (by omega), if_pos (by omega), show (8 + S.2 1 55 (33 + i)).toNat = 8 + (S.2 1 55 (33 + i)).toNat by omega, zadd_ok (x := (i : Int)) (by omega) (by omega)]
    rw [ep]
    unfold zlt
    dsimp only
    rw [zadd_ok (by omega) (by omega)]; rfl
  · have hb := psd_b hs n (Nat.le_refl n)
    dsimp only
    rw [hn, if_neg (by omega)]
    have m1 := mul_bd c2.1 c2.2 hb.1 (show psd (S.2 1 55) n ≤ 120 by omega)
    by_cases q : psd (S.2 1 55) n < x1
    · rw [if_pos q, if_pos q, zmul_ok (by omega) (by omega)]
    · have m2 := mul_bd c2.1 c2.2 c1.1 (show x1 ≤ 1000 by omega)
      have m3 := mul_bd c3.1 c3.2 (show 0 ≤ psd (S.2 1 55) n - x1 by omega) (show psd (S.2 1 55) n - x1 ≤ 120 by omega)
      rw [if_neg q, if_neg q, zsub_ok (by omega) (by omega), zmul_ok (by omega) (by omega), zmul_ok (by omega) (by omega), zadd_ok (by omega) (by omega)]
theorem len_cnt {p : Nat → Bool} : ∀ (n : Nat) (P : List Nat), P.Nodup → (∀ s, s ∈ P ↔ s < n ∧ p s = true) → P.length = cnt p n
  | 0, P, _, h => by
    cases P with
    | nil => rfl
    | cons a t => exact absurd ((h a).mp List.mem_cons_self).1 (by omega)
  | n + 1, P, hd, h => by
    unfold cnt
    by_cases q : p n = true
    · have hm : n ∈ P := (h n).mpr ⟨by omega, q⟩
      have ih := len_cnt n (P.erase n) (hd.erase n) (fun s => by
        rw [hd.mem_erase_iff, h s]
        constructor
        · rintro ⟨a, b, c⟩; exact ⟨by omega, c⟩
        · rintro ⟨a, b⟩; exact ⟨by omega, by omega, b⟩)
      have := List.length_erase_of_mem hm
      have hpos : 0 < P.length := List.length_pos_of_mem hm
      rw [if_pos q, ← ih]
      omega
    · have ih := len_cnt n P hd (fun s => by
        rw [h s]
        constructor
        · rintro ⟨a, b⟩
          refine ⟨?_, b⟩
          rcases Nat.lt_or_ge s n with z | z
          · exact z
          · have : s = n := by omega
            subst this
            exact absurd b q
        · rintro ⟨a, b⟩; exact ⟨by omega, b⟩)
      rw [if_neg q, ← ih]
      rfl
theorem cnt_set {p q : Nat → Bool} {m : Nat} (h1 : p m = false) (h2 : q m = true) (h : ∀ j, j ≠ m → q j = p j) : ∀ n, m < n → cnt q n = cnt p n + 1
  | 0, hm => by omega
  | n + 1, hm => by
    unfold cnt
    by_cases e : m = n
    · subst e
      rw [cnt_cong (p := q) (q := p) (fun i hi => h i (by omega)), h1, h2]
      rfl
    · rw [cnt_set h1 h2 h n (by omega), h n (fun z => e z.symm)]
      omega
end SEEK
section UPD
theorem F_leave {I4 I4' : Nat → Int} {A4 A4' : Nat → Nat → Int} {len : Int} {wear beat cor cor' : Nat → Int} {x : Int} {m : Nat} (H : InvF I4 A4 len wear beat cor (m : Int)) (hm : m < 3) (hx : 1 ≤ x ∧ x ≤ len)
    (hI : I4' 3 = ((m + 1 : Nat) : Int)) (hA : ∀ o j, A4' o j = if o = 3 ∧ j = m then x else A4 o j) (hc : ∀ j, cor' j = if j = m then x else cor j) : InvF I4' A4' len wear beat cor' ((m + 1 : Nat) : Int) := by
  obtain ⟨a, b, c, d⟩ := H
  refine ⟨fun r hr => ?_, hI, by omega, fun k hk => ?_⟩
  · rw [hA, hA]
    simp only [false_and, reduceIte, Nat.reduceEqDiff]
    exact a r hr
  · rw [hA, hc]
    simp only [true_and]
    by_cases e : k = m
    · rw [if_pos e, if_pos e]; exact ⟨rfl, hx⟩
    · rw [if_neg e, if_neg e]; exact d k (by omega)
theorem F_take {I4 I4' : Nat → Int} {A4 A4' : Nat → Nat → Int} {len : Int} {wear beat cor cor' : Nat → Int} {m i : Nat} (H : InvF I4 A4 len wear beat cor ((m + 1 : Nat) : Int)) (hm : m < 3) (hi : i < m + 1)
    (hI : I4' 3 = (m : Int)) (hA : ∀ o j, A4' o j = if o = 3 ∧ j = i then A4 3 m else A4 o j) (hc : ∀ j, cor' j = if j = i then cor m else cor j) : InvF I4' A4' len wear beat cor' (m : Int) := by
  obtain ⟨a, b, c, d⟩ := H
  refine ⟨fun r hr => ?_, hI, by omega, fun k hk => ?_⟩
  · rw [hA, hA]
    simp only [false_and, reduceIte, Nat.reduceEqDiff]
    exact a r hr
  · rw [hA, hc]
    simp only [true_and]
    by_cases e : k = i
    · rw [if_pos e, if_pos e]; exact d m (by omega)
    · rw [if_neg e, if_neg e]; exact d k (by omega)
theorem O_saw {I10 I10' : Nat → Int} {A10 A10' : Nat → Nat → Int} {eyes : Int} {seen on off seen' on' off' : Nat → Int} {m : Nat} {x y : Int} (H : InvO I10 A10 eyes seen on off) (hm : m < 19) (he : (m : Int) < eyes) (hx : ObsOK x y)
    (h0 : I10' 0 = if A10 5 m = 0 then I10 0 + 1 else I10 0) (h5 : ∀ j, A10' 5 j = if j = m then 1 else A10 5 j) (h6 : ∀ j, A10' 6 j = if j = m then x else A10 6 j) (h7 : ∀ j, A10' 7 j = if j = m then y else A10 7 j)
    (s1 : ∀ j, seen' j = if j = m then 1 else seen j) (s2 : ∀ j, on' j = if j = m then x else on j) (s3 : ∀ j, off' j = if j = m then y else off j) : InvO I10' A10' eyes seen' on' off' := by
  obtain ⟨a, b⟩ := H
  have bm := b m hm
  refine ⟨?_, fun e he2 => ?_⟩
  · rw [h0, a]
    by_cases q : A10 5 m = 0
    · rw [if_pos q, cnt_set (p := fun e => decide (seen e ≠ 0)) (q := fun e => decide (seen' e ≠ 0)) (m := m) (decide_eq_false (by rw [← bm.1]; simp [q])) (decide_eq_true (by rw [s1, if_pos rfl]; decide)) (fun j hj => by rw [s1, if_neg hj]) 19 hm]
      omega
    · rw [if_neg q]
      congr 1
      refine cnt_cong fun i hi => ?_
      rw [s1]
      by_cases e : i = m
      · subst e
        have qe : seen i ≠ 0 := by rw [← bm.1]; exact q
        rw [if_pos rfl, decide_eq_true qe]
        rfl
      · rw [if_neg e]
  · rw [h5, h6, h7, s1, s2, s3]
    by_cases e2 : e = m
    · simp only [if_pos e2]
      exact ⟨by trivial, Or.inr ⟨by trivial, by omega, by trivial, by trivial, hx⟩⟩
    · simp only [if_neg e2]
      exact b e he2
theorem O_none {I10 : Nat → Int} {A10 : Nat → Nat → Int} {eyes : Int} {seen on off : Nat → Int} (h0 : I10 0 = 0) (h5 : ∀ j, j < 19 → A10 5 j = 0) (s1 : ∀ j, j < 19 → seen j = 0) : InvO I10 A10 eyes seen on off := by
  refine ⟨?_, fun e he => ?_⟩
  · rw [h0, cnt_zero fun i hi => decide_eq_false (by rw [s1 i hi]; simp)]
    rfl
  · rw [h5 e he, s1 e he]
    exact ⟨rfl, Or.inl rfl⟩
end UPD
section MISC
variable {n : Nat} {S : ZS} {x1 x2 x3 x4 x5 : Int}
theorem pair_corner (h : Inv n S) (hb : x2 = 0 ∨ x2 = 1) : Pair n S (F_X11_corner x1 x2) (F_X12_corner x1 x2) := by
  obtain ⟨hT, hW, hF, hX, hO, hC, hJ, hI, hP, hK, hR, hM⟩ := h
  have hX := InvX_up hX
  obtain ⟨hWo, hWd⟩ := id hW
  obtain ⟨⟨g1, g2⟩, ⟨g3, g4⟩, ⟨g5, g6⟩, g7, g8, g9, g10, g11, g12⟩ := id hWo
  obtain ⟨W, hw1, hw2, hWR⟩ : ∃ W : Nat, (W = 19 ∨ W = 20) ∧ (S.1 2 11).toNat = W ∧ WayR (S.1 W) (S.2 W) (S.2 1 4) (S.2 1 6) (S.2 1 7) (S.2 1 10) := by
    rcases hWd with ⟨q1, q2, q3⟩ | ⟨q1, q2, q3⟩
    · exact ⟨19, Or.inl rfl, by rw [q1]; rfl, q3⟩
    · exact ⟨20, Or.inr rfl, by rw [q1]; rfl, q3⟩
  obtain ⟨w0, w1, w2, w3, w4, w5, w6, w7, w8, w9⟩ := id hWR
  obtain ⟨hf1, hf2, ⟨hf3, hf4⟩, hf5⟩ := id hF
  obtain ⟨m, hm⟩ : ∃ m : Nat, S.1 1 26 = (m : Int) := ⟨_, (Int.toNat_of_nonneg hf3).symm⟩
  have ef : fnd (fun i => decide (S.2 4 3 i = x1)) m = fnd (fun i => decide (S.2 1 26 i = x1)) m := fnd_cong fun i hi => by rw [(hf5 i (by omega)).1]
  have hl := fnd_le (fun i => decide (S.2 1 26 i = x1)) m
  have c11 := lp_cornerAt (S := S) (F := 4) (x := x1) (hf2.trans hm) (by omega)
  have c12 := fun q : Int => lp_cornerOf (S := (zup S.1 1 0 q, S.2)) (x := x1) (n := m) hm (by omega)
  rw [ef] at c11
  have c12' : ∀ T : ZS, T.1 1 = S.1 1 → T.2 1 = S.2 1 → F_X12_cornerOf x1 (zup T.1 1 0 0, T.2) = some (if fnd (fun i => decide (S.2 1 26 i = x1)) m < m then (fnd (fun i => decide (S.2 1 26 i = x1)) m : Int) else -1) := by
    intro T t1 t2
    have q := lp_cornerOf (S := (zup T.1 1 0 0, T.2)) (x := x1) (n := m) (by show T.1 1 26 = _; rw [t1]; exact hm) (by omega)
    rw [q]
    show some (if fnd (fun i => decide (T.2 1 26 i = x1)) m < m then (fnd (fun i => decide (T.2 1 26 i = x1)) m : Int) else -1) = _
    rw [t2]
  clear c12
  generalize fnd (fun i => decide (S.2 1 26 i = x1)) m = k at c11 c12' hl
  by_cases c0 : 1 ≤ x1 ∧ x1 ≤ S.2 1 4 0
  rotate_left 1
  · unfold Pair F_X11_corner F_X1_takeCorner F_X1_leaveCorner
    repeat' first
      | (with_reducible refine zp_some.mpr ?_; try dsimp only)
      | (with_reducible refine zp_wi.mpr ⟨fun c => ?_, fun c => ?_⟩ <;> (try simp (disch := omega) only [zadd_ok, zsub_ok, zmul_ok, zup_ap, zuA_ap, zset_ap, zuA_s, zuA_A, zup_up, and_true, true_and, and_false, false_and, reduceIte, Nat.reduceEqDiff, not_true_eq_false, not_false_eq_true, or_true, true_or, or_false, false_or, hw2] at c) <;> (try (exfalso; omega)) <;> (try dsimp only))
      | with_reducible refine zp_bind.mpr ?_
      | (with_reducible refine zp_if (fun c => ?_) (fun c => ?_) <;> (try simp (disch := omega) only [zadd_ok, zsub_ok, zmul_ok, zup_ap, zuA_ap, zset_ap, zuA_s, zuA_A, zup_up, and_true, true_and, and_false, false_and, reduceIte, Nat.reduceEqDiff, not_true_eq_false, not_false_eq_true, or_true, true_or, or_false, false_or, hw2] at c) <;> (try (exfalso; omega)))
      | (with_reducible refine zp_lt.mpr ?_; try dsimp only)
      | fail
    all_goals refine ⟨rfl, zp_gen S rfl rfl rfl (fun T hE t0 t1 t2 => ?_)⟩
    all_goals unfold F_X12_corner F_X12_leaves
    all_goals repeat' first
      | (with_reducible refine zp_some.mpr ?_; try dsimp only)
      | (with_reducible refine zp_wi.mpr ⟨fun c => ?_, fun c => ?_⟩ <;> (try simp (disch := omega) only [zadd_ok, zsub_ok, zmul_ok, zup_ap, zuA_ap, zset_ap, zuA_s, zuA_A, zup_up, and_true, true_and, and_false, false_and, reduceIte, Nat.reduceEqDiff, not_true_eq_false, not_false_eq_true, or_true, true_or, or_false, false_or, t1, t2] at c) <;> (try (exfalso; omega)) <;> (try dsimp only))
      | with_reducible refine zp_bind.mpr ?_
      | (with_reducible refine zp_if (fun c => ?_) (fun c => ?_) <;> (try simp (disch := omega) only [zadd_ok, zsub_ok, zmul_ok, zup_ap, zuA_ap, zset_ap, zuA_s, zuA_A, zup_up, and_true, true_and, and_false, false_and, reduceIte, Nat.reduceEqDiff, not_true_eq_false, not_false_eq_true, or_true, true_or, or_false, false_or, t1, t2] at c) <;> (try (exfalso; omega)))
      | (with_reducible refine zp_lt.mpr ?_; try dsimp only)
      | fail
    all_goals replace hE := hE.symm
    all_goals subst hE
    all_goals exact ⟨rfl, rfl, hT, hW, hF, hX, hO, hC, hJ, hI, hP, hK, hR, hM⟩
  by_cases ck : k < m
  · rw [if_pos ck] at c11 c12'
    rcases hb with rfl | rfl
    · unfold Pair F_X11_corner F_X1_takeCorner F_X1_leaveCorner
      repeat' first
        | (with_reducible refine zp_some.mpr ?_; try dsimp only)
        | (with_reducible refine zp_wi.mpr ⟨fun c => ?_, fun c => ?_⟩ <;> (try simp (disch := omega) only [zadd_ok, zsub_ok, zmul_ok, zup_ap, zuA_ap, zset_ap, zuA_s, zuA_A, zup_up, and_true, true_and, and_false, false_and, reduceIte, Nat.reduceEqDiff, not_true_eq_false, not_false_eq_true, or_true, true_or, or_false, false_or, hw2] at c) <;> (try (exfalso; omega)) <;> (try dsimp only))
        | with_reducible refine zp_bind.mpr ?_
        | (with_reducible refine zp_if (fun c => ?_) (fun c => ?_) <;> (try simp (disch := omega) only [zadd_ok, zsub_ok, zmul_ok, zup_ap, zuA_ap, zset_ap, zuA_s, zuA_A, zup_up, and_true, true_and, and_false, false_and, reduceIte, Nat.reduceEqDiff, not_true_eq_false, not_false_eq_true, or_true, true_or, or_false, false_or, hw2] at c) <;> (try (exfalso; omega)))
        | (with_reducible refine zp_lt.mpr ?_; try dsimp only)
        | fail
      rw [zp_eq c11]
      repeat' first
        | (with_reducible refine zp_some.mpr ?_; try dsimp only)
        | (with_reducible refine zp_wi.mpr ⟨fun c => ?_, fun c => ?_⟩ <;> (try simp (disch := omega) only [zadd_ok, zsub_ok, zmul_ok, zup_ap, zuA_ap, zset_ap, zuA_s, zuA_A, zup_up, and_true, true_and, and_false, false_and, reduceIte, Nat.reduceEqDiff, not_true_eq_false, not_false_eq_true, or_true, true_or, or_false, false_or, hw2, Int.toNat_natCast] at c) <;> (try (exfalso; omega)) <;> (try dsimp only))
        | with_reducible refine zp_bind.mpr ?_
        | (with_reducible refine zp_if (fun c => ?_) (fun c => ?_) <;> (try simp (disch := omega) only [zadd_ok, zsub_ok, zmul_ok, zup_ap, zuA_ap, zset_ap, zuA_s, zuA_A, zup_up, and_true, true_and, and_false, false_and, reduceIte, Nat.reduceEqDiff, not_true_eq_false, not_false_eq_true, or_true, true_or, or_false, false_or, hw2, Int.toNat_natCast] at c) <;> (try (exfalso; omega)))
        | (with_reducible refine zp_lt.mpr ?_; try dsimp only)
        | fail
      all_goals refine ⟨rfl, zp_gen S rfl rfl rfl (fun T hE t0 t1 t2 => ?_)⟩
      all_goals unfold F_X12_corner F_X12_leaves
      all_goals repeat' first
        | (with_reducible refine zp_some.mpr ?_; try dsimp only)
        | (with_reducible refine zp_wi.mpr ⟨fun c => ?_, fun c => ?_⟩ <;> (try simp (disch := omega) only [zadd_ok, zsub_ok, zmul_ok, zup_ap, zuA_ap, zset_ap, zuA_s, zuA_A, zup_up, and_true, true_and, and_false, false_and, reduceIte, Nat.reduceEqDiff, not_true_eq_false, not_false_eq_true, or_true, true_or, or_false, false_or, t1, t2] at c) <;> (try (exfalso; omega)) <;> (try dsimp only))
        | with_reducible refine zp_bind.mpr ?_
        | (with_reducible refine zp_if (fun c => ?_) (fun c => ?_) <;> (try simp (disch := omega) only [zadd_ok, zsub_ok, zmul_ok, zup_ap, zuA_ap, zset_ap, zuA_s, zuA_A, zup_up, and_true, true_and, and_false, false_and, reduceIte, Nat.reduceEqDiff, not_true_eq_false, not_false_eq_true, or_true, true_or, or_false, false_or, t1, t2] at c) <;> (try (exfalso; omega)))
        | (with_reducible refine zp_lt.mpr ?_; try dsimp only)
        | fail
      all_goals rw [zp_eq (c12' T t1 t2)]
      all_goals repeat' first
        | (with_reducible refine zp_some.mpr ?_; try dsimp only)
        | (with_reducible refine zp_wi.mpr ⟨fun c => ?_, fun c => ?_⟩ <;> (try simp (disch := omega) only [zadd_ok, zsub_ok, zmul_ok, zup_ap, zuA_ap, zset_ap, zuA_s, zuA_A, zup_up, and_true, true_and, and_false, false_and, reduceIte, Nat.reduceEqDiff, not_true_eq_false, not_false_eq_true, or_true, true_or, or_false, false_or, t1, t2, Int.toNat_natCast] at c) <;> (try (exfalso; omega)) <;> (try dsimp only))
        | with_reducible refine zp_bind.mpr ?_
        | (with_reducible refine zp_if (fun c => ?_) (fun c => ?_) <;> (try simp (disch := omega) only [zadd_ok, zsub_ok, zmul_ok, zup_ap, zuA_ap, zset_ap, zuA_s, zuA_A, zup_up, and_true, true_and, and_false, false_and, reduceIte, Nat.reduceEqDiff, not_true_eq_false, not_false_eq_true, or_true, true_or, or_false, false_or, t1, t2, Int.toNat_natCast] at c) <;> (try (exfalso; omega)))
        | (with_reducible refine zp_lt.mpr ?_; try dsimp only)
        | fail
      all_goals replace hE := hE.symm
      all_goals subst hE
      obtain ⟨p, rfl⟩ : ∃ p, m = p + 1 := ⟨m - 1, by omega⟩
      have f1 : zsub (S.1 4 3) 1 = (p : Int) := by rw [hf2, hm, zsub_ok (by omega) (by omega)]; omega
      have f2 : zsub (S.1 1 26) 1 = (p : Int) := by rw [hm, zsub_ok (by omega) (by omega)]; omega
      refine ⟨rfl, rfl, hT, hW, ?_, hX, hO, hC, hJ, hI, hP, hK, hR, hM⟩
      rw [hm] at hF
      show InvF _ _ _ _ _ _ (zsub (S.1 1 26) 1)
      rw [f2]
      refine F_take (m := p) (i := k) (len := S.2 1 4 0) hF (by omega) ck ?_ (fun o j => ?_) (fun j => ?_)
      all_goals (simp only [zup_ap, zuA_ap, zset_ap, zuA_s, zuA_A, zup_up, and_true, true_and, and_false, false_and, reduceIte, Nat.reduceEqDiff, Int.toNat_natCast, f1, f2] <;> (repeat' split) <;> (try subst_vars) <;> first | rfl | (exfalso; omega))
    · unfold Pair F_X11_corner F_X1_takeCorner F_X1_leaveCorner
      repeat' first
        | (with_reducible refine zp_some.mpr ?_; try dsimp only)
        | (with_reducible refine zp_wi.mpr ⟨fun c => ?_, fun c => ?_⟩ <;> (try simp (disch := omega) only [zadd_ok, zsub_ok, zmul_ok, zup_ap, zuA_ap, zset_ap, zuA_s, zuA_A, zup_up, and_true, true_and, and_false, false_and, reduceIte, Nat.reduceEqDiff, not_true_eq_false, not_false_eq_true, or_true, true_or, or_false, false_or, hw2] at c) <;> (try (exfalso; omega)) <;> (try dsimp only))
        | with_reducible refine zp_bind.mpr ?_
        | (with_reducible refine zp_if (fun c => ?_) (fun c => ?_) <;> (try simp (disch := omega) only [zadd_ok, zsub_ok, zmul_ok, zup_ap, zuA_ap, zset_ap, zuA_s, zuA_A, zup_up, and_true, true_and, and_false, false_and, reduceIte, Nat.reduceEqDiff, not_true_eq_false, not_false_eq_true, or_true, true_or, or_false, false_or, hw2] at c) <;> (try (exfalso; omega)))
        | (with_reducible refine zp_lt.mpr ?_; try dsimp only)
        | fail
      all_goals try rw [zp_eq c11]
      all_goals repeat' first
        | (with_reducible refine zp_some.mpr ?_; try dsimp only)
        | (with_reducible refine zp_wi.mpr ⟨fun c => ?_, fun c => ?_⟩ <;> (try simp (disch := omega) only [zadd_ok, zsub_ok, zmul_ok, zup_ap, zuA_ap, zset_ap, zuA_s, zuA_A, zup_up, and_true, true_and, and_false, false_and, reduceIte, Nat.reduceEqDiff, not_true_eq_false, not_false_eq_true, or_true, true_or, or_false, false_or, hw2, Int.toNat_natCast] at c) <;> (try (exfalso; omega)) <;> (try dsimp only))
        | with_reducible refine zp_bind.mpr ?_
        | (with_reducible refine zp_if (fun c => ?_) (fun c => ?_) <;> (try simp (disch := omega) only [zadd_ok, zsub_ok, zmul_ok, zup_ap, zuA_ap, zset_ap, zuA_s, zuA_A, zup_up, and_true, true_and, and_false, false_and, reduceIte, Nat.reduceEqDiff, not_true_eq_false, not_false_eq_true, or_true, true_or, or_false, false_or, hw2, Int.toNat_natCast] at c) <;> (try (exfalso; omega)))
        | (with_reducible refine zp_lt.mpr ?_; try dsimp only)
        | fail
      all_goals refine ⟨rfl, zp_gen S rfl rfl rfl (fun T hE t0 t1 t2 => ?_)⟩
      all_goals unfold F_X12_corner F_X12_leaves
      all_goals repeat' first
        | (with_reducible refine zp_some.mpr ?_; try dsimp only)
        | (with_reducible refine zp_wi.mpr ⟨fun c => ?_, fun c => ?_⟩ <;> (try simp (disch := omega) only [zadd_ok, zsub_ok, zmul_ok, zup_ap, zuA_ap, zset_ap, zuA_s, zuA_A, zup_up, and_true, true_and, and_false, false_and, reduceIte, Nat.reduceEqDiff, not_true_eq_false, not_false_eq_true, or_true, true_or, or_false, false_or, t1, t2] at c) <;> (try (exfalso; omega)) <;> (try dsimp only))
        | with_reducible refine zp_bind.mpr ?_
        | (with_reducible refine zp_if (fun c => ?_) (fun c => ?_) <;> (try simp (disch := omega) only [zadd_ok, zsub_ok, zmul_ok, zup_ap, zuA_ap, zset_ap, zuA_s, zuA_A, zup_up, and_true, true_and, and_false, false_and, reduceIte, Nat.reduceEqDiff, not_true_eq_false, not_false_eq_true, or_true, true_or, or_false, false_or, t1, t2] at c) <;> (try (exfalso; omega)))
        | (with_reducible refine zp_lt.mpr ?_; try dsimp only)
        | fail
      all_goals try rw [zp_eq (c12' T t1 t2)]
      all_goals repeat' first
        | (with_reducible refine zp_some.mpr ?_; try dsimp only)
        | (with_reducible refine zp_wi.mpr ⟨fun c => ?_, fun c => ?_⟩ <;> (try simp (disch := omega) only [zadd_ok, zsub_ok, zmul_ok, zup_ap, zuA_ap, zset_ap, zuA_s, zuA_A, zup_up, and_true, true_and, and_false, false_and, reduceIte, Nat.reduceEqDiff, not_true_eq_false, not_false_eq_true, or_true, true_or, or_false, false_or, t1, t2, Int.toNat_natCast] at c) <;> (try (exfalso; omega)) <;> (try dsimp only))
        | with_reducible refine zp_bind.mpr ?_
        | (with_reducible refine zp_if (fun c => ?_) (fun c => ?_) <;> (try simp (disch := omega) only [zadd_ok, zsub_ok, zmul_ok, zup_ap, zuA_ap, zset_ap, zuA_s, zuA_A, zup_up, and_true, true_and, and_false, false_and, reduceIte, Nat.reduceEqDiff, not_true_eq_false, not_false_eq_true, or_true, true_or, or_false, false_or, t1, t2, Int.toNat_natCast] at c) <;> (try (exfalso; omega)))
        | (with_reducible refine zp_lt.mpr ?_; try dsimp only)
        | fail
      all_goals replace hE := hE.symm
      all_goals subst hE
      all_goals exact ⟨rfl, rfl, hT, hW, hF, hX, hO, hC, hJ, hI, hP, hK, hR, hM⟩
  · rw [if_neg ck] at c11 c12'
    rcases hb with rfl | rfl
    · unfold Pair F_X11_corner F_X1_takeCorner F_X1_leaveCorner
      repeat' first
        | (with_reducible refine zp_some.mpr ?_; try dsimp only)
        | (with_reducible refine zp_wi.mpr ⟨fun c => ?_, fun c => ?_⟩ <;> (try simp (disch := omega) only [zadd_ok, zsub_ok, zmul_ok, zup_ap, zuA_ap, zset_ap, zuA_s, zuA_A, zup_up, and_true, true_and, and_false, false_and, reduceIte, Nat.reduceEqDiff, not_true_eq_false, not_false_eq_true, or_true, true_or, or_false, false_or, hw2] at c) <;> (try (exfalso; omega)) <;> (try dsimp only))
        | with_reducible refine zp_bind.mpr ?_
        | (with_reducible refine zp_if (fun c => ?_) (fun c => ?_) <;> (try simp (disch := omega) only [zadd_ok, zsub_ok, zmul_ok, zup_ap, zuA_ap, zset_ap, zuA_s, zuA_A, zup_up, and_true, true_and, and_false, false_and, reduceIte, Nat.reduceEqDiff, not_true_eq_false, not_false_eq_true, or_true, true_or, or_false, false_or, hw2] at c) <;> (try (exfalso; omega)))
        | (with_reducible refine zp_lt.mpr ?_; try dsimp only)
        | fail
      rw [zp_eq c11]
      repeat' first
        | (with_reducible refine zp_some.mpr ?_; try dsimp only)
        | (with_reducible refine zp_wi.mpr ⟨fun c => ?_, fun c => ?_⟩ <;> (try simp (disch := omega) only [zadd_ok, zsub_ok, zmul_ok, zup_ap, zuA_ap, zset_ap, zuA_s, zuA_A, zup_up, and_true, true_and, and_false, false_and, reduceIte, Nat.reduceEqDiff, not_true_eq_false, not_false_eq_true, or_true, true_or, or_false, false_or, hw2, Int.toNat_natCast] at c) <;> (try (exfalso; omega)) <;> (try dsimp only))
        | with_reducible refine zp_bind.mpr ?_
        | (with_reducible refine zp_if (fun c => ?_) (fun c => ?_) <;> (try simp (disch := omega) only [zadd_ok, zsub_ok, zmul_ok, zup_ap, zuA_ap, zset_ap, zuA_s, zuA_A, zup_up, and_true, true_and, and_false, false_and, reduceIte, Nat.reduceEqDiff, not_true_eq_false, not_false_eq_true, or_true, true_or, or_false, false_or, hw2, Int.toNat_natCast] at c) <;> (try (exfalso; omega)))
        | (with_reducible refine zp_lt.mpr ?_; try dsimp only)
        | fail
      all_goals refine ⟨rfl, zp_gen S rfl rfl rfl (fun T hE t0 t1 t2 => ?_)⟩
      all_goals unfold F_X12_corner F_X12_leaves
      all_goals repeat' first
        | (with_reducible refine zp_some.mpr ?_; try dsimp only)
        | (with_reducible refine zp_wi.mpr ⟨fun c => ?_, fun c => ?_⟩ <;> (try simp (disch := omega) only [zadd_ok, zsub_ok, zmul_ok, zup_ap, zuA_ap, zset_ap, zuA_s, zuA_A, zup_up, and_true, true_and, and_false, false_and, reduceIte, Nat.reduceEqDiff, not_true_eq_false, not_false_eq_true, or_true, true_or, or_false, false_or, t1, t2] at c) <;> (try (exfalso; omega)) <;> (try dsimp only))
        | with_reducible refine zp_bind.mpr ?_
        | (with_reducible refine zp_if (fun c => ?_) (fun c => ?_) <;> (try simp (disch := omega) only [zadd_ok, zsub_ok, zmul_ok, zup_ap, zuA_ap, zset_ap, zuA_s, zuA_A, zup_up, and_true, true_and, and_false, false_and, reduceIte, Nat.reduceEqDiff, not_true_eq_false, not_false_eq_true, or_true, true_or, or_false, false_or, t1, t2] at c) <;> (try (exfalso; omega)))
        | (with_reducible refine zp_lt.mpr ?_; try dsimp only)
        | fail
      all_goals rw [zp_eq (c12' T t1 t2)]
      all_goals repeat' first
        | (with_reducible refine zp_some.mpr ?_; try dsimp only)
        | (with_reducible refine zp_wi.mpr ⟨fun c => ?_, fun c => ?_⟩ <;> (try simp (disch := omega) only [zadd_ok, zsub_ok, zmul_ok, zup_ap, zuA_ap, zset_ap, zuA_s, zuA_A, zup_up, and_true, true_and, and_false, false_and, reduceIte, Nat.reduceEqDiff, not_true_eq_false, not_false_eq_true, or_true, true_or, or_false, false_or, t1, t2, Int.toNat_natCast] at c) <;> (try (exfalso; omega)) <;> (try dsimp only))
        | with_reducible refine zp_bind.mpr ?_
        | (with_reducible refine zp_if (fun c => ?_) (fun c => ?_) <;> (try simp (disch := omega) only [zadd_ok, zsub_ok, zmul_ok, zup_ap, zuA_ap, zset_ap, zuA_s, zuA_A, zup_up, and_true, true_and, and_false, false_and, reduceIte, Nat.reduceEqDiff, not_true_eq_false, not_false_eq_true, or_true, true_or, or_false, false_or, t1, t2, Int.toNat_natCast] at c) <;> (try (exfalso; omega)))
        | (with_reducible refine zp_lt.mpr ?_; try dsimp only)
        | fail
      all_goals replace hE := hE.symm
      all_goals subst hE
      all_goals exact ⟨rfl, rfl, hT, hW, hF, hX, hO, hC, hJ, hI, hP, hK, hR, hM⟩
    · unfold Pair F_X11_corner F_X1_takeCorner F_X1_leaveCorner
      repeat' first
        | (with_reducible refine zp_some.mpr ?_; try dsimp only)
        | (with_reducible refine zp_wi.mpr ⟨fun c => ?_, fun c => ?_⟩ <;> (try simp (disch := omega) only [zadd_ok, zsub_ok, zmul_ok, zup_ap, zuA_ap, zset_ap, zuA_s, zuA_A, zup_up, and_true, true_and, and_false, false_and, reduceIte, Nat.reduceEqDiff, not_true_eq_false, not_false_eq_true, or_true, true_or, or_false, false_or, hw2] at c) <;> (try (exfalso; omega)) <;> (try dsimp only))
        | with_reducible refine zp_bind.mpr ?_
        | (with_reducible refine zp_if (fun c => ?_) (fun c => ?_) <;> (try simp (disch := omega) only [zadd_ok, zsub_ok, zmul_ok, zup_ap, zuA_ap, zset_ap, zuA_s, zuA_A, zup_up, and_true, true_and, and_false, false_and, reduceIte, Nat.reduceEqDiff, not_true_eq_false, not_false_eq_true, or_true, true_or, or_false, false_or, hw2] at c) <;> (try (exfalso; omega)))
        | (with_reducible refine zp_lt.mpr ?_; try dsimp only)
        | fail
      all_goals try rw [zp_eq c11]
      all_goals repeat' first
        | (with_reducible refine zp_some.mpr ?_; try dsimp only)
        | (with_reducible refine zp_wi.mpr ⟨fun c => ?_, fun c => ?_⟩ <;> (try simp (disch := omega) only [zadd_ok, zsub_ok, zmul_ok, zup_ap, zuA_ap, zset_ap, zuA_s, zuA_A, zup_up, and_true, true_and, and_false, false_and, reduceIte, Nat.reduceEqDiff, not_true_eq_false, not_false_eq_true, or_true, true_or, or_false, false_or, hw2, Int.toNat_natCast] at c) <;> (try (exfalso; omega)) <;> (try dsimp only))
        | with_reducible refine zp_bind.mpr ?_
        | (with_reducible refine zp_if (fun c => ?_) (fun c => ?_) <;> (try simp (disch := omega) only [zadd_ok, zsub_ok, zmul_ok, zup_ap, zuA_ap, zset_ap, zuA_s, zuA_A, zup_up, and_true, true_and, and_false, false_and, reduceIte, Nat.reduceEqDiff, not_true_eq_false, not_false_eq_true, or_true, true_or, or_false, false_or, hw2, Int.toNat_natCast] at c) <;> (try (exfalso; omega)))
        | (with_reducible refine zp_lt.mpr ?_; try dsimp only)
        | fail
      all_goals refine ⟨rfl, zp_gen S rfl rfl rfl (fun T hE t0 t1 t2 => ?_)⟩
      all_goals unfold F_X12_corner F_X12_leaves
      all_goals repeat' first
        | (with_reducible refine zp_some.mpr ?_; try dsimp only)
        | (with_reducible refine zp_wi.mpr ⟨fun c => ?_, fun c => ?_⟩ <;> (try simp (disch := omega) only [zadd_ok, zsub_ok, zmul_ok, zup_ap, zuA_ap, zset_ap, zuA_s, zuA_A, zup_up, and_true, true_and, and_false, false_and, reduceIte, Nat.reduceEqDiff, not_true_eq_false, not_false_eq_true, or_true, true_or, or_false, false_or, t1, t2] at c) <;> (try (exfalso; omega)) <;> (try dsimp only))
        | with_reducible refine zp_bind.mpr ?_
        | (with_reducible refine zp_if (fun c => ?_) (fun c => ?_) <;> (try simp (disch := omega) only [zadd_ok, zsub_ok, zmul_ok, zup_ap, zuA_ap, zset_ap, zuA_s, zuA_A, zup_up, and_true, true_and, and_false, false_and, reduceIte, Nat.reduceEqDiff, not_true_eq_false, not_false_eq_true, or_true, true_or, or_false, false_or, t1, t2] at c) <;> (try (exfalso; omega)))
        | (with_reducible refine zp_lt.mpr ?_; try dsimp only)
        | fail
      all_goals try rw [zp_eq (c12' T t1 t2)]
      all_goals repeat' first
        | (with_reducible refine zp_some.mpr ?_; try dsimp only)
        | (with_reducible refine zp_wi.mpr ⟨fun c => ?_, fun c => ?_⟩ <;> (try simp (disch := omega) only [zadd_ok, zsub_ok, zmul_ok, zup_ap, zuA_ap, zset_ap, zuA_s, zuA_A, zup_up, and_true, true_and, and_false, false_and, reduceIte, Nat.reduceEqDiff, not_true_eq_false, not_false_eq_true, or_true, true_or, or_false, false_or, t1, t2, Int.toNat_natCast] at c) <;> (try (exfalso; omega)) <;> (try dsimp only))
        | with_reducible refine zp_bind.mpr ?_
        | (with_reducible refine zp_if (fun c => ?_) (fun c => ?_) <;> (try simp (disch := omega) only [zadd_ok, zsub_ok, zmul_ok, zup_ap, zuA_ap, zset_ap, zuA_s, zuA_A, zup_up, and_true, true_and, and_false, false_and, reduceIte, Nat.reduceEqDiff, not_true_eq_false, not_false_eq_true, or_true, true_or, or_false, false_or, t1, t2, Int.toNat_natCast] at c) <;> (try (exfalso; omega)))
        | (with_reducible refine zp_lt.mpr ?_; try dsimp only)
        | fail
      all_goals replace hE := hE.symm
      all_goals subst hE
      all_goals first
        | exact ⟨rfl, rfl, hT, hW, hF, hX, hO, hC, hJ, hI, hP, hK, hR, hM⟩
        | (have f1 : zadd (S.1 4 3) 1 = ((m + 1 : Nat) : Int) := by rw [hf2, hm, zadd_ok (by omega) (by omega)]; omega
           have f2 : zadd (S.1 1 26) 1 = ((m + 1 : Nat) : Int) := by rw [hm, zadd_ok (by omega) (by omega)]; omega
           have f3 : S.1 4 3 = (m : Int) := hf2.trans hm
           have fm : zadd (m : Int) 1 = ((m + 1 : Nat) : Int) := by rw [zadd_ok (by omega) (by omega)]; omega
           refine ⟨rfl, rfl, hT, hW, ?_, hX, hO, hC, hJ, hI, hP, hK, hR, hM⟩
           rw [hm] at hF
           show InvF _ _ _ _ _ _ (zadd (S.1 1 26) 1)
           rw [f2]
           refine F_leave (m := m) (x := x1) (len := S.2 1 4 0) hF (by omega) (by omega) ?_ (fun o j => ?_) (fun j => ?_)
           all_goals (simp only [zup_ap, zuA_ap, zset_ap, zuA_s, zuA_A, zup_up, and_true, true_and, and_false, false_and, reduceIte, Nat.reduceEqDiff, Int.toNat_natCast, fm, f3, hm] <;> (repeat' split) <;> (try subst_vars) <;> first | rfl | (exfalso; omega)))
theorem pair_forget (h : Inv n S) : Pair n S F_X11_forget F_X12_forget := by
  obtain ⟨hT, hW, hF, hX, hO, hC, hJ, hI, hP, hK, hR, hM⟩ := h
  have hX := InvX_up hX
  obtain ⟨hWo, hWd⟩ := id hW
  obtain ⟨⟨g1, g2⟩, ⟨g3, g4⟩, ⟨g5, g6⟩, g7, g8, g9, g10, g11, g12⟩ := id hWo
  obtain ⟨W, hw1, hw2, hWR⟩ : ∃ W : Nat, (W = 19 ∨ W = 20) ∧ (S.1 2 11).toNat = W ∧ WayR (S.1 W) (S.2 W) (S.2 1 4) (S.2 1 6) (S.2 1 7) (S.2 1 10) := by
    rcases hWd with ⟨q1, q2, q3⟩ | ⟨q1, q2, q3⟩
    · exact ⟨19, Or.inl rfl, by rw [q1]; rfl, q3⟩
    · exact ⟨20, Or.inr rfl, by rw [q1]; rfl, q3⟩
  obtain ⟨w0, w1, w2, w3, w4, w5, w6, w7, w8, w9⟩ := id hWR
  obtain ⟨k, hk⟩ : ∃ k : Nat, S.2 1 4 7 = (k : Int) := ⟨_, (Int.toNat_of_nonneg g5).symm⟩
  obtain ⟨o1, o2⟩ := id hO
  have ec : cnt (fun e => decide (S.2 1 38 e ≠ 0)) 19 = cnt (fun e => decide (S.2 1 38 e ≠ 0)) k := by
    have key : ∀ d, k + d ≤ 19 → cnt (fun e => decide (S.2 1 38 e ≠ 0)) (k + d) = cnt (fun e => decide (S.2 1 38 e ≠ 0)) k := by
      intro d
      induction d with
      | zero => intro _; rfl
      | succ d ih =>
        intro hd
        have e0 : S.2 1 38 (k + d) = 0 := by
          rcases (o2 (k + d) (by omega)).2 with q | q
          · exact q
          · have := q.2.1; omega
        show cnt _ (k + d) + (if decide (S.2 1 38 (k + d) ≠ 0) then 1 else 0) = _
        rw [ih (by omega), e0]
        rfl
    have := key (19 - k) (by omega)
    rwa [show k + (19 - k) = 19 by omega] at this
  unfold Pair F_X11_forget
  rw [zp_bind, zp_eq lp_drop, zp_some]
  refine ⟨rfl, zp_gen S rfl rfl rfl (fun T hE t0 t1 t2 => ?_)⟩
  unfold F_X12_forget
  rw [zp_lt, zp_bind, zp_eq (lp_observed12 (S := (zup T.1 1 0 0, T.2)) (n := k) (by show T.2 1 4 7 = _; rw [t2]; exact hk) (by omega)), zp_eq lp_forget12]
  replace hE := hE.symm
  subst hE
  refine ⟨?_, rfl, hT, hW, hF, hX, O_none rfl (fun j hj => ?_) (fun j hj => ?_), Or.inl rfl, hJ, hI, hP, hK, hR, hM⟩
  · show (cnt (fun e => decide (S.2 1 38 e ≠ 0)) k : Int) = S.1 10 0
    rw [o1, ec]
  · simp only [zup_ap, zuA_ap, zset_ap, zuA_s, zuA_A, zup_up, and_true, true_and, and_false, false_and, reduceIte, Nat.reduceEqDiff, Int.toNat_natCast, zrg_ap]
    rw [if_pos (by omega)]
  · simp only [zup_ap, zuA_ap, zset_ap, zuA_s, zuA_A, zup_up, and_true, true_and, and_false, false_and, reduceIte, Nat.reduceEqDiff, Int.toNat_natCast, zrg_ap]
    rw [if_pos (by omega)]
theorem pair_pay (h : Inv n S) : PairI n S (F_X11_pay x1 x2 x3) (F_X12_pay x1 x2 x3) := by
  obtain ⟨hT, hW, hF, hX, hO, hC, hJ, hI, hP, hK, hR, hM⟩ := h
  have hX := InvX_up hX
  have j12 := hJ.1.2.2.2.2.2.2.2.2.2.2.1
  obtain ⟨m, hm⟩ : ∃ m : Nat, S.2 1 55 32 = (m : Int) := ⟨_, (Int.toNat_of_nonneg j12.1).symm⟩
  have hs : ∀ i : Nat, i < m → S.2 1 55 (8 + (S.2 1 55 (33 + i)).toNat) = 1 ∨ S.2 1 55 (8 + (S.2 1 55 (33 + i)).toNat) = 2 := fun i hi => (hJ.1.2.1 (S.2 1 55 (33 + i)).toNat (by have := hJ.1.2.2.2.2.2.2.2.2.2.2.2.1 i (by omega); omega)).2
  have hb := psd_b hs m (Nat.le_refl m)
  clear hs
  unfold PairI F_X11_pay
  repeat' first
    | (with_reducible refine zp_some.mpr ?_; try dsimp only)
    | (with_reducible refine zp_wi.mpr ⟨fun c => ?_, fun c => ?_⟩ <;> (try simp (disch := omega) only [zadd_ok, zsub_ok, zmul_ok, zup_ap, zuA_ap, zset_ap, zuA_s, zuA_A, zup_up, and_true, true_and, and_false, false_and, reduceIte, Nat.reduceEqDiff, not_true_eq_false, not_false_eq_true, or_true, true_or, or_false, false_or] at c) <;> (try (exfalso; omega)) <;> (try dsimp only))
    | with_reducible refine zp_bind.mpr ?_
    | (with_reducible refine zp_if (fun c => ?_) (fun c => ?_) <;> (try simp (disch := omega) only [zadd_ok, zsub_ok, zmul_ok, zup_ap, zuA_ap, zset_ap, zuA_s, zuA_A, zup_up, and_true, true_and, and_false, false_and, reduceIte, Nat.reduceEqDiff, not_true_eq_false, not_false_eq_true, or_true, true_or, or_false, false_or] at c) <;> (try (exfalso; omega)))
    | (with_reducible refine zp_lt.mpr ?_; try dsimp only)
    | fail
  all_goals try rw [zp_eq (lp_sides11 hJ hm), zp_some]
  all_goals unfold F_X12_pay
  all_goals repeat' first
    | (with_reducible refine zp_some.mpr ?_; try dsimp only)
    | (with_reducible refine zp_wi.mpr ⟨fun c => ?_, fun c => ?_⟩ <;> (try simp (disch := omega) only [zadd_ok, zsub_ok, zmul_ok, zup_ap, zuA_ap, zset_ap, zuA_s, zuA_A, zup_up, and_true, true_and, and_false, false_and, reduceIte, Nat.reduceEqDiff, not_true_eq_false, not_false_eq_true, or_true, true_or, or_false, false_or] at c) <;> (try (exfalso; omega)) <;> (try dsimp only))
    | with_reducible refine zp_bind.mpr ?_
    | (with_reducible refine zp_if (fun c => ?_) (fun c => ?_) <;> (try simp (disch := omega) only [zadd_ok, zsub_ok, zmul_ok, zup_ap, zuA_ap, zset_ap, zuA_s, zuA_A, zup_up, and_true, true_and, and_false, false_and, reduceIte, Nat.reduceEqDiff, not_true_eq_false, not_false_eq_true, or_true, true_or, or_false, false_or] at c) <;> (try (exfalso; omega)))
    | (with_reducible refine zp_lt.mpr ?_; try dsimp only)
    | fail
  all_goals try rw [zp_eq (lp_pay12 (S := (zup S.1 1 0 0, S.2)) hJ.1 hm (by omega) (by omega) (by omega))]
  all_goals refine ⟨?_, rfl, hT, hW, hF, hX, hO, hC, hJ, hI, hP, hK, hR, hM⟩
  all_goals try rfl
  show (if psd (S.2 1 55) m < x1 then x2 * psd (S.2 1 55) m else x2 * x1 + x3 * (psd (S.2 1 55) m - x1)) = _
  have m1 := mul_bd hb.1 (show psd (S.2 1 55) m ≤ 120 by omega) (show 0 ≤ x2 by omega) (show x2 ≤ 100 by omega)
  by_cases q : psd (S.2 1 55) m < x1
  · rw [if_pos q, zmin_le (by omega), zsub_ok (by omega) (by omega), Int.sub_self, zmul_ok (x := psd (S.2 1 55) m) (by omega) (by omega), zmul_ok (x := 0) (by omega) (by omega), Int.zero_mul, zadd_ok (by omega) (by omega), Int.mul_comm]
    omega
  · have m2 := mul_bd (show 0 ≤ x1 by omega) (show x1 ≤ 1000 by omega) (show 0 ≤ x2 by omega) (show x2 ≤ 100 by omega)
    have m3 := mul_bd (show 0 ≤ psd (S.2 1 55) m - x1 by omega) (show psd (S.2 1 55) m - x1 ≤ 120 by omega) (show 0 ≤ x3 by omega) (show x3 ≤ 100 by omega)
    rw [if_neg q, zmin_ge (by omega), zsub_ok (by omega) (by omega), zmul_ok (x := x1) (by omega) (by omega), zmul_ok (x := psd (S.2 1 55) m - x1) (by omega) (by omega), zadd_ok (by omega) (by omega), Int.mul_comm x2, Int.mul_comm x3]
theorem pair_saw (h : Inv n S) : Pair n S (F_X11_saw x1 x2 x3) (F_X12_saw x1 x2 x3) := by
  obtain ⟨hT, hW, hF, hX, hO, hC, hJ, hI, hP, hK, hR, hM⟩ := h
  have hX := InvX_up hX
  obtain ⟨hWo, hWd⟩ := id hW
  obtain ⟨⟨g1, g2⟩, ⟨g3, g4⟩, ⟨g5, g6⟩, g7, g8, g9, g10, g11, g12⟩ := id hWo
  obtain ⟨W, hw1, hw2, hWR⟩ : ∃ W : Nat, (W = 19 ∨ W = 20) ∧ (S.1 2 11).toNat = W ∧ WayR (S.1 W) (S.2 W) (S.2 1 4) (S.2 1 6) (S.2 1 7) (S.2 1 10) := by
    rcases hWd with ⟨q1, q2, q3⟩ | ⟨q1, q2, q3⟩
    · exact ⟨19, Or.inl rfl, by rw [q1]; rfl, q3⟩
    · exact ⟨20, Or.inr rfl, by rw [q1]; rfl, q3⟩
  obtain ⟨w0, w1, w2, w3, w4, w5, w6, w7, w8, w9⟩ := id hWR
  by_cases c0 : (0 ≤ x1 ∧ x1 < S.2 1 4 7) ∧ ObsOK x2 x3
  rotate_left 1
  · unfold ObsOK at c0
    unfold Pair F_X11_saw F_X10_hasEye F_X0_observe F_X0_canBe F_X0_canBe_31 F_X0_observe_36
    repeat' first
      | (with_reducible refine zp_some.mpr ?_; try dsimp only)
      | (with_reducible refine zp_wi.mpr ⟨fun c => ?_, fun c => ?_⟩ <;> (try simp (disch := omega) only [zadd_ok, zsub_ok, zmul_ok, zup_ap, zuA_ap, zset_ap, zuA_s, zuA_A, zup_up, and_true, true_and, and_false, false_and, reduceIte, Nat.reduceEqDiff, not_true_eq_false, not_false_eq_true, or_true, true_or, or_false, false_or, hw2] at c) <;> (try (exfalso; omega)) <;> (try dsimp only))
      | with_reducible refine zp_bind.mpr ?_
      | (with_reducible refine zp_if (fun c => ?_) (fun c => ?_) <;> (try simp (disch := omega) only [zadd_ok, zsub_ok, zmul_ok, zup_ap, zuA_ap, zset_ap, zuA_s, zuA_A, zup_up, and_true, true_and, and_false, false_and, reduceIte, Nat.reduceEqDiff, not_true_eq_false, not_false_eq_true, or_true, true_or, or_false, false_or, hw2] at c) <;> (try (exfalso; omega)))
      | (with_reducible refine zp_lt.mpr ?_; try dsimp only)
      | fail
    all_goals refine ⟨rfl, zp_gen S rfl rfl rfl (fun T hE t0 t1 t2 => ?_)⟩
    all_goals unfold F_X12_saw F_X12_saw_59 F_X12_isEye
    all_goals repeat' first
      | (with_reducible refine zp_some.mpr ?_; try dsimp only)
      | (with_reducible refine zp_wi.mpr ⟨fun c => ?_, fun c => ?_⟩ <;> (try simp (disch := omega) only [zadd_ok, zsub_ok, zmul_ok, zup_ap, zuA_ap, zset_ap, zuA_s, zuA_A, zup_up, and_true, true_and, and_false, false_and, reduceIte, Nat.reduceEqDiff, not_true_eq_false, not_false_eq_true, or_true, true_or, or_false, false_or, t1, t2] at c) <;> (try (exfalso; omega)) <;> (try dsimp only))
      | with_reducible refine zp_bind.mpr ?_
      | (with_reducible refine zp_if (fun c => ?_) (fun c => ?_) <;> (try simp (disch := omega) only [zadd_ok, zsub_ok, zmul_ok, zup_ap, zuA_ap, zset_ap, zuA_s, zuA_A, zup_up, and_true, true_and, and_false, false_and, reduceIte, Nat.reduceEqDiff, not_true_eq_false, not_false_eq_true, or_true, true_or, or_false, false_or, t1, t2] at c) <;> (try (exfalso; omega)))
      | (with_reducible refine zp_lt.mpr ?_; try dsimp only)
      | fail
    all_goals replace hE := hE.symm
    all_goals subst hE
    all_goals exact ⟨rfl, rfl, hT, hW, hF, hX, hO, hC, hJ, hI, hP, hK, hR, hM⟩
  obtain ⟨m, rfl⟩ : ∃ m : Nat, x1 = (m : Int) := ⟨_, (Int.toNat_of_nonneg (by omega)).symm⟩
  have hob := c0.2
  obtain ⟨o1, o2⟩ := id hO
  have q := o2 m (by omega)
  have q1 : S.2 10 5 m = S.2 1 38 m := q.1
  have q2 : S.2 1 38 m = 0 ∨ S.2 1 38 m = 1 := by
    rcases q.2 with z | z
    · exact Or.inl z
    · exact Or.inr z.1
  have hcn := cnt_le (fun e => decide (S.2 1 38 e ≠ 0)) 19
  have f1 : zadd (S.1 10 0) 1 = S.1 10 0 + 1 := by rw [zadd_ok (by omega) (by omega)]
  unfold ObsOK at c0
  clear q hcn
  unfold Pair F_X11_saw F_X10_hasEye F_X0_observe F_X0_canBe F_X0_canBe_31 F_X0_observe_36
  repeat' first
    | (with_reducible refine zp_some.mpr ?_; try dsimp only)
    | (with_reducible refine zp_wi.mpr ⟨fun c => ?_, fun c => ?_⟩ <;> (try simp (disch := omega) only [zadd_ok, zsub_ok, zmul_ok, zup_ap, zuA_ap, zset_ap, zuA_s, zuA_A, zup_up, and_true, true_and, and_false, false_and, reduceIte, Nat.reduceEqDiff, not_true_eq_false, not_false_eq_true, or_true, true_or, or_false, false_or, hw2, Int.toNat_natCast] at c) <;> (try (exfalso; omega)) <;> (try dsimp only))
    | with_reducible refine zp_bind.mpr ?_
    | (with_reducible refine zp_if (fun c => ?_) (fun c => ?_) <;> (try simp (disch := omega) only [zadd_ok, zsub_ok, zmul_ok, zup_ap, zuA_ap, zset_ap, zuA_s, zuA_A, zup_up, and_true, true_and, and_false, false_and, reduceIte, Nat.reduceEqDiff, not_true_eq_false, not_false_eq_true, or_true, true_or, or_false, false_or, hw2, Int.toNat_natCast] at c) <;> (try (exfalso; omega)))
    | (with_reducible refine zp_lt.mpr ?_; try dsimp only)
    | fail
  all_goals refine ⟨rfl, zp_gen S rfl rfl rfl (fun T hE t0 t1 t2 => ?_)⟩
  all_goals unfold F_X12_saw F_X12_saw_59 F_X12_isEye
  all_goals repeat' first
    | (with_reducible refine zp_some.mpr ?_; try dsimp only)
    | (with_reducible refine zp_wi.mpr ⟨fun c => ?_, fun c => ?_⟩ <;> (try simp (disch := omega) only [zadd_ok, zsub_ok, zmul_ok, zup_ap, zuA_ap, zset_ap, zuA_s, zuA_A, zup_up, and_true, true_and, and_false, false_and, reduceIte, Nat.reduceEqDiff, not_true_eq_false, not_false_eq_true, or_true, true_or, or_false, false_or, t1, t2, Int.toNat_natCast] at c) <;> (try (exfalso; omega)) <;> (try dsimp only))
    | with_reducible refine zp_bind.mpr ?_
    | (with_reducible refine zp_if (fun c => ?_) (fun c => ?_) <;> (try simp (disch := omega) only [zadd_ok, zsub_ok, zmul_ok, zup_ap, zuA_ap, zset_ap, zuA_s, zuA_A, zup_up, and_true, true_and, and_false, false_and, reduceIte, Nat.reduceEqDiff, not_true_eq_false, not_false_eq_true, or_true, true_or, or_false, false_or, t1, t2, Int.toNat_natCast] at c) <;> (try (exfalso; omega)))
    | (with_reducible refine zp_lt.mpr ?_; try dsimp only)
    | fail
  all_goals replace hE := hE.symm
  all_goals subst hE
  all_goals
    refine ⟨rfl, rfl, hT, hW, hF, hX, O_saw (m := m) (x := x2) (y := x3) (eyes := S.2 1 4 7) hO (by omega) (by omega) hob ?_ (fun j => ?_) (fun j => ?_) (fun j => ?_) (fun j => ?_) (fun j => ?_) (fun j => ?_), Or.inl rfl, hJ, hI, hP, hK, hR, hM⟩
    all_goals (simp only [zup_ap, zuA_ap, zset_ap, zuA_s, zuA_A, zup_up, and_true, true_and, and_false, false_and, reduceIte, Nat.reduceEqDiff, Int.toNat_natCast, f1] <;> (repeat' split) <;> (try subst_vars) <;> first | rfl | omega)
theorem pair_count (h : Inv n S) : PairI n S (F_X11_count x1) (F_X12_count x1) := by
  obtain ⟨hT, hW, hF, hX, hO, hC, hJ, hI, hP, hK, hR, hM⟩ := h
  have hX := InvX_up hX
  obtain ⟨⟨⟨j1, j2⟩, j3, j4, j5, j6, j7, j8, j9, j10, j11, ⟨j12, j13⟩, j14, j15⟩, e0, e5, e6, e7, e8, e9, e10, e11, e12, k1, k2, k3, k4⟩ := id hJ
  obtain ⟨hWo, hWd⟩ := id hW
  obtain ⟨⟨g1, g2⟩, ⟨g3, g4⟩, ⟨g5, g6⟩, g7, g8, g9, g10, g11, g12⟩ := id hWo
  obtain ⟨W, hw1, hw2, hWR⟩ : ∃ W : Nat, (W = 19 ∨ W = 20) ∧ (S.1 2 11).toNat = W ∧ WayR (S.1 W) (S.2 W) (S.2 1 4) (S.2 1 6) (S.2 1 7) (S.2 1 10) := by
    rcases hWd with ⟨q1, q2, q3⟩ | ⟨q1, q2, q3⟩
    · exact ⟨19, Or.inl rfl, by rw [q1]; rfl, q3⟩
    · exact ⟨20, Or.inr rfl, by rw [q1]; rfl, q3⟩
  obtain ⟨w0, w1, w2, w3, w4, w5, w6, w7, w8, w9⟩ := id hWR
  obtain ⟨⟨L, P, ⟨r1, r2, r3, r4, r5, r6, r7, rs, rL, rP⟩, ⟨o1, o2⟩, ⟨o3, o4⟩, o5, os, oL, oLp, oP, oPp, oPl, o6⟩, hWa⟩ := id hX
  obtain ⟨hf1, hf2, ⟨hf3, hf4⟩, hf5⟩ := id hF
  obtain ⟨ht1, ht2, ht3, ht4, ht5⟩ := id hT
  obtain ⟨ho1, ho2⟩ := id hO
  obtain ⟨k, hk⟩ : ∃ k : Nat, S.2 1 4 7 = (k : Int) := ⟨_, (Int.toNat_of_nonneg g5).symm⟩
  obtain ⟨m, hm⟩ : ∃ m : Nat, S.1 1 27 = (m : Int) := ⟨_, (Int.toNat_of_nonneg o1).symm⟩
  have ec : cnt (fun e => decide (S.2 1 38 e ≠ 0)) 19 = cnt (fun e => decide (S.2 1 38 e ≠ 0)) k := by
    have key : ∀ d, k + d ≤ 19 → cnt (fun e => decide (S.2 1 38 e ≠ 0)) (k + d) = cnt (fun e => decide (S.2 1 38 e ≠ 0)) k := by
      intro d
      induction d with
      | zero => intro _; rfl
      | succ d ih =>
        intro hd
        have e0 : S.2 1 38 (k + d) = 0 := by
          rcases (ho2 (k + d) (by omega)).2 with q | q
          · exact q
          · have := q.2.1; omega
        show cnt _ (k + d) + (if decide (S.2 1 38 (k + d) ≠ 0) then 1 else 0) = _
        rw [ih (by omega), e0]
        rfl
    have := key (19 - k) (by omega)
    rwa [show k + (19 - k) = 19 by omega] at this
  have ep : P.length = cnt (fun e => decide (S.2 1 33 e = 1)) m := len_cnt m P (oPp.imp (fun {a b} q z => by subst z; omega)) (fun s => by rw [oP s, decide_eq_true_iff]; omega)
  have c5 := lp_inPocket (S := (zup S.1 1 0 0, S.2)) (n := m) hm (by omega)
  have c8 := lp_observed12 (S := (zup S.1 1 0 0, S.2)) (n := k) hk (by omega)
  clear rs rL rP os oL oLp oP oPp hWa hf1 hf5 ho2 k1 k2 k3 k4 j3 j4 j14 j15 g9 g10 g11 g12 w8 w9 ht3
  unfold PairI F_X11_count F_X11_countOfSet F_X12_count
  repeat' first
    | (with_reducible refine zp_some.mpr ?_; try dsimp only)
    | (with_reducible refine zp_wi.mpr ⟨fun c => ?_, fun c => ?_⟩ <;> (try simp (disch := omega) only [zadd_ok, zsub_ok, zmul_ok, zup_ap, zuA_ap, zset_ap, zuA_s, zuA_A, zup_up, and_true, true_and, and_false, false_and, reduceIte, Nat.reduceEqDiff, not_true_eq_false, not_false_eq_true, or_true, true_or, or_false, false_or, hw2] at c) <;> (try (exfalso; omega)) <;> (try dsimp only))
    | with_reducible refine zp_bind.mpr ?_
    | (with_reducible refine zp_if (fun c => ?_) (fun c => ?_) <;> (try simp (disch := omega) only [zadd_ok, zsub_ok, zmul_ok, zup_ap, zuA_ap, zset_ap, zuA_s, zuA_A, zup_up, and_true, true_and, and_false, false_and, reduceIte, Nat.reduceEqDiff, not_true_eq_false, not_false_eq_true, or_true, true_or, or_false, false_or, hw2] at c) <;> (try (exfalso; omega)))
    | (with_reducible refine zp_lt.mpr ?_; try dsimp only)
    | fail
  all_goals try rw [zp_eq c5, zp_some]
  all_goals try rw [zp_eq c8, zp_some]
  all_goals refine ⟨?_, rfl, hT, hW, hF, hX, hO, hC, hJ, hI, hP, hK, hR, hM⟩
  all_goals first
    | rfl
    | (rw [hw2]; first | exact w0.symm | exact w1.symm | exact w2.symm)
    | exact r2.symm
    | exact r1.symm
    | exact r3.symm
    | exact hf2.symm
    | exact ht1.symm
    | exact e0.symm
    | exact e11.symm
    | exact e12.symm
    | (show (cnt _ _ : Int) = _; rw [r4, ep])
    | (show (cnt _ _ : Int) = _; rw [ho1, ec])
end MISC
