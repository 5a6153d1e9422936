/-! the way's small calls, rows of memory, images -/
section SMALL
variable {n : Nat} {S : ZS} {x1 x2 x3 x4 x5 : Int}
theorem F_wear {I4 : Nat → Int} {A4 A4' : Nat → Nat → Int} {len : Int} {wear beat cor wear' : Nat → Int} {many x : Int} {m : Nat} (H : InvF I4 A4 len wear beat cor many) (hx : 0 ≤ x ∧ x ≤ 1000)
    (hA : ∀ o j, A4' o j = if o = 1 ∧ j = m then x else A4 o j) (hw : ∀ j, wear' j = if j = m then x else wear j) : InvF I4 A4' len wear' beat cor many := by
  obtain ⟨a, b, c, d⟩ := H
  refine ⟨fun r hr => ?_, b, c, fun k hk => ?_⟩
  · have q := a r hr
    rw [hA, hA, hw]
    simp only [true_and, false_and, reduceIte, Nat.reduceEqDiff]
    clear a d
    by_cases h : r = m
    · rw [if_pos h, if_pos h]; omega
    · rw [if_neg h, if_neg h]; exact q
  · rw [hA]
    simp only [false_and, reduceIte, Nat.reduceEqDiff]
    exact d k hk
theorem F_beat {I4 : Nat → Int} {A4 A4' : Nat → Nat → Int} {len : Int} {wear beat cor beat' : Nat → Int} {many x : Int} {m : Nat} (H : InvF I4 A4 len wear beat cor many) (hx : x = 0 ∨ (2 ≤ x ∧ x ≤ 20))
    (hA : ∀ o j, A4' o j = if o = 2 ∧ j = m then x else A4 o j) (hw : ∀ j, beat' j = if j = m then x else beat j) : InvF I4 A4' len wear beat' cor many := by
  obtain ⟨a, b, c, d⟩ := H
  refine ⟨fun r hr => ?_, b, c, fun k hk => ?_⟩
  · have q := a r hr
    rw [hA, hA, hw]
    simp only [true_and, false_and, reduceIte, Nat.reduceEqDiff]
    clear a d
    by_cases h : r = m
    · rw [if_pos h, if_pos h]; omega
    · rw [if_neg h, if_neg h]; exact q
  · rw [hA]
    simp only [false_and, reduceIte, Nat.reduceEqDiff]
    exact d k hk
section MEMU
variable {A A' : Nat → Nat → Int} {rs rm ce rs' rm' ce' : Nat → Int} {r m : Nat}
theorem M_row {x : Int} (H : InvM A rs rm ce) (hm : m ≤ 60) (hx : 0 ≤ x ∧ x ≤ 3) (hA2 : ∀ j, A' 2 j = if j = r then x else A 2 j) (hA3 : ∀ j, A' 3 j = if j = r then (m : Int) else A 3 j)
    (hA : ∀ q j, q < 4 → A' (10 + q) j = if q = r ∧ j < 60 then 0 else A (10 + q) j) (h1 : ∀ j, rs' j = if j = r then x else rs j) (h2 : ∀ j, rm' j = if j = r then (m : Int) else rm j)
    (h3 : ∀ j, ce' j = if 60 * r ≤ j ∧ j < 60 * r + m then 0 else ce j) : InvM A' rs' rm' ce' := by
  intro q hq
  have a := H q hq
  rw [hA2, hA3, h1, h2]
  by_cases e : q = r
  · subst e
    refine Or.inr ⟨by simp, by simp; omega, by simp, by simp; omega, fun i hi => ?_⟩
    simp only [reduceIte] at hi
    rw [hA q i hq, if_pos ⟨rfl, by omega⟩, h3, if_pos (by omega)]
  · simp only [if_neg e]
    rcases a with ⟨a1, a2⟩ | ⟨a1, a2, a3, a4, a5⟩
    · exact Or.inl ⟨a1, a2⟩
    · refine Or.inr ⟨a1, a2, a3, a4, fun i hi => ?_⟩
      rw [hA q i hq, if_neg (fun z => e z.1), h3, if_neg (by omega)]
      exact a5 i hi
theorem M_set {b : Nat} (H : InvM A rs rm ce) (hA2 : ∀ j, A' 2 j = A 2 j) (hA3 : ∀ j, A' 3 j = A 3 j)
    (hA : ∀ q j, q < 4 → ¬(q = r ∧ b ≤ j ∧ j < b + m) → A' (10 + q) j = A (10 + q) j)
    (h3 : ∀ q j, q < 4 → j < 60 → ¬(q = r ∧ b ≤ j ∧ j < b + m) → ce' (60 * q + j) = ce (60 * q + j))
    (h4 : ∀ j, b ≤ j → j < b + m → A' (10 + r) j = ce' (60 * r + j)) : InvM A' rs rm ce' := by
  intro q hq
  have a := H q hq
  rw [hA2, hA3]
  rcases a with ⟨a1, a2⟩ | ⟨a1, a2, a3, a4, a5⟩
  · exact Or.inl ⟨a1, a2⟩
  · refine Or.inr ⟨a1, a2, a3, a4, fun i hi => ?_⟩
    by_cases e : q = r ∧ b ≤ i ∧ i < b + m
    · obtain ⟨rfl, e2, e3⟩ := e
      exact h4 i e2 e3
    · rw [hA q i hq e, h3 q i hq (by omega) e]
      exact a5 i hi
end MEMU
theorem JobR_cp {I I' : Nat → Int} {A A' : Nat → Nat → Int} {al al' : Nat → Int} (H : JobR I A al) (hI : ∀ k, k = 0 ∨ (5 ≤ k ∧ k ≤ 12) → I' k = I k)
    (h2 : ∀ p, p < 8 → A' 2 p = A 2 p ∧ A' 3 p = A 3 p) (h4 : ∀ t, t < 4 → A' 4 t = A 4 t ∧ A' 5 t = A 5 t) (h14 : ∀ i, i < 60 → A' 14 i = A 14 i)
    (h15 : ∀ p, p < 10 → A' 15 p = A 15 p ∧ A' 16 p = A 16 p ∧ A' 17 p = A 17 p ∧ A' 18 p = A 18 p) (hal : ∀ k, k < 133 → al' k = al k) : JobR I' A' al' := by
  refine JobR_cong hal ?_
  obtain ⟨⟨b1, b2⟩, ⟨b3, b4⟩, _⟩ := JobOK_b H.1
  obtain ⟨a0, a1, a2, a3, a4, a5, a6, a7, a8, a9, a10, a11, a12, a13⟩ := H
  refine ⟨a0, ?_, ?_, ?_, ?_, ?_, ?_, ?_, ?_, ?_, fun p hp => ?_, fun t ht => ?_, fun i hi => ?_, fun p hp => ?_⟩
  · rw [hI 0 (by omega)]; exact a1
  · rw [hI 5 (by omega)]; exact a2
  · rw [hI 6 (by omega)]; exact a3
  · rw [hI 7 (by omega)]; exact a4
  · rw [hI 8 (by omega)]; exact a5
  · rw [hI 9 (by omega)]; exact a6
  · rw [hI 10 (by omega)]; exact a7
  · rw [hI 11 (by omega)]; exact a8
  · rw [hI 12 (by omega)]; exact a9
  · rw [(h2 p (by omega)).1, (h2 p (by omega)).2]; exact a10 p hp
  · rw [(h4 t ht).1, (h4 t ht).2]; exact a11 t ht
  · rw [h14 i (by omega)]; exact a12 i hi
  · obtain ⟨q1, q2, q3, q4⟩ := h15 p hp
    rw [q1, q2, q3, q4]; exact a13 p hp
theorem pair_fault (h : Inv n S) : PairI n S (F_X11_fault x1) (F_X12_fault x1) := by
  obtain ⟨hT, hW, hF, hX, hO, hC, hJ, hI, hP, hK, hR, hM⟩ := h
  have hX := InvX_up hX
  obtain ⟨-, -, -, hf1, hf2⟩ := id hT
  unfold PairI F_X11_fault F_X12_fault
  repeat' first
    | (with_reducible refine zp_some.mpr ?_; try dsimp only)
    | (with_reducible refine zp_wi.mpr ⟨fun c => ?_, fun c => ?_⟩ <;> (try simp (disch := omega) only [zadd_ok, zsub_ok, zmul_ok, zup_ap, zuA_ap, zset_ap, zuA_s, zuA_A, zup_up, and_true, true_and, and_false, false_and, reduceIte, Nat.reduceEqDiff, not_true_eq_false, not_false_eq_true, or_true, true_or, or_false, false_or] at c) <;> (try (exfalso; omega)) <;> (try dsimp only))
    | with_reducible refine zp_bind.mpr ?_
    | (with_reducible refine zp_if (fun c => ?_) (fun c => ?_) <;> (try simp (disch := omega) only [zadd_ok, zsub_ok, zmul_ok, zup_ap, zuA_ap, zset_ap, zuA_s, zuA_A, zup_up, and_true, true_and, and_false, false_and, reduceIte, Nat.reduceEqDiff, not_true_eq_false, not_false_eq_true, or_true, true_or, or_false, false_or] at c) <;> (try (exfalso; omega)))
    | (with_reducible refine zp_lt.mpr ?_; try dsimp only)
    | fail
  all_goals exact ⟨by first | rfl | exact hf1.symm | exact hf2.symm, rfl, hT, hW, hF, hX, hO, hC, hJ, hI, hP, hK, hR, hM⟩
theorem pair_set (h : Inv n S) : Pair n S (F_X11_set x1 x2 x3) (F_X12_set x1 x2 x3) := by
  obtain ⟨hT, hW, hF, hX, hO, hC, hJ, hI, hP, hK, hR, hM⟩ := h
  have hX := InvX_up hX
  obtain ⟨hWo, hWd⟩ := id hW
  obtain ⟨⟨g1, g2⟩, ⟨g3, g4⟩, ⟨g5, g6⟩, g7, g8, g9, g10, g11, g12⟩ := id hWo
  obtain ⟨W, hw1, hw2, hWR⟩ : ∃ W : Nat, (W = 19 ∨ W = 20) ∧ (S.1 2 11).toNat = W ∧ WayR (S.1 W) (S.2 W) (S.2 1 4) (S.2 1 6) (S.2 1 7) (S.2 1 10) := by
    rcases hWd with ⟨q1, q2, q3⟩ | ⟨q1, q2, q3⟩
    · exact ⟨19, Or.inl rfl, by rw [q1]; rfl, q3⟩
    · exact ⟨20, Or.inr rfl, by rw [q1]; rfl, q3⟩
  obtain ⟨w0, w1, w2, w3, w4, w5, w6, w7, w8, w9⟩ := id hWR
  obtain ⟨hf1, hf2, ⟨hf3, hf4⟩, hf5⟩ := id hF
  have hf := fun h : x1.toNat < 10 => hf1 x1.toNat h
  unfold Pair F_X11_set F_X10_hasRoller F_X1_changeWear F_X1_changeBeat F_X1_changeBeat_18
  repeat' first
    | (with_reducible refine zp_some.mpr ?_; try dsimp only)
    | (with_reducible refine zp_wi.mpr ⟨fun c => ?_, fun c => ?_⟩ <;> (try simp (disch := omega) only [zadd_ok, zsub_ok, zmul_ok, zup_ap, zuA_ap, zset_ap, zuA_s, zuA_A, zup_up, and_true, true_and, and_false, false_and, reduceIte, Nat.reduceEqDiff, not_true_eq_false, not_false_eq_true, or_true, true_or, or_false, false_or, hw2] at c) <;> (try (exfalso; omega)) <;> (try dsimp only))
    | with_reducible refine zp_bind.mpr ?_
    | (with_reducible refine zp_if (fun c => ?_) (fun c => ?_) <;> (try simp (disch := omega) only [zadd_ok, zsub_ok, zmul_ok, zup_ap, zuA_ap, zset_ap, zuA_s, zuA_A, zup_up, and_true, true_and, and_false, false_and, reduceIte, Nat.reduceEqDiff, not_true_eq_false, not_false_eq_true, or_true, true_or, or_false, false_or, hw2] at c) <;> (try (exfalso; omega)))
    | (with_reducible refine zp_lt.mpr ?_; try dsimp only)
    | fail
  all_goals refine ⟨rfl, zp_gen S rfl rfl rfl (fun T hT t0 t1 t2 => ?_)⟩
  all_goals unfold F_X12_set F_X12_isRoller F_X12_set_66
  all_goals repeat' first
    | (with_reducible refine zp_some.mpr ?_; try dsimp only)
    | (with_reducible refine zp_wi.mpr ⟨fun c => ?_, fun c => ?_⟩ <;> (try simp (disch := omega) only [zadd_ok, zsub_ok, zmul_ok, zup_ap, zuA_ap, zset_ap, zuA_s, zuA_A, zup_up, and_true, true_and, and_false, false_and, reduceIte, Nat.reduceEqDiff, not_true_eq_false, not_false_eq_true, or_true, true_or, or_false, false_or, t1, t2] at c) <;> (try (exfalso; omega)) <;> (try dsimp only))
    | with_reducible refine zp_bind.mpr ?_
    | (with_reducible refine zp_if (fun c => ?_) (fun c => ?_) <;> (try simp (disch := omega) only [zadd_ok, zsub_ok, zmul_ok, zup_ap, zuA_ap, zset_ap, zuA_s, zuA_A, zup_up, and_true, true_and, and_false, false_and, reduceIte, Nat.reduceEqDiff, not_true_eq_false, not_false_eq_true, or_true, true_or, or_false, false_or, t1, t2] at c) <;> (try (exfalso; omega)))
    | (with_reducible refine zp_lt.mpr ?_; try dsimp only)
    | fail
  all_goals subst hT
  all_goals first
    | exact ⟨rfl, rfl, hT, hW, hF, hX, hO, hC, hJ, hI, hP, hK, hR, hM⟩
    | exact ⟨(hf (by omega)).1.symm, rfl, hT, hW, F_wear (m := x1.toNat) (x := x3) hF (by omega) (fun o j => by simp only [zup_ap, zuA_ap, zset_ap, zuA_s, zuA_A, zup_up, and_true, true_and, and_false, false_and, reduceIte, Nat.reduceEqDiff, Int.toNat_natCast]; (repeat' split) <;> (try subst_vars) <;> first | rfl | (exfalso; omega)) (fun j => by simp only [zup_ap, zuA_ap, zset_ap, zuA_s, zuA_A, zup_up, and_true, true_and, and_false, false_and, reduceIte, Nat.reduceEqDiff, Int.toNat_natCast]), hX, hO, hC, hJ, hI, hP, hK, hR, hM⟩
    | exact ⟨(hf (by omega)).2.2.1.symm, rfl, hT, hW, F_beat (m := x1.toNat) (x := x3) hF (by omega) (fun o j => by simp only [zup_ap, zuA_ap, zset_ap, zuA_s, zuA_A, zup_up, and_true, true_and, and_false, false_and, reduceIte, Nat.reduceEqDiff, Int.toNat_natCast]; (repeat' split) <;> (try subst_vars) <;> first | rfl | (exfalso; omega)) (fun j => by simp only [zup_ap, zuA_ap, zset_ap, zuA_s, zuA_A, zup_up, and_true, true_and, and_false, false_and, reduceIte, Nat.reduceEqDiff, Int.toNat_natCast]), hX, hO, hC, hJ, hI, hP, hK, hR, hM⟩
theorem pair_sheet (h : Inv n S) : PairI n S (F_X11_sheet x1 x2) (F_X12_sheet x1 x2) := by
  obtain ⟨hT, hW, hF, hX, hO, hC, hJ, hI, hP, hK, hR, hM⟩ := h
  have hX := InvX_up hX
  obtain ⟨⟨L, P, ⟨r1, r2, r3, r4, r5, r6, r7, rs, rL, rP⟩, ⟨o1, o2⟩, ⟨o3, o4⟩, o5, os, oL, oLp, oP, oPp, oPl, o6⟩, hWa⟩ := id hX
  unfold PairI F_X11_sheet F_X12_sheet F_X8_tailOf F_X12_tail
  repeat' first
    | (with_reducible refine zp_some.mpr ?_; try dsimp only)
    | (with_reducible refine zp_wi.mpr ⟨fun c => ?_, fun c => ?_⟩ <;> (try simp (disch := omega) only [zadd_ok, zsub_ok, zmul_ok, zup_ap, zuA_ap, zset_ap, zuA_s, zuA_A, zup_up, and_true, true_and, and_false, false_and, reduceIte, Nat.reduceEqDiff, not_true_eq_false, not_false_eq_true, or_true, true_or, or_false, false_or] at c) <;> (try (exfalso; omega)) <;> (try dsimp only))
    | with_reducible refine zp_bind.mpr ?_
    | (with_reducible refine zp_if (fun c => ?_) (fun c => ?_) <;> (try simp (disch := omega) only [zadd_ok, zsub_ok, zmul_ok, zup_ap, zuA_ap, zset_ap, zuA_s, zuA_A, zup_up, and_true, true_and, and_false, false_and, reduceIte, Nat.reduceEqDiff, not_true_eq_false, not_false_eq_true, or_true, true_or, or_false, false_or] at c) <;> (try (exfalso; omega)))
    | (with_reducible refine zp_lt.mpr ?_; try dsimp only)
    | fail
  all_goals first
    | exact ⟨rfl, rfl, hT, hW, hF, hX, hO, hC, hJ, hI, hP, hK, hR, hM⟩
    | (have q := rs x1.toNat (by omega); have q2 := os x1.toNat (by omega)
       refine ⟨?_, rfl, hT, hW, hF, hX, hO, hC, hJ, hI, hP, hK, hR, hM⟩
       first
         | exact q.1.symm
         | exact q.2.1.symm
         | exact q.2.2.1.symm
         | exact q.2.2.2.1.symm
         | (show zsub (S.2 1 32 x1.toNat) (zmul 10 (S.2 1 31 x1.toNat)) = zsub (S.2 6 7 x1.toNat) (S.2 6 10 x1.toNat)
            rw [zmul_ok (by omega) (by omega), q.2.1, q.2.2.2.2.1]))
theorem pair_sees (h : Inv n S) : PairI n S (F_X11_sees x1) (F_X12_sees x1) := by
  obtain ⟨hT, hW, hF, hX, hO, hC, hJ, hI, hP, hK, hR, hM⟩ := h
  have hX := InvX_up hX
  obtain ⟨hWo, hWd⟩ := id hW
  obtain ⟨⟨g1, g2⟩, ⟨g3, g4⟩, ⟨g5, g6⟩, g7, g8, g9, g10, g11, g12⟩ := id hWo
  obtain ⟨W, hw1, hw2, hWR⟩ : ∃ W : Nat, (W = 19 ∨ W = 20) ∧ (S.1 2 11).toNat = W ∧ WayR (S.1 W) (S.2 W) (S.2 1 4) (S.2 1 6) (S.2 1 7) (S.2 1 10) := by
    rcases hWd with ⟨q1, q2, q3⟩ | ⟨q1, q2, q3⟩
    · exact ⟨19, Or.inl rfl, by rw [q1]; rfl, q3⟩
    · exact ⟨20, Or.inr rfl, by rw [q1]; rfl, q3⟩
  obtain ⟨w0, w1, w2, w3, w4, w5, w6, w7, w8, w9⟩ := id hWR
  obtain ⟨⟨L, P, ⟨r1, r2, r3, r4, r5, r6, r7, rs, rL, rP⟩, ⟨o1, o2⟩, ⟨o3, o4⟩, o5, os, oL, oLp, oP, oPp, oPl, o6⟩, hWa⟩ := id hX
  unfold PairI F_X11_sees F_X12_sees F_X10_hasEye F_X12_isEye
  repeat' first
    | (with_reducible refine zp_some.mpr ?_; try dsimp only)
    | (with_reducible refine zp_wi.mpr ⟨fun c => ?_, fun c => ?_⟩ <;> (try simp (disch := omega) only [zadd_ok, zsub_ok, zmul_ok, zup_ap, zuA_ap, zset_ap, zuA_s, zuA_A, zup_up, and_true, true_and, and_false, false_and, reduceIte, Nat.reduceEqDiff, not_true_eq_false, not_false_eq_true, or_true, true_or, or_false, false_or, hw2] at c) <;> (try (exfalso; omega)) <;> (try dsimp only))
    | with_reducible refine zp_bind.mpr ?_
    | (with_reducible refine zp_if (fun c => ?_) (fun c => ?_) <;> (try simp (disch := omega) only [zadd_ok, zsub_ok, zmul_ok, zup_ap, zuA_ap, zset_ap, zuA_s, zuA_A, zup_up, and_true, true_and, and_false, false_and, reduceIte, Nat.reduceEqDiff, not_true_eq_false, not_false_eq_true, or_true, true_or, or_false, false_or, hw2] at c) <;> (try (exfalso; omega)))
    | (with_reducible refine zp_lt.mpr ?_; try dsimp only)
    | fail
  all_goals first
    | exact ⟨rfl, rfl, hT, hW, hF, hX, hO, hC, hJ, hI, hP, hK, hR, hM⟩
    | (exfalso; have q := (hWa x1.toNat (by omega)).1; simp only [Nat.reduceAdd] at *; omega)
theorem pair_passing (h : Inv n S) : PairI n S (F_X11_passing x1 x2 x3) (F_X12_passing x1 x2 x3) := by
  obtain ⟨hT, hW, hF, hX, hO, hC, hJ, hI, hP, hK, hR, hM⟩ := h
  have hX := InvX_up hX
  obtain ⟨hWo, hWd⟩ := id hW
  obtain ⟨⟨g1, g2⟩, ⟨g3, g4⟩, ⟨g5, g6⟩, g7, g8, g9, g10, g11, g12⟩ := id hWo
  obtain ⟨W, hw1, hw2, hWR⟩ : ∃ W : Nat, (W = 19 ∨ W = 20) ∧ (S.1 2 11).toNat = W ∧ WayR (S.1 W) (S.2 W) (S.2 1 4) (S.2 1 6) (S.2 1 7) (S.2 1 10) := by
    rcases hWd with ⟨q1, q2, q3⟩ | ⟨q1, q2, q3⟩
    · exact ⟨19, Or.inl rfl, by rw [q1]; rfl, q3⟩
    · exact ⟨20, Or.inr rfl, by rw [q1]; rfl, q3⟩
  obtain ⟨w0, w1, w2, w3, w4, w5, w6, w7, w8, w9⟩ := id hWR
  obtain ⟨⟨L, P, ⟨r1, r2, r3, r4, r5, r6, r7, rs, rL, rP⟩, ⟨o1, o2⟩, ⟨o3, o4⟩, o5, os, oL, oLp, oP, oPp, oPl, o6⟩, hWa⟩ := id hX
  unfold PairI F_X11_passing F_X10_hasEye
  by_cases c1 : x1 < 0 ∨ S.2 1 4 7 ≤ x1
  · unfold F_X12_passing F_X12_isEye
    repeat' first
      | (with_reducible refine zp_some.mpr ?_; try dsimp only)
      | (with_reducible refine zp_wi.mpr ⟨fun c => ?_, fun c => ?_⟩ <;> (try simp (disch := omega) only [zadd_ok, zsub_ok, zmul_ok, zup_ap, zuA_ap, zset_ap, zuA_s, zuA_A, zup_up, and_true, true_and, and_false, false_and, reduceIte, Nat.reduceEqDiff, not_true_eq_false, not_false_eq_true, or_true, true_or, or_false, false_or, hw2] at c) <;> (try (exfalso; omega)) <;> (try dsimp only))
      | with_reducible refine zp_bind.mpr ?_
      | (with_reducible refine zp_if (fun c => ?_) (fun c => ?_) <;> (try simp (disch := omega) only [zadd_ok, zsub_ok, zmul_ok, zup_ap, zuA_ap, zset_ap, zuA_s, zuA_A, zup_up, and_true, true_and, and_false, false_and, reduceIte, Nat.reduceEqDiff, not_true_eq_false, not_false_eq_true, or_true, true_or, or_false, false_or, hw2] at c) <;> (try (exfalso; omega)))
      | (with_reducible refine zp_lt.mpr ?_; try dsimp only)
      | fail
    all_goals exact ⟨rfl, rfl, hT, hW, hF, hX, hO, hC, hJ, hI, hP, hK, hR, hM⟩
  · obtain ⟨p1, p2, p3, p4, ⟨p5, p6⟩, p7, p8, p9⟩ := hWa x1.toNat (by omega)
    have e1 : S.2 (6 + 1) 2 x1.toNat = S.2 1 41 x1.toNat := p4
    unfold F_X12_passing F_X12_isEye
    repeat' first
      | (with_reducible refine zp_some.mpr ?_; try dsimp only)
      | (with_reducible refine zp_wi.mpr ⟨fun c => ?_, fun c => ?_⟩ <;> (try simp (disch := omega) only [zadd_ok, zsub_ok, zmul_ok, zup_ap, zuA_ap, zset_ap, zuA_s, zuA_A, zup_up, and_true, true_and, and_false, false_and, reduceIte, Nat.reduceEqDiff, not_true_eq_false, not_false_eq_true, or_true, true_or, or_false, false_or, hw2, e1] at c) <;> (try (exfalso; omega)) <;> (try dsimp only))
      | with_reducible refine zp_bind.mpr ?_
      | (with_reducible refine zp_if (fun c => ?_) (fun c => ?_) <;> (try simp (disch := omega) only [zadd_ok, zsub_ok, zmul_ok, zup_ap, zuA_ap, zset_ap, zuA_s, zuA_A, zup_up, and_true, true_and, and_false, false_and, reduceIte, Nat.reduceEqDiff, not_true_eq_false, not_false_eq_true, or_true, true_or, or_false, false_or, hw2, e1] at c) <;> (try (exfalso; omega)))
      | (with_reducible refine zp_lt.mpr ?_; try dsimp only)
      | fail
    all_goals first
      | exact ⟨rfl, rfl, hT, hW, hF, hX, hO, hC, hJ, hI, hP, hK, hR, hM⟩
      | (refine ⟨?_, rfl, hT, hW, hF, hX, hO, hC, hJ, hI, hP, hK, hR, hM⟩
         have q := p7 x2.toNat (by omega)
         simp (disch := omega) only [zadd_ok, zmul_ok]
         rw [show (x1 * 12 + x2).toNat = 12 * x1.toNat + x2.toNat by omega, show (12 * x1 + x2).toNat = 12 * x1.toNat + x2.toNat by omega]
         first
           | exact q.1.symm
           | exact q.2.symm)
theorem pair_row (h : Inv n S) : Pair n S (F_X11_row x1 x2 x3) (F_X12_row x1 x2 x3) := by
  obtain ⟨hT, hW, hF, hX, hO, hC, hJ, hI, hP, hK, hR, hM⟩ := h
  have hX := InvX_up hX
  by_cases c0 : (0 ≤ x1 ∧ x1 ≤ 3) ∧ (0 ≤ x2 ∧ x2 ≤ 3) ∧ (0 ≤ x3 ∧ x3 ≤ 60)
  · obtain ⟨r, rfl⟩ : ∃ r : Nat, x1 = (r : Int) := ⟨_, (Int.toNat_of_nonneg (by omega)).symm⟩
    obtain ⟨m, rfl⟩ : ∃ m : Nat, x3 = (m : Int) := ⟨_, (Int.toNat_of_nonneg (by omega)).symm⟩
    have hr : r < 4 := by omega
    unfold Pair F_X11_row F_X4_make
    repeat' first
      | (with_reducible refine zp_some.mpr ?_; try dsimp only)
      | (with_reducible refine zp_wi.mpr ⟨fun c => ?_, fun c => ?_⟩ <;> (try simp (disch := omega) only [zadd_ok, zsub_ok, zmul_ok, zup_ap, zuA_ap, zset_ap, zuA_s, zuA_A, zup_up, and_true, true_and, and_false, false_and, reduceIte, Nat.reduceEqDiff, not_true_eq_false, not_false_eq_true, or_true, true_or, or_false, false_or] at c) <;> (try (exfalso; omega)) <;> (try dsimp only))
      | with_reducible refine zp_bind.mpr ?_
      | (with_reducible refine zp_if (fun c => ?_) (fun c => ?_) <;> (try simp (disch := omega) only [zadd_ok, zsub_ok, zmul_ok, zup_ap, zuA_ap, zset_ap, zuA_s, zuA_A, zup_up, and_true, true_and, and_false, false_and, reduceIte, Nat.reduceEqDiff, not_true_eq_false, not_false_eq_true, or_true, true_or, or_false, false_or] at c) <;> (try (exfalso; omega)))
      | (with_reducible refine zp_lt.mpr ?_; try dsimp only)
      | fail
    refine ⟨rfl, zp_gen S rfl rfl rfl (fun T hT t0 t1 t2 => ?_)⟩
    unfold F_X12_row
    repeat' first
      | (with_reducible refine zp_some.mpr ?_; try dsimp only)
      | (with_reducible refine zp_wi.mpr ⟨fun c => ?_, fun c => ?_⟩ <;> (try simp (disch := omega) only [zadd_ok, zsub_ok, zmul_ok, zup_ap, zuA_ap, zset_ap, zuA_s, zuA_A, zup_up, and_true, true_and, and_false, false_and, reduceIte, Nat.reduceEqDiff, not_true_eq_false, not_false_eq_true, or_true, true_or, or_false, false_or, t1, t2] at c) <;> (try (exfalso; omega)) <;> (try dsimp only))
      | with_reducible refine zp_bind.mpr ?_
      | (with_reducible refine zp_if (fun c => ?_) (fun c => ?_) <;> (try simp (disch := omega) only [zadd_ok, zsub_ok, zmul_ok, zup_ap, zuA_ap, zset_ap, zuA_s, zuA_A, zup_up, and_true, true_and, and_false, false_and, reduceIte, Nat.reduceEqDiff, not_true_eq_false, not_false_eq_true, or_true, true_or, or_false, false_or, t1, t2] at c) <;> (try (exfalso; omega)))
      | (with_reducible refine zp_lt.mpr ?_; try dsimp only)
      | fail
    rw [zp_eq (lp_row hr (by omega))]
    subst hT
    refine ⟨rfl, rfl, hT, hW, hF, hX, hO, hC, hJ, hI, hP, hK, hR, ?_⟩
    refine M_row (r := r) (m := m) (x := x2) hM (by omega) (by omega) (fun j => ?_) (fun j => ?_) (fun q j hq => ?_) (fun j => ?_) (fun j => ?_) (fun j => ?_)
    · simp only [zup_ap, zuA_ap, zset_ap, zuA_s, zuA_A, zup_up, and_true, true_and, and_false, false_and, reduceIte, Nat.reduceEqDiff, Int.toNat_natCast, zrg_ap, zfl] <;> (repeat' split) <;> first | rfl | omega
    · simp only [zup_ap, zuA_ap, zset_ap, zuA_s, zuA_A, zup_up, and_true, true_and, and_false, false_and, reduceIte, Nat.reduceEqDiff, Int.toNat_natCast, zrg_ap, zfl] <;> (repeat' split) <;> first | rfl | omega
    · simp only [zup_ap, zuA_ap, zset_ap, zuA_s, zuA_A, zup_up, and_true, true_and, and_false, false_and, reduceIte, Nat.reduceEqDiff, Int.toNat_natCast, zrg_ap, zfl] <;> (repeat' split) <;> first | rfl | (exfalso; omega) | (have e : q = r := (by omega); subst e; first | rfl | (exfalso; omega))
    · simp only [zup_ap, zuA_ap, zset_ap, zuA_s, zuA_A, zup_up, and_true, true_and, and_false, false_and, reduceIte, Nat.reduceEqDiff, Int.toNat_natCast, zrg_ap]
    · simp only [zup_ap, zuA_ap, zset_ap, zuA_s, zuA_A, zup_up, and_true, true_and, and_false, false_and, reduceIte, Nat.reduceEqDiff, Int.toNat_natCast, zrg_ap]
    · simp only [zup_ap, zuA_ap, zset_ap, zuA_s, zuA_A, zup_up, and_true, true_and, and_false, false_and, reduceIte, Nat.reduceEqDiff, Int.toNat_natCast, zrg_ap]
  · unfold Pair F_X11_row F_X4_make
    repeat' first
      | (with_reducible refine zp_some.mpr ?_; try dsimp only)
      | (with_reducible refine zp_wi.mpr ⟨fun c => ?_, fun c => ?_⟩ <;> (try simp (disch := omega) only [zadd_ok, zsub_ok, zmul_ok, zup_ap, zuA_ap, zset_ap, zuA_s, zuA_A, zup_up, and_true, true_and, and_false, false_and, reduceIte, Nat.reduceEqDiff, not_true_eq_false, not_false_eq_true, or_true, true_or, or_false, false_or] at c) <;> (try (exfalso; omega)) <;> (try dsimp only))
      | with_reducible refine zp_bind.mpr ?_
      | (with_reducible refine zp_if (fun c => ?_) (fun c => ?_) <;> (try simp (disch := omega) only [zadd_ok, zsub_ok, zmul_ok, zup_ap, zuA_ap, zset_ap, zuA_s, zuA_A, zup_up, and_true, true_and, and_false, false_and, reduceIte, Nat.reduceEqDiff, not_true_eq_false, not_false_eq_true, or_true, true_or, or_false, false_or] at c) <;> (try (exfalso; omega)))
      | (with_reducible refine zp_lt.mpr ?_; try dsimp only)
      | fail
    all_goals refine ⟨rfl, zp_gen S rfl rfl rfl (fun T hT t0 t1 t2 => ?_)⟩
    all_goals unfold F_X12_row
    all_goals repeat' first
      | (with_reducible refine zp_some.mpr ?_; try dsimp only)
      | (with_reducible refine zp_wi.mpr ⟨fun c => ?_, fun c => ?_⟩ <;> (try simp (disch := omega) only [zadd_ok, zsub_ok, zmul_ok, zup_ap, zuA_ap, zset_ap, zuA_s, zuA_A, zup_up, and_true, true_and, and_false, false_and, reduceIte, Nat.reduceEqDiff, not_true_eq_false, not_false_eq_true, or_true, true_or, or_false, false_or, t1, t2] at c) <;> (try (exfalso; omega)) <;> (try dsimp only))
      | with_reducible refine zp_bind.mpr ?_
      | (with_reducible refine zp_if (fun c => ?_) (fun c => ?_) <;> (try simp (disch := omega) only [zadd_ok, zsub_ok, zmul_ok, zup_ap, zuA_ap, zset_ap, zuA_s, zuA_A, zup_up, and_true, true_and, and_false, false_and, reduceIte, Nat.reduceEqDiff, not_true_eq_false, not_false_eq_true, or_true, true_or, or_false, false_or, t1, t2] at c) <;> (try (exfalso; omega)))
      | (with_reducible refine zp_lt.mpr ?_; try dsimp only)
      | fail
    all_goals subst hT
    all_goals exact ⟨rfl, rfl, hT, hW, hF, hX, hO, hC, hJ, hI, hP, hK, hR, hM⟩
theorem pair_write (h : Inv n S) : Pair n S (F_X11_write x1 x2 x3) (F_X12_write x1 x2 x3) := by
  obtain ⟨hT, hW, hF, hX, hO, hC, hJ, hI, hP, hK, hR, hM⟩ := h
  have hX := InvX_up hX
  by_cases c0 : 0 ≤ x1 ∧ x1 ≤ 3
  · obtain ⟨r, rfl⟩ : ∃ r : Nat, x1 = (r : Int) := ⟨_, (Int.toNat_of_nonneg (by omega)).symm⟩
    have hr : r < 4 := by omega
    have a := hM r hr
    by_cases c2 : S.2 18 3 r = -1
    · have c3 : S.2 1 67 r = -1 := by omega
      unfold Pair F_X11_write
      repeat' first
        | (with_reducible refine zp_some.mpr ?_; try dsimp only)
        | (with_reducible refine zp_wi.mpr ⟨fun c => ?_, fun c => ?_⟩ <;> (try simp (disch := omega) only [zadd_ok, zsub_ok, zmul_ok, zup_ap, zuA_ap, zset_ap, zuA_s, zuA_A, zup_up, and_true, true_and, and_false, false_and, reduceIte, Nat.reduceEqDiff, not_true_eq_false, not_false_eq_true, or_true, true_or, or_false, false_or, Int.toNat_natCast] at c) <;> (try (exfalso; omega)) <;> (try dsimp only))
        | with_reducible refine zp_bind.mpr ?_
        | (with_reducible refine zp_if (fun c => ?_) (fun c => ?_) <;> (try simp (disch := omega) only [zadd_ok, zsub_ok, zmul_ok, zup_ap, zuA_ap, zset_ap, zuA_s, zuA_A, zup_up, and_true, true_and, and_false, false_and, reduceIte, Nat.reduceEqDiff, not_true_eq_false, not_false_eq_true, or_true, true_or, or_false, false_or, Int.toNat_natCast] at c) <;> (try (exfalso; omega)))
        | (with_reducible refine zp_lt.mpr ?_; try dsimp only)
        | fail
      all_goals refine ⟨rfl, zp_gen S rfl rfl rfl (fun T hT t0 t1 t2 => ?_)⟩
      all_goals unfold F_X12_write
      all_goals repeat' first
        | (with_reducible refine zp_some.mpr ?_; try dsimp only)
        | (with_reducible refine zp_wi.mpr ⟨fun c => ?_, fun c => ?_⟩ <;> (try simp (disch := omega) only [zadd_ok, zsub_ok, zmul_ok, zup_ap, zuA_ap, zset_ap, zuA_s, zuA_A, zup_up, and_true, true_and, and_false, false_and, reduceIte, Nat.reduceEqDiff, not_true_eq_false, not_false_eq_true, or_true, true_or, or_false, false_or, t1, t2, Int.toNat_natCast] at c) <;> (try (exfalso; omega)) <;> (try dsimp only))
        | with_reducible refine zp_bind.mpr ?_
        | (with_reducible refine zp_if (fun c => ?_) (fun c => ?_) <;> (try simp (disch := omega) only [zadd_ok, zsub_ok, zmul_ok, zup_ap, zuA_ap, zset_ap, zuA_s, zuA_A, zup_up, and_true, true_and, and_false, false_and, reduceIte, Nat.reduceEqDiff, not_true_eq_false, not_false_eq_true, or_true, true_or, or_false, false_or, t1, t2, Int.toNat_natCast] at c) <;> (try (exfalso; omega)))
        | (with_reducible refine zp_lt.mpr ?_; try dsimp only)
        | fail
      all_goals subst hT
      all_goals exact ⟨rfl, rfl, hT, hW, hF, hX, hO, hC, hJ, hI, hP, hK, hR, hM⟩
    have a' : S.2 18 3 r = S.2 1 68 r ∧ (0 ≤ S.2 1 68 r ∧ S.2 1 68 r ≤ 60) ∧ S.2 18 2 r = S.2 1 67 r ∧ (0 ≤ S.2 1 67 r ∧ S.2 1 67 r ≤ 3) ∧ ∀ i : Nat, (i : Int) < S.2 1 68 r → S.2 18 (10 + r) i = S.2 1 69 (60 * r + i) := by
      rcases a with q | q
      · exact absurd q.1 c2
      · exact q
    obtain ⟨a1, ⟨a2, a3⟩, a4, ⟨a5, a6⟩, a7⟩ := a'
    clear a
    by_cases c3 : 0 ≤ x2 ∧ x2 < S.2 1 68 r
    · obtain ⟨i, rfl⟩ : ∃ i : Nat, x2 = (i : Int) := ⟨_, (Int.toNat_of_nonneg (by omega)).symm⟩
      unfold Pair F_X11_write F_X4_cut
      repeat' first
        | (with_reducible refine zp_some.mpr ?_; try dsimp only)
        | (with_reducible refine zp_wi.mpr ⟨fun c => ?_, fun c => ?_⟩ <;> (try simp (disch := omega) only [zadd_ok, zsub_ok, zmul_ok, zup_ap, zuA_ap, zset_ap, zuA_s, zuA_A, zup_up, and_true, true_and, and_false, false_and, reduceIte, Nat.reduceEqDiff, not_true_eq_false, not_false_eq_true, or_true, true_or, or_false, false_or, Int.toNat_natCast, a1, a4] at c) <;> (try (exfalso; omega)) <;> (try dsimp only))
        | with_reducible refine zp_bind.mpr ?_
        | (with_reducible refine zp_if (fun c => ?_) (fun c => ?_) <;> (try simp (disch := omega) only [zadd_ok, zsub_ok, zmul_ok, zup_ap, zuA_ap, zset_ap, zuA_s, zuA_A, zup_up, and_true, true_and, and_false, false_and, reduceIte, Nat.reduceEqDiff, not_true_eq_false, not_false_eq_true, or_true, true_or, or_false, false_or, Int.toNat_natCast, a1, a4] at c) <;> (try (exfalso; omega)))
        | (with_reducible refine zp_lt.mpr ?_; try dsimp only)
        | fail
      all_goals refine ⟨rfl, zp_gen S rfl rfl rfl (fun T hT t0 t1 t2 => ?_)⟩
      all_goals unfold F_X12_write F_X12_cut
      all_goals repeat' first
        | (with_reducible refine zp_some.mpr ?_; try dsimp only)
        | (with_reducible refine zp_wi.mpr ⟨fun c => ?_, fun c => ?_⟩ <;> (try simp (disch := omega) only [zadd_ok, zsub_ok, zmul_ok, zup_ap, zuA_ap, zset_ap, zuA_s, zuA_A, zup_up, and_true, true_and, and_false, false_and, reduceIte, Nat.reduceEqDiff, not_true_eq_false, not_false_eq_true, or_true, true_or, or_false, false_or, t1, t2, Int.toNat_natCast] at c) <;> (try (exfalso; omega)) <;> (try dsimp only))
        | with_reducible refine zp_bind.mpr ?_
        | (with_reducible refine zp_if (fun c => ?_) (fun c => ?_) <;> (try simp (disch := omega) only [zadd_ok, zsub_ok, zmul_ok, zup_ap, zuA_ap, zset_ap, zuA_s, zuA_A, zup_up, and_true, true_and, and_false, false_and, reduceIte, Nat.reduceEqDiff, not_true_eq_false, not_false_eq_true, or_true, true_or, or_false, false_or, t1, t2, Int.toNat_natCast] at c) <;> (try (exfalso; omega)))
        | (with_reducible refine zp_lt.mpr ?_; try dsimp only)
        | fail
      all_goals subst hT
      all_goals
        have f1 : zadd (zmul 60 (r : Int)) (i : Int) = ((60 * r + i : Nat) : Int) := by rw [zmul_ok (by omega) (by omega), zadd_ok (by omega) (by omega)]; omega
        refine ⟨?_, rfl, hT, hW, hF, hX, hO, hC, hJ, hI, hP, hK, hR, ?_⟩
        · simp only [zup_ap, zuA_ap, zset_ap, zuA_s, zuA_A, zup_up, and_true, true_and, and_false, false_and, reduceIte, Nat.reduceEqDiff, Int.toNat_natCast, f1]
        · refine M_set (r := r) (m := 1) (b := i) hM (fun j => ?_) (fun j => ?_) (fun q j hq e => ?_) (fun q j hq hj e => ?_) (fun j j1 j2 => ?_)
          · simp only [zup_ap, zuA_ap, zset_ap, zuA_s, zuA_A, zup_up, and_true, true_and, and_false, false_and, reduceIte, Nat.reduceEqDiff, Int.toNat_natCast, f1] <;> (repeat' split) <;> first | rfl | (exfalso; omega)
          · simp only [zup_ap, zuA_ap, zset_ap, zuA_s, zuA_A, zup_up, and_true, true_and, and_false, false_and, reduceIte, Nat.reduceEqDiff, Int.toNat_natCast, f1] <;> (repeat' split) <;> first | rfl | (exfalso; omega)
          · simp only [zup_ap, zuA_ap, zset_ap, zuA_s, zuA_A, zup_up, and_true, true_and, and_false, false_and, reduceIte, Nat.reduceEqDiff, Int.toNat_natCast, f1] <;> (repeat' split) <;> first | rfl | (exfalso; omega) | (have e : q = r := (by omega); subst e; first | rfl | (exfalso; omega))
          · simp only [zup_ap, zuA_ap, zset_ap, zuA_s, zuA_A, zup_up, and_true, true_and, and_false, false_and, reduceIte, Nat.reduceEqDiff, Int.toNat_natCast, f1] <;> (repeat' split) <;> first | rfl | (exfalso; omega)
          · have e : j = i := by omega
            subst e
            simp only [zup_ap, zuA_ap, zset_ap, zuA_s, zuA_A, zup_up, and_true, true_and, and_false, false_and, reduceIte, Nat.reduceEqDiff, Int.toNat_natCast, f1]
    · unfold Pair F_X11_write F_X4_cut
      repeat' first
        | (with_reducible refine zp_some.mpr ?_; try dsimp only)
        | (with_reducible refine zp_wi.mpr ⟨fun c => ?_, fun c => ?_⟩ <;> (try simp (disch := omega) only [zadd_ok, zsub_ok, zmul_ok, zup_ap, zuA_ap, zset_ap, zuA_s, zuA_A, zup_up, and_true, true_and, and_false, false_and, reduceIte, Nat.reduceEqDiff, not_true_eq_false, not_false_eq_true, or_true, true_or, or_false, false_or, Int.toNat_natCast, a1, a4] at c) <;> (try (exfalso; omega)) <;> (try dsimp only))
        | with_reducible refine zp_bind.mpr ?_
        | (with_reducible refine zp_if (fun c => ?_) (fun c => ?_) <;> (try simp (disch := omega) only [zadd_ok, zsub_ok, zmul_ok, zup_ap, zuA_ap, zset_ap, zuA_s, zuA_A, zup_up, and_true, true_and, and_false, false_and, reduceIte, Nat.reduceEqDiff, not_true_eq_false, not_false_eq_true, or_true, true_or, or_false, false_or, Int.toNat_natCast, a1, a4] at c) <;> (try (exfalso; omega)))
        | (with_reducible refine zp_lt.mpr ?_; try dsimp only)
        | fail
      all_goals refine ⟨rfl, zp_gen S rfl rfl rfl (fun T hT t0 t1 t2 => ?_)⟩
      all_goals unfold F_X12_write F_X12_cut
      all_goals repeat' first
        | (with_reducible refine zp_some.mpr ?_; try dsimp only)
        | (with_reducible refine zp_wi.mpr ⟨fun c => ?_, fun c => ?_⟩ <;> (try simp (disch := omega) only [zadd_ok, zsub_ok, zmul_ok, zup_ap, zuA_ap, zset_ap, zuA_s, zuA_A, zup_up, and_true, true_and, and_false, false_and, reduceIte, Nat.reduceEqDiff, not_true_eq_false, not_false_eq_true, or_true, true_or, or_false, false_or, t1, t2, Int.toNat_natCast] at c) <;> (try (exfalso; omega)) <;> (try dsimp only))
        | with_reducible refine zp_bind.mpr ?_
        | (with_reducible refine zp_if (fun c => ?_) (fun c => ?_) <;> (try simp (disch := omega) only [zadd_ok, zsub_ok, zmul_ok, zup_ap, zuA_ap, zset_ap, zuA_s, zuA_A, zup_up, and_true, true_and, and_false, false_and, reduceIte, Nat.reduceEqDiff, not_true_eq_false, not_false_eq_true, or_true, true_or, or_false, false_or, t1, t2, Int.toNat_natCast] at c) <;> (try (exfalso; omega)))
        | (with_reducible refine zp_lt.mpr ?_; try dsimp only)
        | fail
      all_goals subst hT
      all_goals exact ⟨rfl, rfl, hT, hW, hF, hX, hO, hC, hJ, hI, hP, hK, hR, hM⟩
  · unfold Pair F_X11_write F_X4_cut
    repeat' first
      | (with_reducible refine zp_some.mpr ?_; try dsimp only)
      | (with_reducible refine zp_wi.mpr ⟨fun c => ?_, fun c => ?_⟩ <;> (try simp (disch := omega) only [zadd_ok, zsub_ok, zmul_ok, zup_ap, zuA_ap, zset_ap, zuA_s, zuA_A, zup_up, and_true, true_and, and_false, false_and, reduceIte, Nat.reduceEqDiff, not_true_eq_false, not_false_eq_true, or_true, true_or, or_false, false_or] at c) <;> (try (exfalso; omega)) <;> (try dsimp only))
      | with_reducible refine zp_bind.mpr ?_
      | (with_reducible refine zp_if (fun c => ?_) (fun c => ?_) <;> (try simp (disch := omega) only [zadd_ok, zsub_ok, zmul_ok, zup_ap, zuA_ap, zset_ap, zuA_s, zuA_A, zup_up, and_true, true_and, and_false, false_and, reduceIte, Nat.reduceEqDiff, not_true_eq_false, not_false_eq_true, or_true, true_or, or_false, false_or] at c) <;> (try (exfalso; omega)))
      | (with_reducible refine zp_lt.mpr ?_; try dsimp only)
      | fail
    all_goals refine ⟨rfl, zp_gen S rfl rfl rfl (fun T hT t0 t1 t2 => ?_)⟩
    all_goals unfold F_X12_write F_X12_cut
    all_goals repeat' first
      | (with_reducible refine zp_some.mpr ?_; try dsimp only)
      | (with_reducible refine zp_wi.mpr ⟨fun c => ?_, fun c => ?_⟩ <;> (try simp (disch := omega) only [zadd_ok, zsub_ok, zmul_ok, zup_ap, zuA_ap, zset_ap, zuA_s, zuA_A, zup_up, and_true, true_and, and_false, false_and, reduceIte, Nat.reduceEqDiff, not_true_eq_false, not_false_eq_true, or_true, true_or, or_false, false_or, t1, t2] at c) <;> (try (exfalso; omega)) <;> (try dsimp only))
      | with_reducible refine zp_bind.mpr ?_
      | (with_reducible refine zp_if (fun c => ?_) (fun c => ?_) <;> (try simp (disch := omega) only [zadd_ok, zsub_ok, zmul_ok, zup_ap, zuA_ap, zset_ap, zuA_s, zuA_A, zup_up, and_true, true_and, and_false, false_and, reduceIte, Nat.reduceEqDiff, not_true_eq_false, not_false_eq_true, or_true, true_or, or_false, false_or, t1, t2] at c) <;> (try (exfalso; omega)))
      | (with_reducible refine zp_lt.mpr ?_; try dsimp only)
      | fail
    all_goals subst hT
    all_goals exact ⟨rfl, rfl, hT, hW, hF, hX, hO, hC, hJ, hI, hP, hK, hR, hM⟩
theorem pair_save (h : Inv n S) : Pair n S (F_X11_save x1) (F_X12_save x1) := by
  obtain ⟨hT, hW, hF, hX, hO, hC, hJ, hI, hP, hK, hR, hM⟩ := h
  have hX := InvX_up hX
  obtain ⟨⟨⟨j1, j2⟩, j3, j4, j5, j6, j7, j8, j9, j10, j11, ⟨j12, j13⟩, j14, j15⟩, e0, e5, e6, e7, e8, e9, e10, e11, e12, k1, k2, k3, k4⟩ := id hJ
  by_cases c0 : 0 ≤ x1 ∧ x1 ≤ 3
  · obtain ⟨r, rfl⟩ : ∃ r : Nat, x1 = (r : Int) := ⟨_, (Int.toNat_of_nonneg (by omega)).symm⟩
    have hr : r < 4 := by omega
    obtain ⟨m, hm⟩ : ∃ m : Nat, S.2 1 55 32 = (m : Int) := ⟨_, (Int.toNat_of_nonneg j12).symm⟩
    have a := hM r hr
    have a' : (S.2 18 3 r = -1 ∧ S.2 1 67 r = -1) ∨ (S.2 18 3 r = S.2 1 68 r ∧ 0 ≤ S.2 1 68 r ∧ S.2 1 68 r ≤ 60 ∧ 0 ≤ S.2 1 67 r) := by
      rcases a with q | q
      · exact Or.inl q
      · exact Or.inr ⟨q.1, q.2.1.1, q.2.1.2, q.2.2.2.1.1⟩
    clear a
    unfold Pair F_X11_save
    repeat' first
      | (with_reducible refine zp_some.mpr ?_; try dsimp only)
      | (with_reducible refine zp_wi.mpr ⟨fun c => ?_, fun c => ?_⟩ <;> (try simp (disch := omega) only [zadd_ok, zsub_ok, zmul_ok, zup_ap, zuA_ap, zset_ap, zuA_s, zuA_A, zup_up, and_true, true_and, and_false, false_and, reduceIte, Nat.reduceEqDiff, not_true_eq_false, not_false_eq_true, or_true, true_or, or_false, false_or, Int.toNat_natCast] at c) <;> (try (exfalso; omega)) <;> (try dsimp only))
      | with_reducible refine zp_bind.mpr ?_
      | (with_reducible refine zp_if (fun c => ?_) (fun c => ?_) <;> (try simp (disch := omega) only [zadd_ok, zsub_ok, zmul_ok, zup_ap, zuA_ap, zset_ap, zuA_s, zuA_A, zup_up, and_true, true_and, and_false, false_and, reduceIte, Nat.reduceEqDiff, not_true_eq_false, not_false_eq_true, or_true, true_or, or_false, false_or, Int.toNat_natCast] at c) <;> (try (exfalso; omega)))
      | (with_reducible refine zp_lt.mpr ?_; try dsimp only)
      | fail
    all_goals try rw [zp_eq (lp_save11 hr (by omega) (e12.trans hm))]
    all_goals refine ⟨rfl, zp_gen S rfl rfl rfl (fun T hT t0 t1 t2 => ?_)⟩
    all_goals unfold F_X12_save
    all_goals repeat' first
      | (with_reducible refine zp_some.mpr ?_; try dsimp only)
      | (with_reducible refine zp_wi.mpr ⟨fun c => ?_, fun c => ?_⟩ <;> (try simp (disch := omega) only [zadd_ok, zsub_ok, zmul_ok, zup_ap, zuA_ap, zset_ap, zuA_s, zuA_A, zup_up, and_true, true_and, and_false, false_and, reduceIte, Nat.reduceEqDiff, not_true_eq_false, not_false_eq_true, or_true, true_or, or_false, false_or, t1, t2, Int.toNat_natCast] at c) <;> (try (exfalso; omega)) <;> (try dsimp only))
      | with_reducible refine zp_bind.mpr ?_
      | (with_reducible refine zp_if (fun c => ?_) (fun c => ?_) <;> (try simp (disch := omega) only [zadd_ok, zsub_ok, zmul_ok, zup_ap, zuA_ap, zset_ap, zuA_s, zuA_A, zup_up, and_true, true_and, and_false, false_and, reduceIte, Nat.reduceEqDiff, not_true_eq_false, not_false_eq_true, or_true, true_or, or_false, false_or, t1, t2, Int.toNat_natCast] at c) <;> (try (exfalso; omega)))
      | (with_reducible refine zp_lt.mpr ?_; try dsimp only)
      | fail
    all_goals try rw [zp_eq (lp_save12 (S := (zup T.1 1 0 0, T.2)) (m := m) hr (by omega) (by show T.2 1 55 32 = _; rw [t2]; exact hm))]
    all_goals subst hT
    all_goals first
      | exact ⟨rfl, rfl, hT, hW, hF, hX, hO, hC, hJ, hI, hP, hK, hR, hM⟩
      | (refine ⟨rfl, rfl, hT, hW, hF, hX, hO, hC, hJ, hI, hP, hK, hR, ?_⟩
         refine M_set (r := r) (m := m) (b := 0) hM (fun j => ?_) (fun j => ?_) (fun q j hq e => ?_) (fun q j hq hj e => ?_) (fun j j1 j2 => ?_)
         · simp only [zup_ap, zuA_ap, zset_ap, zuA_s, zuA_A, zup_up, and_true, true_and, and_false, false_and, reduceIte, Nat.reduceEqDiff, Int.toNat_natCast, zrg_ap] <;> (repeat' split) <;> first | rfl | (exfalso; omega)
         · simp only [zup_ap, zuA_ap, zset_ap, zuA_s, zuA_A, zup_up, and_true, true_and, and_false, false_and, reduceIte, Nat.reduceEqDiff, Int.toNat_natCast, zrg_ap] <;> (repeat' split) <;> first | rfl | (exfalso; omega)
         · simp only [zup_ap, zuA_ap, zset_ap, zuA_s, zuA_A, zup_up, and_true, true_and, and_false, false_and, reduceIte, Nat.reduceEqDiff, Int.toNat_natCast, zrg_ap] <;> (repeat' split) <;> first | rfl | (exfalso; omega) | (have e : q = r := (by omega); subst e; first | rfl | (exfalso; omega))
         · simp only [zup_ap, zuA_ap, zset_ap, zuA_s, zuA_A, zup_up, and_true, true_and, and_false, false_and, reduceIte, Nat.reduceEqDiff, Int.toNat_natCast, zrg_ap] <;> (repeat' split) <;> first | rfl | (exfalso; omega)
         · have q := k3 j (by omega)
           simp only [zup_ap, zuA_ap, zset_ap, zuA_s, zuA_A, zup_up, and_true, true_and, and_false, false_and, reduceIte, Nat.reduceEqDiff, Int.toNat_natCast, zrg_ap]
           rw [if_pos (by omega), if_pos (by omega), Nat.sub_zero, show 60 * r + j - 60 * r = j by omega]
           exact q)
  · unfold Pair F_X11_save
    repeat' first
      | (with_reducible refine zp_some.mpr ?_; try dsimp only)
      | (with_reducible refine zp_wi.mpr ⟨fun c => ?_, fun c => ?_⟩ <;> (try simp (disch := omega) only [zadd_ok, zsub_ok, zmul_ok, zup_ap, zuA_ap, zset_ap, zuA_s, zuA_A, zup_up, and_true, true_and, and_false, false_and, reduceIte, Nat.reduceEqDiff, not_true_eq_false, not_false_eq_true, or_true, true_or, or_false, false_or] at c) <;> (try (exfalso; omega)) <;> (try dsimp only))
      | with_reducible refine zp_bind.mpr ?_
      | (with_reducible refine zp_if (fun c => ?_) (fun c => ?_) <;> (try simp (disch := omega) only [zadd_ok, zsub_ok, zmul_ok, zup_ap, zuA_ap, zset_ap, zuA_s, zuA_A, zup_up, and_true, true_and, and_false, false_and, reduceIte, Nat.reduceEqDiff, not_true_eq_false, not_false_eq_true, or_true, true_or, or_false, false_or] at c) <;> (try (exfalso; omega)))
      | (with_reducible refine zp_lt.mpr ?_; try dsimp only)
      | fail
    all_goals refine ⟨rfl, zp_gen S rfl rfl rfl (fun T hT t0 t1 t2 => ?_)⟩
    all_goals unfold F_X12_save
    all_goals repeat' first
      | (with_reducible refine zp_some.mpr ?_; try dsimp only)
      | (with_reducible refine zp_wi.mpr ⟨fun c => ?_, fun c => ?_⟩ <;> (try simp (disch := omega) only [zadd_ok, zsub_ok, zmul_ok, zup_ap, zuA_ap, zset_ap, zuA_s, zuA_A, zup_up, and_true, true_and, and_false, false_and, reduceIte, Nat.reduceEqDiff, not_true_eq_false, not_false_eq_true, or_true, true_or, or_false, false_or, t1, t2] at c) <;> (try (exfalso; omega)) <;> (try dsimp only))
      | with_reducible refine zp_bind.mpr ?_
      | (with_reducible refine zp_if (fun c => ?_) (fun c => ?_) <;> (try simp (disch := omega) only [zadd_ok, zsub_ok, zmul_ok, zup_ap, zuA_ap, zset_ap, zuA_s, zuA_A, zup_up, and_true, true_and, and_false, false_and, reduceIte, Nat.reduceEqDiff, not_true_eq_false, not_false_eq_true, or_true, true_or, or_false, false_or, t1, t2] at c) <;> (try (exfalso; omega)))
      | (with_reducible refine zp_lt.mpr ?_; try dsimp only)
      | fail
    all_goals subst hT
    all_goals exact ⟨rfl, rfl, hT, hW, hF, hX, hO, hC, hJ, hI, hP, hK, hR, hM⟩
theorem pair_load (h : Inv n S) : Pair n S (F_X11_load x1 x2) (F_X12_load x1 x2) := by
  obtain ⟨hT, hW, hF, hX, hO, hC, hJ, hI, hP, hK, hR, hM⟩ := h
  have hX := InvX_up hX
  obtain ⟨⟨⟨j1, j2⟩, j3, j4, j5, j6, j7, j8, j9, j10, j11, ⟨j12, j13⟩, j14, j15⟩, e0, e5, e6, e7, e8, e9, e10, e11, e12, k1, k2, k3, k4⟩ := id hJ
  by_cases c0 : 0 ≤ x1 ∧ x1 ≤ 3
  · obtain ⟨r, rfl⟩ : ∃ r : Nat, x1 = (r : Int) := ⟨_, (Int.toNat_of_nonneg (by omega)).symm⟩
    have hr : r < 4 := by omega
    have a := hM r hr
    have a' : (S.2 18 3 r = -1 ∧ S.2 1 67 r = -1) ∨ (S.2 18 3 r = S.2 1 68 r ∧ 0 ≤ S.2 1 68 r ∧ S.2 1 68 r ≤ 60 ∧ 0 ≤ S.2 1 67 r) := by
      rcases a with q | q
      · exact Or.inl q
      · exact Or.inr ⟨q.1, q.2.1.1, q.2.1.2, q.2.2.2.1.1⟩
    by_cases c1 : ¬S.2 18 3 r = -1 ∧ 0 ≤ x2 ∧ x2 ≤ S.2 1 68 r
    · obtain ⟨m, rfl⟩ : ∃ m : Nat, x2 = (m : Int) := ⟨_, (Int.toNat_of_nonneg (by omega)).symm⟩
      have a7 : ∀ i : Nat, (i : Int) < S.2 1 68 r → S.2 18 (10 + r) i = S.2 1 69 (60 * r + i) := by
        rcases a with q | q
        · exact absurd q.1 c1.1
        · exact q.2.2.2.2
      clear a
      have ef : fnd (fun i => decide (S.2 1 69 (60 * r + i) < 0 ∨ S.2 1 55 31 ≤ S.2 1 69 (60 * r + i))) m = fnd (fun i => decide (S.2 18 (10 + r) i < 0 ∨ S.1 11 0 ≤ S.2 18 (10 + r) i)) m := by
        refine fnd_cong fun i hi => ?_
        rw [a7 i (by omega), e0]
      have hl := fnd_le (fun i => decide (S.2 18 (10 + r) i < 0 ∨ S.1 11 0 ≤ S.2 18 (10 + r) i)) m
      unfold Pair F_X11_load
      repeat' first
        | (with_reducible refine zp_some.mpr ?_; try dsimp only)
        | (with_reducible refine zp_wi.mpr ⟨fun c => ?_, fun c => ?_⟩ <;> (try simp (disch := omega) only [zadd_ok, zsub_ok, zmul_ok, zup_ap, zuA_ap, zset_ap, zuA_s, zuA_A, zup_up, and_true, true_and, and_false, false_and, reduceIte, Nat.reduceEqDiff, not_true_eq_false, not_false_eq_true, or_true, true_or, or_false, false_or, Int.toNat_natCast] at c) <;> (try (exfalso; omega)) <;> (try dsimp only))
        | with_reducible refine zp_bind.mpr ?_
        | (with_reducible refine zp_if (fun c => ?_) (fun c => ?_) <;> (try simp (disch := omega) only [zadd_ok, zsub_ok, zmul_ok, zup_ap, zuA_ap, zset_ap, zuA_s, zuA_A, zup_up, and_true, true_and, and_false, false_and, reduceIte, Nat.reduceEqDiff, not_true_eq_false, not_false_eq_true, or_true, true_or, or_false, false_or, Int.toNat_natCast] at c) <;> (try (exfalso; omega)))
        | (with_reducible refine zp_lt.mpr ?_; try dsimp only)
        | fail
      rw [zp_eq (lp_tells11 hr (by omega))]
      by_cases hf : fnd (fun i => decide (S.2 18 (10 + r) i < 0 ∨ S.1 11 0 ≤ S.2 18 (10 + r) i)) m < m
      · rw [if_pos hf, if_pos rfl, zp_some]
        refine ⟨rfl, zp_gen S rfl rfl rfl (fun T hE t0 t1 t2 => ?_)⟩
        unfold F_X12_load
        repeat' first
          | (with_reducible refine zp_some.mpr ?_; try dsimp only)
          | (with_reducible refine zp_wi.mpr ⟨fun c => ?_, fun c => ?_⟩ <;> (try simp (disch := omega) only [zadd_ok, zsub_ok, zmul_ok, zup_ap, zuA_ap, zset_ap, zuA_s, zuA_A, zup_up, and_true, true_and, and_false, false_and, reduceIte, Nat.reduceEqDiff, not_true_eq_false, not_false_eq_true, or_true, true_or, or_false, false_or, t1, t2, Int.toNat_natCast] at c) <;> (try (exfalso; omega)) <;> (try dsimp only))
          | with_reducible refine zp_bind.mpr ?_
          | (with_reducible refine zp_if (fun c => ?_) (fun c => ?_) <;> (try simp (disch := omega) only [zadd_ok, zsub_ok, zmul_ok, zup_ap, zuA_ap, zset_ap, zuA_s, zuA_A, zup_up, and_true, true_and, and_false, false_and, reduceIte, Nat.reduceEqDiff, not_true_eq_false, not_false_eq_true, or_true, true_or, or_false, false_or, t1, t2, Int.toNat_natCast] at c) <;> (try (exfalso; omega)))
          | (with_reducible refine zp_lt.mpr ?_; try dsimp only)
          | fail
        replace hE := hE.symm
        subst hE
        rw [lp_tells12 hr (by omega) (by exact ⟨j1, j2⟩)]
        have ef2 : fnd (fun i => decide (S.2 1 69 (60 * r + i) < 0 ∨ S.2 1 55 31 ≤ S.2 1 69 (60 * r + i))) m < m := by rw [ef]; exact hf
        refine zp_pos ef2 ?_
        rw [zp_some]
        exact ⟨rfl, rfl, hT, hW, hF, hX, hO, hC, hJ, hI, hP, hK, hR, hM⟩
      · rw [if_neg hf, if_neg (by decide), zp_eq (lp_load11 hr (by omega))]
        refine ⟨rfl, zp_gen S rfl rfl rfl (fun T hE t0 t1 t2 => ?_)⟩
        unfold F_X12_load
        repeat' first
          | (with_reducible refine zp_some.mpr ?_; try dsimp only)
          | (with_reducible refine zp_wi.mpr ⟨fun c => ?_, fun c => ?_⟩ <;> (try simp (disch := omega) only [zadd_ok, zsub_ok, zmul_ok, zup_ap, zuA_ap, zset_ap, zuA_s, zuA_A, zup_up, and_true, true_and, and_false, false_and, reduceIte, Nat.reduceEqDiff, not_true_eq_false, not_false_eq_true, or_true, true_or, or_false, false_or, t1, t2, Int.toNat_natCast] at c) <;> (try (exfalso; omega)) <;> (try dsimp only))
          | with_reducible refine zp_bind.mpr ?_
          | (with_reducible refine zp_if (fun c => ?_) (fun c => ?_) <;> (try simp (disch := omega) only [zadd_ok, zsub_ok, zmul_ok, zup_ap, zuA_ap, zset_ap, zuA_s, zuA_A, zup_up, and_true, true_and, and_false, false_and, reduceIte, Nat.reduceEqDiff, not_true_eq_false, not_false_eq_true, or_true, true_or, or_false, false_or, t1, t2, Int.toNat_natCast] at c) <;> (try (exfalso; omega)))
          | (with_reducible refine zp_lt.mpr ?_; try dsimp only)
          | fail
        replace hE := hE.symm
        subst hE
        rw [lp_tells12 hr (by omega) (by exact ⟨j1, j2⟩)]
        have ef2 : ¬fnd (fun i => decide (S.2 1 69 (60 * r + i) < 0 ∨ S.2 1 55 31 ≤ S.2 1 69 (60 * r + i))) m < m := by rw [ef]; exact hf
        refine zp_neg ef2 ?_
        rw [zp_eq (lp_load12 hr (by omega))]
        have hg : ∀ i, i < m → 0 ≤ S.2 1 69 (60 * r + i) ∧ S.2 1 69 (60 * r + i) < S.2 1 55 31 := by
          intro i hi
          have q := of_decide_eq_false (fnd_no (p := fun i => decide (S.2 18 (10 + r) i < 0 ∨ S.1 11 0 ≤ S.2 18 (10 + r) i)) (n := m) (k := i) (by omega))
          have q2 := a7 i (by omega)
          omega
        refine ⟨rfl, rfl, hT, hW, hF, hX, hO, hC, J_load (m := m) (g := fun i => zl2i (S.2 1 69 (60 * r + i))) hJ (by omega) (fun i hi => ?_) (fun k => ?_) (fun o j => ?_) (fun k => ?_), InvI_cong (fun k hk => ?_) hI, InvP_cong (fun k hk => ?_) ?_ (by omega) hP, Or.inl rfl, InvR_cong (fun p hp => ?_) hR, hM⟩
        · have q := hg i hi
          rw [zl2i_ok (by omega) (by omega)]
          exact q
        · simp only [zup_ap, zuA_ap, zset_ap, zuA_s, zuA_A, zup_up, and_true, true_and, and_false, false_and, reduceIte, Nat.reduceEqDiff, Int.toNat_natCast, zrg_ap]
        · simp only [zup_ap, zuA_ap, zset_ap, zuA_s, zuA_A, zup_up, and_true, true_and, and_false, false_and, reduceIte, Nat.reduceEqDiff, Int.toNat_natCast, zrg_ap]
          by_cases e : o = 14
          · subst e
            by_cases e2 : j < m
            · rw [if_pos rfl, if_pos (by omega), if_pos ⟨rfl, e2⟩, Nat.sub_zero, a7 j (by omega)]
            · rw [if_pos rfl, if_neg (by omega), if_neg (by omega)]
          · rw [if_neg e, if_neg (by omega)]
        · simp only [zup_ap, zuA_ap, zset_ap, zuA_s, zuA_A, zup_up, and_true, true_and, and_false, false_and, reduceIte, Nat.reduceEqDiff, Int.toNat_natCast, zrg_ap]
        · simp only [zup_ap, zuA_ap, zset_ap, zuA_s, zuA_A, zup_up, and_true, true_and, and_false, false_and, reduceIte, Nat.reduceEqDiff, Int.toNat_natCast, zrg_ap]
          rw [if_neg (by omega), if_neg (by omega)]
        · simp only [zup_ap, zuA_ap, zset_ap, zuA_s, zuA_A, zup_up, and_true, true_and, and_false, false_and, reduceIte, Nat.reduceEqDiff, Int.toNat_natCast, zrg_ap]
          rw [if_neg (by omega), if_neg (by omega)]
        · simp only [zup_ap, zuA_ap, zset_ap, zuA_s, zuA_A, zup_up, and_true, true_and, and_false, false_and, reduceIte, Nat.reduceEqDiff, Int.toNat_natCast, zrg_ap]
          rw [if_neg (by omega)]
        · simp only [zup_ap, zuA_ap, zset_ap, zuA_s, zuA_A, zup_up, and_true, true_and, and_false, false_and, reduceIte, Nat.reduceEqDiff, Int.toNat_natCast, zrg_ap]
          refine ⟨?_, ?_, ?_, ?_⟩ <;> rw [if_neg (by omega), if_neg (by omega)]
    · clear a
      unfold Pair F_X11_load
      repeat' first
        | (with_reducible refine zp_some.mpr ?_; try dsimp only)
        | (with_reducible refine zp_wi.mpr ⟨fun c => ?_, fun c => ?_⟩ <;> (try simp (disch := omega) only [zadd_ok, zsub_ok, zmul_ok, zup_ap, zuA_ap, zset_ap, zuA_s, zuA_A, zup_up, and_true, true_and, and_false, false_and, reduceIte, Nat.reduceEqDiff, not_true_eq_false, not_false_eq_true, or_true, true_or, or_false, false_or, Int.toNat_natCast] at c) <;> (try (exfalso; omega)) <;> (try dsimp only))
        | with_reducible refine zp_bind.mpr ?_
        | (with_reducible refine zp_if (fun c => ?_) (fun c => ?_) <;> (try simp (disch := omega) only [zadd_ok, zsub_ok, zmul_ok, zup_ap, zuA_ap, zset_ap, zuA_s, zuA_A, zup_up, and_true, true_and, and_false, false_and, reduceIte, Nat.reduceEqDiff, not_true_eq_false, not_false_eq_true, or_true, true_or, or_false, false_or, Int.toNat_natCast] at c) <;> (try (exfalso; omega)))
        | (with_reducible refine zp_lt.mpr ?_; try dsimp only)
        | fail
      all_goals refine ⟨rfl, zp_gen S rfl rfl rfl (fun T hT t0 t1 t2 => ?_)⟩
      all_goals unfold F_X12_load
      all_goals repeat' first
        | (with_reducible refine zp_some.mpr ?_; try dsimp only)
        | (with_reducible refine zp_wi.mpr ⟨fun c => ?_, fun c => ?_⟩ <;> (try simp (disch := omega) only [zadd_ok, zsub_ok, zmul_ok, zup_ap, zuA_ap, zset_ap, zuA_s, zuA_A, zup_up, and_true, true_and, and_false, false_and, reduceIte, Nat.reduceEqDiff, not_true_eq_false, not_false_eq_true, or_true, true_or, or_false, false_or, t1, t2, Int.toNat_natCast] at c) <;> (try (exfalso; omega)) <;> (try dsimp only))
        | with_reducible refine zp_bind.mpr ?_
        | (with_reducible refine zp_if (fun c => ?_) (fun c => ?_) <;> (try simp (disch := omega) only [zadd_ok, zsub_ok, zmul_ok, zup_ap, zuA_ap, zset_ap, zuA_s, zuA_A, zup_up, and_true, true_and, and_false, false_and, reduceIte, Nat.reduceEqDiff, not_true_eq_false, not_false_eq_true, or_true, true_or, or_false, false_or, t1, t2, Int.toNat_natCast] at c) <;> (try (exfalso; omega)))
        | (with_reducible refine zp_lt.mpr ?_; try dsimp only)
        | fail
      all_goals subst hT
      all_goals exact ⟨rfl, rfl, hT, hW, hF, hX, hO, hC, hJ, hI, hP, hK, hR, hM⟩
  · unfold Pair F_X11_load
    repeat' first
      | (with_reducible refine zp_some.mpr ?_; try dsimp only)
      | (with_reducible refine zp_wi.mpr ⟨fun c => ?_, fun c => ?_⟩ <;> (try simp (disch := omega) only [zadd_ok, zsub_ok, zmul_ok, zup_ap, zuA_ap, zset_ap, zuA_s, zuA_A, zup_up, and_true, true_and, and_false, false_and, reduceIte, Nat.reduceEqDiff, not_true_eq_false, not_false_eq_true, or_true, true_or, or_false, false_or] at c) <;> (try (exfalso; omega)) <;> (try dsimp only))
      | with_reducible refine zp_bind.mpr ?_
      | (with_reducible refine zp_if (fun c => ?_) (fun c => ?_) <;> (try simp (disch := omega) only [zadd_ok, zsub_ok, zmul_ok, zup_ap, zuA_ap, zset_ap, zuA_s, zuA_A, zup_up, and_true, true_and, and_false, false_and, reduceIte, Nat.reduceEqDiff, not_true_eq_false, not_false_eq_true, or_true, true_or, or_false, false_or] at c) <;> (try (exfalso; omega)))
      | (with_reducible refine zp_lt.mpr ?_; try dsimp only)
      | fail
    all_goals refine ⟨rfl, zp_gen S rfl rfl rfl (fun T hT t0 t1 t2 => ?_)⟩
    all_goals unfold F_X12_load
    all_goals repeat' first
      | (with_reducible refine zp_some.mpr ?_; try dsimp only)
      | (with_reducible refine zp_wi.mpr ⟨fun c => ?_, fun c => ?_⟩ <;> (try simp (disch := omega) only [zadd_ok, zsub_ok, zmul_ok, zup_ap, zuA_ap, zset_ap, zuA_s, zuA_A, zup_up, and_true, true_and, and_false, false_and, reduceIte, Nat.reduceEqDiff, not_true_eq_false, not_false_eq_true, or_true, true_or, or_false, false_or, t1, t2] at c) <;> (try (exfalso; omega)) <;> (try dsimp only))
      | with_reducible refine zp_bind.mpr ?_
      | (with_reducible refine zp_if (fun c => ?_) (fun c => ?_) <;> (try simp (disch := omega) only [zadd_ok, zsub_ok, zmul_ok, zup_ap, zuA_ap, zset_ap, zuA_s, zuA_A, zup_up, and_true, true_and, and_false, false_and, reduceIte, Nat.reduceEqDiff, not_true_eq_false, not_false_eq_true, or_true, true_or, or_false, false_or, t1, t2] at c) <;> (try (exfalso; omega)))
      | (with_reducible refine zp_lt.mpr ?_; try dsimp only)
      | fail
    all_goals subst hT
    all_goals exact ⟨rfl, rfl, hT, hW, hF, hX, hO, hC, hJ, hI, hP, hK, hR, hM⟩
theorem pair_image (h : Inv n S) : Pair n S (F_X11_image x1) (F_X12_image x1) := by
  obtain ⟨hT, hW, hF, hX, hO, hC, hJ, hI, hP, hK, hR, hM⟩ := h
  have hX := InvX_up hX
  obtain ⟨v1, v2, v3, v4⟩ := id hI
  obtain ⟨⟨hb1, hb8⟩, ⟨hb2, hb60⟩, _⟩ := JobOK_b hJ.1
  by_cases c0 : x1 = 0
  · subst c0
    unfold Pair F_X11_image F_X2_becomeLike
    repeat' first
      | (with_reducible refine zp_some.mpr ?_; try dsimp only)
      | (with_reducible refine zp_wi.mpr ⟨fun c => ?_, fun c => ?_⟩ <;> (try simp (disch := omega) only [zadd_ok, zsub_ok, zmul_ok, zup_ap, zuA_ap, zset_ap, zuA_s, zuA_A, zup_up, and_true, true_and, and_false, false_and, reduceIte, Nat.reduceEqDiff, not_true_eq_false, not_false_eq_true, or_true, true_or, or_false, false_or, Int.reduceToNat] at c) <;> (try (exfalso; omega)) <;> (try dsimp only))
      | with_reducible refine zp_bind.mpr ?_
      | (with_reducible refine zp_if (fun c => ?_) (fun c => ?_) <;> (try simp (disch := omega) only [zadd_ok, zsub_ok, zmul_ok, zup_ap, zuA_ap, zset_ap, zuA_s, zuA_A, zup_up, and_true, true_and, and_false, false_and, reduceIte, Nat.reduceEqDiff, not_true_eq_false, not_false_eq_true, or_true, true_or, or_false, false_or, Int.reduceToNat] at c) <;> (try (exfalso; omega)))
      | (with_reducible refine zp_lt.mpr ?_; try dsimp only)
      | fail
    all_goals refine ⟨rfl, zp_gen S rfl rfl rfl (fun T hE t0 t1 t2 => ?_)⟩
    all_goals unfold F_X12_image
    all_goals repeat' first
      | (with_reducible refine zp_some.mpr ?_; try dsimp only)
      | (with_reducible refine zp_wi.mpr ⟨fun c => ?_, fun c => ?_⟩ <;> (try simp (disch := omega) only [zadd_ok, zsub_ok, zmul_ok, zup_ap, zuA_ap, zset_ap, zuA_s, zuA_A, zup_up, and_true, true_and, and_false, false_and, reduceIte, Nat.reduceEqDiff, not_true_eq_false, not_false_eq_true, or_true, true_or, or_false, false_or, t1, t2, Int.reduceToNat] at c) <;> (try (exfalso; omega)) <;> (try dsimp only))
      | with_reducible refine zp_bind.mpr ?_
      | (with_reducible refine zp_if (fun c => ?_) (fun c => ?_) <;> (try simp (disch := omega) only [zadd_ok, zsub_ok, zmul_ok, zup_ap, zuA_ap, zset_ap, zuA_s, zuA_A, zup_up, and_true, true_and, and_false, false_and, reduceIte, Nat.reduceEqDiff, not_true_eq_false, not_false_eq_true, or_true, true_or, or_false, false_or, t1, t2, Int.reduceToNat] at c) <;> (try (exfalso; omega)))
      | (with_reducible refine zp_lt.mpr ?_; try dsimp only)
      | fail
    refine (zp_eq (F := F_X12_image_19 0 0 _) (lp_image (r := 0) (by decide))).mpr ?_
    replace hE := hE.symm
    subst hE
    refine ⟨rfl, rfl, hT, hW, hF, hX, hO, hC, JobR_cong (fun k hk => ?_) hJ, ⟨rfl, v2, Or.inr ⟨rfl, ?_⟩, ?_⟩, InvP_cong (fun k hk => ?_) ?_ hb8 hP, InvK_cong ?_ ?_ ?_ (fun i hi => ?_) hb60 hK, InvR_cong (fun p hp => ?_) hR, hM⟩
    rotate_left 1
    · refine JobR_cp hJ (fun k hk => ?_) (fun p hp => ?_) (fun t ht => ?_) (fun i hi => ?_) (fun p hp => ?_) (fun k hk => ?_)
      all_goals (simp only [zup_ap, zuA_ap, zset_ap, zuA_s, zuA_A, zup_up, and_true, true_and, and_false, false_and, reduceIte, Nat.reduceEqDiff, Int.toNat_natCast, zcY, zrg_ap, Int.reduceToNat, Nat.reduceMul, Nat.reduceAdd, Nat.add_sub_cancel_left] <;> (repeat' apply And.intro) <;> (repeat' split) <;> (try subst_vars) <;> first | with_reducible rfl | omega | rfl | (congr 1; omega))
    · rcases v4 with q | ⟨q1, q2⟩
      · exact Or.inl q
      · refine Or.inr ⟨q1, JobR_cong (fun k hk => ?_) q2⟩
        (simp only [zup_ap, zuA_ap, zset_ap, zuA_s, zuA_A, zup_up, and_true, true_and, and_false, false_and, reduceIte, Nat.reduceEqDiff, Int.toNat_natCast, zcY, zrg_ap, Int.reduceToNat, Nat.reduceMul, Nat.reduceAdd, Nat.add_sub_cancel_left] <;> (repeat' apply And.intro) <;> (repeat' split) <;> (try subst_vars) <;> first | with_reducible rfl | omega | rfl | (congr 1; omega))
    all_goals (simp only [zup_ap, zuA_ap, zset_ap, zuA_s, zuA_A, zup_up, and_true, true_and, and_false, false_and, reduceIte, Nat.reduceEqDiff, Int.toNat_natCast, zcY, zrg_ap, Int.reduceToNat, Nat.reduceMul, Nat.reduceAdd, Nat.add_sub_cancel_left] <;> (repeat' apply And.intro) <;> (repeat' split) <;> (try subst_vars) <;> first | with_reducible rfl | omega | rfl | (congr 1; omega))
  by_cases c1 : x1 = 1
  · subst c1
    unfold Pair F_X11_image F_X2_becomeLike
    repeat' first
      | (with_reducible refine zp_some.mpr ?_; try dsimp only)
      | (with_reducible refine zp_wi.mpr ⟨fun c => ?_, fun c => ?_⟩ <;> (try simp (disch := omega) only [zadd_ok, zsub_ok, zmul_ok, zup_ap, zuA_ap, zset_ap, zuA_s, zuA_A, zup_up, and_true, true_and, and_false, false_and, reduceIte, Nat.reduceEqDiff, not_true_eq_false, not_false_eq_true, or_true, true_or, or_false, false_or, Int.reduceToNat] at c) <;> (try (exfalso; omega)) <;> (try dsimp only))
      | with_reducible refine zp_bind.mpr ?_
      | (with_reducible refine zp_if (fun c => ?_) (fun c => ?_) <;> (try simp (disch := omega) only [zadd_ok, zsub_ok, zmul_ok, zup_ap, zuA_ap, zset_ap, zuA_s, zuA_A, zup_up, and_true, true_and, and_false, false_and, reduceIte, Nat.reduceEqDiff, not_true_eq_false, not_false_eq_true, or_true, true_or, or_false, false_or, Int.reduceToNat] at c) <;> (try (exfalso; omega)))
      | (with_reducible refine zp_lt.mpr ?_; try dsimp only)
      | fail
    all_goals refine ⟨rfl, zp_gen S rfl rfl rfl (fun T hE t0 t1 t2 => ?_)⟩
    all_goals unfold F_X12_image
    all_goals repeat' first
      | (with_reducible refine zp_some.mpr ?_; try dsimp only)
      | (with_reducible refine zp_wi.mpr ⟨fun c => ?_, fun c => ?_⟩ <;> (try simp (disch := omega) only [zadd_ok, zsub_ok, zmul_ok, zup_ap, zuA_ap, zset_ap, zuA_s, zuA_A, zup_up, and_true, true_and, and_false, false_and, reduceIte, Nat.reduceEqDiff, not_true_eq_false, not_false_eq_true, or_true, true_or, or_false, false_or, t1, t2, Int.reduceToNat] at c) <;> (try (exfalso; omega)) <;> (try dsimp only))
      | with_reducible refine zp_bind.mpr ?_
      | (with_reducible refine zp_if (fun c => ?_) (fun c => ?_) <;> (try simp (disch := omega) only [zadd_ok, zsub_ok, zmul_ok, zup_ap, zuA_ap, zset_ap, zuA_s, zuA_A, zup_up, and_true, true_and, and_false, false_and, reduceIte, Nat.reduceEqDiff, not_true_eq_false, not_false_eq_true, or_true, true_or, or_false, false_or, t1, t2, Int.reduceToNat] at c) <;> (try (exfalso; omega)))
      | (with_reducible refine zp_lt.mpr ?_; try dsimp only)
      | fail
    refine (zp_eq (F := F_X12_image_19 1 0 _) (lp_image (r := 1) (by decide))).mpr ?_
    replace hE := hE.symm
    subst hE
    refine ⟨rfl, rfl, hT, hW, hF, hX, hO, hC, JobR_cong (fun k hk => ?_) hJ, ⟨v1, rfl, ?_, Or.inr ⟨rfl, ?_⟩⟩, InvP_cong (fun k hk => ?_) ?_ hb8 hP, InvK_cong ?_ ?_ ?_ (fun i hi => ?_) hb60 hK, InvR_cong (fun p hp => ?_) hR, hM⟩
    rotate_left 1
    · rcases v3 with q | ⟨q1, q2⟩
      · exact Or.inl q
      · refine Or.inr ⟨q1, JobR_cong (fun k hk => ?_) q2⟩
        (simp only [zup_ap, zuA_ap, zset_ap, zuA_s, zuA_A, zup_up, and_true, true_and, and_false, false_and, reduceIte, Nat.reduceEqDiff, Int.toNat_natCast, zcY, zrg_ap, Int.reduceToNat, Nat.reduceMul, Nat.reduceAdd, Nat.add_sub_cancel_left] <;> (repeat' apply And.intro) <;> (repeat' split) <;> (try subst_vars) <;> first | with_reducible rfl | omega | rfl | (congr 1; omega))
    · refine JobR_cp hJ (fun k hk => ?_) (fun p hp => ?_) (fun t ht => ?_) (fun i hi => ?_) (fun p hp => ?_) (fun k hk => ?_)
      all_goals (simp only [zup_ap, zuA_ap, zset_ap, zuA_s, zuA_A, zup_up, and_true, true_and, and_false, false_and, reduceIte, Nat.reduceEqDiff, Int.toNat_natCast, zcY, zrg_ap, Int.reduceToNat, Nat.reduceMul, Nat.reduceAdd, Nat.add_sub_cancel_left] <;> (repeat' apply And.intro) <;> (repeat' split) <;> (try subst_vars) <;> first | with_reducible rfl | omega | rfl | (congr 1; omega))
    all_goals (simp only [zup_ap, zuA_ap, zset_ap, zuA_s, zuA_A, zup_up, and_true, true_and, and_false, false_and, reduceIte, Nat.reduceEqDiff, Int.toNat_natCast, zcY, zrg_ap, Int.reduceToNat, Nat.reduceMul, Nat.reduceAdd, Nat.add_sub_cancel_left] <;> (repeat' apply And.intro) <;> (repeat' split) <;> (try subst_vars) <;> first | with_reducible rfl | omega | rfl | (congr 1; omega))
  unfold Pair F_X11_image F_X2_becomeLike
  repeat' first
    | (with_reducible refine zp_some.mpr ?_; try dsimp only)
    | (with_reducible refine zp_wi.mpr ⟨fun c => ?_, fun c => ?_⟩ <;> (try simp (disch := omega) only [zadd_ok, zsub_ok, zmul_ok, zup_ap, zuA_ap, zset_ap, zuA_s, zuA_A, zup_up, and_true, true_and, and_false, false_and, reduceIte, Nat.reduceEqDiff, not_true_eq_false, not_false_eq_true, or_true, true_or, or_false, false_or] at c) <;> (try (exfalso; omega)) <;> (try dsimp only))
    | with_reducible refine zp_bind.mpr ?_
    | (with_reducible refine zp_if (fun c => ?_) (fun c => ?_) <;> (try simp (disch := omega) only [zadd_ok, zsub_ok, zmul_ok, zup_ap, zuA_ap, zset_ap, zuA_s, zuA_A, zup_up, and_true, true_and, and_false, false_and, reduceIte, Nat.reduceEqDiff, not_true_eq_false, not_false_eq_true, or_true, true_or, or_false, false_or] at c) <;> (try (exfalso; omega)))
    | (with_reducible refine zp_lt.mpr ?_; try dsimp only)
    | fail
  all_goals refine ⟨rfl, zp_gen S rfl rfl rfl (fun T hT t0 t1 t2 => ?_)⟩
  all_goals unfold F_X12_image
  all_goals repeat' first
    | (with_reducible refine zp_some.mpr ?_; try dsimp only)
    | (with_reducible refine zp_wi.mpr ⟨fun c => ?_, fun c => ?_⟩ <;> (try simp (disch := omega) only [zadd_ok, zsub_ok, zmul_ok, zup_ap, zuA_ap, zset_ap, zuA_s, zuA_A, zup_up, and_true, true_and, and_false, false_and, reduceIte, Nat.reduceEqDiff, not_true_eq_false, not_false_eq_true, or_true, true_or, or_false, false_or, t1, t2] at c) <;> (try (exfalso; omega)) <;> (try dsimp only))
    | with_reducible refine zp_bind.mpr ?_
    | (with_reducible refine zp_if (fun c => ?_) (fun c => ?_) <;> (try simp (disch := omega) only [zadd_ok, zsub_ok, zmul_ok, zup_ap, zuA_ap, zset_ap, zuA_s, zuA_A, zup_up, and_true, true_and, and_false, false_and, reduceIte, Nat.reduceEqDiff, not_true_eq_false, not_false_eq_true, or_true, true_or, or_false, false_or, t1, t2] at c) <;> (try (exfalso; omega)))
    | (with_reducible refine zp_lt.mpr ?_; try dsimp only)
    | fail
  all_goals subst hT
  all_goals exact ⟨rfl, rfl, hT, hW, hF, hX, hO, hC, hJ, hI, hP, hK, hR, hM⟩
theorem pair_restore (h : Inv n S) : Pair n S (F_X11_restore x1) (F_X12_restore x1) := by
  obtain ⟨hT, hW, hF, hX, hO, hC, hJ, hI, hP, hK, hR, hM⟩ := h
  have hX := InvX_up hX
  obtain ⟨v1, v2, v3, v4⟩ := id hI
  by_cases c0 : x1 = 0
  · subst c0
    unfold Pair F_X11_restore F_X2_becomeLike
    repeat' first
      | (with_reducible refine zp_some.mpr ?_; try dsimp only)
      | (with_reducible refine zp_wi.mpr ⟨fun c => ?_, fun c => ?_⟩ <;> (try simp (disch := omega) only [zadd_ok, zsub_ok, zmul_ok, zup_ap, zuA_ap, zset_ap, zuA_s, zuA_A, zup_up, and_true, true_and, and_false, false_and, reduceIte, Nat.reduceEqDiff, not_true_eq_false, not_false_eq_true, or_true, true_or, or_false, false_or, Int.reduceToNat] at c) <;> (try (exfalso; omega)) <;> (try dsimp only))
      | with_reducible refine zp_bind.mpr ?_
      | (with_reducible refine zp_if (fun c => ?_) (fun c => ?_) <;> (try simp (disch := omega) only [zadd_ok, zsub_ok, zmul_ok, zup_ap, zuA_ap, zset_ap, zuA_s, zuA_A, zup_up, and_true, true_and, and_false, false_and, reduceIte, Nat.reduceEqDiff, not_true_eq_false, not_false_eq_true, or_true, true_or, or_false, false_or, Int.reduceToNat] at c) <;> (try (exfalso; omega)))
      | (with_reducible refine zp_lt.mpr ?_; try dsimp only)
      | fail
    all_goals refine ⟨rfl, zp_gen S rfl rfl rfl (fun T hE t0 t1 t2 => ?_)⟩
    all_goals unfold F_X12_restore
    all_goals repeat' first
      | (with_reducible refine zp_some.mpr ?_; try dsimp only)
      | (with_reducible refine zp_wi.mpr ⟨fun c => ?_, fun c => ?_⟩ <;> (try simp (disch := omega) only [zadd_ok, zsub_ok, zmul_ok, zup_ap, zuA_ap, zset_ap, zuA_s, zuA_A, zup_up, and_true, true_and, and_false, false_and, reduceIte, Nat.reduceEqDiff, not_true_eq_false, not_false_eq_true, or_true, true_or, or_false, false_or, t1, t2, Int.reduceToNat] at c) <;> (try (exfalso; omega)) <;> (try dsimp only))
      | with_reducible refine zp_bind.mpr ?_
      | (with_reducible refine zp_if (fun c => ?_) (fun c => ?_) <;> (try simp (disch := omega) only [zadd_ok, zsub_ok, zmul_ok, zup_ap, zuA_ap, zset_ap, zuA_s, zuA_A, zup_up, and_true, true_and, and_false, false_and, reduceIte, Nat.reduceEqDiff, not_true_eq_false, not_false_eq_true, or_true, true_or, or_false, false_or, t1, t2, Int.reduceToNat] at c) <;> (try (exfalso; omega)))
      | (with_reducible refine zp_lt.mpr ?_; try dsimp only)
      | fail
    all_goals try refine (zp_eq (F := F_X12_restore_28 0 0 _) (lp_restore (r := 0) (by decide))).mpr ?_
    all_goals replace hE := hE.symm
    all_goals subst hE
    all_goals first
      | exact ⟨rfl, rfl, hT, hW, hF, hX, hO, hC, hJ, hI, hP, hK, hR, hM⟩
      | skip
    all_goals
      rcases v3 with q | ⟨q1, q2⟩
      · exfalso; omega
      · refine ⟨rfl, rfl, hT, hW, hF, hX, hO, hC, ?_, InvI_cong (fun k hk => ?_) hI, Or.inl rfl, Or.inl rfl, Or.inl rfl, hM⟩
        · refine JobR_cp q2 (fun k hk => ?_) (fun p hp => ?_) (fun t ht => ?_) (fun i hi => ?_) (fun p hp => ?_) (fun k hk => ?_)
          all_goals (simp only [zup_ap, zuA_ap, zset_ap, zuA_s, zuA_A, zup_up, and_true, true_and, and_false, false_and, reduceIte, Nat.reduceEqDiff, Int.toNat_natCast, zcY, zrg_ap, Int.reduceToNat, Nat.reduceMul, Nat.reduceAdd, Nat.add_sub_cancel_left] <;> (repeat' apply And.intro) <;> (repeat' split) <;> (try subst_vars) <;> first | with_reducible rfl | omega | rfl | (congr 1; omega))
        · (simp only [zup_ap, zuA_ap, zset_ap, zuA_s, zuA_A, zup_up, and_true, true_and, and_false, false_and, reduceIte, Nat.reduceEqDiff, Int.toNat_natCast, zcY, zrg_ap, Int.reduceToNat, Nat.reduceMul, Nat.reduceAdd, Nat.add_sub_cancel_left] <;> (repeat' apply And.intro) <;> (repeat' split) <;> (try subst_vars) <;> first | with_reducible rfl | omega | rfl | (congr 1; omega))
  by_cases c1 : x1 = 1
  · subst c1
    unfold Pair F_X11_restore F_X2_becomeLike
    repeat' first
      | (with_reducible refine zp_some.mpr ?_; try dsimp only)
      | (with_reducible refine zp_wi.mpr ⟨fun c => ?_, fun c => ?_⟩ <;> (try simp (disch := omega) only [zadd_ok, zsub_ok, zmul_ok, zup_ap, zuA_ap, zset_ap, zuA_s, zuA_A, zup_up, and_true, true_and, and_false, false_and, reduceIte, Nat.reduceEqDiff, not_true_eq_false, not_false_eq_true, or_true, true_or, or_false, false_or, Int.reduceToNat] at c) <;> (try (exfalso; omega)) <;> (try dsimp only))
      | with_reducible refine zp_bind.mpr ?_
      | (with_reducible refine zp_if (fun c => ?_) (fun c => ?_) <;> (try simp (disch := omega) only [zadd_ok, zsub_ok, zmul_ok, zup_ap, zuA_ap, zset_ap, zuA_s, zuA_A, zup_up, and_true, true_and, and_false, false_and, reduceIte, Nat.reduceEqDiff, not_true_eq_false, not_false_eq_true, or_true, true_or, or_false, false_or, Int.reduceToNat] at c) <;> (try (exfalso; omega)))
      | (with_reducible refine zp_lt.mpr ?_; try dsimp only)
      | fail
    all_goals refine ⟨rfl, zp_gen S rfl rfl rfl (fun T hE t0 t1 t2 => ?_)⟩
    all_goals unfold F_X12_restore
    all_goals repeat' first
      | (with_reducible refine zp_some.mpr ?_; try dsimp only)
      | (with_reducible refine zp_wi.mpr ⟨fun c => ?_, fun c => ?_⟩ <;> (try simp (disch := omega) only [zadd_ok, zsub_ok, zmul_ok, zup_ap, zuA_ap, zset_ap, zuA_s, zuA_A, zup_up, and_true, true_and, and_false, false_and, reduceIte, Nat.reduceEqDiff, not_true_eq_false, not_false_eq_true, or_true, true_or, or_false, false_or, t1, t2, Int.reduceToNat] at c) <;> (try (exfalso; omega)) <;> (try dsimp only))
      | with_reducible refine zp_bind.mpr ?_
      | (with_reducible refine zp_if (fun c => ?_) (fun c => ?_) <;> (try simp (disch := omega) only [zadd_ok, zsub_ok, zmul_ok, zup_ap, zuA_ap, zset_ap, zuA_s, zuA_A, zup_up, and_true, true_and, and_false, false_and, reduceIte, Nat.reduceEqDiff, not_true_eq_false, not_false_eq_true, or_true, true_or, or_false, false_or, t1, t2, Int.reduceToNat] at c) <;> (try (exfalso; omega)))
      | (with_reducible refine zp_lt.mpr ?_; try dsimp only)
      | fail
    all_goals try refine (zp_eq (F := F_X12_restore_28 1 0 _) (lp_restore (r := 1) (by decide))).mpr ?_
    all_goals replace hE := hE.symm
    all_goals subst hE
    all_goals first
      | exact ⟨rfl, rfl, hT, hW, hF, hX, hO, hC, hJ, hI, hP, hK, hR, hM⟩
      | skip
    all_goals
      rcases v4 with q | ⟨q1, q2⟩
      · exfalso; omega
      · refine ⟨rfl, rfl, hT, hW, hF, hX, hO, hC, ?_, InvI_cong (fun k hk => ?_) hI, Or.inl rfl, Or.inl rfl, Or.inl rfl, hM⟩
        · refine JobR_cp q2 (fun k hk => ?_) (fun p hp => ?_) (fun t ht => ?_) (fun i hi => ?_) (fun p hp => ?_) (fun k hk => ?_)
          all_goals (simp only [zup_ap, zuA_ap, zset_ap, zuA_s, zuA_A, zup_up, and_true, true_and, and_false, false_and, reduceIte, Nat.reduceEqDiff, Int.toNat_natCast, zcY, zrg_ap, Int.reduceToNat, Nat.reduceMul, Nat.reduceAdd, Nat.add_sub_cancel_left] <;> (repeat' apply And.intro) <;> (repeat' split) <;> (try subst_vars) <;> first | with_reducible rfl | omega | rfl | (congr 1; omega))
        · (simp only [zup_ap, zuA_ap, zset_ap, zuA_s, zuA_A, zup_up, and_true, true_and, and_false, false_and, reduceIte, Nat.reduceEqDiff, Int.toNat_natCast, zcY, zrg_ap, Int.reduceToNat, Nat.reduceMul, Nat.reduceAdd, Nat.add_sub_cancel_left] <;> (repeat' apply And.intro) <;> (repeat' split) <;> (try subst_vars) <;> first | with_reducible rfl | omega | rfl | (congr 1; omega))
  unfold Pair F_X11_restore F_X2_becomeLike
  repeat' first
    | (with_reducible refine zp_some.mpr ?_; try dsimp only)
    | (with_reducible refine zp_wi.mpr ⟨fun c => ?_, fun c => ?_⟩ <;> (try simp (disch := omega) only [zadd_ok, zsub_ok, zmul_ok, zup_ap, zuA_ap, zset_ap, zuA_s, zuA_A, zup_up, and_true, true_and, and_false, false_and, reduceIte, Nat.reduceEqDiff, not_true_eq_false, not_false_eq_true, or_true, true_or, or_false, false_or] at c) <;> (try (exfalso; omega)) <;> (try dsimp only))
    | with_reducible refine zp_bind.mpr ?_
    | (with_reducible refine zp_if (fun c => ?_) (fun c => ?_) <;> (try simp (disch := omega) only [zadd_ok, zsub_ok, zmul_ok, zup_ap, zuA_ap, zset_ap, zuA_s, zuA_A, zup_up, and_true, true_and, and_false, false_and, reduceIte, Nat.reduceEqDiff, not_true_eq_false, not_false_eq_true, or_true, true_or, or_false, false_or] at c) <;> (try (exfalso; omega)))
    | (with_reducible refine zp_lt.mpr ?_; try dsimp only)
    | fail
  all_goals refine ⟨rfl, zp_gen S rfl rfl rfl (fun T hT t0 t1 t2 => ?_)⟩
  all_goals unfold F_X12_restore
  all_goals repeat' first
    | (with_reducible refine zp_some.mpr ?_; try dsimp only)
    | (with_reducible refine zp_wi.mpr ⟨fun c => ?_, fun c => ?_⟩ <;> (try simp (disch := omega) only [zadd_ok, zsub_ok, zmul_ok, zup_ap, zuA_ap, zset_ap, zuA_s, zuA_A, zup_up, and_true, true_and, and_false, false_and, reduceIte, Nat.reduceEqDiff, not_true_eq_false, not_false_eq_true, or_true, true_or, or_false, false_or, t1, t2] at c) <;> (try (exfalso; omega)) <;> (try dsimp only))
    | with_reducible refine zp_bind.mpr ?_
    | (with_reducible refine zp_if (fun c => ?_) (fun c => ?_) <;> (try simp (disch := omega) only [zadd_ok, zsub_ok, zmul_ok, zup_ap, zuA_ap, zset_ap, zuA_s, zuA_A, zup_up, and_true, true_and, and_false, false_and, reduceIte, Nat.reduceEqDiff, not_true_eq_false, not_false_eq_true, or_true, true_or, or_false, false_or, t1, t2] at c) <;> (try (exfalso; omega)))
    | (with_reducible refine zp_lt.mpr ?_; try dsimp only)
    | fail
  all_goals subst hT
  all_goals exact ⟨rfl, rfl, hT, hW, hF, hX, hO, hC, hJ, hI, hP, hK, hR, hM⟩
end SMALL
