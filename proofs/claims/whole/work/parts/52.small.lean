/-! the way's small calls, rows of memory, images -/
section SMALL
variable {n : Nat} {S : ZS} {x1 x2 x3 x4 x5 : Int}
theorem F_wear {I4 : Nat → Int} {A4 A4' : Nat → Nat → Int} {len : Int} {wear beat cor wear' : Nat → Int} {many x : Int} {m : Nat} (H : InvF I4 A4 len wear beat cor many) (hx : 0 ≤ x ∧ x ≤ 1000)
    (hA : ∀ o j, A4' o j = if o = 1 ∧ j = m then x else A4 o j) (hw : ∀ j, wear' j = if j = m then x else wear j) : InvF I4 A4' len wear' beat cor many := by
  obtain ⟨a, b, c, d⟩ := H
  refine ⟨fun r hr => ?_, b, c, fun k hk => ?_⟩
  · have q := a r hr
    rw [hA, hA, hw]
    simp only [true_and, false_and, reduceIte, Nat.reduceEqDiff]
    clear a d
    by_cases h : r = m
    · rw [if_pos h, if_pos h]; omega
    · rw [if_neg h, if_neg h]; exact q
  · rw [hA]
    simp only [false_and, reduceIte, Nat.reduceEqDiff]
    exact d k hk
theorem F_beat {I4 : Nat → Int} {A4 A4' : Nat → Nat → Int} {len : Int} {wear beat cor beat' : Nat → Int} {many x : Int} {m : Nat} (H : InvF I4 A4 len wear beat cor many) (hx : x = 0 ∨ (2 ≤ x ∧ x ≤ 20))
    (hA : ∀ o j, A4' o j = if o = 2 ∧ j = m then x else A4 o j) (hw : ∀ j, beat' j = if j = m then x else beat j) : InvF I4 A4' len wear beat' cor many := by
  obtain ⟨a, b, c, d⟩ := H
  refine ⟨fun r hr => ?_, b, c, fun k hk => ?_⟩
  · have q := a r hr
    rw [hA, hA, hw]
    simp only [true_and, false_and, reduceIte, Nat.reduceEqDiff]
    clear a d
    by_cases h : r = m
    · rw [if_pos h, if_pos h]; omega
    · rw [if_neg h, if_neg h]; exact q
  · rw [hA]
    simp only [false_and, reduceIte, Nat.reduceEqDiff]
    exact d k hk
section MEMU
variable {A A' : Nat → Nat → Int} {rs rm ce rs' rm' ce' : Nat → Int} {r m : Nat}
theorem M_row {x : Int} (H : InvM A rs rm ce) (hm : m ≤ 60) (hx : 0 ≤ x ∧ x ≤ 3) (hA2 : ∀ j, A' 2 j = if j = r then x else A 2 j) (hA3 : ∀ j, A' 3 j = if j = r then (m : Int) else A 3 j)
    (hA : ∀ q j, q < 4 → A' (10 + q) j = if q = r ∧ j < 60 then 0 else A (10 + q) j) (h1 : ∀ j, rs' j = if j = r then x else rs j) (h2 : ∀ j, rm' j = if j = r then (m : Int) else rm j)
    (h3 : ∀ j, ce' j = if 60 * r ≤ j ∧ j < 60 * r + m then 0 else ce j) : InvM A' rs' rm' ce' := by
  intro q hq
  have a := H q hq
  rw [hA2, hA3, h1, h2]
  by_cases e : q = r
  · subst e
    refine Or.inr ⟨by simp, by simp; omega, by simp, by simp; omega, fun i hi => ?_⟩
    simp only [reduceIte] at hi
    rw [hA q i hq, if_pos ⟨rfl, by omega⟩, h3, if_pos (by omega)]
  · simp only [if_neg e]
    rcases a with ⟨a1, a2⟩ | ⟨a1, a2, a3, a4, a5⟩
    · exact Or.inl ⟨a1, a2⟩
    · refine Or.inr ⟨a1, a2, a3, a4, fun i hi => ?_⟩
      rw [hA q i hq, if_neg (fun z => e z.1), h3, if_neg (by omega)]
      exact a5 i hi
theorem M_set {b : Nat} (H : InvM A rs rm ce) (hA2 : ∀ j, A' 2 j = A 2 j) (hA3 : ∀ j, A' 3 j = A 3 j)
    (hA : ∀ q j, q < 4 → ¬(q = r ∧ b ≤ j ∧ j < b + m) → A' (10 + q) j = A (10 + q) j)
    (h3 : ∀ q j, q < 4 → j < 60 → ¬(q = r ∧ b ≤ j ∧ j < b + m) → ce' (60 * q + j) = ce (60 * q + j))
    (h4 : ∀ j, b ≤ j → j < b + m → A' (10 + r) j = ce' (60 * r + j)) : InvM A' rs rm ce' := by
  intro q hq
  have a := H q hq
  rw [hA2, hA3]
  rcases a with ⟨a1, a2⟩ | ⟨a1, a2, a3, a4, a5⟩
  · exact Or.inl ⟨a1, a2⟩
  · refine Or.inr ⟨a1, a2, a3, a4, fun i hi => ?_⟩
    by_cases e : q = r ∧ b ≤ i ∧ i < b + m
    · obtain ⟨rfl, e2, e3⟩ := e
      exact h4 i e2 e3
    · rw [hA q i hq e, h3 q i hq (by omega) e]
      exact a5 i hi
end MEMU
theorem JobR_cp {I I' : Nat → Int} {A A' : Nat → Nat → Int} {al al' : Nat → Int} (H : JobR I A al) (hI : ∀ k, k = 0 ∨ (5 ≤ k ∧ k ≤ 12) → I' k = I k)
    (h2 : ∀ p, p < 8 → A' 2 p = A 2 p ∧ A' 3 p = A 3 p) (h4 : ∀ t, t < 4 → A' 4 t = A 4 t ∧ A' 5 t = A 5 t) (h14 : ∀ i, i < 60 → A' 14 i = A 14 i)
    (h15 : ∀ p, p < 10 → A' 15 p = A 15 p ∧ A' 16 p = A 16 p ∧ A' 17 p = A 17 p ∧ A' 18 p = A 18 p) (hal : ∀ k, k < 133 → al' k = al k) : JobR I' A' al' := by
  refine JobR_cong hal ?_
  obtain ⟨⟨b1, b2⟩, ⟨b3, b4⟩, _⟩ := JobOK_b H.1
  obtain ⟨a0, a1, a2, a3, a4, a5, a6, a7, a8, a9, a10, a11, a12, a13⟩ := H
  refine ⟨a0, ?_, ?_, ?_, ?_, ?_, ?_, ?_, ?_, ?_, fun p hp => ?_, fun t ht => ?_, fun i hi => ?_, fun p hp => ?_⟩
  · rw [hI 0 (by omega)]; exact a1
  · rw [hI 5 (by omega)]; exact a2
  · rw [hI 6 (by omega)]; exact a3
  · rw [hI 7 (by omega)]; exact a4
  · rw [hI 8 (by omega)]; exact a5
  · rw [hI 9 (by omega)]; exact a6
  · rw [hI 10 (by omega)]; exact a7
  · rw [hI 11 (by omega)]; exact a8
  · rw [hI 12 (by omega)]; exact a9
  · rw [(h2 p (by omega)).1, (h2 p (by omega)).2]; exact a10 p hp
  · rw [(h4 t ht).1, (h4 t ht).2]; exact a11 t ht
  · rw [h14 i (by omega)]; exact a12 i hi
  · obtain ⟨q1, q2, q3, q4⟩ := h15 p hp
    rw [q1, q2, q3, q4]; exact a13 p hp
theorem pair_save (h : Inv n S) : Pair n S (F_X11_save x1) (F_X12_save x1) := by
  obtain ⟨hT, hW, hF, hX, hO, hC, hJ, hI, hP, hK, hR, hM⟩ := h
  have hX := InvX_up hX
  obtain ⟨⟨⟨j1, j2⟩, j3, j4, j5, j6, j7, j8, j9, j10, j11, ⟨j12, j13⟩, j14, j15⟩, e0, e5, e6, e7, e8, e9, e10, e11, e12, k1, k2, k3, k4⟩ := id hJ
  by_cases c0 : 0 ≤ x1 ∧ x1 ≤ 3
  · obtain ⟨r, rfl⟩ : ∃ r : Nat, x1 = (r : Int) := ⟨_, (Int.toNat_of_nonneg (by omega)).symm⟩
    have hr : r < 4 := by omega
    obtain ⟨m, hm⟩ : ∃ m : Nat, S.2 1 55 32 = (m : Int) := ⟨_, (Int.toNat_of_nonneg j12).symm⟩
    have a := hM r hr
    have a' : (S.2 18 3 r = -1 ∧ S.2 1 67 r = -1) ∨ (S.2 18 3 r = S.2 1 68 r ∧ 0 ≤ S.2 1 68 r ∧ S.2 1 68 r ≤ 60 ∧ 0 ≤ S.2 1 67 r) := by
      rcases a with q | q
      · exact Or.inl q
      · exact Or.inr ⟨q.1, q.2.1.1, q.2.1.2, q.2.2.2.1.1⟩
    clear a
    unfold Pair F_X11_save
    repeat' first
      | (with_reducible refine zp_some.mpr ?_; try dsimp only)
      | (with_reducible refine zp_wi.mpr ⟨fun c => ?_, fun c => ?_⟩ <;> (try simp (disch := omega) only [zadd_ok, zsub_ok, zmul_ok, zup_ap, zuA_ap, zset_ap, zuA_s, zuA_A, zup_up, and_true, true_and, and_false, false_and, reduceIte, Nat.reduceEqDiff, not_true_eq_false, not_false_eq_true, or_true, true_or, or_false, false_or, Int.toNat_natCast] at c) <;> (try (exfalso; omega)) <;> (try dsimp only))
      | with_reducible refine zp_bind.mpr ?_
      | (with_reducible refine zp_if (fun c => ?_) (fun c => ?_) <;> (try simp (disch := omega) only [zadd_ok, zsub_ok, zmul_ok, zup_ap, zuA_ap, zset_ap, zuA_s, zuA_A, zup_up, and_true, true_and, and_false, false_and, reduceIte, Nat.reduceEqDiff, not_true_eq_false, not_false_eq_true, or_true, true_or, or_false, false_or, Int.toNat_natCast] at c) <;> (try (exfalso; omega)))
      | (with_reducible refine zp_lt.mpr ?_; try dsimp only)
      | fail
    all_goals try rw [zp_eq (lp_save11 hr (by omega) (e12.trans hm))]
    all_goals refine ⟨rfl, zp_gen S rfl rfl rfl (fun T hT t0 t1 t2 => ?_)⟩
    all_goals unfold F_X12_save
    all_goals repeat' first
      | (with_reducible refine zp_some.mpr ?_; try dsimp only)
      | (with_reducible refine zp_wi.mpr ⟨fun c => ?_, fun c => ?_⟩ <;> (try simp (disch := omega) only [zadd_ok, zsub_ok, zmul_ok, zup_ap, zuA_ap, zset_ap, zuA_s, zuA_A, zup_up, and_true, true_and, and_false, false_and, reduceIte, Nat.reduceEqDiff, not_true_eq_false, not_false_eq_true, or_true, true_or, or_false, false_or, t1, t2, Int.toNat_natCast] at c) <;> (try (exfalso; omega)) <;> (try dsimp only))
      | with_reducible refine zp_bind.mpr ?_
      | (with_reducible refine zp_if (fun c => ?_) (fun c => ?_) <;> (try simp (disch := omega) only [zadd_ok, zsub_ok, zmul_ok, zup_ap, zuA_ap, zset_ap, zuA_s, zuA_A, zup_up, and_true, true_and, and_false, false_and, reduceIte, Nat.reduceEqDiff, not_true_eq_false, not_false_eq_true, or_true, true_or, or_false, false_or, t1, t2, Int.toNat_natCast] at c) <;> (try (exfalso; omega)))
      | (with_reducible refine zp_lt.mpr ?_; try dsimp only)
      | fail
    all_goals try rw [zp_eq (lp_save12 (S := (zup T.1 1 0 0, T.2)) (m := m) hr (by omega) (by show T.2 1 55 32 = _; rw [t2]; exact hm))]
    all_goals subst hT
    all_goals first
      | exact ⟨rfl, rfl, hT, hW, hF, hX, hO, hC, hJ, hI, hP, hK, hR, hM⟩
      | (refine ⟨rfl, rfl, hT, hW, hF, hX, hO, hC, hJ, hI, hP, hK, hR, ?_⟩
         refine M_set (r := r) (m := m) (b := 0) hM (fun j => ?_) (fun j => ?_) (fun q j hq e => ?_) (fun q j hq hj e => ?_) (fun j j1 j2 => ?_)
         · simp only [zup_ap, zuA_ap, zset_ap, zuA_s, zuA_A, zup_up, and_true, true_and, and_false, false_and, reduceIte, Nat.reduceEqDiff, Int.toNat_natCast, zrg_ap] <;> (repeat' split) <;> first | rfl | (exfalso; omega)
         · simp only [zup_ap, zuA_ap, zset_ap, zuA_s, zuA_A, zup_up, and_true, true_and, and_false, false_and, reduceIte, Nat.reduceEqDiff, Int.toNat_natCast, zrg_ap] <;> (repeat' split) <;> first | rfl | (exfalso; omega)
         · simp only [zup_ap, zuA_ap, zset_ap, zuA_s, zuA_A, zup_up, and_true, true_and, and_false, false_and, reduceIte, Nat.reduceEqDiff, Int.toNat_natCast, zrg_ap] <;> (repeat' split) <;> first | rfl | (exfalso; omega) | (have e : q = r := (by omega); subst e; first | rfl | (exfalso; omega))
         · simp only [zup_ap, zuA_ap, zset_ap, zuA_s, zuA_A, zup_up, and_true, true_and, and_false, false_and, reduceIte, Nat.reduceEqDiff, Int.toNat_natCast, zrg_ap] <;> (repeat' split) <;> first | rfl | (exfalso; omega)
         · have q := k3 j (by omega)
           simp only [zup_ap, zuA_ap, zset_ap, zuA_s, zuA_A, zup_up, and_true, true_and, and_false, false_and, reduceIte, Nat.reduceEqDiff, Int.toNat_natCast, zrg_ap]
           rw [if_pos (by omega), if_pos (by omega), Nat.sub_zero, show 60 * r + j - 60 * r = j by omega]
           exact q)
  · unfold Pair F_X11_save
    repeat' first
      | (with_reducible refine zp_some.mpr ?_; try dsimp only)
      | (with_reducible refine zp_wi.mpr ⟨fun c => ?_, fun c => ?_⟩ <;> (try simp (disch := omega) only [zadd_ok, zsub_ok, zmul_ok, zup_ap, zuA_ap, zset_ap, zuA_s, zuA_A, zup_up, and_true, true_and, and_false, false_and, reduceIte, Nat.reduceEqDiff, not_true_eq_false, not_false_eq_true, or_true, true_or, or_false, false_or] at c) <;> (try (exfalso; omega)) <;> (try dsimp only))
      | with_reducible refine zp_bind.mpr ?_
      | (with_reducible refine zp_if (fun c => ?_) (fun c => ?_) <;> (try simp (disch := omega) only [zadd_ok, zsub_ok, zmul_ok, zup_ap, zuA_ap, zset_ap, zuA_s, zuA_A, zup_up, and_true, true_and, and_false, false_and, reduceIte, Nat.reduceEqDiff, not_true_eq_false, not_false_eq_true, or_true, true_or, or_false, false_or] at c) <;> (try (exfalso; omega)))
      | (with_reducible refine zp_lt.mpr ?_; try dsimp only)
      | fail
    all_goals refine ⟨rfl, zp_gen S rfl rfl rfl (fun T hT t0 t1 t2 => ?_)⟩
    all_goals unfold F_X12_save
    all_goals repeat' first
      | (with_reducible refine zp_some.mpr ?_; try dsimp only)
      | (with_reducible refine zp_wi.mpr ⟨fun c => ?_, fun c => ?_⟩ <;> (try simp (disch := omega) only [zadd_ok, zsub_ok, zmul_ok, zup_ap, zuA_ap, zset_ap, zuA_s, zuA_A, zup_up, and_true, true_and, and_false, false_and, reduceIte, Nat.reduceEqDiff, not_true_eq_false, not_false_eq_true, or_true, true_or, or_false, false_or, t1, t2] at c) <;> (try (exfalso; omega)) <;> (try dsimp only))
      | with_reducible refine zp_bind.mpr ?_
      | (with_reducible refine zp_if (fun c => ?_) (fun c => ?_) <;> (try simp (disch := omega) only [zadd_ok, zsub_ok, zmul_ok, zup_ap, zuA_ap, zset_ap, zuA_s, zuA_A, zup_up, and_true, true_and, and_false, false_and, reduceIte, Nat.reduceEqDiff, not_true_eq_false, not_false_eq_true, or_true, true_or, or_false, false_or, t1, t2] at c) <;> (try (exfalso; omega)))
      | (with_reducible refine zp_lt.mpr ?_; try dsimp only)
      | fail
    all_goals subst hT
    all_goals exact ⟨rfl, rfl, hT, hW, hF, hX, hO, hC, hJ, hI, hP, hK, hR, hM⟩
end SMALL
