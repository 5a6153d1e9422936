/-! the calls without loops -/
theorem zp_wi {x a b : Int} {S : ZS} {Q : Int → Prop} : zp (F_X12_within x a b S) Q ↔ ((a ≤ x ∧ x ≤ b) → Q 1) ∧ (¬(a ≤ x ∧ x ≤ b) → Q 0) := by
  rw [F12_within, zp_some]
  by_cases h : a ≤ x ∧ x ≤ b
  · simp [h]
  · simp [h]
theorem zp_gen (S : ZS) {S' : ZS} {fm : ZS → Option (Int × ZS)} {Q : Int × ZS → Prop} (h0 : S'.2 0 = S.2 0) (h1 : S'.1 1 = S.1 1) (h2 : S'.2 1 = S.2 1)
    (k : ∀ T : ZS, T = S' → T.2 0 = S.2 0 → T.1 1 = S.1 1 → T.2 1 = S.2 1 → zp (fm T) Q) : zp (fm S') Q := k S' rfl h0 h1 h2
section TRIV
variable {n : Nat} {S : ZS} {x1 x2 x3 x4 : Int}
theorem InvX_up {n : Nat} {wp : Int} {I6 : Nat → Int} {A6 A7 : Nat → Nat → Int} {wy ro : Nat → Int} {sheets now jammed : Int} {len head state side stood came turned seeing kept passings passOn passOff : Nat → Int}
    (h : InvX n wp I6 A6 A7 wy ro sheets now jammed len head state side stood came turned seeing kept passings passOn passOff) : InvX (n + 1) wp I6 A6 A7 wy ro sheets now jammed len head state side stood came turned seeing kept passings passOn passOff := by
  obtain ⟨⟨L, P, h1, a1, a2, h2⟩, h3⟩ := h
  exact ⟨⟨L, P, h1, a1, ⟨a2.1, by have := a2.2; omega⟩, h2⟩, h3⟩
theorem pair_page (h : Inv n S) (hb : x2 = 0 ∨ x2 = 1) : Pair n S (F_X11_page x1 x2) (F_X12_page x1 x2) := by
  obtain ⟨hT, hW, hF, hX, hO, hC, hJ, hI, hP, hK, hR, hM⟩ := h
  have hX := InvX_up hX
  obtain ⟨⟨⟨j1, j2⟩, j3, j4, j5, j6, j7, j8, j9, j10, j11, ⟨j12, j13⟩, j14, j15⟩, e0, e5, e6, e7, e8, e9, e10, e11, e12, k1, k2, k3, k4⟩ := id hJ
  obtain ⟨m, hm⟩ : ∃ m : Nat, S.2 1 55 31 = (m : Int) := ⟨_, (Int.toNat_of_nonneg j1).symm⟩
  have f1 : zadd 0 (m : Int) = (m : Int) := by rw [zadd_ok (by omega) (by omega)]; omega
  have f2 : zadd 8 (m : Int) = ((8 + m : Nat) : Int) := by rw [zadd_ok (by omega) (by omega)]; omega
  have f3 : zadd (m : Int) 1 = ((m + 1 : Nat) : Int) := by rw [zadd_ok (by omega) (by omega)]; omega
  unfold Pair F_X11_page F_X2_addPage
  repeat' first
    | (with_reducible refine zp_some.mpr ?_; try dsimp only)
    | (with_reducible refine zp_wi.mpr ⟨fun c => ?_, fun c => ?_⟩ <;> (try simp (disch := omega) only [zadd_ok, zsub_ok, zmul_ok, zup_ap, zuA_ap, zset_ap, zuA_s, zuA_A, zup_up, and_true, true_and, and_false, false_and, reduceIte, Nat.reduceEqDiff, not_true_eq_false, not_false_eq_true, or_true, true_or, or_false, false_or] at c) <;> (try (exfalso; omega)) <;> (try dsimp only))
    | with_reducible refine zp_bind.mpr ?_
    | (with_reducible refine zp_if (fun c => ?_) (fun c => ?_) <;> (try simp (disch := omega) only [zadd_ok, zsub_ok, zmul_ok, zup_ap, zuA_ap, zset_ap, zuA_s, zuA_A, zup_up, and_true, true_and, and_false, false_and, reduceIte, Nat.reduceEqDiff, not_true_eq_false, not_false_eq_true, or_true, true_or, or_false, false_or] at c) <;> (try (exfalso; omega)))
    | (with_reducible refine zp_lt.mpr ?_; try dsimp only)
    | fail
  all_goals refine ⟨rfl, zp_gen S rfl rfl rfl (fun T hT t0 t1 t2 => ?_)⟩
  all_goals unfold F_X12_page
  all_goals repeat' first
    | (with_reducible refine zp_some.mpr ?_; try dsimp only)
    | (with_reducible refine zp_wi.mpr ⟨fun c => ?_, fun c => ?_⟩ <;> (try simp (disch := omega) only [zadd_ok, zsub_ok, zmul_ok, zup_ap, zuA_ap, zset_ap, zuA_s, zuA_A, zup_up, and_true, true_and, and_false, false_and, reduceIte, Nat.reduceEqDiff, not_true_eq_false, not_false_eq_true, or_true, true_or, or_false, false_or, t1, t2] at c) <;> (try (exfalso; omega)) <;> (try dsimp only))
    | with_reducible refine zp_bind.mpr ?_
    | (with_reducible refine zp_if (fun c => ?_) (fun c => ?_) <;> (try simp (disch := omega) only [zadd_ok, zsub_ok, zmul_ok, zup_ap, zuA_ap, zset_ap, zuA_s, zuA_A, zup_up, and_true, true_and, and_false, false_and, reduceIte, Nat.reduceEqDiff, not_true_eq_false, not_false_eq_true, or_true, true_or, or_false, false_or, t1, t2] at c) <;> (try (exfalso; omega)))
    | (with_reducible refine zp_lt.mpr ?_; try dsimp only)
    | fail
  all_goals subst hT
  rotate_left 2
  · skip
    have m8 : m < 8 := by omega
    have f4 : (31 = m) = False := by simp only [eq_iff_iff, iff_false]; omega
    have f5 : (31 = 8 + m) = False := by simp only [eq_iff_iff, iff_false]; omega
    subst_vars
    refine ⟨?_, rfl, hT, hW, hF, hX, hO, hC, J_page hJ hm m8 (by omega) (by omega) (by omega) (fun k => ?_) (fun o j => ?_) (fun k => ?_), InvI_cong (fun k hk => ?_) hI, Or.inl rfl, Or.inl rfl, InvR_cong (fun p hp => ?_) hR, hM⟩
    all_goals first
      | (simp only [zup_ap, zuA_ap, zset_ap, zuA_s, zuA_A, zup_up, and_true, true_and, and_false, false_and, reduceIte, Nat.reduceEqDiff, Int.toNat_natCast, e0, hm, f1, f2, f3, f4, f5]; done)
      | (simp only [zup_ap, zuA_ap, zset_ap, zuA_s, zuA_A, zup_up, and_true, true_and, and_false, false_and, reduceIte, Nat.reduceEqDiff, Int.toNat_natCast, e0, hm, f1, f2, f3, f4, f5]; (repeat' apply And.intro) <;> (repeat' split) <;> (try subst_vars) <;> first | rfl | (exfalso; omega) | omega)
  · skip
    have m8 : m < 8 := by omega
    have f4 : (31 = m) = False := by simp only [eq_iff_iff, iff_false]; omega
    have f5 : (31 = 8 + m) = False := by simp only [eq_iff_iff, iff_false]; omega
    refine ⟨?_, rfl, hT, hW, hF, hX, hO, hC, J_page hJ hm m8 (by omega) (by omega) (by omega) (fun k => ?_) (fun o j => ?_) (fun k => ?_), InvI_cong (fun k hk => ?_) hI, Or.inl rfl, Or.inl rfl, InvR_cong (fun p hp => ?_) hR, hM⟩
    all_goals first
      | (simp only [zup_ap, zuA_ap, zset_ap, zuA_s, zuA_A, zup_up, and_true, true_and, and_false, false_and, reduceIte, Nat.reduceEqDiff, Int.toNat_natCast, e0, hm, f1, f2, f3, f4, f5]; done)
      | (simp only [zup_ap, zuA_ap, zset_ap, zuA_s, zuA_A, zup_up, and_true, true_and, and_false, false_and, reduceIte, Nat.reduceEqDiff, Int.toNat_natCast, e0, hm, f1, f2, f3, f4, f5]; (repeat' apply And.intro) <;> (repeat' split) <;> (try subst_vars) <;> first | rfl | (exfalso; omega) | omega)
  all_goals exact ⟨rfl, rfl, hT, hW, hF, hX, hO, hC, hJ, hI, hP, hK, hR, hM⟩
theorem pair_tray (h : Inv n S) (hb : x3 = 0 ∨ x3 = 1) : Pair n S (F_X11_tray x1 x2 x3) (F_X12_tray x1 x2 x3) := by
  obtain ⟨hT, hW, hF, hX, hO, hC, hJ, hI, hP, hK, hR, hM⟩ := h
  have hX := InvX_up hX
  obtain ⟨⟨⟨j1, j2⟩, j3, j4, j5, j6, j7, j8, j9, j10, j11, ⟨j12, j13⟩, j14, j15⟩, e0, e5, e6, e7, e8, e9, e10, e11, e12, k1, k2, k3, k4⟩ := id hJ
  unfold Pair F_X11_tray 
  repeat' first
    | (with_reducible refine zp_some.mpr ?_; try dsimp only)
    | (with_reducible refine zp_wi.mpr ⟨fun c => ?_, fun c => ?_⟩ <;> (try simp (disch := omega) only [zadd_ok, zsub_ok, zmul_ok, zup_ap, zuA_ap, zset_ap, zuA_s, zuA_A, zup_up, and_true, true_and, and_false, false_and, reduceIte, Nat.reduceEqDiff, not_true_eq_false, not_false_eq_true, or_true, true_or, or_false, false_or] at c) <;> (try (exfalso; omega)) <;> (try dsimp only))
    | with_reducible refine zp_bind.mpr ?_
    | (with_reducible refine zp_if (fun c => ?_) (fun c => ?_) <;> (try simp (disch := omega) only [zadd_ok, zsub_ok, zmul_ok, zup_ap, zuA_ap, zset_ap, zuA_s, zuA_A, zup_up, and_true, true_and, and_false, false_and, reduceIte, Nat.reduceEqDiff, not_true_eq_false, not_false_eq_true, or_true, true_or, or_false, false_or] at c) <;> (try (exfalso; omega)))
    | (with_reducible refine zp_lt.mpr ?_; try dsimp only)
    | fail
  all_goals refine ⟨rfl, zp_gen S rfl rfl rfl (fun T hT t0 t1 t2 => ?_)⟩
  all_goals unfold F_X12_tray
  all_goals repeat' first
    | (with_reducible refine zp_some.mpr ?_; try dsimp only)
    | (with_reducible refine zp_wi.mpr ⟨fun c => ?_, fun c => ?_⟩ <;> (try simp (disch := omega) only [zadd_ok, zsub_ok, zmul_ok, zup_ap, zuA_ap, zset_ap, zuA_s, zuA_A, zup_up, and_true, true_and, and_false, false_and, reduceIte, Nat.reduceEqDiff, not_true_eq_false, not_false_eq_true, or_true, true_or, or_false, false_or, t1, t2] at c) <;> (try (exfalso; omega)) <;> (try dsimp only))
    | with_reducible refine zp_bind.mpr ?_
    | (with_reducible refine zp_if (fun c => ?_) (fun c => ?_) <;> (try simp (disch := omega) only [zadd_ok, zsub_ok, zmul_ok, zup_ap, zuA_ap, zset_ap, zuA_s, zuA_A, zup_up, and_true, true_and, and_false, false_and, reduceIte, Nat.reduceEqDiff, not_true_eq_false, not_false_eq_true, or_true, true_or, or_false, false_or, t1, t2] at c) <;> (try (exfalso; omega)))
    | (with_reducible refine zp_lt.mpr ?_; try dsimp only)
    | fail
  all_goals subst hT
  all_goals first
    | (exact ⟨rfl, rfl, hT, hW, hF, hX, hO, hC, hJ, hI, hP, hK, hR, hM⟩)
    | skip
  all_goals
    obtain ⟨m, hm⟩ : ∃ m : Nat, x1 = (m : Int) := ⟨_, (Int.toNat_of_nonneg (by omega)).symm⟩
    have m4 : m < 4 := by omega
    have f1 : zadd 16 (m : Int) = ((16 + m : Nat) : Int) := by rw [zadd_ok (by omega) (by omega)]; omega
    have f2 : zadd 20 (m : Int) = ((20 + m : Nat) : Int) := by rw [zadd_ok (by omega) (by omega)]; omega
    refine ⟨?_, rfl, hT, hW, hF, hX, hO, hC, J_tray (m := m) (x := x2) (v := x3) hJ m4 (by omega) (by omega) (fun k => ?_) (fun o j => ?_) (fun k => ?_), InvI_cong (fun k hk => ?_) hI, Or.inl rfl, InvK_cong ?_ ?_ ?_ (fun i hi => ?_) (by omega) hK, InvR_cong (fun p hp => ?_) hR, hM⟩
    all_goals first
      | (simp only [zup_ap, zuA_ap, zset_ap, zuA_s, zuA_A, zup_up, and_true, true_and, and_false, false_and, reduceIte, Nat.reduceEqDiff, Int.toNat_natCast, hm, f1, f2]; done)
      | (simp only [zup_ap, zuA_ap, zset_ap, zuA_s, zuA_A, zup_up, and_true, true_and, and_false, false_and, reduceIte, Nat.reduceEqDiff, Int.toNat_natCast, hm, f1, f2]; (repeat' apply And.intro) <;> (repeat' split) <;> (try subst_vars) <;> first | rfl | (exfalso; omega) | omega)
theorem pair_pocket (h : Inv n S)  : Pair n S (F_X11_pocket x1 x2) (F_X12_pocket x1 x2) := by
  obtain ⟨hT, hW, hF, hX, hO, hC, hJ, hI, hP, hK, hR, hM⟩ := h
  have hX := InvX_up hX
  obtain ⟨⟨⟨j1, j2⟩, j3, j4, j5, j6, j7, j8, j9, j10, j11, ⟨j12, j13⟩, j14, j15⟩, e0, e5, e6, e7, e8, e9, e10, e11, e12, k1, k2, k3, k4⟩ := id hJ
  unfold Pair F_X11_pocket 
  repeat' first
    | (with_reducible refine zp_some.mpr ?_; try dsimp only)
    | (with_reducible refine zp_wi.mpr ⟨fun c => ?_, fun c => ?_⟩ <;> (try simp (disch := omega) only [zadd_ok, zsub_ok, zmul_ok, zup_ap, zuA_ap, zset_ap, zuA_s, zuA_A, zup_up, and_true, true_and, and_false, false_and, reduceIte, Nat.reduceEqDiff, not_true_eq_false, not_false_eq_true, or_true, true_or, or_false, false_or] at c) <;> (try (exfalso; omega)) <;> (try dsimp only))
    | with_reducible refine zp_bind.mpr ?_
    | (with_reducible refine zp_if (fun c => ?_) (fun c => ?_) <;> (try simp (disch := omega) only [zadd_ok, zsub_ok, zmul_ok, zup_ap, zuA_ap, zset_ap, zuA_s, zuA_A, zup_up, and_true, true_and, and_false, false_and, reduceIte, Nat.reduceEqDiff, not_true_eq_false, not_false_eq_true, or_true, true_or, or_false, false_or] at c) <;> (try (exfalso; omega)))
    | (with_reducible refine zp_lt.mpr ?_; try dsimp only)
    | fail
  all_goals refine ⟨rfl, zp_gen S rfl rfl rfl (fun T hT t0 t1 t2 => ?_)⟩
  all_goals unfold F_X12_pocket
  all_goals repeat' first
    | (with_reducible refine zp_some.mpr ?_; try dsimp only)
    | (with_reducible refine zp_wi.mpr ⟨fun c => ?_, fun c => ?_⟩ <;> (try simp (disch := omega) only [zadd_ok, zsub_ok, zmul_ok, zup_ap, zuA_ap, zset_ap, zuA_s, zuA_A, zup_up, and_true, true_and, and_false, false_and, reduceIte, Nat.reduceEqDiff, not_true_eq_false, not_false_eq_true, or_true, true_or, or_false, false_or, t1, t2] at c) <;> (try (exfalso; omega)) <;> (try dsimp only))
    | with_reducible refine zp_bind.mpr ?_
    | (with_reducible refine zp_if (fun c => ?_) (fun c => ?_) <;> (try simp (disch := omega) only [zadd_ok, zsub_ok, zmul_ok, zup_ap, zuA_ap, zset_ap, zuA_s, zuA_A, zup_up, and_true, true_and, and_false, false_and, reduceIte, Nat.reduceEqDiff, not_true_eq_false, not_false_eq_true, or_true, true_or, or_false, false_or, t1, t2] at c) <;> (try (exfalso; omega)))
    | (with_reducible refine zp_lt.mpr ?_; try dsimp only)
    | fail
  all_goals subst hT
  all_goals first
    | (exact ⟨rfl, rfl, hT, hW, hF, hX, hO, hC, hJ, hI, hP, hK, hR, hM⟩)
    | skip
  all_goals
    refine ⟨?_, rfl, hT, hW, hF, hX, hO, hC, J_pock (x := x1) (v := x2) hJ (by omega) (by omega) (fun k => ?_) (fun o j => ?_) (fun k => ?_), InvI_cong (fun k hk => ?_) hI, Or.inl rfl, InvK_cong ?_ ?_ ?_ (fun i hi => ?_) (by omega) hK, InvR_cong (fun p hp => ?_) hR, hM⟩
    all_goals first
      | (simp only [zup_ap, zuA_ap, zset_ap, zuA_s, zuA_A, zup_up, and_true, true_and, and_false, false_and, reduceIte, Nat.reduceEqDiff, Int.toNat_natCast]; done)
      | (simp only [zup_ap, zuA_ap, zset_ap, zuA_s, zuA_A, zup_up, and_true, true_and, and_false, false_and, reduceIte, Nat.reduceEqDiff, Int.toNat_natCast]; (repeat' apply And.intro) <;> (repeat' split) <;> (try subst_vars) <;> first | rfl | (exfalso; omega) | omega)
theorem pair_heat (h : Inv n S)  : Pair n S (F_X11_heat x1 x2 x3 x4) (F_X12_heat x1 x2 x3 x4) := by
  obtain ⟨hT, hW, hF, hX, hO, hC, hJ, hI, hP, hK, hR, hM⟩ := h
  have hX := InvX_up hX
  obtain ⟨⟨⟨j1, j2⟩, j3, j4, j5, j6, j7, j8, j9, j10, j11, ⟨j12, j13⟩, j14, j15⟩, e0, e5, e6, e7, e8, e9, e10, e11, e12, k1, k2, k3, k4⟩ := id hJ
  unfold Pair F_X11_heat F_X11_heat_47
  repeat' first
    | (with_reducible refine zp_some.mpr ?_; try dsimp only)
    | (with_reducible refine zp_wi.mpr ⟨fun c => ?_, fun c => ?_⟩ <;> (try simp (disch := omega) only [zadd_ok, zsub_ok, zmul_ok, zup_ap, zuA_ap, zset_ap, zuA_s, zuA_A, zup_up, and_true, true_and, and_false, false_and, reduceIte, Nat.reduceEqDiff, not_true_eq_false, not_false_eq_true, or_true, true_or, or_false, false_or] at c) <;> (try (exfalso; omega)) <;> (try dsimp only))
    | with_reducible refine zp_bind.mpr ?_
    | (with_reducible refine zp_if (fun c => ?_) (fun c => ?_) <;> (try simp (disch := omega) only [zadd_ok, zsub_ok, zmul_ok, zup_ap, zuA_ap, zset_ap, zuA_s, zuA_A, zup_up, and_true, true_and, and_false, false_and, reduceIte, Nat.reduceEqDiff, not_true_eq_false, not_false_eq_true, or_true, true_or, or_false, false_or] at c) <;> (try (exfalso; omega)))
    | (with_reducible refine zp_lt.mpr ?_; try dsimp only)
    | fail
  all_goals refine ⟨rfl, zp_gen S rfl rfl rfl (fun T hT t0 t1 t2 => ?_)⟩
  all_goals unfold F_X12_heat
  all_goals repeat' first
    | (with_reducible refine zp_some.mpr ?_; try dsimp only)
    | (with_reducible refine zp_wi.mpr ⟨fun c => ?_, fun c => ?_⟩ <;> (try simp (disch := omega) only [zadd_ok, zsub_ok, zmul_ok, zup_ap, zuA_ap, zset_ap, zuA_s, zuA_A, zup_up, and_true, true_and, and_false, false_and, reduceIte, Nat.reduceEqDiff, not_true_eq_false, not_false_eq_true, or_true, true_or, or_false, false_or, t1, t2] at c) <;> (try (exfalso; omega)) <;> (try dsimp only))
    | with_reducible refine zp_bind.mpr ?_
    | (with_reducible refine zp_if (fun c => ?_) (fun c => ?_) <;> (try simp (disch := omega) only [zadd_ok, zsub_ok, zmul_ok, zup_ap, zuA_ap, zset_ap, zuA_s, zuA_A, zup_up, and_true, true_and, and_false, false_and, reduceIte, Nat.reduceEqDiff, not_true_eq_false, not_false_eq_true, or_true, true_or, or_false, false_or, t1, t2] at c) <;> (try (exfalso; omega)))
    | (with_reducible refine zp_lt.mpr ?_; try dsimp only)
    | fail
  all_goals subst hT
  all_goals first
    | (exact ⟨rfl, rfl, hT, hW, hF, hX, hO, hC, hJ, hI, hP, hK, hR, hM⟩)
    | skip
  all_goals
    refine ⟨?_, rfl, hT, hW, hF, hX, hO, hC, J_heat (x := x1) (y := x2) (z := x3) (w := x4) hJ (by omega) (by omega) (by omega) (by omega) (fun k => ?_) (fun o j => ?_) (fun k => ?_), InvI_cong (fun k hk => ?_) hI, Or.inl rfl, InvK_cong ?_ ?_ ?_ (fun i hi => ?_) (by omega) hK, InvR_cong (fun p hp => ?_) hR, hM⟩
    all_goals first
      | (simp only [zup_ap, zuA_ap, zset_ap, zuA_s, zuA_A, zup_up, and_true, true_and, and_false, false_and, reduceIte, Nat.reduceEqDiff, Int.toNat_natCast]; done)
      | (simp only [zup_ap, zuA_ap, zset_ap, zuA_s, zuA_A, zup_up, and_true, true_and, and_false, false_and, reduceIte, Nat.reduceEqDiff, Int.toNat_natCast]; (repeat' apply And.intro) <;> (repeat' split) <;> (try subst_vars) <;> first | rfl | (exfalso; omega) | omega)
theorem pair_copies (h : Inv n S)  : Pair n S (F_X11_copies x1) (F_X12_copies x1) := by
  obtain ⟨hT, hW, hF, hX, hO, hC, hJ, hI, hP, hK, hR, hM⟩ := h
  have hX := InvX_up hX
  obtain ⟨⟨⟨j1, j2⟩, j3, j4, j5, j6, j7, j8, j9, j10, j11, ⟨j12, j13⟩, j14, j15⟩, e0, e5, e6, e7, e8, e9, e10, e11, e12, k1, k2, k3, k4⟩ := id hJ
  unfold Pair F_X11_copies 
  repeat' first
    | (with_reducible refine zp_some.mpr ?_; try dsimp only)
    | (with_reducible refine zp_wi.mpr ⟨fun c => ?_, fun c => ?_⟩ <;> (try simp (disch := omega) only [zadd_ok, zsub_ok, zmul_ok, zup_ap, zuA_ap, zset_ap, zuA_s, zuA_A, zup_up, and_true, true_and, and_false, false_and, reduceIte, Nat.reduceEqDiff, not_true_eq_false, not_false_eq_true, or_true, true_or, or_false, false_or] at c) <;> (try (exfalso; omega)) <;> (try dsimp only))
    | with_reducible refine zp_bind.mpr ?_
    | (with_reducible refine zp_if (fun c => ?_) (fun c => ?_) <;> (try simp (disch := omega) only [zadd_ok, zsub_ok, zmul_ok, zup_ap, zuA_ap, zset_ap, zuA_s, zuA_A, zup_up, and_true, true_and, and_false, false_and, reduceIte, Nat.reduceEqDiff, not_true_eq_false, not_false_eq_true, or_true, true_or, or_false, false_or] at c) <;> (try (exfalso; omega)))
    | (with_reducible refine zp_lt.mpr ?_; try dsimp only)
    | fail
  all_goals refine ⟨rfl, zp_gen S rfl rfl rfl (fun T hT t0 t1 t2 => ?_)⟩
  all_goals unfold F_X12_copies
  all_goals repeat' first
    | (with_reducible refine zp_some.mpr ?_; try dsimp only)
    | (with_reducible refine zp_wi.mpr ⟨fun c => ?_, fun c => ?_⟩ <;> (try simp (disch := omega) only [zadd_ok, zsub_ok, zmul_ok, zup_ap, zuA_ap, zset_ap, zuA_s, zuA_A, zup_up, and_true, true_and, and_false, false_and, reduceIte, Nat.reduceEqDiff, not_true_eq_false, not_false_eq_true, or_true, true_or, or_false, false_or, t1, t2] at c) <;> (try (exfalso; omega)) <;> (try dsimp only))
    | with_reducible refine zp_bind.mpr ?_
    | (with_reducible refine zp_if (fun c => ?_) (fun c => ?_) <;> (try simp (disch := omega) only [zadd_ok, zsub_ok, zmul_ok, zup_ap, zuA_ap, zset_ap, zuA_s, zuA_A, zup_up, and_true, true_and, and_false, false_and, reduceIte, Nat.reduceEqDiff, not_true_eq_false, not_false_eq_true, or_true, true_or, or_false, false_or, t1, t2] at c) <;> (try (exfalso; omega)))
    | (with_reducible refine zp_lt.mpr ?_; try dsimp only)
    | fail
  all_goals subst hT
  all_goals first
    | (exact ⟨rfl, rfl, hT, hW, hF, hX, hO, hC, hJ, hI, hP, hK, hR, hM⟩)
    | skip
  all_goals
    refine ⟨?_, rfl, hT, hW, hF, hX, hO, hC, J_copi (x := x1) hJ (by omega) (fun k => ?_) (fun o j => ?_) (fun k => ?_), InvI_cong (fun k hk => ?_) hI, InvP_cong (fun k hk => ?_) ?_ (by omega) hP, Or.inl rfl, InvR_cong (fun p hp => ?_) hR, hM⟩
    all_goals first
      | (simp only [zup_ap, zuA_ap, zset_ap, zuA_s, zuA_A, zup_up, and_true, true_and, and_false, false_and, reduceIte, Nat.reduceEqDiff, Int.toNat_natCast]; done)
      | (simp only [zup_ap, zuA_ap, zset_ap, zuA_s, zuA_A, zup_up, and_true, true_and, and_false, false_and, reduceIte, Nat.reduceEqDiff, Int.toNat_natCast]; (repeat' apply And.intro) <;> (repeat' split) <;> (try subst_vars) <;> first | rfl | (exfalso; omega) | omega)
theorem pair_out (h : Inv n S)  : Pair n S (F_X11_out x1) (F_X12_out x1) := by
  obtain ⟨hT, hW, hF, hX, hO, hC, hJ, hI, hP, hK, hR, hM⟩ := h
  have hX := InvX_up hX
  obtain ⟨⟨⟨j1, j2⟩, j3, j4, j5, j6, j7, j8, j9, j10, j11, ⟨j12, j13⟩, j14, j15⟩, e0, e5, e6, e7, e8, e9, e10, e11, e12, k1, k2, k3, k4⟩ := id hJ
  obtain ⟨m, hm⟩ : ∃ m : Nat, S.2 1 55 32 = (m : Int) := ⟨_, (Int.toNat_of_nonneg j12).symm⟩
  have f1 : zadd 33 (m : Int) = ((33 + m : Nat) : Int) := by rw [zadd_ok (by omega) (by omega)]; omega
  have f2 : zadd (m : Int) 1 = ((m + 1 : Nat) : Int) := by rw [zadd_ok (by omega) (by omega)]; omega
  unfold Pair F_X11_out 
  repeat' first
    | (with_reducible refine zp_some.mpr ?_; try dsimp only)
    | (with_reducible refine zp_wi.mpr ⟨fun c => ?_, fun c => ?_⟩ <;> (try simp (disch := omega) only [zadd_ok, zsub_ok, zmul_ok, zup_ap, zuA_ap, zset_ap, zuA_s, zuA_A, zup_up, and_true, true_and, and_false, false_and, reduceIte, Nat.reduceEqDiff, not_true_eq_false, not_false_eq_true, or_true, true_or, or_false, false_or] at c) <;> (try (exfalso; omega)) <;> (try dsimp only))
    | with_reducible refine zp_bind.mpr ?_
    | (with_reducible refine zp_if (fun c => ?_) (fun c => ?_) <;> (try simp (disch := omega) only [zadd_ok, zsub_ok, zmul_ok, zup_ap, zuA_ap, zset_ap, zuA_s, zuA_A, zup_up, and_true, true_and, and_false, false_and, reduceIte, Nat.reduceEqDiff, not_true_eq_false, not_false_eq_true, or_true, true_or, or_false, false_or] at c) <;> (try (exfalso; omega)))
    | (with_reducible refine zp_lt.mpr ?_; try dsimp only)
    | fail
  all_goals refine ⟨rfl, zp_gen S rfl rfl rfl (fun T hT t0 t1 t2 => ?_)⟩
  all_goals unfold F_X12_out
  all_goals repeat' first
    | (with_reducible refine zp_some.mpr ?_; try dsimp only)
    | (with_reducible refine zp_wi.mpr ⟨fun c => ?_, fun c => ?_⟩ <;> (try simp (disch := omega) only [zadd_ok, zsub_ok, zmul_ok, zup_ap, zuA_ap, zset_ap, zuA_s, zuA_A, zup_up, and_true, true_and, and_false, false_and, reduceIte, Nat.reduceEqDiff, not_true_eq_false, not_false_eq_true, or_true, true_or, or_false, false_or, t1, t2] at c) <;> (try (exfalso; omega)) <;> (try dsimp only))
    | with_reducible refine zp_bind.mpr ?_
    | (with_reducible refine zp_if (fun c => ?_) (fun c => ?_) <;> (try simp (disch := omega) only [zadd_ok, zsub_ok, zmul_ok, zup_ap, zuA_ap, zset_ap, zuA_s, zuA_A, zup_up, and_true, true_and, and_false, false_and, reduceIte, Nat.reduceEqDiff, not_true_eq_false, not_false_eq_true, or_true, true_or, or_false, false_or, t1, t2] at c) <;> (try (exfalso; omega)))
    | (with_reducible refine zp_lt.mpr ?_; try dsimp only)
    | fail
  all_goals subst hT
  all_goals first
    | (exact ⟨rfl, rfl, hT, hW, hF, hX, hO, hC, hJ, hI, hP, hK, hR, hM⟩)
    | skip
  all_goals
    have m6 : m < 60 := by omega
    have f3 : (32 = 33 + m) = False := by simp only [eq_iff_iff, iff_false]; omega
    refine ⟨?_, rfl, hT, hW, hF, hX, hO, hC, J_out (x := x1) hJ hm m6 (by omega) (fun k => ?_) (fun o j => ?_) (fun k => ?_), InvI_cong (fun k hk => ?_) hI, InvP_cong (fun k hk => ?_) ?_ (by omega) hP, Or.inl rfl, InvR_cong (fun p hp => ?_) hR, hM⟩
    all_goals first
      | (simp only [zup_ap, zuA_ap, zset_ap, zuA_s, zuA_A, zup_up, and_true, true_and, and_false, false_and, reduceIte, Nat.reduceEqDiff, Int.toNat_natCast, e12, hm, f1, f2, f3]; done)
      | (simp only [zup_ap, zuA_ap, zset_ap, zuA_s, zuA_A, zup_up, and_true, true_and, and_false, false_and, reduceIte, Nat.reduceEqDiff, Int.toNat_natCast, e12, hm, f1, f2, f3]; (repeat' apply And.intro) <;> (repeat' split) <;> (try subst_vars) <;> first | rfl | (exfalso; omega) | omega)
theorem pair_empty (h : Inv n S)  : Pair n S (F_X11_empty) (F_X12_empty) := by
  obtain ⟨hT, hW, hF, hX, hO, hC, hJ, hI, hP, hK, hR, hM⟩ := h
  have hX := InvX_up hX
  obtain ⟨⟨⟨j1, j2⟩, j3, j4, j5, j6, j7, j8, j9, j10, j11, ⟨j12, j13⟩, j14, j15⟩, e0, e5, e6, e7, e8, e9, e10, e11, e12, k1, k2, k3, k4⟩ := id hJ
  unfold Pair F_X11_empty 
  repeat' first
    | (with_reducible refine zp_some.mpr ?_; try dsimp only)
    | (with_reducible refine zp_wi.mpr ⟨fun c => ?_, fun c => ?_⟩ <;> (try simp (disch := omega) only [zadd_ok, zsub_ok, zmul_ok, zup_ap, zuA_ap, zset_ap, zuA_s, zuA_A, zup_up, and_true, true_and, and_false, false_and, reduceIte, Nat.reduceEqDiff, not_true_eq_false, not_false_eq_true, or_true, true_or, or_false, false_or] at c) <;> (try (exfalso; omega)) <;> (try dsimp only))
    | with_reducible refine zp_bind.mpr ?_
    | (with_reducible refine zp_if (fun c => ?_) (fun c => ?_) <;> (try simp (disch := omega) only [zadd_ok, zsub_ok, zmul_ok, zup_ap, zuA_ap, zset_ap, zuA_s, zuA_A, zup_up, and_true, true_and, and_false, false_and, reduceIte, Nat.reduceEqDiff, not_true_eq_false, not_false_eq_true, or_true, true_or, or_false, false_or] at c) <;> (try (exfalso; omega)))
    | (with_reducible refine zp_lt.mpr ?_; try dsimp only)
    | fail
  all_goals refine ⟨rfl, zp_gen S rfl rfl rfl (fun T hT t0 t1 t2 => ?_)⟩
  all_goals unfold F_X12_empty
  all_goals repeat' first
    | (with_reducible refine zp_some.mpr ?_; try dsimp only)
    | (with_reducible refine zp_wi.mpr ⟨fun c => ?_, fun c => ?_⟩ <;> (try simp (disch := omega) only [zadd_ok, zsub_ok, zmul_ok, zup_ap, zuA_ap, zset_ap, zuA_s, zuA_A, zup_up, and_true, true_and, and_false, false_and, reduceIte, Nat.reduceEqDiff, not_true_eq_false, not_false_eq_true, or_true, true_or, or_false, false_or, t1, t2] at c) <;> (try (exfalso; omega)) <;> (try dsimp only))
    | with_reducible refine zp_bind.mpr ?_
    | (with_reducible refine zp_if (fun c => ?_) (fun c => ?_) <;> (try simp (disch := omega) only [zadd_ok, zsub_ok, zmul_ok, zup_ap, zuA_ap, zset_ap, zuA_s, zuA_A, zup_up, and_true, true_and, and_false, false_and, reduceIte, Nat.reduceEqDiff, not_true_eq_false, not_false_eq_true, or_true, true_or, or_false, false_or, t1, t2] at c) <;> (try (exfalso; omega)))
    | (with_reducible refine zp_lt.mpr ?_; try dsimp only)
    | fail
  all_goals subst hT
  all_goals first
    | (exact ⟨rfl, rfl, hT, hW, hF, hX, hO, hC, hJ, hI, hP, hK, hR, hM⟩)
    | skip
  all_goals
    refine ⟨?_, rfl, hT, hW, hF, hX, hO, hC, J_empt hJ (fun k => ?_) (fun o j => ?_) (fun k => ?_), InvI_cong (fun k hk => ?_) hI, InvP_cong (fun k hk => ?_) ?_ (by omega) hP, Or.inl rfl, InvR_cong (fun p hp => ?_) hR, hM⟩
    all_goals first
      | (simp only [zup_ap, zuA_ap, zset_ap, zuA_s, zuA_A, zup_up, and_true, true_and, and_false, false_and, reduceIte, Nat.reduceEqDiff, Int.toNat_natCast]; done)
      | (simp only [zup_ap, zuA_ap, zset_ap, zuA_s, zuA_A, zup_up, and_true, true_and, and_false, false_and, reduceIte, Nat.reduceEqDiff, Int.toNat_natCast]; (repeat' apply And.intro) <;> (repeat' split) <;> (try subst_vars) <;> first | rfl | (exfalso; omega) | omega)
theorem pair_part (h : Inv n S)  : Pair n S (F_X11_part x1 x2 x3 x4) (F_X12_part x1 x2 x3 x4) := by
  obtain ⟨hT, hW, hF, hX, hO, hC, hJ, hI, hP, hK, hR, hM⟩ := h
  have hX := InvX_up hX
  obtain ⟨⟨⟨j1, j2⟩, j3, j4, j5, j6, j7, j8, j9, j10, j11, ⟨j12, j13⟩, j14, j15⟩, e0, e5, e6, e7, e8, e9, e10, e11, e12, k1, k2, k3, k4⟩ := id hJ
  unfold Pair F_X11_part 
  repeat' first
    | (with_reducible refine zp_some.mpr ?_; try dsimp only)
    | (with_reducible refine zp_wi.mpr ⟨fun c => ?_, fun c => ?_⟩ <;> (try simp (disch := omega) only [zadd_ok, zsub_ok, zmul_ok, zup_ap, zuA_ap, zset_ap, zuA_s, zuA_A, zup_up, and_true, true_and, and_false, false_and, reduceIte, Nat.reduceEqDiff, not_true_eq_false, not_false_eq_true, or_true, true_or, or_false, false_or] at c) <;> (try (exfalso; omega)) <;> (try dsimp only))
    | with_reducible refine zp_bind.mpr ?_
    | (with_reducible refine zp_if (fun c => ?_) (fun c => ?_) <;> (try simp (disch := omega) only [zadd_ok, zsub_ok, zmul_ok, zup_ap, zuA_ap, zset_ap, zuA_s, zuA_A, zup_up, and_true, true_and, and_false, false_and, reduceIte, Nat.reduceEqDiff, not_true_eq_false, not_false_eq_true, or_true, true_or, or_false, false_or] at c) <;> (try (exfalso; omega)))
    | (with_reducible refine zp_lt.mpr ?_; try dsimp only)
    | fail
  all_goals refine ⟨rfl, zp_gen S rfl rfl rfl (fun T hT t0 t1 t2 => ?_)⟩
  all_goals unfold F_X12_part
  all_goals repeat' first
    | (with_reducible refine zp_some.mpr ?_; try dsimp only)
    | (with_reducible refine zp_wi.mpr ⟨fun c => ?_, fun c => ?_⟩ <;> (try simp (disch := omega) only [zadd_ok, zsub_ok, zmul_ok, zup_ap, zuA_ap, zset_ap, zuA_s, zuA_A, zup_up, and_true, true_and, and_false, false_and, reduceIte, Nat.reduceEqDiff, not_true_eq_false, not_false_eq_true, or_true, true_or, or_false, false_or, t1, t2] at c) <;> (try (exfalso; omega)) <;> (try dsimp only))
    | with_reducible refine zp_bind.mpr ?_
    | (with_reducible refine zp_if (fun c => ?_) (fun c => ?_) <;> (try simp (disch := omega) only [zadd_ok, zsub_ok, zmul_ok, zup_ap, zuA_ap, zset_ap, zuA_s, zuA_A, zup_up, and_true, true_and, and_false, false_and, reduceIte, Nat.reduceEqDiff, not_true_eq_false, not_false_eq_true, or_true, true_or, or_false, false_or, t1, t2] at c) <;> (try (exfalso; omega)))
    | (with_reducible refine zp_lt.mpr ?_; try dsimp only)
    | fail
  all_goals subst hT
  all_goals first
    | (exact ⟨rfl, rfl, hT, hW, hF, hX, hO, hC, hJ, hI, hP, hK, hR, hM⟩)
    | skip
  all_goals
    obtain ⟨m, hm⟩ : ∃ m : Nat, x1 = (m : Int) := ⟨_, (Int.toNat_of_nonneg (by omega)).symm⟩
    have m10 : m < 10 := by omega
    have f1 : zadd 93 (m : Int) = ((93 + m : Nat) : Int) := by rw [zadd_ok (by omega) (by omega)]; omega
    have f2 : zadd 103 (m : Int) = ((103 + m : Nat) : Int) := by rw [zadd_ok (by omega) (by omega)]; omega
    have f3 : zadd 113 (m : Int) = ((113 + m : Nat) : Int) := by rw [zadd_ok (by omega) (by omega)]; omega
    have f4 : zadd 123 (m : Int) = ((123 + m : Nat) : Int) := by rw [zadd_ok (by omega) (by omega)]; omega
    refine ⟨?_, rfl, hT, hW, hF, hX, hO, hC, J_part (m := m) (x := x2) (y := x3) (z := x4) hJ m10 (by omega) (by omega) (by omega) (fun k => ?_) (fun o j => ?_) (fun k => ?_), InvI_cong (fun k hk => ?_) hI, InvP_cong (fun k hk => ?_) ?_ (by omega) hP, InvK_cong ?_ ?_ ?_ (fun i hi => ?_) (by omega) hK, Or.inl rfl, hM⟩
    all_goals first
      | (simp only [zup_ap, zuA_ap, zset_ap, zuA_s, zuA_A, zup_up, and_true, true_and, and_false, false_and, reduceIte, Nat.reduceEqDiff, Int.toNat_natCast, hm, f1, f2, f3, f4]; done)
      | (simp only [zup_ap, zuA_ap, zset_ap, zuA_s, zuA_A, zup_up, and_true, true_and, and_false, false_and, reduceIte, Nat.reduceEqDiff, Int.toNat_natCast, hm, f1, f2, f3, f4]; (repeat' apply And.intro) <;> (repeat' split) <;> (try subst_vars) <;> first | rfl | (exfalso; omega) | omega)
end TRIV
