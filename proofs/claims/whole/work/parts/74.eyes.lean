/-! the eyes, the class -/
def vis (ey : Nat → Int) (p : Nat → Nat → Int) (N : List Nat) (e : Nat) : Bool := N.any fun a => decide (p 32 a - 10 * p 31 a < 10 * ey e ∧ 10 * ey e ≤ p 32 a)
/-- an eye that sees so: 39 seeing, 40 kept, 41 passings, 42 from, 43 to -/
def wt1 (now : Int) (b : Bool) (p : Nat → Nat → Int) (e : Nat) : Nat → Nat → Int := fun o j =>
  if o = 39 then (if j = e then (if b = true then 1 else 0) else p 39 j)
  else if o = 40 then (if j = e ∧ b = true ∧ p 39 e = 0 then (if p 41 e < 12 then 1 else 0) else p 40 j)
  else if o = 41 then (if j = e ∧ b = true ∧ p 39 e = 0 ∧ p 41 e < 12 then p 41 e + 1 else p 41 j)
  else if o = 42 then (if b = true ∧ p 39 e = 0 ∧ p 41 e < 12 ∧ (j : Int) = 12 * (e : Int) + p 41 e then now else p 42 j)
  else if o = 43 then (if b = true ∧ p 39 e = 0 ∧ p 41 e < 12 ∧ (j : Int) = 12 * (e : Int) + p 41 e then -1 else if b = false ∧ p 39 e ≠ 0 ∧ p 40 e ≠ 0 ∧ (j : Int) + 1 = 12 * (e : Int) + p 41 e then now else p 43 j)
  else p o j
def wtN (ey : Nat → Int) (now : Int) (N : List Nat) (p : Nat → Nat → Int) : Nat → (Nat → Nat → Int)
  | 0 => p
  | e + 1 => wt1 now (vis ey p N e) (wtN ey now N p e) e
theorem wt1_o {now : Int} {b : Bool} {p : Nat → Nat → Int} {e o : Nat} (h : o < 39 ∨ 43 < o) : wt1 now b p e o = p o := by
  funext j
  unfold wt1
  rw [if_neg (by omega), if_neg (by omega), if_neg (by omega), if_neg (by omega), if_neg (by omega)]
theorem wtN_o {ey : Nat → Int} {now : Int} {N : List Nat} {p : Nat → Nat → Int} {o : Nat} (h : o < 39 ∨ 43 < o) : ∀ e, wtN ey now N p e o = p o
  | 0 => rfl
  | e + 1 => by
    show wt1 now _ (wtN ey now N p e) e o = _
    rw [wt1_o h]
    exact wtN_o h e
section EYES
variable {S : ZS} {T U W m e : Nat} {wy ey : Nat → Int} {now eyes : Int} {p p' : Nat → Nat → Int} {N : List Nat} {A7 A7' : Nat → Nat → Int} {b : Bool}
theorem W_at (H : WatR A7 eyes (p 39) (p 40) (p 41) (p 42) (p 43)) (n1 : ∀ j, j ≠ e → A7' 1 j = A7 1 j ∧ A7' 2 j = A7 2 j ∧ A7' 5 j = A7 5 j ∧ p' 39 j = p 39 j ∧ p' 40 j = p 40 j ∧ p' 41 j = p 41 j)
    (n3 : ∀ j, j < 12 * e ∨ 12 * e + 12 ≤ j → A7' 3 j = A7 3 j ∧ A7' 4 j = A7 4 j ∧ p' 42 j = p 42 j ∧ p' 43 j = p 43 j)
    (he : A7' 1 e = p' 39 e ∧ (p' 39 e = 0 ∨ p' 39 e = 1) ∧ (p' 39 e = 1 → p' 40 e = 0 ∨ p' 40 e = 1) ∧ A7' 2 e = p' 41 e ∧ (0 ≤ p' 41 e ∧ p' 41 e ≤ 12) ∧ (∀ i : Nat, (i : Int) < p' 41 e → A7' 3 (12 * e + i) = p' 42 (12 * e + i) ∧ A7' 4 (12 * e + i) = p' 43 (12 * e + i)) ∧
      (p' 39 e = 1 ∧ p' 40 e = 1 → 1 ≤ p' 41 e ∧ A7' 5 e = 12 * (e : Int) + p' 41 e - 1) ∧ (¬(p' 39 e = 1 ∧ p' 40 e = 1) → A7' 5 e = -1)) :
    WatR A7' eyes (p' 39) (p' 40) (p' 41) (p' 42) (p' 43) := by
  intro j hj
  by_cases c : j = e
  · rw [c]; exact he
  · obtain ⟨h1, h2, h3, h4, h5, h6, h7, h8⟩ := H j hj
    obtain ⟨x1, x2, x3, x4, x5, x6⟩ := n1 j c
    rw [x1, x2, x3, x4, x5, x6]
    refine ⟨h1, h2, h3, h4, h5, fun i hi => ?_, h7, h8⟩
    obtain ⟨y1, y2, y3, y4⟩ := n3 (12 * j + i) (by omega)
    rw [y1, y2, y3, y4]
    exact h6 i hi
theorem lp_look9 (he : (e : Int) < eyes) (h19 : eyes ≤ 19) (H : WatR (S.2 U) eyes (p 39) (p 40) (p 41) (p 42) (p 43)) :
    zp (F_X9_look U (e : Int) (if b = true then 1 else 0) now S) (fun V => V.1 = S.1 ∧ (∀ r, r ≠ U → V.2 r = S.2 r) ∧ WatR (V.2 U) eyes (wt1 now b p e 39) (wt1 now b p e 40) (wt1 now b p e 41) (wt1 now b p e 42) (wt1 now b p e 43)) := by
  obtain ⟨h1, h2, h3, h4, h5, h6, h7, h8⟩ := H e he
  obtain ⟨pa, hpa⟩ : ∃ pa : Nat, p 41 e = (pa : Int) := ⟨_, (Int.toNat_of_nonneg h5.1).symm⟩
  unfold F_X9_look
  refine zp_pos (by omega) ?_
  rw [Int.toNat_natCast, h1]
  cases b
  · simp only [Bool.false_eq_true, if_false]
    rcases h2 with z | z
    · refine zp_pos z.symm (zp_some.mpr ⟨rfl, fun r _ => rfl, ?_⟩)
      have e1 : ∀ o, wt1 now false p e o = p o := by
        intro o
        funext j
        unfold wt1
        simp only [Bool.false_eq_true, if_false, false_and, and_false, z, not_true_eq_false, ne_eq]
        (repeat' split) <;> first | rfl | (subst_vars; exact z.symm) | (subst_vars; rfl)
      rw [e1, e1, e1, e1, e1]
      exact H
    · have c39 : wt1 now false p e 39 e = 0 := by simp [wt1]
      have c40 : wt1 now false p e 40 e = p 40 e := by simp [wt1]
      have c41 : wt1 now false p e 41 e = p 41 e := by simp [wt1]
      have c42 : ∀ j, wt1 now false p e 42 j = p 42 j := by intro j; simp [wt1]
      refine zp_neg (by omega) (zp_pos (by decide) (zp_lt.mpr (zp_pos (by decide) (zp_bind.mpr ?_))))
      unfold F_X9_close
      refine zp_pos (by omega) ?_
      have e5 : zuA S.2 U 1 (zset (S.2 U 1) e 0) U 5 = S.2 U 5 := zuA_o (by decide)
      have e4 : zuA S.2 U 1 (zset (S.2 U 1) e 0) U 4 = S.2 U 4 := zuA_o (by decide)
      simp only [Int.toNat_natCast, e5, e4]
      by_cases k : p 40 e = 1
      · have h7 := h7 ⟨z, k⟩
        obtain ⟨q, hq⟩ : ∃ q : Nat, S.2 U 5 e = (q : Int) := ⟨_, (Int.toNat_of_nonneg (by omega)).symm⟩
        simp only [hq, Int.toNat_natCast]
        refine zp_neg (by omega) (zp_pos (by omega) (zp_pos (by omega) (zp_lt.mpr (zp_lt.mpr (zp_some.mpr (zp_some.mpr ⟨rfl, fun r hr => ?_, ?_⟩))))))
        · dsimp only
          rw [zuA_R hr, zuA_R hr, zuA_R hr]
        · have c43 : ∀ j : Nat, wt1 now false p e 43 j = if j = q then now else p 43 j := by
            intro j
            have : (j = q) ↔ ((j : Int) + 1 = 12 * (e : Int) + p 41 e) := by omega
            simp [wt1, z, k, this]
          refine W_at (e := e) H (fun j hj => ?_) (fun j hj => ?_) ?_
          · refine ⟨?_, ?_, ?_, ?_, ?_, ?_⟩ <;> simp [zuA_ap, zset_ap, wt1, hj]
          · have : j ≠ q := by omega
            rw [c42, c43, if_neg this]
            refine ⟨?_, ?_, rfl, rfl⟩ <;> simp [zuA_ap, zset_ap, this]
          · rw [c39, c40, c41]
            refine ⟨by simp [zuA_ap, zset_ap], Or.inl rfl, fun y => absurd y (by decide), by simp [zuA_ap]; exact h4, h5, fun i hi => ⟨?_, ?_⟩, fun y => absurd y.1 (by decide), fun _ => by simp [zuA_ap, zset_ap]⟩
            · rw [c42]; simp [zuA_ap]; exact (h6 i hi).1
            · rw [c43]
              have := (h6 i hi).2
              simp only [zuA_ap, zset_ap, true_and, Nat.reduceEqDiff, reduceIte]
              split
              · rfl
              · exact this
      · have h8 := h8 (fun y => k y.2)
        have k0 : p 40 e = 0 := (h3 z).resolve_right k
        have c43 : ∀ j : Nat, wt1 now false p e 43 j = p 43 j := by intro j; simp [wt1, k0]
        simp only [h8]
        refine zp_pos (by decide) (zp_some.mpr (zp_some.mpr ⟨rfl, fun r hr => ?_, ?_⟩))
        · dsimp only
          rw [zuA_R hr]
        · refine W_at (e := e) H (fun j hj => ?_) (fun j hj => ?_) ?_
          · refine ⟨?_, ?_, ?_, ?_, ?_, ?_⟩ <;> simp [zuA_ap, zset_ap, wt1, hj]
          · rw [c42, c43]
            refine ⟨?_, ?_, rfl, rfl⟩ <;> simp [zuA_ap, zset_ap]
          · rw [c39, c40, c41]
            refine ⟨by simp [zuA_ap, zset_ap], Or.inl rfl, fun y => absurd y (by decide), by simp [zuA_ap]; exact h4, h5, fun i hi => ⟨?_, ?_⟩, fun y => absurd y.1 (by decide), fun _ => by simp [zuA_ap]; exact h8⟩
            · rw [c42]; simp [zuA_ap]; exact (h6 i hi).1
            · rw [c43]; simp [zuA_ap]; exact (h6 i hi).2
  · simp only [if_true]
    rcases h2 with z | z
    · have c39 : wt1 now true p e 39 e = 1 := by simp [wt1]
      refine zp_neg (by omega) (zp_pos (by decide) (zp_lt.mpr (zp_neg (by decide) ?_)))
      have e2 : ∀ g, zuA S.2 U 1 g U 2 = S.2 U 2 := fun g => zuA_o (by decide)
      have e3 : ∀ g, zuA S.2 U 1 g U 3 = S.2 U 3 := fun g => zuA_o (by decide)
      simp only [e2, e3, Int.toNat_natCast, h4]
      have h8 := h8 (fun y => by omega)
      by_cases k : p 41 e < 12
      · have f1 : zadd (zmul (e : Int) 12) (p 41 e) = ((12 * e + pa : Nat) : Int) := by rw [zmul_ok (by omega) (by omega), zadd_ok (by omega) (by omega)]; omega
        have fz : zadd (p 41 e) 1 = p 41 e + 1 := by rw [zadd_ok (by omega) (by omega)]
        have c40 : wt1 now true p e 40 e = 1 := by simp [wt1, z, k]
        have c41 : wt1 now true p e 41 e = p 41 e + 1 := by simp [wt1, z, k]
        have c42 : ∀ j : Nat, wt1 now true p e 42 j = if j = 12 * e + pa then now else p 42 j := by
          intro j
          have : (j = 12 * e + pa) ↔ ((j : Int) = 12 * (e : Int) + p 41 e) := by omega
          simp [wt1, z, k, this]
        have c43 : ∀ j : Nat, wt1 now true p e 43 j = if j = 12 * e + pa then -1 else p 43 j := by
          intro j
          have : (j = 12 * e + pa) ↔ ((j : Int) = 12 * (e : Int) + p 41 e) := by omega
          simp [wt1, z, k, this]
        simp only [f1, Int.toNat_natCast]
        refine zp_pos k (zp_pos (by omega) (zp_lt.mpr (zp_lt.mpr (zp_lt.mpr (zp_lt.mpr (zp_some.mpr ⟨rfl, fun r hr => ?_, ?_⟩))))))
        · dsimp only
          rw [zuA_R hr, zuA_R hr, zuA_R hr, zuA_R hr, zuA_R hr]
        · refine W_at (e := e) H (fun j hj => ?_) (fun j hj => ?_) ?_
          · refine ⟨?_, ?_, ?_, ?_, ?_, ?_⟩ <;> simp [zuA_ap, zset_ap, wt1, hj]
          · have y : j ≠ 12 * e + pa := by omega
            rw [c42, c43, if_neg y, if_neg y]
            refine ⟨?_, ?_, rfl, rfl⟩ <;> simp [zuA_ap, zset_ap, y]
          · rw [c39, c40, c41]
            refine ⟨by simp [zuA_ap, zset_ap], Or.inr rfl, fun _ => Or.inr rfl, by simp [zuA_ap, zset_ap, h4, fz], by omega, fun i hi => ⟨?_, ?_⟩, fun _ => ⟨by omega, by simp [zuA_ap, zset_ap]; omega⟩, fun y => absurd ⟨rfl, rfl⟩ y⟩
            · rw [c42]
              simp only [zuA_ap, zset_ap, true_and, Nat.reduceEqDiff, reduceIte]
              split
              · rfl
              · exact (h6 i (by omega)).1
            · rw [c43]
              simp only [zuA_ap, zset_ap, true_and, Nat.reduceEqDiff, reduceIte]
              split
              · rfl
              · exact (h6 i (by omega)).2
      · have c40 : wt1 now true p e 40 e = 0 := by simp [wt1, z, k]
        have c41 : wt1 now true p e 41 e = p 41 e := by simp [wt1, k]
        have c42 : ∀ j : Nat, wt1 now true p e 42 j = p 42 j := by intro j; simp [wt1, k]
        have c43 : ∀ j : Nat, wt1 now true p e 43 j = p 43 j := by intro j; simp [wt1, k]
        refine zp_neg k (zp_some.mpr ⟨rfl, fun r hr => ?_, ?_⟩)
        · dsimp only
          rw [zuA_R hr]
        · refine W_at (e := e) H (fun j hj => ?_) (fun j hj => ?_) ?_
          · refine ⟨?_, ?_, ?_, ?_, ?_, ?_⟩ <;> simp [zuA_ap, zset_ap, wt1, hj]
          · rw [c42, c43]
            refine ⟨?_, ?_, rfl, rfl⟩ <;> simp [zuA_ap, zset_ap]
          · rw [c39, c40, c41]
            refine ⟨by simp [zuA_ap, zset_ap], Or.inr rfl, fun _ => Or.inl rfl, by simp [zuA_ap]; exact h4, h5, fun i hi => ⟨?_, ?_⟩, fun y => absurd y.2 (by decide), fun _ => by simp [zuA_ap]; exact h8⟩
            · rw [c42]; simp [zuA_ap]; exact (h6 i hi).1
            · rw [c43]; simp [zuA_ap]; exact (h6 i hi).2
    · refine zp_pos z.symm (zp_some.mpr ⟨rfl, fun r _ => rfl, ?_⟩)
      have e1 : ∀ o, wt1 now true p e o = p o := by
        intro o
        funext j
        unfold wt1
        have z0 : ¬ p 39 e = 0 := by omega
        simp only [if_true, z0, false_and, and_false, if_false, Bool.true_eq_false]
        (repeat' split) <;> first | rfl | (subst_vars; exact z.symm) | (subst_vars; rfl)
      rw [e1, e1, e1, e1, e1]
      exact H
theorem lp_under8 {place : Int} (h13 : S.1 T 13 = (N.length : Int)) (hl : N.length ≤ 40) (hN : ∀ j (h : j < N.length), S.2 T 13 j = (N[j] : Int)) (hC : CRel T S.2 m p) (hb : ∀ a, a ∈ N → a < m ∧ a < 40 ∧ (0 ≤ p 32 a ∧ p 32 a ≤ 10000) ∧ (10 ≤ p 31 a ∧ p 31 a ≤ 70)) :
    F_X8_isUnderEye T place S = some (if (N.any fun a => decide (p 32 a - 10 * p 31 a < place ∧ place ≤ p 32 a)) = true then 1 else 0) := by
  have key := zw_fnd (f := fun s : Int => if s < (S.1 T 13) then if 0 ≤ s ∧ s < 40 then if 0 ≤ (S.2 T 13 s.toNat) ∧ (S.2 T 13 s.toNat) < 40 then if (S.2 T 7 (S.2 T 13 s.toNat).toNat) < place then some (.inl (zadd s 1)) else (F_X8_tailOf T (S.2 T 13 s.toNat) S).bind fun r5 => if r5 < place then some (.inr 1) else some (.inl (zadd s 1)) else none else none else some (.inr 0))
    (fun i => decide (p 32 (N.getD i 0) - 10 * p 31 (N.getD i 0) < place ∧ place ≤ p 32 (N.getD i 0))) (fun i => (i : Int)) N.length (fun _ => (1 : Int)) 0 (s0 := 0) rfl ?_ ?_ ?_
  · unfold F_X8_isUnderEye F_X8_isUnderEye_2
    rw [key]
    congr 1
    by_cases c : (N.any fun a => decide (p 32 a - 10 * p 31 a < place ∧ place ≤ p 32 a)) = true
    · rw [if_pos c, if_pos]
      obtain ⟨a, ha, h⟩ := List.any_eq_true.mp c
      obtain ⟨i, hi, rfl⟩ := List.getElem_of_mem ha
      refine fnd_ex.mpr ⟨i, hi, ?_⟩
      rw [getD_el hi]
      exact h
    · rw [if_neg c, if_neg]
      intro z
      obtain ⟨i, hi, h⟩ := fnd_ex.mp z
      rw [getD_el hi] at h
      exact c (List.any_eq_true.mpr ⟨_, List.getElem_mem hi, h⟩)
  · intro i hi hp
    have hp := of_decide_eq_false hp
    rw [getD_el hi] at hp
    obtain ⟨q1, q2, q3, q4⟩ := hb _ (List.getElem_mem hi)
    obtain ⟨_, c2, _, _, c5, _⟩ := hC _ q1
    (try dsimp only)
    rw [h13, if_pos (by omega), if_pos (by omega), Int.toNat_natCast, hN i hi, if_pos (by omega), Int.toNat_natCast, c2, zadd_ok (by omega) (by omega)]
    by_cases d : p 32 N[i] < place
    · rw [if_pos d]; rfl
    · rw [if_neg d]
      unfold F_X8_tailOf
      rw [if_pos (by omega), Int.toNat_natCast, c2, c5, zsub_ok (by omega) (by omega), Option.bind_some, if_neg (by omega)]
      rfl
  · intro i hi hp
    have hp := of_decide_eq_true hp
    rw [getD_el hi] at hp
    obtain ⟨q1, q2, q3, q4⟩ := hb _ (List.getElem_mem hi)
    obtain ⟨_, c2, _, _, c5, _⟩ := hC _ q1
    (try dsimp only)
    rw [h13, if_pos (by omega), if_pos (by omega), Int.toNat_natCast, hN i hi, if_pos (by omega), Int.toNat_natCast, c2, if_neg (by omega)]
    unfold F_X8_tailOf
    rw [if_pos (by omega), Int.toNat_natCast, c2, c5, zsub_ok (by omega) (by omega), Option.bind_some, if_pos (by omega)]
  · (try dsimp only)
    rw [h13, if_neg (by omega)]
theorem lp_go6 {k : Nat} (hT : T = 6 ∨ T = 8) (hW : W = 19 ∨ W = 20) (t15 : S.1 T 15 = (W : Int)) (t2 : S.1 T 2 = now) (w4 : S.1 W 4 = (k : Int)) (hk : k ≤ 19) (w6 : ∀ e, e < k → S.2 W 6 e = ey e ∧ (1 ≤ ey e ∧ ey e ≤ 300)) (hE : eyes = (k : Int))
    (h13 : S.1 T 13 = (N.length : Int)) (hl : N.length ≤ 40) (hN : ∀ j (h : j < N.length), S.2 T 13 j = (N[j] : Int)) (hC : CRel T S.2 m p) (hb : ∀ a, a ∈ N → a < m ∧ a < 40 ∧ (0 ≤ p 32 a ∧ p 32 a ≤ 10000) ∧ (10 ≤ p 31 a ∧ p 31 a ≤ 70))
    (H : WatR (S.2 (T + 1)) eyes (p 39) (p 40) (p 41) (p 42) (p 43)) :
    zp (F_X8_goOnce_6 T 0 S) (fun V => V.1 = S.1 ∧ (∀ r, r ≠ T + 1 → V.2 r = S.2 r) ∧ WatR (V.2 (T + 1)) eyes (wtN ey now N p k 39) (wtN ey now N p k 40) (wtN ey now N p k 41) (wtN ey now N p k 42) (wtN ey now N p k 43)) := by
  have hWT : W ≠ T + 1 := by omega
  have hTT : T ≠ T + 1 := by omega
  unfold F_X8_goOnce_6
  refine zp_w (fun d st => ∃ e V, d + e = k ∧ st = ((e : Int), V) ∧ V.1 = S.1 ∧ (∀ r, r ≠ T + 1 → V.2 r = S.2 r) ∧ WatR (V.2 (T + 1)) eyes (wtN ey now N p e 39) (wtN ey now N p e 40) (wtN ey now N p e 41) (wtN ey now N p e 42) (wtN ey now N p e 43)) (fun d st hst => ?_) k _ ⟨0, S, by omega, rfl, rfl, fun r _ => rfl, H⟩
  obtain ⟨e, V, hd, rfl, v1, v2, v3⟩ := hst
  have vT : V.2 T = S.2 T := v2 T hTT
  have vW : V.2 W = S.2 W := v2 W hWT
  dsimp only
  simp only [v1, t15, t2, Int.toNat_natCast, w4, vW]
  refine zp_pos hW (zp_if (fun c => ?_) (fun c => ?_))
  · have he : e < k := by omega
    obtain ⟨y1, y2⟩ := w6 e he
    have f1 : zmul (ey e) 10 = 10 * ey e := by rw [zmul_ok (by omega) (by omega)]; omega
    have hu := lp_under8 (S := V) (T := T) (N := N) (p := p) (m := m) (place := 10 * ey e) (by rw [v1]; exact h13) hl (fun j h => by rw [vT]; exact hN j h) (fun a ha => by rw [vT]; exact hC a ha) hb
    simp only [y1, f1]
    refine zp_pos (by omega) (zp_bind.mpr ?_)
    rw [zp_eq hu, zp_bind]
    have hlk := lp_look9 (S := V) (U := T + 1) (e := e) (b := vis ey p N e) (now := now) (eyes := eyes) (p := wtN ey now N p e) (by omega) (by omega) v3
    unfold vis at hlk
    refine zp_mono hlk fun X hX => zp_some.mpr (zor2_l.mpr ⟨d - 1, by omega, e + 1, X, by omega, ?_, hX.1.trans v1, fun r hr => (hX.2.1 r hr).trans (v2 r hr), hX.2.2⟩)
    rw [zadd_ok (by omega) (by omega)]
    rfl
  · have : e = k := by omega
    subst this
    exact zp_some.mpr (zor2_r.mpr ⟨v1, v2, v3⟩)
end EYES
