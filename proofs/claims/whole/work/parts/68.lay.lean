/-! a sheet laid -/
section LAYF
variable {A : ZA} {m : Nat} {L : List Nat} {front en : Int}
theorem free_eq (h1 : ∀ a : Nat, a < m → A 6 7 a = A 1 32 a ∧ A 6 10 a = 10 * A 1 31 a) (hL : ∀ a : Nat, a ∈ L ↔ (a : Int) < (m : Int) ∧ (A 1 33 a = 0 ∨ A 1 33 a = 3)) :
    (∃ a, a ∈ L ∧ ovr A 6 front en a = true) ↔ ∃ a, a < m ∧ ov12 A front en a = true := by
  constructor
  · rintro ⟨a, ha, hp⟩
    obtain ⟨h2, h3⟩ := (hL a).mp ha
    obtain ⟨e1, e2⟩ := h1 a (by omega)
    have hp := of_decide_eq_true hp
    rw [e1, e2] at hp
    exact ⟨a, by omega, decide_eq_true ⟨h3, hp.1, hp.2⟩⟩
  · rintro ⟨a, ha, hp⟩
    have hp := of_decide_eq_true hp
    obtain ⟨e1, e2⟩ := h1 a ha
    refine ⟨a, (hL a).mpr ⟨by omega, hp.1⟩, decide_eq_true ?_⟩
    rw [e1, e2]
    exact hp.2
end LAYF
section LAYB
variable {S : ZS} {T W m : Nat} {x1 x2 : Int} {L : List Nat}
theorem lp_begin8 (hT : T = 6 ∨ T = 8) (hW : W = 19 ∨ W = 20) (t15 : S.1 T 15 = (W : Int)) (t1 : S.1 T 1 = (m : Int)) (hm : m < 40) (hx : 0 ≤ x1 ∧ x1 ≤ 70) (hb : x2 = 0 ∨ x2 = 1)
    (hL : S.1 T 13 = (L.length : Int)) (hl : L.length < 40) (hA : ∀ i (h : i < L.length), S.2 T 13 i = (L[i] : Int)) (hs : ∀ a, a ∈ L → a < 40 ∧ a ≠ m) (hro : 0 ≤ S.2 W 3 0 ∧ S.2 W 3 0 ≤ 300) :
    zp (F_X8_begin T x1 x2 S) (fun v => v.1 = (m : Int) ∧ ∃ k G, k ≤ L.length ∧ (∀ j (h : j < L.length), j + 1 = k → 10 * S.2 W 3 0 ≤ S.2 T 7 L[j]) ∧ (∀ j (h : j < L.length), k ≤ j → S.2 T 7 L[j] < 10 * S.2 W 3 0) ∧
      v.2 = (zup (zup S.1 T 1 ((m + 1 : Nat) : Int)) T 13 ((L.length + 1 : Nat) : Int), zuA (tP (zuA (zuA S.2 T 10 (zset (S.2 T 10) m (10 * x1))) T 12 (zset (S.2 T 12) m x2)) T m (10 * S.2 W 3 0) 1) T 13 G) ∧
      (∀ j (h : j < L.length), j < k → G j = (L[j] : Int)) ∧ G k = (m : Int) ∧ (∀ j (h : j < L.length), k ≤ j → G (j + 1) = (L[j] : Int))) := by
  have eW : W ≠ T := by omega
  have f1 : zmul x1 10 = 10 * x1 := by rw [zmul_ok (by omega) (by omega)]; omega
  have f2 : zmul (S.2 W 3 0) 10 = 10 * S.2 W 3 0 := by rw [zmul_ok (by omega) (by omega)]; omega
  have f3 : zadd (m : Int) 1 = ((m + 1 : Nat) : Int) := by rw [zadd_ok (by omega) (by omega)]; rfl
  have e12 : zuA S.2 T 10 (zset (S.2 T 10) m (10 * x1)) T 12 = S.2 T 12 := zuA_o (by decide)
  have e15 : zup S.1 T 1 ((m + 1 : Nat) : Int) T 15 = (W : Int) := by rw [zup_k (by decide)]; exact t15
  have e3 : zuA (zuA S.2 T 10 (zset (S.2 T 10) m (10 * x1))) T 12 (zset (S.2 T 12) m x2) W 3 0 = S.2 W 3 0 := by rw [zuA_R eW, zuA_R eW]
  have e7 : zuA (zuA S.2 T 10 (zset (S.2 T 10) m (10 * x1))) T 12 (zset (S.2 T 12) m x2) T 7 = S.2 T 7 := (zuA_o (by decide)).trans (zuA_o (by decide))
  have e13 : zuA (zuA S.2 T 10 (zset (S.2 T 10) m (10 * x1))) T 12 (zset (S.2 T 12) m x2) T 13 = S.2 T 13 := (zuA_o (by decide)).trans (zuA_o (by decide))
  have hp := lp_put8 (S := (zup S.1 T 1 ((m + 1 : Nat) : Int), zuA (zuA S.2 T 10 (zset (S.2 T 10) m (10 * x1))) T 12 (zset (S.2 T 12) m x2))) (T := T) (s := m) (front := 10 * S.2 W 3 0) (side := 1) (L := L) hm (by show zup S.1 T 1 _ T 13 = _; rw [zup_k (by decide)]; exact hL) hl (fun i h => by show zuA (zuA S.2 T 10 _) T 12 _ T 13 i = _; rw [e13]; exact hA i h) hs
  dsimp only at hp
  rw [e7] at hp
  unfold F_X8_begin F_X8_isFull
  refine zp_bind.mpr ?_
  refine zp_pos (by omega) ?_
  refine zp_some.mpr ?_
  refine zp_pos rfl ?_
  refine zp_lt.mpr ?_
  refine zp_pos (by omega) ?_
  refine zp_lt.mpr ?_
  refine zp_pos hb ?_
  refine zp_lt.mpr ?_
  dsimp only
  simp only [t1, f3, Int.toNat_natCast, f1, e12, e15, e3, f2]
  refine zp_pos hW ?_
  refine zp_bind.mpr (zp_mono hp fun v hv => ?_)
  refine zp_some.mpr ⟨rfl, ?_⟩
  exact hv
end LAYB
section LAYX
variable {wp now x t sh' jam' : Int} {n m k : Nat} {L P : List Nat} {I6 I6' : Nat → Int} {A6 A6' : Nat → Nat → Int} {G wy ro len head state side stood came turned len' head' state' side' stood' came' turned' : Nat → Int}
theorem X_lay (R : TrafR I6 A6 wp (m : Int) now (-1) len head state side stood came turned L P) (K : TrafOK wy ro (m : Int) now (-1) len head state side stood came turned L P n)
    (hm : m < 40) (hx : 10 ≤ x ∧ x ≤ 60) (ht : t = 0 ∨ (t = 1 ∧ wy 1 ≠ 0)) (h6 : 0 < wy 6) (hr : 1 ≤ ro 0 ∧ ro 0 ≤ wy 0 - 1)
    (hf : ∀ a, a ∈ L → ¬(head a - 10 * len a < 10 * ro 0 ∧ 10 * ro 0 - 10 * x < head a))
    (hk : k ≤ L.length) (k1 : ∀ j (h : j < L.length), j + 1 = k → 10 * ro 0 ≤ head L[j]) (k2 : ∀ j (h : j < L.length), k ≤ j → head L[j] < 10 * ro 0)
    (g1 : ∀ j (h : j < L.length), j < k → G j = (L[j] : Int)) (g2 : G k = (m : Int)) (g3 : ∀ j (h : j < L.length), k ≤ j → G (j + 1) = (L[j] : Int))
    (hI : ∀ q, I6' q = if q = 13 then ((L.length + 1 : Nat) : Int) else if q = 1 then ((m + 1 : Nat) : Int) else I6 q)
    (hA : ∀ o j, A6' o j = if o = 13 then G j else if j = m then (if o = 9 then 0 else if o = 8 then 1 else if o = 7 then 10 * ro 0 else if o = 6 then 0 else if o = 12 then t else if o = 10 then 10 * x else A6 o j) else A6 o j)
    (hP15 : ∀ j, A6' 15 j = A6 15 j)
    (hs' : sh' = ((m + 1 : Nat) : Int)) (hj' : jam' = -1)
    (e1 : ∀ j, len' j = if j = m then x else len j) (e2 : ∀ j, head' j = if j = m then 10 * ro 0 else head j) (e3 : ∀ j, state' j = if j = m then 0 else state j) (e4 : ∀ j, side' j = if j = m then 1 else side j)
    (e5 : ∀ j, stood' j = if j = m then 0 else stood j) (e6 : ∀ j, came' j = if j = m then 0 else came j) (e7 : ∀ j, turned' j = if j = m then t else turned j) :
    TrafR I6' A6' wp sh' now jam' len' head' state' side' stood' came' turned' (lnew L k m) P ∧ TrafOK wy ro sh' now jam' len' head' state' side' stood' came' turned' (lnew L k m) P n := by
  subst hs' hj'
  obtain ⟨r1, r2, r3, r4, r5, r6, r7, rs, rL, rP⟩ := R
  obtain ⟨⟨o1, o2⟩, ⟨o3, o4⟩, o5, os, oL, oLp, oP, oPp, oPl, o6, o7, o8⟩ := K
  have hlen := lnew_len (s := m) hk
  have hne : ∀ a, a ∈ L → a ≠ m := fun a ha z => by have := ((oL a).mp ha).1; omega
  have hpe : ∀ a, a ∈ P → a ≠ m := fun a ha z => by have := ((oP a).mp ha).1; omega
  refine ⟨⟨?_, ?_, ?_, ?_, ?_, ?_, ?_, fun s hs => ?_, ?_, fun i h => ?_⟩, ?_, ⟨o3, o4⟩, Or.inl rfl, fun s hs => ?_, fun s => ?_, ?_, fun s => ?_, ?_, oPl, fun _ => h6, fun s hs hst hsd => ?_, fun s hs hst htu hsd hta hh => ?_⟩
  · rw [hI]; rfl
  · rw [hI]; exact r2
  · rw [hI]; exact r3
  · rw [hI]; exact r4
  · rw [hI, hlen]; rfl
  · rw [hI]; exact r6
  · rw [hI]; exact r7
  · simp only [hA, e1, e2, e3, e4, e5, e6, e7, Nat.reduceEqDiff, if_false, if_true, reduceIte]
    by_cases q : s = m
    · simp only [if_pos q]
      refine ⟨by trivial, by trivial, by trivial, by trivial, by trivial, by trivial, fun z => absurd z (by decide)⟩
    · simp only [if_neg q]
      exact rs s (by omega)
  · refine lnew_get hk (fun j h hj => ?_) ?_ (fun j h hj => ?_)
    · rw [hA, if_pos rfl]; exact g1 j h hj
    · rw [hA, if_pos rfl]; exact g2
    · rw [hA, if_pos rfl]; exact g3 j h hj
  · rw [hP15]; exact rP i h
  · omega
  · simp only [e1, e2, e3, e4, e5, e6, e7]
    by_cases q : s = m
    · simp only [if_pos q]
      refine ⟨by omega, hx, Or.inl (by trivial), by omega, by omega, ?_, fun z => absurd z (by decide), fun z => absurd z (by decide), fun _ => ⟨by omega, fun _ => by omega⟩, fun _ _ _ => Or.inr (by trivial)⟩
      rcases ht with z | z
      · exact Or.inl z
      · exact Or.inr z
    · simp only [if_neg q]
      obtain ⟨b1, b2, b3, b4, b5, b6, b7, b8, b9, b10⟩ := os s (by omega)
      exact ⟨b1, b2, b3, b4, b5, b6, b7, b8, fun z => ⟨(b9 z).1, fun _ => (b9 z).2 rfl⟩, b10⟩
  · rw [lnew_mem, oL, e3]
    by_cases q : s = m
    · rw [if_pos q]
      subst q
      exact ⟨fun _ => ⟨by omega, Or.inl rfl⟩, fun _ => Or.inr rfl⟩
    · rw [if_neg q]
      constructor
      · rintro (z | z)
        · exact ⟨by omega, z.2⟩
        · exact absurd z q
      · exact fun z => Or.inl ⟨by omega, z.2⟩
  · refine lnew_sort (hd := head) (ten := fun a => 10 * len a) (hd' := head') (ten' := fun a => 10 * len' a) hk oLp (fun a ha => ?_) (fun a ha => ?_) ?_ (fun a ha => ?_) (fun j h hj => ?_) (fun j h hj => ?_)
    · have := (os a ((oL a).mp ha).1).2.1
      omega
    · rw [e1, e2, if_neg (hne a ha), if_neg (hne a ha)]
      exact ⟨rfl, rfl⟩
    · rw [e1, if_pos rfl]
      omega
    · rw [e2, e1, if_pos rfl, if_pos rfl]
      exact hf a ha
    · rw [e2, if_pos rfl]; exact k1 j h hj
    · rw [e2, if_pos rfl]; exact k2 j h hj
  · rw [oP, e3]
    by_cases q : s = m
    · rw [if_pos q]
      exact ⟨fun z => by omega, fun z => absurd z.2 (by decide)⟩
    · rw [if_neg q]
      exact ⟨fun z => ⟨by omega, z.2⟩, fun z => ⟨by omega, z.2⟩⟩
  · refine oPp.imp_of_mem fun {a b} ha hb h => ?_
    rw [e6, e6, if_neg (hpe a ha), if_neg (hpe b hb)]
    exact h
  · rw [e2]
    by_cases q : s = m
    · rw [if_pos q]; omega
    · rw [if_neg q]
      rw [e3, if_neg q] at hst
      rw [e4, if_neg q] at hsd
      exact o7 s (by omega) hst hsd
  · by_cases q : s = m
    · rw [e2, if_pos q] at hh; exact absurd rfl hh
    · rw [e2, if_neg q] at hh
      rw [e2, e1, if_neg q, if_neg q] at hta
      rw [e3, if_neg q] at hst
      rw [e4, if_neg q] at hsd
      rw [e7, if_neg q] at htu
      exact o8 s (by omega) hst htu hsd hta hh
end LAYX
section PLAY
variable {n : Nat} {S : ZS} {x1 x2 : Int}
theorem pair_lay (h : Inv n S) (hb : x2 = 0 ∨ x2 = 1) : Pair n S (F_X11_lay x1 x2) (F_X12_lay x1 x2) := by
  obtain ⟨hT, hW, hF, hX, hO, hC, hJ, hI, hP, hK, hR, hM⟩ := h
  have hX := InvX_up hX
  obtain ⟨hWo, hWd⟩ := id hW
  obtain ⟨⟨g1, g2⟩, ⟨g3, g4⟩, ⟨g5, g6⟩, g7, g8, g9, g10, g11, g12⟩ := id hWo
  obtain ⟨W, hw1, hw2, hWR⟩ : ∃ W : Nat, (W = 19 ∨ W = 20) ∧ (S.1 2 11).toNat = W ∧ WayR (S.1 W) (S.2 W) (S.2 1 4) (S.2 1 6) (S.2 1 7) (S.2 1 10) := by
    rcases hWd with ⟨q1, q2, q3⟩ | ⟨q1, q2, q3⟩
    · exact ⟨19, Or.inl rfl, by rw [q1]; rfl, q3⟩
    · exact ⟨20, Or.inr rfl, by rw [q1]; rfl, q3⟩
  obtain ⟨w0, w1, w2, w3, w4, w5, w6, w7, w8, w9⟩ := id hWR
  obtain ⟨⟨L, P, R, K⟩, hWa⟩ := id hX
  obtain ⟨r1, r2, r3, r4, r5, r6, r7, rs, rL, rP⟩ := id R
  obtain ⟨⟨o1, o2⟩, ⟨o3, o4⟩, o5, os, oL, oLp, oP, oPp, oPl, o6, o7, o8⟩ := id K
  obtain ⟨m, hm⟩ : ∃ m : Nat, S.1 1 27 = (m : Int) := ⟨_, (Int.toNat_of_nonneg o1).symm⟩
  have hw6 : (S.1 6 15).toNat = W := by rw [r6]; exact hw2
  by_cases c0 : (10 ≤ x1 ∧ x1 ≤ 60) ∧ m < 40 ∧ (x2 = 0 ∨ S.2 1 4 1 ≠ 0) ∧ S.2 1 4 6 ≠ 0 ∧ S.1 1 29 = -1
  rotate_left 1
  · clear os oL oLp oP oPp o7 o8 rs rL rP hWa K R
    unfold Pair F_X11_lay F_X11_isSheetLength F_X8_isFull F_X11_lay_37 F_X8_isFreeFor
    repeat' first
      | (with_reducible refine zp_some.mpr ?_; try dsimp only)
      | (with_reducible refine zp_wi.mpr ⟨fun c => ?_, fun c => ?_⟩ <;> (try simp (disch := omega) only [zadd_ok, zsub_ok, zmul_ok, zup_ap, zuA_ap, zset_ap, zuA_s, zuA_A, zup_up, and_true, true_and, and_false, false_and, reduceIte, Nat.reduceEqDiff, not_true_eq_false, not_false_eq_true, or_true, true_or, or_false, false_or, hw2, hw6] at c) <;> (try (exfalso; omega)) <;> (try dsimp only))
      | with_reducible refine zp_bind.mpr ?_
      | (with_reducible refine zp_if (fun c => ?_) (fun c => ?_) <;> (try simp (disch := omega) only [zadd_ok, zsub_ok, zmul_ok, zup_ap, zuA_ap, zset_ap, zuA_s, zuA_A, zup_up, and_true, true_and, and_false, false_and, reduceIte, Nat.reduceEqDiff, not_true_eq_false, not_false_eq_true, or_true, true_or, or_false, false_or, hw2, hw6] at c) <;> (try (exfalso; omega)))
      | (with_reducible refine zp_lt.mpr ?_; try dsimp only)
      | fail
    all_goals refine ⟨rfl, zp_gen S rfl rfl rfl (fun T hE t0 t1 t2 => ?_)⟩
    all_goals unfold F_X12_lay F_X12_lay_47
    all_goals repeat' first
      | (with_reducible refine zp_some.mpr ?_; try dsimp only)
      | (with_reducible refine zp_wi.mpr ⟨fun c => ?_, fun c => ?_⟩ <;> (try simp (disch := omega) only [zadd_ok, zsub_ok, zmul_ok, zup_ap, zuA_ap, zset_ap, zuA_s, zuA_A, zup_up, and_true, true_and, and_false, false_and, reduceIte, Nat.reduceEqDiff, not_true_eq_false, not_false_eq_true, or_true, true_or, or_false, false_or, t1, t2] at c) <;> (try (exfalso; omega)) <;> (try dsimp only))
      | with_reducible refine zp_bind.mpr ?_
      | (with_reducible refine zp_if (fun c => ?_) (fun c => ?_) <;> (try simp (disch := omega) only [zadd_ok, zsub_ok, zmul_ok, zup_ap, zuA_ap, zset_ap, zuA_s, zuA_A, zup_up, and_true, true_and, and_false, false_and, reduceIte, Nat.reduceEqDiff, not_true_eq_false, not_false_eq_true, or_true, true_or, or_false, false_or, t1, t2] at c) <;> (try (exfalso; omega)))
      | (with_reducible refine zp_lt.mpr ?_; try dsimp only)
      | fail
    all_goals replace hE := hE.symm
    all_goals subst hE
    all_goals exact ⟨rfl, rfl, hT, hW, hF, hX, hO, hC, hJ, hI, hP, hK, hR, hM⟩
  obtain ⟨c1, c2, c3, c4, c5⟩ := c0
  have ro0 := g9 0 (by show (0 : Int) < _; omega)
  have wro := (w8 0 (by show (0 : Int) < _; omega)).1
  have red : ∀ Q, zp (F_X11_lay_37 x1 x2 S) Q → zp (F_X11_lay x1 x2 S) Q := by
    intro Q h37
    unfold F_X11_lay F_X11_isSheetLength F_X8_isFull
    refine zp_bind.mpr (zp_neg (by omega) (zp_neg (by omega) (zp_some.mpr (zp_neg (by decide) ?_))))
    refine zp_bind.mpr (zp_pos (by omega) (zp_some.mpr (zp_pos rfl ?_)))
    by_cases c : x2 = 0
    · exact zp_pos c h37
    · exact zp_neg c (zp_pos (by rw [hw2]; exact hw1) (zp_neg (by rw [hw2]; omega) h37))
  have red12 : ∀ T : ZS, T.1 1 = S.1 1 → T.2 1 = S.2 1 → ∀ Q, zp (F_X12_lay_47 x1 x2 (zup T.1 1 0 0, T.2)) Q → zp (F_X12_lay x1 x2 T) Q := by
    intro T t1 t2 Q h47
    unfold F_X12_lay
    refine zp_lt.mpr ?_
    dsimp only
    refine zp_bind.mpr (zp_wi.mpr ⟨fun c => ?_, fun c => absurd c1 c⟩)
    have k27 : zup T.1 1 0 0 1 27 = (m : Int) := by rw [zup_k (by decide), t1]; exact hm
    refine zp_neg (by decide) (zp_neg (by rw [k27]; omega) ?_)
    by_cases c : x2 = 0
    · exact zp_pos c h47
    · exact zp_neg c (zp_neg (by rw [t2]; omega) h47)
  have hL40 : L.length ≤ m := nodup_le m L (sort_nodup (hd := S.2 1 32) (ten := fun a => 10 * S.2 1 31 a) oLp (fun a ha => by have := (os a ((oL a).mp ha).1).2.1; (try dsimp only); omega)) (fun a ha => by have := ((oL a).mp ha).1; omega)
  have hsh : ∀ a, a ∈ L → a < m ∧ S.2 6 7 a = S.2 1 32 a ∧ S.2 6 10 a = 10 * S.2 1 31 a ∧ (10 ≤ S.2 1 32 a ∧ S.2 1 32 a ≤ 4000) ∧ (10 ≤ S.2 1 31 a ∧ S.2 1 31 a ≤ 60) := by
    intro a ha
    have q := ((oL a).mp ha).1
    obtain ⟨_, q2, _, _, q5, _⟩ := rs a q
    obtain ⟨_, p2, _, _, p5, _⟩ := os a q
    exact ⟨by omega, q2, q5, by omega, p2⟩
  have hfree := lp_free8 (S := S) (T := 6) (L := L) (front := 10 * S.2 1 6 0) (en := 10 * S.2 1 6 0 - 10 * x1) r5 (by omega) rL (fun a ha => by obtain ⟨q1, q2, q3, q4, q5⟩ := hsh a ha; rw [q2, q3]; omega)
  have feq := free_eq (A := S.2) (m := m) (L := L) (front := 10 * S.2 1 6 0) (en := 10 * S.2 1 6 0 - 10 * x1) (fun a ha => by obtain ⟨_, q2, _, _, q5, _⟩ := rs a (by omega); exact ⟨q2, q5⟩) (fun a => by rw [oL a, hm])
  have hover : ∀ T : ZS, T.1 1 = S.1 1 → T.2 1 = S.2 1 → F_X12_isOver (10 * S.2 1 6 0) x1 (zup T.1 1 0 0, T.2) = some (if ∃ a, a < m ∧ ov12 S.2 (10 * S.2 1 6 0) (10 * S.2 1 6 0 - 10 * x1) a = true then 1 else 0) := by
    intro T t1 t2
    have q := lp_over12 (S := (zup T.1 1 0 0, T.2)) (m := m) (front := 10 * S.2 1 6 0) (x2 := x1) (by show zup T.1 1 0 0 1 27 = _; rw [zup_k (by decide), t1]; exact hm) (by omega)
      (fun a ha => by show (0 ≤ T.2 1 32 a ∧ T.2 1 32 a ≤ 10000) ∧ (0 ≤ T.2 1 31 a ∧ T.2 1 31 a ≤ 100); rw [t2]; obtain ⟨_, p2, _, _, p5, _⟩ := os a (by omega); omega) (by omega) (by omega)
    rw [q]
    have e : ov12 (zup T.1 1 0 0, T.2).2 = ov12 S.2 := by
      funext f e a
      show decide ((T.2 1 33 a = 0 ∨ T.2 1 33 a = 3) ∧ T.2 1 32 a - 10 * T.2 1 31 a < f ∧ e < T.2 1 32 a) = _
      rw [t2]
      rfl
    rw [e]
  have f1 : zmul (S.2 1 6 0) 10 = 10 * S.2 1 6 0 := by rw [zmul_ok (by omega) (by omega)]; omega
  have f2 : zmul x1 10 = 10 * x1 := by rw [zmul_ok (by omega) (by omega)]; omega
  have f3 : zsub (10 * S.2 1 6 0) (10 * x1) = 10 * S.2 1 6 0 - 10 * x1 := zsub_ok (by omega) (by omega)
  have f4 : zmul 10 (S.2 1 6 0) = 10 * S.2 1 6 0 := zmul_ok (by omega) (by omega)
  have hz1 : 0 < S.2 1 4 6 := by omega
  have hz2 : 1 ≤ S.2 1 6 0 ∧ S.2 1 6 0 ≤ S.2 1 4 0 - 1 := by omega
  have hz3 : x2 = 0 ∨ (x2 = 1 ∧ S.2 1 4 1 ≠ 0) := by
    rcases hb with z | z
    · exact Or.inl z
    · exact Or.inr ⟨z, c3.resolve_left (fun y => by rw [z] at y; exact absurd y (by decide))⟩
  unfold Pair
  refine red _ ?_
  unfold F_X11_lay_37 F_X8_isFreeFor
  rw [hw2, hw6]
  refine zp_pos hw1 (zp_neg (by omega) (zp_bind.mpr (zp_pos hw1 (zp_pos (by omega) (zp_bind.mpr ?_)))))
  rw [wro, f1, f2, f3, zp_eq hfree]
  by_cases hf : ∃ a, a ∈ L ∧ ovr S.2 6 (10 * S.2 1 6 0) (10 * S.2 1 6 0 - 10 * x1) a = true
  · rw [if_pos hf]
    refine zp_pos rfl (zp_some.mpr (zp_pos rfl (zp_some.mpr ?_)))
    refine ⟨rfl, zp_gen S rfl rfl rfl (fun T hE t0 t1 t2 => red12 T t1 t2 _ ?_)⟩
    unfold F_X12_lay_47
    dsimp only
    refine zp_neg (by rw [t2]; omega) (zp_pos (by rw [zup_k (by decide), t1]; exact c5) (zp_bind.mpr ?_))
    rw [t2, f4, zp_eq (hover T t1 t2), if_pos (feq.mp hf)]
    refine zp_neg (by decide) (zp_some.mpr ?_)
    replace hE := hE.symm
    subst hE
    exact ⟨rfl, rfl, hT, hW, hF, hX, hO, hC, hJ, hI, hP, hK, hR, hM⟩
  · rw [if_neg hf]
    refine zp_neg (by decide) (zp_some.mpr (zp_neg (by decide) (zp_bind.mpr ?_)))
    have hbg := lp_begin8 (S := S) (T := 6) (W := W) (m := m) (x1 := x1) (x2 := x2) (L := L) (Or.inl rfl) hw1 (by rw [← hw6, Int.toNat_of_nonneg]; rw [r6]; rcases hWd with q | q <;> omega) (by rw [r1]; exact hm) c2 (by omega) hb r5 (by omega) rL (fun a ha => by have := (hsh a ha).1; omega) (by rw [wro]; omega)
    rw [wro] at hbg
    refine zp_mono hbg fun v hv => zp_some.mpr ?_
    obtain ⟨hv1, k, G, hk, hk1, hk2, hv2, hG1, hG2, hG3⟩ := hv
    obtain ⟨v1, v2⟩ := v
    dsimp only at hv1 hv2 ⊢
    subst hv1 hv2
    refine ⟨rfl, zp_gen S rfl rfl rfl (fun T hE t0 t1 t2 => red12 T t1 t2 _ ?_)⟩
    unfold F_X12_lay_47
    dsimp only
    refine zp_neg (by rw [t2]; omega) (zp_pos (by rw [zup_k (by decide), t1]; exact c5) (zp_bind.mpr ?_))
    have h33 : F_X12_isOver (zmul 10 (T.2 1 6 0)) x1 (zup T.1 1 0 0, T.2) = some 0 := by rw [t2, f4, hover T t1 t2, if_neg (fun z => hf (feq.mpr z))]
    rw [zp_eq h33]
    have k27 : zup T.1 1 0 0 1 27 = (m : Int) := by rw [zup_k (by decide), t1]; exact hm
    have c27 : 0 ≤ zup T.1 1 0 0 1 27 ∧ zup T.1 1 0 0 1 27 < 40 := by rw [k27]; omega
    refine zp_pos rfl ?_
    repeat' first
      | (with_reducible refine zp_lt.mpr ?_; try dsimp only)
      | with_reducible refine zp_pos c27 ?_
      | with_reducible refine zp_pos hb ?_
      | (with_reducible refine zp_some.mpr ?_; try dsimp only)
      | fail
    have f5 : zadd (zup T.1 1 0 0 1 27) 1 = ((m + 1 : Nat) : Int) := by rw [k27, zadd_ok (by omega) (by omega)]; rfl
    have f6 : ((zup T.1 1 0 0 1 27).toNat) = m := by rw [k27]; omega
    rw [f5, f6]
    have f7 : ∀ g, zmul 10 (zuA T.2 1 31 g 1 6 0) = 10 * S.2 1 6 0 := by intro g; rw [zuA_o (by decide), t2]; exact f4
    rw [f7]
    replace hE := hE.symm
    subst hE
    refine ⟨?_, rfl, hT, hW, hF, ⟨⟨lnew L k m, P, ?_⟩, hWa⟩, hO, hC, hJ, hI, hP, hK, hR, hM⟩
    · rw [zup_s, zsub_ok (by omega) (by omega)]; omega
    · rw [hm, c5] at R K
      refine X_lay (wy := S.2 1 4) (ro := S.2 1 6) (wp := S.1 2 11) (now := S.1 1 28) (x := x1) (t := x2) (G := G) (len := S.2 1 31) (head := S.2 1 32) (state := S.2 1 33) (side := S.2 1 34) (stood := S.2 1 35) (came := S.2 1 36) (turned := S.2 1 37) R K c2 c1 hz3 hz1 hz2 (fun a ha z => hf ⟨a, ha, decide_eq_true ?_⟩) hk (fun j hj hjk => ?_) (fun j hj hjk => ?_) hG1 hG2 hG3 (fun q => ?_) (fun o j => ?_) (fun j => rfl) ?_ ?_ (fun j => ?_) (fun j => ?_) (fun j => ?_) (fun j => ?_) (fun j => ?_) (fun j => ?_) (fun j => ?_)
      · obtain ⟨q1, q2, q3, q4, q5⟩ := hsh a ha
        rw [q2, q3]
        exact z
      · rw [← (hsh _ (List.getElem_mem hj)).2.1]; exact hk1 j hj hjk
      · rw [← (hsh _ (List.getElem_mem hj)).2.1]; exact hk2 j hj hjk
      · simp [zup_ap]
      · unfold tP
        simp only [zuA_ap, zset_ap, true_and, and_true, false_and, if_false, reduceIte, Nat.reduceEqDiff]
        (repeat' split) <;> first | rfl | (exfalso; omega) | (subst_vars; rfl) | (simp_all)
      · first | exact zup_s | (dsimp only; exact zup_s) | (dsimp only; rw [zup_s]) | (show zup _ 1 27 _ 1 27 = _; exact zup_s)
      · exact c5
      all_goals (simp only [zuA_ap, zset_ap]; first | rfl | (simp; done))
end PLAY
