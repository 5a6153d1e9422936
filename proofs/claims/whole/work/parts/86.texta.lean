/-! a way read: both sides -/
section TEXTA
variable {S R : ZS} {b : Nat → Int} {n j q : Nat}
theorem lp_begins : zp (F_X12_begins R) (fun V => V.1 = zup (zup R.1 1 19 0) 1 20 0 ∧ (∀ r, r ≠ 1 → V.2 r = R.2 r) ∧ (∀ o, o ≠ 5 → V.2 1 o = R.2 1 o) ∧ V.2 1 5 = zrg 0 8 (fun k => if k = 0 then 100 else 0) (R.2 1 5)) := by
  unfold F_X12_begins F_X12_begins_2
  refine zp_w (fun d st => ∃ i, d + i = 8 ∧ st = ((i : Int), (R.1, zuA R.2 1 5 (zrg 0 i (fun k => if k = 0 then 100 else 0) (R.2 1 5))))) (fun d st hst => ?_) 8 _ ⟨0, by omega, by rw [zrg_0, zuA_same]; rfl⟩
  obtain ⟨i, hd, rfl⟩ := hst
  dsimp only
  rcases Nat.lt_or_ge i 8 with hi | hi
  · have f1 : zadd (i : Int) 1 = ((i + 1 : Nat) : Int) := by rw [zadd_ok (by omega) (by omega)]; rfl
    simp only [f1, Int.toNat_natCast, zuA_s, zuA_A]
    refine zp_pos (by omega) (zp_if (fun c => zp_pos (by omega) (zp_lt.mpr ?_)) (fun c => zp_pos (by omega) (zp_lt.mpr ?_)))
    · exact zp_some.mpr (zor2_l.mpr ⟨d - 1, by omega, i + 1, by omega, by rw [zrg_z (if_pos (show i = 0 by omega)).symm]⟩)
    · exact zp_some.mpr (zor2_l.mpr ⟨d - 1, by omega, i + 1, by omega, by rw [zrg_z (if_neg (show ¬ i = 0 by omega)).symm]⟩)
  · have : i = 8 := by omega
    subst this
    refine zp_neg (by omega) (zp_lt.mpr (zp_lt.mpr (zp_some.mpr (zor2_r.mpr ⟨rfl, fun r hr => ?_, fun o ho => ?_, ?_⟩))))
    · dsimp only; rw [zuA_R hr]
    · dsimp only; rw [zuA_o ho]
    · dsimp only; rw [zuA_s]
theorem lp_bec80 : zp (F_X12_becomes_80 0 R) (fun V => V.1 = zup (zup (zup (zup R.1 1 26 0) 1 27 0) 1 28 0) 1 29 (-1) ∧ (∀ r, r ≠ 1 → V.2 r = R.2 r) ∧ (∀ o, o ≠ 10 → o ≠ 38 → o ≠ 39 → o ≠ 41 → V.2 1 o = R.2 1 o) ∧
    V.2 1 10 = zrg 0 19 (R.2 1 11) (R.2 1 10) ∧ V.2 1 38 = zrg 0 19 (fun _ => 0) (R.2 1 38) ∧ V.2 1 39 = zrg 0 19 (fun _ => 0) (R.2 1 39) ∧ V.2 1 41 = zrg 0 19 (fun _ => 0) (R.2 1 41)) := by
  unfold F_X12_becomes_80
  refine zp_w (fun d st => ∃ i V, d + i = 19 ∧ st = ((i : Int), V) ∧ V.1 = R.1 ∧ (∀ r, r ≠ 1 → V.2 r = R.2 r) ∧ (∀ o, o ≠ 10 → o ≠ 38 → o ≠ 39 → o ≠ 41 → V.2 1 o = R.2 1 o) ∧
    V.2 1 10 = zrg 0 i (R.2 1 11) (R.2 1 10) ∧ V.2 1 38 = zrg 0 i (fun _ => 0) (R.2 1 38) ∧ V.2 1 39 = zrg 0 i (fun _ => 0) (R.2 1 39) ∧ V.2 1 41 = zrg 0 i (fun _ => 0) (R.2 1 41)) (fun d st hst => ?_) 19 _ ⟨0, R, by omega, rfl, rfl, fun r _ => rfl, fun o _ _ _ _ => rfl, zrg_0.symm, zrg_0.symm, zrg_0.symm, zrg_0.symm⟩
  obtain ⟨i, V, hd, rfl, v1, v2, v3, v4, v5, v6, v7⟩ := hst
  dsimp only
  rcases Nat.lt_or_ge i 19 with hi | hi
  · have f1 : zadd (i : Int) 1 = ((i + 1 : Nat) : Int) := by rw [zadd_ok (by omega) (by omega)]; rfl
    have v11 : V.2 1 11 = R.2 1 11 := v3 11 (by decide) (by decide) (by decide) (by decide)
    simp only [f1, Int.toNat_natCast]
    refine zp_pos (by omega) (zp_pos (by omega) (zp_lt.mpr (zp_lt.mpr (zp_lt.mpr (zp_lt.mpr (zp_some.mpr (zor2_l.mpr ⟨d - 1, by omega, i + 1, _, by omega, rfl, v1, fun r hr => ?_, fun o h1 h2 h3 h4 => ?_, ?_, ?_, ?_, ?_⟩)))))))
    · dsimp only; rw [zuA_R hr, zuA_R hr, zuA_R hr, zuA_R hr]; exact v2 r hr
    · dsimp only; rw [zuA_o h4, zuA_o h3, zuA_o h2, zuA_o h1]; exact v3 o h1 h2 h3 h4
    · dsimp only; rw [zuA_o (by decide), zuA_o (by decide), zuA_o (by decide), zuA_s, v4, v11, zrg_z rfl]
    · dsimp only; rw [zuA_o (by decide), zuA_o (by decide), zuA_s, zuA_o (by decide), v5, zrg_z rfl]
    · dsimp only; rw [zuA_o (by decide), zuA_s, zuA_o (by decide), zuA_o (by decide), v6, zrg_z rfl]
    · dsimp only; rw [zuA_s, zuA_o (by decide), zuA_o (by decide), zuA_o (by decide), v7, zrg_z rfl]
  · have : i = 19 := by omega
    subst this
    refine zp_neg (by omega) (zp_lt.mpr (zp_lt.mpr (zp_lt.mpr (zp_lt.mpr (zp_some.mpr (zor2_r.mpr ⟨?_, v2, v3, v4, v5, v6, v7⟩))))))
    dsimp only
    rw [v1]
theorem lp_becomes : zp (F_X12_becomes R) (fun V => V.1 = zup (zup (zup (zup R.1 1 26 0) 1 27 0) 1 28 0) 1 29 (-1) ∧ (∀ r, r ≠ 1 → V.2 r = R.2 r) ∧ (∀ o, o ≠ 4 → o ≠ 6 → o ≠ 7 → o ≠ 24 → o ≠ 25 → o ≠ 10 → o ≠ 38 → o ≠ 39 → o ≠ 41 → V.2 1 o = R.2 1 o) ∧
    (V.2 1 4 = zrg 0 8 (R.2 1 5) (R.2 1 4) ∧ V.2 1 6 = zrg 0 10 (R.2 1 8) (R.2 1 6) ∧ V.2 1 7 = zrg 0 10 (R.2 1 9) (R.2 1 7) ∧ V.2 1 24 = zrg 0 10 (fun _ => 0) (R.2 1 24) ∧ V.2 1 25 = zrg 0 10 (fun _ => 0) (R.2 1 25)) ∧
    V.2 1 10 = zrg 0 19 (R.2 1 11) (R.2 1 10) ∧ V.2 1 38 = zrg 0 19 (fun _ => 0) (R.2 1 38) ∧ V.2 1 39 = zrg 0 19 (fun _ => 0) (R.2 1 39) ∧ V.2 1 41 = zrg 0 19 (fun _ => 0) (R.2 1 41)) := by
  have h28 : ∀ X : ZS, X.1 = R.1 → (∀ r, r ≠ 1 → X.2 r = R.2 r) → (∀ o, o ≠ 4 → X.2 1 o = R.2 1 o) → X.2 1 4 = zrg 0 8 (R.2 1 5) (R.2 1 4) → zp (F_X12_becomes_28 0 X) (fun V => V.1 = zup (zup (zup (zup R.1 1 26 0) 1 27 0) 1 28 0) 1 29 (-1) ∧ (∀ r, r ≠ 1 → V.2 r = R.2 r) ∧ (∀ o, o ≠ 4 → o ≠ 6 → o ≠ 7 → o ≠ 24 → o ≠ 25 → o ≠ 10 → o ≠ 38 → o ≠ 39 → o ≠ 41 → V.2 1 o = R.2 1 o) ∧
    (V.2 1 4 = zrg 0 8 (R.2 1 5) (R.2 1 4) ∧ V.2 1 6 = zrg 0 10 (R.2 1 8) (R.2 1 6) ∧ V.2 1 7 = zrg 0 10 (R.2 1 9) (R.2 1 7) ∧ V.2 1 24 = zrg 0 10 (fun _ => 0) (R.2 1 24) ∧ V.2 1 25 = zrg 0 10 (fun _ => 0) (R.2 1 25)) ∧
    V.2 1 10 = zrg 0 19 (R.2 1 11) (R.2 1 10) ∧ V.2 1 38 = zrg 0 19 (fun _ => 0) (R.2 1 38) ∧ V.2 1 39 = zrg 0 19 (fun _ => 0) (R.2 1 39) ∧ V.2 1 41 = zrg 0 19 (fun _ => 0) (R.2 1 41)) := by
    intro X a1 a2 a3 a4
    unfold F_X12_becomes_28
    refine zp_w (fun d st => ∃ i V, d + i = 10 ∧ st = ((i : Int), V) ∧ V.1 = R.1 ∧ (∀ r, r ≠ 1 → V.2 r = R.2 r) ∧ (∀ o, o ≠ 4 → o ≠ 6 → o ≠ 7 → o ≠ 24 → o ≠ 25 → V.2 1 o = R.2 1 o) ∧
      V.2 1 4 = zrg 0 8 (R.2 1 5) (R.2 1 4) ∧ V.2 1 6 = zrg 0 i (R.2 1 8) (R.2 1 6) ∧ V.2 1 7 = zrg 0 i (R.2 1 9) (R.2 1 7) ∧ V.2 1 24 = zrg 0 i (fun _ => 0) (R.2 1 24) ∧ V.2 1 25 = zrg 0 i (fun _ => 0) (R.2 1 25)) (fun d st hst => ?_) 10 _ ⟨0, X, by omega, rfl, a1, a2, fun o h1 _ _ _ _ => a3 o h1, a4, by rw [zrg_0]; exact a3 6 (by decide), by rw [zrg_0]; exact a3 7 (by decide), by rw [zrg_0]; exact a3 24 (by decide), by rw [zrg_0]; exact a3 25 (by decide)⟩
    obtain ⟨i, V, hd, rfl, v1, v2, v3, v4, v5, v6, v7, v8⟩ := hst
    dsimp only
    rcases Nat.lt_or_ge i 10 with hi | hi
    · have f1 : zadd (i : Int) 1 = ((i + 1 : Nat) : Int) := by rw [zadd_ok (by omega) (by omega)]; rfl
      have w8 : V.2 1 8 = R.2 1 8 := v3 8 (by decide) (by decide) (by decide) (by decide) (by decide)
      have w9 : V.2 1 9 = R.2 1 9 := v3 9 (by decide) (by decide) (by decide) (by decide) (by decide)
      simp only [f1, Int.toNat_natCast]
      refine zp_pos (by omega) (zp_pos (by omega) (zp_lt.mpr (zp_lt.mpr (zp_lt.mpr (zp_lt.mpr (zp_some.mpr (zor2_l.mpr ⟨d - 1, by omega, i + 1, _, by omega, rfl, v1, fun r hr => ?_, fun o h1 h2 h3 h4 h5 => ?_, ?_, ?_, ?_, ?_, ?_⟩)))))))
      · dsimp only; rw [zuA_R hr, zuA_R hr, zuA_R hr, zuA_R hr]; exact v2 r hr
      · dsimp only; rw [zuA_o h5, zuA_o h4, zuA_o h3, zuA_o h2]; exact v3 o h1 h2 h3 h4 h5
      · dsimp only; rw [zuA_o (by decide), zuA_o (by decide), zuA_o (by decide), zuA_o (by decide)]; exact v4
      · dsimp only; rw [zuA_o (by decide), zuA_o (by decide), zuA_o (by decide), zuA_s, v5, w8, zrg_z rfl]
      · dsimp only; rw [zuA_o (by decide), zuA_o (by decide), zuA_s, zuA_o (show 7 ≠ 6 by decide), zuA_o (show 9 ≠ 6 by decide), v6, w9, zrg_z rfl]
      · dsimp only; rw [zuA_o (by decide), zuA_s, zuA_o (by decide), zuA_o (by decide), v7, zrg_z rfl]
      · dsimp only; rw [zuA_s, zuA_o (by decide), zuA_o (by decide), zuA_o (by decide), v8, zrg_z rfl]
    · have : i = 10 := by omega
      subst this
      refine zp_neg (by omega) (zp_in.mpr (zp_mono lp_bec80 fun W hW => zor2_r.mpr ?_))
      obtain ⟨z1, z2, z3, z4, z5, z6, z7⟩ := hW
      refine ⟨by rw [z1, v1], fun r hr => (z2 r hr).trans (v2 r hr), fun o h1 h2 h3 h4 h5 h6 h7 h8 h9 => (z3 o h6 h7 h8 h9).trans (v3 o h1 h2 h3 h4 h5), ⟨?_, ?_, ?_, ?_, ?_⟩, ?_, ?_, ?_, ?_⟩
      · rw [z3 4 (by decide) (by decide) (by decide) (by decide)]; exact v4
      · rw [z3 6 (by decide) (by decide) (by decide) (by decide)]; exact v5
      · rw [z3 7 (by decide) (by decide) (by decide) (by decide)]; exact v6
      · rw [z3 24 (by decide) (by decide) (by decide) (by decide)]; exact v7
      · rw [z3 25 (by decide) (by decide) (by decide) (by decide)]; exact v8
      · rw [z4, v3 11 (by decide) (by decide) (by decide) (by decide) (by decide), v3 10 (by decide) (by decide) (by decide) (by decide) (by decide)]
      · rw [z5, v3 38 (by decide) (by decide) (by decide) (by decide) (by decide)]
      · rw [z6, v3 39 (by decide) (by decide) (by decide) (by decide) (by decide)]
      · rw [z7, v3 41 (by decide) (by decide) (by decide) (by decide) (by decide)]
  unfold F_X12_becomes F_X12_becomes_2
  refine zp_w (fun d st => ∃ i, d + i = 8 ∧ st = ((i : Int), (R.1, zuA R.2 1 4 (zrg 0 i (R.2 1 5) (R.2 1 4))))) (fun d st hst => ?_) 8 _ ⟨0, by omega, by rw [zrg_0, zuA_same]; rfl⟩
  obtain ⟨i, hd, rfl⟩ := hst
  dsimp only
  rcases Nat.lt_or_ge i 8 with hi | hi
  · have f1 : zadd (i : Int) 1 = ((i + 1 : Nat) : Int) := by rw [zadd_ok (by omega) (by omega)]; rfl
    have e5 : ∀ g, zuA R.2 1 4 g 1 5 = R.2 1 5 := fun g => zuA_o (by decide)
    simp only [f1, Int.toNat_natCast, zuA_s, zuA_A, e5]
    refine zp_pos (by omega) (zp_pos (by omega) (zp_lt.mpr (zp_some.mpr (zor2_l.mpr ⟨d - 1, by omega, i + 1, by omega, by rw [zrg_z rfl]⟩))))
  · have : i = 8 := by omega
    subst this
    exact zp_neg (by omega) (zp_in.mpr (zp_mono (h28 _ rfl (fun r hr => zuA_R hr) (fun o ho => zuA_o ho) (by dsimp only; rw [zuA_s])) fun W hW => zor2_r.mpr hW))
/-- the first line, if it is a way's -/
theorem lp_wayL (hq : q = 19 ∨ q = 20) (hA : AtA S R b n j) (hw : R.1 1 16 = 0) (hk : tkd b n (tat b n j) = 0) (hT : Told S R q) (h6 : R.2 1 5 6 = 0) (h7 : R.2 1 5 7 = 0) (h1 : R.2 1 5 1 = 0) (hL : R.1 1 18 = 0) :
    zq ((F_X6_readNumber 40 300 S).bind fun r10 => zlt (zup r10.2.1 q 0 r10.1, r10.2.2) fun S11 => (F_X6_want 3 S11).bind fun S12 => (F_X6_goOn S12).bind fun S13 => some S13)
      ((F_X12_next R).bind fun S41 => (F_X12_reads 40 300 S41).bind fun r42 => zlt (r42.2.1, zuA r42.2.2 1 5 (zset (r42.2.2 1 5) 0 r42.1)) fun S43 => F_X12_text_180 S43) (LineQ S R q b n j 0) := by
  obtain ⟨t1, t2, t3⟩ := id hT
  obtain ⟨o1, o2, o3, o4, o5⟩ := t1 hw
  have hq3 : q ≠ 3 := by omega
  obtain ⟨R2, r1, r2, r3, r4⟩ := AtA_next hA hw (by omega)
  have e5 : R2.2 = R.2 := r2.1
  rw [r1, Option.bind_some]
  refine zq_bind (lp_readN (lo := 40) (hi := 300) r4) fun v u hp => ?_
  obtain ⟨p1, p2, p3, p4⟩ := hp
  have v1 : ∀ k, v.2.1 q k = S.1 q k := fun k => by rw [p1.2.1 q hq3]
  have u5 : u.2.2 = R.2 := p2.1.trans e5
  unfold zlt
  refine lp_eolL hq ⟨⟨fun r h3 hr => by dsimp only; rw [zup_R hr]; exact p1.2.1 r h3, fun r hr => by dsimp only; rw [p1.1], fun c h1 h2 h3 => by dsimp only; rw [zup_r (fun z => hq3 z.symm)]; exact p1.2.2 c h1 h2 h3⟩,
      ⟨fun r hr => ?_, fun r hr => ?_, fun c hc => ?_, fun o h1 h2 h3 h4 => ?_⟩, ⟨fun hw2 => ?_, ?_, ?_⟩, j + 1, by omega, AtB_up p3 ?_ rfl (fun c _ _ => rfl) ?_⟩ hL (by omega)
  · dsimp only; rw [p2.2.1 r hr, r2.2.1 r hr]
  · dsimp only; rw [zuA_R hr, u5]
  · dsimp only; rw [p2.2.2 c (by omega) (by omega) (by omega) (by omega) (by omega) (by omega), r2.2.2 c (by omega) (by omega) (by omega) (by omega) (by omega) (by omega)]
  · dsimp only; rw [zuA_o h1, u5]
  · obtain ⟨x1, x2, x3⟩ := p4 hw2
    have hWW := WO_cells (wy' := zset (R.2 1 5) 0 u.1) (Iw' := fun k => if k = 0 then v.1 else S.1 q k) o1 o2 (Or.inr ⟨h6, h7, by rw [zset_s]; omega⟩) (zset_n (by decide)) (zset_n (by decide)) (Or.inl ((zset_n (by decide)).trans h1)) (by rw [zset_n (by decide)]; exact o1.2.2.2.2.1) (by rw [zset_n (by decide)]; exact o1.2.2.2.2.2.2.2.2.2)
      (by rw [zset_s]; exact x1) rfl rfl (by rw [zset_n (by decide)]; exact o2.2.2.2.1) (by rw [zset_n (by decide)]; exact o2.2.2.2.2.1) (by rw [zset_n (by decide)]; exact o2.2.2.2.2.2.1) (by rw [zset_n (by decide)]; exact o2.2.2.2.2.2.2.1) (by rw [zset_n (by decide)]; exact o2.2.2.2.2.2.2.2.1)
    have eI : zup v.2.1 q 0 v.1 q = fun k => if k = 0 then v.1 else S.1 q k := by
      funext k
      simp only [zup_ap, true_and, v1]
    have eA : v.2.2 q = S.2 q := by rw [p1.1]
    have z1 : u.2.1 1 19 = R.1 1 19 := by rw [RFr_19 p2, RFr_19 r2]
    have z2 : u.2.1 1 20 = R.1 1 20 := by rw [RFr_20 p2, RFr_20 r2]
    dsimp only
    simp only [eI, eA, u5, zuA_s, zuA_o (show (8 : Nat) ≠ 5 by decide), zuA_o (show (9 : Nat) ≠ 5 by decide), zuA_o (show (11 : Nat) ≠ 5 by decide), zset_n (show (1 : Nat) ≠ 0 by decide), z1, z2]
    exact ⟨hWW.1, hWW.2, o3, o4, o5⟩
  · dsimp only; rw [zup_k (by decide), v1]; exact t2
  · dsimp only; rw [zup_k (by decide), v1]; exact t3
  · dsimp only; rw [zup_R (fun z => hq3 z.symm)]
  · dsimp only; rw [zuA_o (by decide)]
theorem lp_resetW : F_X10_reset q S = some (zup (zup (zup (zup (zup (zup (zup (zup (zup S.1 q 0 100) q 1 0) q 4 0) q 6 0) q 7 0) q 8 0) q 9 0) q 10 0) q 11 0, S.2) := rfl
theorem lp_reset1 {F : Nat} : F_X1_reset F S = some (zup S.1 F 3 0, zuA (zuA S.2 F 1 (zfl 10 0 (S.2 F 1))) F 2 (zfl 10 0 (S.2 F 2))) := by
  unfold F_X1_reset zlt
  dsimp only
  rw [zuA_o (show 2 ≠ 1 by decide)]
theorem lp_start8 {T F : Nat} : F_X8_start T q F S = some (zup (zup (zup (zup (zup (zup (zup S.1 T 15 (q : Int)) T 16 (F : Int)) T 1 0) T 2 0) T 3 (-1)) T 4 0) T 13 0,
    zuA (zuA (zuA S.2 (T + 1) 2 (zfl 19 0 (S.2 (T + 1) 2))) (T + 1) 1 (zrg 0 19 (fun _ => 0) (S.2 (T + 1) 1))) (T + 1) 5 (zrg 0 19 (fun _ => -1) (S.2 (T + 1) 5))) := by
  unfold F_X8_start F_X9_reset zlt
  dsimp only
  rw [lp_cut9, Option.bind_some]
  dsimp only
  rw [zuA_o (show 1 ≠ 2 by decide), zuA_o (show 5 ≠ 2 by decide)]
  rfl
theorem zfl_ap {m j : Nat} {v : Int} {g : Nat → Int} : zfl m v g j = if j < m then v else g j := rfl
end TEXTA
