/-! pairs of the stack: the class's way -/
section ROOM
variable {st : Nat → Int} {n pg many : Nat}
theorem krm_big (hst : ∀ j, j < n → 0 ≤ st j ∧ st j < (pg : Int)) : ∀ k m, k ≤ n → k < m → krm st n pg many k m = -1
  | _, 0, _, h => by omega
  | 0, m + 1, _, _ => rfl
  | k + 1, m + 1, hk, h => by
    show max (krm st n pg many k (m + 1)) (lpb (krm st n pg many k m) (st (n - (k + 1))) (pg : Int)) = -1
    have h1 := (hst (n - (k + 1)) (by omega)).1
    rw [krm_big hst k (m + 1) (by omega) (by omega), krm_big hst k m (by omega) (by omega)]
    unfold lpb
    rw [if_pos (by omega)]
    rfl
theorem lp_lpb {S : ZS} {lim p : Int} {g : Nat} (h1 : -1 ≤ lim ∧ lim ≤ 320) (h2 : 0 ≤ p ∧ p < (g : Int)) (h3 : g ≤ 8) : F_X3_lastPlaceBelow lim p (g : Int) S = some (lpb lim p (g : Int)) := by
  unfold F_X3_lastPlaceBelow lpb
  by_cases c : p < lim
  · rw [if_pos c, if_neg (by omega), if_pos (by omega), if_neg (by omega), zsub_ok (x := lim) (by omega) (by omega), zsub_ok (x := lim - 1) (y := p) (by omega) (by omega), zrem_ok (by omega) (by omega) (by omega) (by omega)]
    have h7 := Int.emod_lt_of_pos (lim - 1 - p) (show 0 < (g : Int) by omega)
    have h8 := Int.emod_nonneg (lim - 1 - p) (show (g : Int) ≠ 0 by omega)
    rw [zsub_ok (by omega) (by omega)]
  · rw [if_neg c, if_pos (by omega)]
def kRb (st : Nat → Int) (n pg many : Nat) (R : Nat → Int) (k : Nat) : Prop := ∀ i m, k ≤ i → i ≤ n → m ≤ 60 → R (61 * i + m) = krm st n pg many (n - i) m
theorem lp_room61 (hn : n ≤ 60) (hm : many ≤ 320) (hp8 : pg ≤ 8) {A : ZA} {I : Nat → Nat → Int} (h0 : I 11 0 = (pg : Int)) (hst : ∀ j, j < n → A 11 14 j = st j ∧ 0 ≤ st j ∧ st j < (pg : Int)) {i : Nat} (hi : i < n) {R0 : Nat → Int}
    (hb : kRb st n pg many R0 (i + 1)) (hz : ∀ j, j < 61 * i → R0 j = -1) (h00 : R0 (61 * i) = (many : Int)) (h01 : ∀ m, 1 ≤ m → m ≤ 60 → R0 (61 * i + m) = -1) :
    zp (F_X3_measureRoom_61 11 (n : Int) (i : Int) (61 * (i : Int)) (61 * (i : Int) + 61) 1 (I, zuA A 16 5 R0)) (zor2 (fun s => ∃ R, s = ((i : Int) - 1, (I, zuA A 16 5 R)) ∧ kRb st n pg many R i ∧ ∀ j, j < 61 * i → R j = -1) (fun _ => False)) := by
  have hst' : ∀ j, j < n → 0 ≤ st j ∧ st j < (pg : Int) := fun j hj => (hst j hj).2
  unfold F_X3_measureRoom_61
  refine zp_w (fun k (s : Int × ZS) => ∃ m : Nat, ∃ R, k = n - i + 1 - m ∧ 1 ≤ m ∧ m ≤ n - i + 1 ∧ s = ((m : Int), (I, zuA A 16 5 R)) ∧ kRb st n pg many R (i + 1) ∧ (∀ j, j < 61 * i → R j = -1) ∧ (∀ q, q < m → R (61 * i + q) = krm st n pg many (n - i) q) ∧ ∀ q, m ≤ q → q ≤ 60 → R (61 * i + q) = -1) ?_ (n - i) _ ⟨1, R0, by omega, by omega, by omega, rfl, hb, hz, fun q hq => ?_, fun q h1 h2 => h01 q h1 h2⟩
  rotate_left 1
  · have : q = 0 := by omega
    subst this
    rw [krm_0]; exact h00
  rintro k s ⟨m, R, rfl, hm1, hm2, rfl, hb, hz, hlo, hhi⟩
  try dsimp only
  rw [zsub_ok (x := (n : Int)) (by omega) (by omega)]
  by_cases c : n - i < m
  · refine zp_pos (by omega) ?_
    rw [zp_some, zor2_r, zor2_l]
    refine ⟨R, by rw [zadd_ok (by omega) (by omega)]; rfl, ?_, hz⟩
    intro i' q h1 h2 h3
    by_cases e : i' = i
    · subst e
      by_cases e2 : q < m
      · exact hlo q e2
      · rw [hhi q (by omega) h3, krm_big hst' _ _ (by omega) (by omega)]
    · exact hb i' q (by omega) h2 h3
  · refine zp_neg (by omega) ?_
    obtain ⟨s1, s2, s3⟩ := hst i hi
    have g1 : zadd (61 * (i : Int) + 61) (m : Int) = ((61 * (i + 1) + m : Nat) : Int) := by rw [zadd_ok (by omega) (by omega)]; omega
    have g2 : zsub ((61 * (i + 1) + m : Nat) : Int) 1 = ((61 * (i + 1) + (m - 1) : Nat) : Int) := by rw [zsub_ok (by omega) (by omega)]; omega
    have g3 : zadd (61 * (i : Int)) (m : Int) = ((61 * i + m : Nat) : Int) := by rw [zadd_ok (by omega) (by omega)]; omega
    have e11 : zuA A 16 5 R 11 14 = A 11 14 := zuA_r (by decide)
    have eR : zuA A 16 5 R 16 5 = R := zuA_s
    simp only [g1, g2, g3, e11, eR, Int.toNat_natCast, s1, h0]
    have v1 := hb (i + 1) (m - 1) (by omega) (by omega) (by omega)
    have v2 := hb (i + 1) m (by omega) (by omega) (by omega)
    have k1 := (krm_ok (many := many) hst' (n - (i + 1)) (by omega) (m - 1)).1
    refine zp_pos (by omega) (zp_pos (by omega) ?_)
    rw [zp_bind, v1, zp_eq (lp_lpb ⟨k1.1, by omega⟩ ⟨s2, s3⟩ hp8)]
    refine zp_pos (by omega) (zp_pos (by omega) ?_)
    rw [zp_lt]
    try dsimp only
    rw [v2, zuA_A, zp_some, zor2_l, zmax_d]
    have ek : krm st n pg many (n - i) m = max (krm st n pg many (n - (i + 1)) m) (lpb (krm st n pg many (n - (i + 1)) (m - 1)) (st i) (pg : Int)) := by
      obtain ⟨m', rfl⟩ : ∃ m', m = m' + 1 := ⟨m - 1, by omega⟩
      have e1 : n - i = (n - (i + 1)) + 1 := by omega
      rw [e1]
      show max (krm st n pg many (n - (i + 1)) (m' + 1)) (lpb (krm st n pg many (n - (i + 1)) m') (st (n - (n - (i + 1) + 1))) (pg : Int)) = _
      rw [show n - (n - (i + 1) + 1) = i by omega, Nat.add_sub_cancel]
    refine ⟨n - i + 1 - (m + 1), by omega, m + 1, zset R (61 * i + m) (max (krm st n pg many (n - (i + 1)) m) (lpb (krm st n pg many (n - (i + 1)) (m - 1)) (st i) (pg : Int))), rfl, by omega, by omega, ?_, ?_, ?_, ?_, ?_⟩
    · rw [zadd_ok (by omega) (by omega)]; rfl
    · intro i' q h1 h2 h3
      rw [zset_n (by omega)]
      exact hb i' q h1 h2 h3
    · intro j hj
      rw [zset_n (by omega)]
      exact hz j hj
    · intro q hq
      by_cases e : q = m
      · subst e; rw [zset_s, ek]
      · rw [zset_n (by omega)]
        exact hlo q (by omega)
    · intro q h1 h2
      rw [zset_n (by omega)]
      exact hhi q (by omega) h2
theorem lp_room (hn : n ≤ 60) (hm : many ≤ 320) (hp8 : pg ≤ 8) {S : ZS} (h0 : S.1 11 0 = (pg : Int)) (h12 : S.1 11 12 = (n : Int)) (hw : S.1 16 1 = (many : Int)) (hst : ∀ j, j < n → S.2 11 14 j = st j ∧ 0 ≤ st j ∧ st j < (pg : Int)) :
    zp (F_X3_measureRoom 11 S) (fun s => ∃ R, s = (S.1, zuA S.2 16 5 R) ∧ kRb st n pg many R 0) := by
  unfold F_X3_measureRoom
  rw [zp_lt]
  try dsimp only
  rw [h12, hw, zmul_ok (by omega) (by omega), zuA_s, zuA_A]
  refine zp_pos (by omega) ?_
  rw [zp_lt, zsub_ok (by omega) (by omega)]
  unfold F_X3_measureRoom_30
  refine zp_w (fun k (s : Int × ZS) => k ≤ n ∧ s.1 = (k : Int) - 1 ∧ ∃ R, s.2 = (S.1, zuA S.2 16 5 R) ∧ kRb st n pg many R k ∧ ∀ j, j < 61 * k → R j = -1) ?_ n _ ⟨Nat.le_refl n, rfl, _, rfl, ?_, ?_⟩
  rotate_left 1
  · intro i m h1 h2 h3
    have : i = n := by omega
    subst this
    rw [show ((i : Int) * 61).toNat = 61 * i by omega, Nat.sub_self]
    cases m with
    | zero => rw [Nat.add_zero, zset_s]; rfl
    | succ m =>
      rw [zset_n (by omega)]
      unfold zfl
      rw [if_pos (by omega)]
      rfl
  · intro j hj
    rw [zset_n (by omega)]
    unfold zfl
    rw [if_pos (by omega)]
  rintro k ⟨x, s⟩ ⟨hk, hx, R, hs, hb, hz⟩
  dsimp only at hx hs
  subst hs
  cases k with
  | zero =>
    refine zp_pos (by show x < 0; omega) ?_
    rw [zp_some, zor2_r]
    exact ⟨R, rfl, hb⟩
  | succ i =>
    have hx' : x = (i : Int) := by omega
    subst hx'
    refine zp_neg (by show ¬(i : Int) < 0; omega) ?_
    try dsimp only
    rw [zmul_ok (by omega) (by omega), hw, zadd_ok (by omega) (by omega)]
    refine zp_pos (by omega) ?_
    rw [zp_lt, zuA_s, zuA_A, show ((i : Int) * 61).toNat = 61 * i by omega, show (i : Int) * 61 = 61 * (i : Int) by omega]
    refine zp_mono (lp_room61 hn hm hp8 h0 hst (i := i) (by omega) (R0 := zset R (61 * i) (many : Int)) ?_ ?_ zset_s ?_) fun v hv => ?_
    · intro i' q h1 h2 h3
      rw [zset_n (by omega)]
      exact hb i' q h1 h2 h3
    · intro j hj
      rw [zset_n (by omega)]
      exact hz j (by omega)
    · intro m h1 h2
      rw [zset_n (by omega)]
      exact hz _ (by omega)
    · cases v with
      | inl s =>
        obtain ⟨R', h1, h2, h3⟩ := hv
        exact ⟨i, by omega, by omega, by rw [h1], R', by rw [h1], h2, h3⟩
      | inr s => exact hv.elim
/-- the first on the stack from f on that is a page -/
theorem lp_earliest (hn : n ≤ 60) {S : ZS} (h12 : S.1 11 12 = (n : Int)) (hst : ∀ j, j < n → S.2 11 14 j = st j) {f w : Nat} (hf : f ≤ n) {p : Int} (hp : p = ((w % pg : Nat) : Int)) :
    F_X3_earliest 11 (f : Int) p S = some (if kfi st n pg f w < n then (kfi st n pg f w : Int) else -1) := by
  subst hp
  have hkl : kfi st n pg f w ≤ n := fnd_le _ n
  have hfk : f ≤ kfi st n pg f w := by
    rcases Nat.lt_or_ge (kfi st n pg f w) n with q | q
    · exact (kfi_spec q).1
    · omega
  unfold F_X3_earliest F_X3_earliest_2
  refine zw_for (fun d => ((f + d : Nat) : Int)) (kfi st n pg f w - f) rfl (fun d hd => ?_) ?_
  · have hno : st (f + d) ≠ ((w % pg : Nat) : Int) := by
      rcases Nat.lt_or_ge (kfi st n pg f w) n with q | q
      · exact (kfi_spec q).2.2 (f + d) (by omega) (by omega)
      · exact kfi_none (n := n) (f := f) (by omega) (f + d) (by omega) (by omega)
    try dsimp only
    rw [h12, if_pos (by omega), if_pos (by omega), Int.toNat_natCast, hst _ (by omega), if_neg hno, zadd_ok (by omega) (by omega)]
    rfl
  · try dsimp only
    rw [show f + (kfi st n pg f w - f) = kfi st n pg f w by omega, h12]
    by_cases c : kfi st n pg f w < n
    · rw [if_pos (by omega), if_pos (by omega), Int.toNat_natCast, hst _ c, if_pos (kfi_spec c).2.1, if_pos c]
    · rw [if_neg (by omega), if_neg c]
theorem zup_self {I : Nat → Nat → Int} {r k : Nat} : zup I r k (I r k) = I := by
  funext r' k'
  unfold zup
  split
  · rename_i h
    rw [h.1, h.2]
  · rfl
theorem lp_order (hn : n ≤ 60) (hm : many ≤ 320) (hpg : many ≠ 0 → 0 < pg) (hp8 : pg ≤ 8) {S : ZS} (h0 : S.1 11 0 = (pg : Int)) (h12 : S.1 11 12 = (n : Int)) (hw : S.1 16 1 = (many : Int)) (hl : S.1 16 2 = (kms st n pg many n many : Int))
    (hst : ∀ j, j < n → S.2 11 14 j = st j ∧ 0 ≤ st j ∧ st j < (pg : Int)) (hR : kRb st n pg many (S.2 16 5) 0) :
    zp (F_X3_pairInOrder 11 S) (fun s => ∃ U, s = (S.1, zuA S.2 16 4 U) ∧ ∀ w, w < many → U w = kpo st n pg many w) := by
  have hst' : ∀ j, j < n → 0 ≤ st j ∧ st j < (pg : Int) := fun j hj => (hst j hj).2
  unfold F_X3_pairInOrder F_X3_pairInOrder_13
  rw [hl]
  refine zp_w (fun k (s : Int × Int × Int × Int × ZS) => ∃ w : Nat, ∃ U, ∃ pp : Int, k = many - w ∧ w ≤ many ∧ s = (((kst st n pg many w).1 : Int), ((kst st n pg many w).2 : Int), pp, (w : Int), (S.1, zuA S.2 16 4 U)) ∧ (pp = if w = 0 then -1 else (((w - 1) % pg : Nat) : Int)) ∧ ∀ v, v < w → U v = kpo st n pg many v) ?_ many _ ⟨0, S.2 16 4, -1, by omega, by omega, by rw [zuA_same]; rfl, rfl, fun v hv => by omega⟩
  rintro k s ⟨w, U, pp, rfl, hwm, rfl, hpp, hU⟩
  obtain ⟨hf, hlq⟩ := kst_ok (st := st) (n := n) (pg := pg) w hwm
  have hlb := kms_le (st := st) (n := n) (pg := pg) (many := many) (n - (kst st n pg many w).1) (many - w)
  have ek : kst st n pg many (w + 1) = (let q := kst st n pg many w; if q.2 = 0 then q else if kfi st n pg q.1 w < n ∧ 1 + kms st n pg many (n - (kfi st n pg q.1 w + 1)) (many - (w + 1)) = q.2 then (kfi st n pg q.1 w + 1, q.2 - 1) else q) := rfl
  have ep : kpo st n pg many w = (let q := kst st n pg many w; if q.2 = 0 then -1 else if kfi st n pg q.1 w < n ∧ 1 + kms st n pg many (n - (kfi st n pg q.1 w + 1)) (many - (w + 1)) = q.2 then (kfi st n pg q.1 w : Int) else -1) := rfl
  have hkeq := fun h1 h2 h3 => kst_eq (st := st) (n := n) (pg := pg) (many := many) (w := w) h1 h2 h3
  dsimp only at ek ep ⊢
  generalize kst st n pg many w = q at hf hlq hlb ek ep hkeq
  rw [hw]
  by_cases c1 : w < many
  · have hp0 := hpg (by omega)
    -- the page of the place
    have main : ∀ r : Int, r = ((w % pg : Nat) : Int) → zp (zlt (S.1, zuA (zuA S.2 16 4 U) 16 4 (zset (zuA S.2 16 4 U 16 4) (w : Int).toNat (-1))) fun S12 => if (0 : Int) < (q.2 : Int) then (F_X3_earliest 11 (q.1 : Int) r S12).bind fun r14 => if r14 = (-1) then some (.inl ((q.1 : Int), (q.2 : Int), r, (zadd (w : Int) 1), S12)) else if 0 ≤ (zsub (zadd (zmul (zadd r14 1) 61) (q.2 : Int)) 1) ∧ (zsub (zadd (zmul (zadd r14 1) 61) (q.2 : Int)) 1) < 3721 then if (w : Int) < (S12.2 16 5 (zsub (zadd (zmul (zadd r14 1) 61) (q.2 : Int)) 1).toNat) then zlt (S12.1, zuA S12.2 16 4 (zset (S12.2 16 4) (w : Int).toNat r14)) fun S18 => some (.inl ((zadd r14 1), (zadd (q.2 : Int) (-1)), r, (zadd (w : Int) 1), S18)) else some (.inl ((q.1 : Int), (q.2 : Int), r, (zadd (w : Int) 1), S12)) else none else some (.inl ((q.1 : Int), (q.2 : Int), r, (zadd (w : Int) 1), S12))) (zor2 (fun s' => ∃ m, m < many - w ∧ ∃ w : Nat, ∃ U, ∃ pp : Int, m = many - w ∧ w ≤ many ∧ s' = (((kst st n pg many w).1 : Int), ((kst st n pg many w).2 : Int), pp, (w : Int), (S.1, zuA S.2 16 4 U)) ∧ (pp = if w = 0 then -1 else (((w - 1) % pg : Nat) : Int)) ∧ ∀ v, v < w → U v = kpo st n pg many v) (fun s => ∃ U, s = (S.1, zuA S.2 16 4 U) ∧ ∀ w, w < many → U w = kpo st n pg many w)) := by
      intro r hr
      rw [zp_lt, zuA_s, zuA_A, Int.toNat_natCast]
      dsimp only
      have e11 : ∀ V, zuA S.2 16 4 V 11 14 = S.2 11 14 := fun V => zuA_r (by decide)
      have e16 : ∀ V, zuA S.2 16 4 V 16 5 = S.2 16 5 := fun V => zuA_o (by decide)
      have hU1 : ∀ v, v < w → zset U w (-1) v = kpo st n pg many v := fun v hv => by rw [zset_n (by omega)]; exact hU v hv
      have hpp' : r = if w + 1 = 0 then -1 else (((w + 1 - 1) % pg : Nat) : Int) := by rw [if_neg (by omega), Nat.add_sub_cancel]; exact hr
      have stay : kst st n pg many (w + 1) = q → kpo st n pg many w = -1 → zp (some (.inl ((q.1 : Int), (q.2 : Int), r, (zadd (w : Int) 1), (S.1, zuA S.2 16 4 (zset U w (-1)))))) (zor2 (fun s' => ∃ m, m < many - w ∧ ∃ w : Nat, ∃ U, ∃ pp : Int, m = many - w ∧ w ≤ many ∧ s' = (((kst st n pg many w).1 : Int), ((kst st n pg many w).2 : Int), pp, (w : Int), (S.1, zuA S.2 16 4 U)) ∧ (pp = if w = 0 then -1 else (((w - 1) % pg : Nat) : Int)) ∧ ∀ v, v < w → U v = kpo st n pg many v) (fun s : ZS => ∃ U, s = (S.1, zuA S.2 16 4 U) ∧ ∀ w, w < many → U w = kpo st n pg many w)) := by
        intro a1 a2
        rw [zp_some, zor2_l]
        refine ⟨many - (w + 1), by omega, w + 1, zset U w (-1), r, rfl, by omega, ?_, hpp', fun v hv => ?_⟩
        · rw [a1, zadd_ok (by omega) (by omega)]; rfl
        · by_cases e : v = w
          · subst e; rw [zset_s, a2]
          · exact hU1 v (by omega)
      by_cases c2 : q.2 = 0
      · rw [if_pos c2] at ek ep
        exact zp_neg (by omega) (stay ek ep)
      · rw [if_neg c2] at ek ep
        refine zp_pos (by omega) ?_
        rw [zp_bind, zp_eq (lp_earliest (st := st) (pg := pg) (w := w) hn (S := (S.1, zuA S.2 16 4 (zset U w (-1)))) h12 (fun j hj => (congrFun (e11 (zset U w (-1))) j).trans (hst j hj).1) hf hr)]
        by_cases c3 : kfi st n pg q.1 w < n
        · rw [if_pos c3]
          refine zp_neg (by omega) ?_
          have g1 : zsub (zadd (zmul (zadd (kfi st n pg q.1 w : Int) 1) 61) (q.2 : Int)) 1 = ((61 * (kfi st n pg q.1 w + 1) + (q.2 - 1) : Nat) : Int) := by
            rw [zadd_ok (x := (kfi st n pg q.1 w : Int)) (by omega) (by omega), zmul_ok (by omega) (by omega), zadd_ok (by omega) (by omega), zsub_ok (by omega) (by omega)]
            omega
          simp only [g1, Int.toNat_natCast, e16]
          rw [hR _ _ (by omega) (by omega) (by omega)]
          have hk1 := (krm_ok (many := many) hst' (n - (kfi st n pg q.1 w + 1)) (by omega) (q.2 - 1)).2 (w + 1) (by omega)
          have hk2 := hkeq c1 c2 c3
          refine zp_pos (by omega) (zp_if (fun c4 => ?_) (fun c4 => ?_))
          · have c5 : 1 + kms st n pg many (n - (kfi st n pg q.1 w + 1)) (many - (w + 1)) = q.2 := hk2.mpr (hk1.mpr (by omega))
            rw [if_pos ⟨c3, c5⟩] at ek ep
            rw [zp_lt]
            try dsimp only
            rw [zuA_s, zuA_A, zp_some, zor2_l]
            refine ⟨many - (w + 1), by omega, w + 1, zset (zset U w (-1)) w (kfi st n pg q.1 w), r, rfl, by omega, ?_, hpp', fun v hv => ?_⟩
            · rw [ek, zadd_ok (by omega) (by omega), zadd_ok (x := (q.2 : Int)) (by omega) (by omega), zadd_ok (by omega) (by omega), show (q.2 : Int) + -1 = ((q.2 - 1 : Nat) : Int) by omega]
              rfl
            · by_cases e : v = w
              · subst e; rw [zset_s, ep]
              · rw [zset_n e]; exact hU1 v (by omega)
          · have c5 : ¬(kfi st n pg q.1 w < n ∧ 1 + kms st n pg many (n - (kfi st n pg q.1 w + 1)) (many - (w + 1)) = q.2) := by
              intro z
              have := hk1.mp (hk2.mp z.2)
              omega
            rw [if_neg c5] at ek ep
            exact stay ek ep
        · rw [if_neg c3]
          rw [if_neg (fun z => c3 z.1)] at ek ep
          exact zp_pos rfl (stay ek ep)
    refine zp_pos (by omega) ?_
    rw [h0]
    by_cases c6 : w = 0
    · rw [if_pos c6] at hpp
      subst hpp
      refine zp_pos (by rw [zadd_ok (by omega) (by omega)]; omega) (zp_pos (by omega) ?_)
      refine main _ ?_
      rw [zadd_ok (by omega) (by omega), c6, Nat.zero_mod]; rfl
    · rw [if_neg c6] at hpp
      subst hpp
      have hml := Nat.mod_lt (w - 1) hp0
      by_cases c7 : (w - 1) % pg + 1 < pg
      · refine zp_pos (by rw [zadd_ok (by omega) (by omega)]; omega) (zp_pos (by omega) ?_)
        refine main _ ?_
        rw [zadd_ok (by omega) (by omega)]
        have : w % pg = (w - 1) % pg + 1 := by
          conv => lhs; rw [show w = (w - 1) + 1 by omega, Nat.add_mod, show 1 % pg = 1 from Nat.mod_eq_of_lt (by omega), Nat.mod_eq_of_lt c7]
        rw [this]; rfl
      · refine zp_neg (by rw [zadd_ok (by omega) (by omega)]; omega) (zp_pos (by omega) ?_)
        refine main _ ?_
        have : w % pg = 0 := by
          have h1 : (w - 1) % pg + 1 = pg := by omega
          conv => lhs; rw [show w = (w - 1) + 1 by omega, ← Nat.mod_add_mod, h1, Nat.mod_self]
        rw [this]; rfl
  · refine zp_neg (by omega) ?_
    rw [zp_some, zor2_r]
    exact ⟨U, rfl, fun v hv => hU v (by omega)⟩
theorem lp_pair11 (hn : n ≤ 60) (hm : many ≤ 320) (hpg : many ≠ 0 → 0 < pg) (hp8 : pg ≤ 8) {S : ZS} (hf : S.1 16 0 = 0) (h0 : S.1 11 0 = (pg : Int)) (h12 : S.1 11 12 = (n : Int)) (hw : S.1 11 0 * S.1 11 11 = (many : Int))
    (hst : ∀ j, j < n → S.2 11 14 j = st j ∧ 0 ≤ st j ∧ st j < (pg : Int)) :
    zp (F_X3_pair 11 S) (fun s => ∃ R U, s = (zup (zup (zup S.1 16 0 1) 16 1 many) 16 2 (kms st n pg many n many : Int), zuA (zuA S.2 16 5 R) 16 4 U) ∧ ∀ w, w < many → U w = kpo st n pg many w) := by
  have hst' : ∀ j, j < n → 0 ≤ st j ∧ st j < (pg : Int) := fun j hj => (hst j hj).2
  unfold F_X3_pair
  refine zp_pos hf ?_
  rw [zp_lt, zp_lt]
  try dsimp only
  rw [show zup S.1 16 0 1 11 0 = S.1 11 0 from rfl, show zup S.1 16 0 1 11 11 = S.1 11 11 from rfl, zmul_ok (by omega) (by omega), hw, zp_bind]
  refine zp_mono (lp_room (st := st) (S := (zup (zup S.1 16 0 1) 16 1 many, S.2)) hn hm hp8 h0 h12 rfl hst) fun s hs => ?_
  obtain ⟨R, rfl, hR⟩ := hs
  rw [zp_lt]
  try dsimp only
  have hkl := kms_le (st := st) (n := n) (pg := pg) (many := many) n many
  unfold F_X3_pair_36
  refine zp_w (fun k (s : ZS) => ∃ j : Nat, k = kms st n pg many n many - j ∧ j ≤ kms st n pg many n many ∧ s = (zup (zup (zup S.1 16 0 1) 16 1 many) 16 2 (j : Int), zuA S.2 16 5 R)) ?_ (kms st n pg many n many) _ ⟨0, rfl, by omega, rfl⟩
  rintro k s ⟨j, rfl, hj, rfl⟩
  try dsimp only
  have fin : j = kms st n pg many n many → zp ((F_X3_pairInOrder 11 (zup (zup (zup S.1 16 0 1) 16 1 many) 16 2 (j : Int), zuA S.2 16 5 R)).bind fun S5 => (some (.inr S5) : Option (ZS ⊕ ZS))) (zor2 (fun s' => ∃ m, m < kms st n pg many n many - j ∧ ∃ j : Nat, m = kms st n pg many n many - j ∧ j ≤ kms st n pg many n many ∧ s' = (zup (zup (zup S.1 16 0 1) 16 1 many) 16 2 (j : Int), zuA S.2 16 5 R)) (fun s => ∃ R U, s = (zup (zup (zup S.1 16 0 1) 16 1 many) 16 2 (kms st n pg many n many : Int), zuA (zuA S.2 16 5 R) 16 4 U) ∧ ∀ w, w < many → U w = kpo st n pg many w)) := by
    intro e
    rw [zp_bind]
    refine zp_mono (lp_order (st := st) (S := (zup (zup (zup S.1 16 0 1) 16 1 many) 16 2 (j : Int), zuA S.2 16 5 R)) hn hm hpg hp8 h0 h12 rfl (by show (j : Int) = _; rw [e]) hst (by show kRb st n pg many (zuA S.2 16 5 R 16 5) 0; rw [zuA_s]; exact hR)) fun v hv => ?_
    obtain ⟨U, h1, h2⟩ := hv
    rw [zp_some, zor2_r]
    refine ⟨R, U, ?_, h2⟩
    rw [h1, ← e]
  have eA : zup (zup (zup S.1 16 0 1) 16 1 (many : Int)) 16 2 (j : Int) 16 2 = (j : Int) := rfl
  have eB : zup (zup (zup S.1 16 0 1) 16 1 (many : Int)) 16 2 (j : Int) 11 12 = S.1 11 12 := rfl
  have eC : zadd (j : Int) 1 = (j : Int) + 1 := zadd_ok (by omega) (by omega)
  simp only [eA, eB, eC, h12, zuA_s]
  have hk1 := krm_ok (st := st) (n := n) (pg := pg) (many := many) hst' n (Nat.le_refl n) (j + 1)
  have hk2 := hk1.2 0 (Nat.zero_le _)
  by_cases c1 : j < n
  · refine zp_pos (by omega) (zp_pos (by omega) ?_)
    have hv : R ((j : Int) + 1).toNat = krm st n pg many n (j + 1) := by
      have := hR 0 (j + 1) (Nat.le_refl 0) (by omega) (by omega)
      rw [show ((j : Int) + 1).toNat = 61 * 0 + (j + 1) by omega]
      exact this
    rw [hv]
    rw [Nat.sub_zero] at hk2
    by_cases c2 : krm st n pg many n (j + 1) = -1
    · refine zp_pos c2 (fin ?_)
      have : ¬(j + 1 ≤ kms st n pg many n many) := fun z => by have := hk2.mp z; omega
      omega
    · refine zp_neg c2 ?_
      have : j + 1 ≤ kms st n pg many n many := hk2.mpr (by omega)
      rw [zp_lt, zp_some, zor2_l]
      refine ⟨kms st n pg many n many - (j + 1), by omega, j + 1, rfl, this, ?_⟩
      rw [zup_up]
      rfl
  · exact zp_neg (by omega) (fin (by omega))
end ROOM
