/-! pairs of the stack: the class's way -/
section ROOM
variable {st : Nat → Int} {n pg many : Nat}
theorem krm_big (hst : ∀ j, j < n → 0 ≤ st j ∧ st j < (pg : Int)) : ∀ k m, k ≤ n → k < m → krm st n pg many k m = -1
  | _, 0, _, h => by omega
  | 0, m + 1, _, _ => rfl
  | k + 1, m + 1, hk, h => by
    show max (krm st n pg many k (m + 1)) (lpb (krm st n pg many k m) (st (n - (k + 1))) (pg : Int)) = -1
    have h1 := (hst (n - (k + 1)) (by omega)).1
    rw [krm_big hst k (m + 1) (by omega) (by omega), krm_big hst k m (by omega) (by omega)]
    unfold lpb
    rw [if_pos (by omega)]
    rfl
theorem lp_lpb {S : ZS} {lim p : Int} {g : Nat} (h1 : -1 ≤ lim ∧ lim ≤ 320) (h2 : 0 ≤ p ∧ p < (g : Int)) (h3 : g ≤ 8) : F_X3_lastPlaceBelow lim p (g : Int) S = some (lpb lim p (g : Int)) := by
  unfold F_X3_lastPlaceBelow lpb
  by_cases c : p < lim
  · rw [if_pos c, if_neg (by omega), if_pos (by omega), if_neg (by omega), zsub_ok (x := lim) (by omega) (by omega), zsub_ok (x := lim - 1) (by omega) (by omega), zrem_ok (by omega) (by omega) (by omega) (by omega)]
    have h7 := Int.emod_lt_of_pos (lim - 1 - p) (show 0 < (g : Int) by omega)
    have h8 := Int.emod_nonneg (lim - 1 - p) (show (g : Int) ≠ 0 by omega)
    rw [zsub_ok (by omega) (by omega)]
  · rw [if_neg c, if_pos (by omega)]
def kRb (st : Nat → Int) (n pg many : Nat) (R : Nat → Int) (k : Nat) : Prop := ∀ i m, k ≤ i → i ≤ n → m ≤ 60 → R (61 * i + m) = krm st n pg many (n - i) m
theorem lp_room61 (hn : n ≤ 60) (hm : many ≤ 320) (hp8 : pg ≤ 8) {A : ZA} {I : Nat → Nat → Int} (h0 : I 11 0 = (pg : Int)) (hst : ∀ j, j < n → A 11 14 j = st j ∧ 0 ≤ st j ∧ st j < (pg : Int)) {i : Nat} (hi : i < n) {R0 : Nat → Int}
    (hb : kRb st n pg many R0 (i + 1)) (hz : ∀ j, j < 61 * i → R0 j = -1) (h00 : R0 (61 * i) = (many : Int)) (h01 : ∀ m, 1 ≤ m → m ≤ 60 → R0 (61 * i + m) = -1) :
    zp (F_X3_measureRoom_61 11 (n : Int) (i : Int) (61 * (i : Int)) (61 * (i : Int) + 61) 1 (I, zuA A 16 5 R0)) (zor2 (fun s => ∃ R, s = ((i : Int) - 1, (I, zuA A 16 5 R)) ∧ kRb st n pg many R i ∧ ∀ j, j < 61 * i → R j = -1) (fun _ => False)) := by
  have hst' : ∀ j, j < n → 0 ≤ st j ∧ st j < (pg : Int) := fun j hj => (hst j hj).2
  unfold F_X3_measureRoom_61
  refine zp_w (fun k (s : Int × ZS) => ∃ m : Nat, ∃ R, k = n - i + 1 - m ∧ 1 ≤ m ∧ m ≤ n - i + 1 ∧ s = ((m : Int), (I, zuA A 16 5 R)) ∧ kRb st n pg many R (i + 1) ∧ (∀ j, j < 61 * i → R j = -1) ∧ (∀ q, q < m → R (61 * i + q) = krm st n pg many (n - i) q) ∧ ∀ q, m ≤ q → q ≤ 60 → R (61 * i + q) = -1) ?_ (n - i) _ ⟨1, R0, by omega, by omega, by omega, rfl, hb, hz, fun q hq => ?_, fun q h1 h2 => h01 q h1 h2⟩
  rotate_left 1
  · have : q = 0 := by omega
    subst this
    rw [krm_0]; exact h00
  rintro k s ⟨m, R, rfl, hm1, hm2, rfl, hb, hz, hlo, hhi⟩
  dsimp only
  rw [zsub_ok (x := (n : Int)) (by omega) (by omega)]
  by_cases c : n - i < m
  · refine zp_pos (by omega) ?_
    rw [zp_some, zor2_r, zor2_l]
    refine ⟨R, by rw [zadd_ok (by omega) (by omega)]; rfl, ?_, hz⟩
    intro i' q h1 h2 h3
    by_cases e : i' = i
    · subst e
      by_cases e2 : q < m
      · exact hlo q e2
      · rw [hhi q (by omega) h3, krm_big hst' _ _ (by omega) (by omega)]
    · exact hb i' q (by omega) h2 h3
  · refine zp_neg (by omega) ?_
    obtain ⟨s1, s2, s3⟩ := hst i hi
    have g1 : zadd (61 * (i : Int) + 61) (m : Int) = ((61 * (i + 1) + m : Nat) : Int) := by rw [zadd_ok (by omega) (by omega)]; omega
    have g2 : zsub ((61 * (i + 1) + m : Nat) : Int) 1 = ((61 * (i + 1) + (m - 1) : Nat) : Int) := by rw [zsub_ok (by omega) (by omega)]; omega
    have g3 : zadd (61 * (i : Int)) (m : Int) = ((61 * i + m : Nat) : Int) := by rw [zadd_ok (by omega) (by omega)]; omega
    have e11 : zuA A 16 5 R 11 14 = A 11 14 := zuA_r (by decide)
    have eR : zuA A 16 5 R 16 5 = R := zuA_s
    simp only [g1, g2, g3, e11, eR, Int.toNat_natCast, s1, h0]
    have v1 := hb (i + 1) (m - 1) (by omega) (by omega) (by omega)
    have v2 := hb (i + 1) m (by omega) (by omega) (by omega)
    have k1 := (krm_ok (many := many) hst' (n - (i + 1)) (by omega) (m - 1)).1
    refine zp_pos (by omega) (zp_pos (by omega) ?_)
    rw [zp_bind, v1, zp_eq (lp_lpb ⟨k1.1, by omega⟩ ⟨s2, s3⟩ hp8)]
    refine zp_pos (by omega) (zp_pos (by omega) ?_)
    rw [zp_lt]
    dsimp only
    rw [v2, zuA_A, zp_some, zor2_l, zmax_d]
    have ek : krm st n pg many (n - i) m = max (krm st n pg many (n - (i + 1)) m) (lpb (krm st n pg many (n - (i + 1)) (m - 1)) (st i) (pg : Int)) := by
      obtain ⟨m', rfl⟩ : ∃ m', m = m' + 1 := ⟨m - 1, by omega⟩
      have e1 : n - i = (n - (i + 1)) + 1 := by omega
      rw [e1]
      show max (krm st n pg many (n - (i + 1)) (m' + 1)) (lpb (krm st n pg many (n - (i + 1)) m') (st (n - (n - (i + 1) + 1))) (pg : Int)) = _
      rw [show n - (n - (i + 1) + 1) = i by omega, Nat.add_sub_cancel]
    refine ⟨n - i + 1 - (m + 1), by omega, m + 1, zset R (61 * i + m) (max (krm st n pg many (n - (i + 1)) m) (lpb (krm st n pg many (n - (i + 1)) (m - 1)) (st i) (pg : Int))), rfl, by omega, by omega, ?_, ?_, ?_, ?_, ?_⟩
    · rw [zadd_ok (by omega) (by omega)]; rfl
    · intro i' q h1 h2 h3
      rw [zset_n (by omega)]
      exact hb i' q h1 h2 h3
    · intro j hj
      rw [zset_n (by omega)]
      exact hz j hj
    · intro q hq
      by_cases e : q = m
      · subst e; rw [zset_s, ek]
      · rw [zset_n (by omega)]
        exact hlo q (by omega)
    · intro q h1 h2
      rw [zset_n (by omega)]
      exact hhi q (by omega) h2
theorem lp_room (hn : n ≤ 60) (hm : many ≤ 320) (hp8 : pg ≤ 8) {S : ZS} (h0 : S.1 11 0 = (pg : Int)) (h12 : S.1 11 12 = (n : Int)) (hw : S.1 16 1 = (many : Int)) (hst : ∀ j, j < n → S.2 11 14 j = st j ∧ 0 ≤ st j ∧ st j < (pg : Int)) :
    zp (F_X3_measureRoom 11 S) (fun s => ∃ R, s = (S.1, zuA S.2 16 5 R) ∧ kRb st n pg many R 0) := by
  unfold F_X3_measureRoom
  rw [zp_lt]
  dsimp only
  rw [h12, hw, zmul_ok (by omega) (by omega), zuA_s, zuA_A]
  refine zp_pos (by omega) ?_
  rw [zp_lt, zsub_ok (by omega) (by omega)]
  unfold F_X3_measureRoom_30
  refine zp_w (fun k (s : Int × ZS) => k ≤ n ∧ s.1 = (k : Int) - 1 ∧ ∃ R, s.2 = (S.1, zuA S.2 16 5 R) ∧ kRb st n pg many R k ∧ ∀ j, j < 61 * k → R j = -1) ?_ n _ ⟨Nat.le_refl n, rfl, _, rfl, ?_, ?_⟩
  rotate_left 1
  · intro i m h1 h2 h3
    have : i = n := by omega
    subst this
    rw [show ((i : Int) * 61).toNat = 61 * i by omega, Nat.sub_self]
    cases m with
    | zero => rw [Nat.add_zero, zset_s]; rfl
    | succ m =>
      rw [zset_n (by omega)]
      unfold zfl
      rw [if_pos (by omega)]
      rfl
  · intro j hj
    rw [zset_n (by omega)]
    unfold zfl
    rw [if_pos (by omega)]
  rintro k ⟨x, s⟩ ⟨hk, hx, R, hs, hb, hz⟩
  dsimp only at hx hs
  subst hs
  cases k with
  | zero =>
    refine zp_pos (by show x < 0; omega) ?_
    rw [zp_some, zor2_r]
    exact ⟨R, rfl, hb⟩
  | succ i =>
    have hx' : x = (i : Int) := by omega
    subst hx'
    refine zp_neg (by show ¬(i : Int) < 0; omega) ?_
    dsimp only
    rw [zmul_ok (by omega) (by omega), hw, zadd_ok (by omega) (by omega)]
    refine zp_pos (by omega) ?_
    rw [zp_lt, zuA_s, zuA_A, show ((i : Int) * 61).toNat = 61 * i by omega, show (i : Int) * 61 = 61 * (i : Int) by omega]
    refine zp_mono (lp_room61 hn hm hp8 h0 hst (i := i) (by omega) (R0 := zset R (61 * i) (many : Int)) ?_ ?_ zset_s ?_) fun v hv => ?_
    · intro i' q h1 h2 h3
      rw [zset_n (by omega)]
      exact hb i' q h1 h2 h3
    · intro j hj
      rw [zset_n (by omega)]
      exact hz j (by omega)
    · intro m h1 h2
      rw [zset_n (by omega)]
      exact hz _ (by omega)
    · cases v with
      | inl s =>
        obtain ⟨R', h1, h2, h3⟩ := hv
        exact ⟨i, by omega, by omega, by rw [h1], R', by rw [h1], h2, h3⟩
      | inr s => exact hv.elim
/-- the first on the stack from f on that is a page -/
theorem lp_earliest (hn : n ≤ 60) {S : ZS} (h12 : S.1 11 12 = (n : Int)) (hst : ∀ j, j < n → S.2 11 14 j = st j) {f w : Nat} (hf : f ≤ n) {p : Int} (hp : p = ((w % pg : Nat) : Int)) :
    F_X3_earliest 11 (f : Int) p S = some (if kfi st n pg f w < n then (kfi st n pg f w : Int) else -1) := by
  subst hp
  have hkl : kfi st n pg f w ≤ n := fnd_le _ n
  have hfk : f ≤ kfi st n pg f w := by
    rcases Nat.lt_or_ge (kfi st n pg f w) n with q | q
    · exact (kfi_spec q).1
    · omega
  unfold F_X3_earliest F_X3_earliest_2
  refine zw_for (fun d => ((f + d : Nat) : Int)) (kfi st n pg f w - f) rfl (fun d hd => ?_) ?_
  · have hno : st (f + d) ≠ ((w % pg : Nat) : Int) := by
      rcases Nat.lt_or_ge (kfi st n pg f w) n with q | q
      · exact (kfi_spec q).2.2 (f + d) (by omega) (by omega)
      · exact kfi_none (by omega) (f + d) (by omega) (by omega)
    dsimp only
    rw [h12, if_pos (by omega), if_pos (by omega), Int.toNat_natCast, hst _ (by omega), if_neg hno, zadd_ok (by omega) (by omega)]
    rfl
  · dsimp only
    rw [show f + (kfi st n pg f w - f) = kfi st n pg f w by omega, h12]
    by_cases c : kfi st n pg f w < n
    · rw [if_pos (by omega), if_pos (by omega), Int.toNat_natCast, hst _ c, if_pos (kfi_spec c).2.1, if_pos c]
    · rw [if_neg (by omega), if_neg c]
end ROOM
