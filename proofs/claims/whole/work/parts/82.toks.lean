/-! tokens: the class's rows of them, the reference's next one -/
section TOKS
variable {S : ZS} {b : Nat → Int} {n i : Nat}
def tst (b : Nat → Int) (n : Nat) : Nat → Nat
  | 0 => 0
  | i + 1 => tbh b n (tat b n i)
theorem tat_st : ∀ i, tat b n i = tsk b n (tst b n i)
  | 0 => rfl
  | _ + 1 => rfl
theorem tst_b : ∀ i, tst b n i ≤ n
  | 0 => Nat.zero_le n
  | i + 1 => (tbh_b (tat_b i).1).2.1
def tnm (b : Nat → Int) (n i : Nat) : Int := tnv b (tat b n i) (tdg b n (tat b n i) - tat b n i)
theorem tck_0 {k : Nat} (h : tck k = 0) : k = 12 := by
  unfold tck at h
  (repeat' split at h) <;> first | assumption | omega
theorem tck_1 {k : Nat} (h : tck k = 1) : k = 13 := by
  unfold tck at h
  (repeat' split at h) <;> first | assumption | omega
/-- the first i tokens stand in the class's rows -/
def TRow (V : ZS) (b : Nat → Int) (n i : Nat) : Prop := ∀ k, k < i → V.2 3 5 k = (tck (tkd b n (tat b n k)) : Int) ∧ V.2 3 6 k = (tat b n k : Int) ∧ (tkd b n (tat b n k) = 10 → V.2 3 7 k = tnm b n k)
def TFr (S V : ZS) : Prop := (∀ r, r ≠ 3 → V.1 r = S.1 r) ∧ (∀ r, r ≠ 3 → V.2 r = S.2 r) ∧ (∀ c, c ≠ 7 → c ≠ 10 → V.1 3 c = S.1 3 c) ∧ (∀ o, o ≠ 5 → o ≠ 6 → o ≠ 7 → V.2 3 o = S.2 3 o)
theorem lp_split (h : CTape S b n) (h7 : S.1 3 7 = 0) (h10 : S.1 3 10 = 0) : zp (F_X6_splitTokens_17 1 S) (fun V => TFr S V ∧ V.1 3 7 = ((tlast b n + 1 : Nat) : Int) ∧ TRow V b n (tlast b n + 1)) := by
  obtain ⟨l1, l2, l3⟩ := tlast_b (b := b) (n := n)
  have h0 := h.1
  unfold F_X6_splitTokens_17
  refine zp_w (fun d st => (∃ i V, d + i = tlast b n + 1 ∧ st = ((1 : Int), V) ∧ i ≤ tlast b n ∧ TFr S V ∧ V.1 3 7 = (i : Int) ∧ V.1 3 10 = (tst b n i : Int) ∧ TRow V b n i) ∨ (∃ V, d = 0 ∧ st = ((0 : Int), V) ∧ TFr S V ∧ V.1 3 7 = ((tlast b n + 1 : Nat) : Int) ∧ TRow V b n (tlast b n + 1))) (fun d st hst => ?_) (tlast b n + 1) _
    (Or.inl ⟨0, S, by omega, rfl, by omega, ⟨fun r _ => rfl, fun r _ => rfl, fun c _ _ => rfl, fun o _ _ _ => rfl⟩, h7, h10, fun k hk => by omega⟩)
  rcases hst with ⟨i, V, hd, rfl, hi, v1, v2, v3, v4⟩ | ⟨V, _, rfl, v1, v2, v3⟩
  rotate_left 1
  · exact zp_pos rfl (zp_some.mpr (zor2_r.mpr ⟨v1, v2, v3⟩))
  · (try dsimp only)
    simp only [v2]
    refine zp_neg (by decide) (zp_neg (by omega) ?_)
    obtain ⟨f1, f2, f3, f4⟩ := v1
    have hC : ∀ x : Int, CTape (zup V.1 3 10 x, V.2) b n := fun x => ⟨h.1, by dsimp only; rw [zup_k (by decide), f3 9 (by decide) (by decide)]; exact h.2.1, fun k hk => by dsimp only; rw [f4 1 (by decide) (by decide) (by decide)]; exact h.2.2 k hk⟩
    have hsb := tst_b (b := b) (n := n) i
    have htb := (tat_b (b := b) (n := n) i).1
    have hts : tat b n i = tst b n i + fnd (fun d => decide (b (tst b n i + d) ≠ 10 ∧ b (tst b n i + d) ≠ 32)) (n - tst b n i) := tat_st i
    have hcn := fnd_le (fun d => decide (b (tst b n i + d) ≠ 10 ∧ b (tst b n i + d) ≠ 32)) (n - tst b n i)
    -- behind the blanks
    have h70 : zp (F_X6_splitTokens_70 (zup V.1 3 10 (tat b n i : Int), V.2)) (fun r => zor2 (fun s' => ∃ m, m < d ∧ ((∃ i V, m + i = tlast b n + 1 ∧ s' = ((1 : Int), V) ∧ i ≤ tlast b n ∧ TFr S V ∧ V.1 3 7 = (i : Int) ∧ V.1 3 10 = (tst b n i : Int) ∧ TRow V b n i) ∨ (∃ V, m = 0 ∧ s' = ((0 : Int), V) ∧ TFr S V ∧ V.1 3 7 = ((tlast b n + 1 : Nat) : Int) ∧ TRow V b n (tlast b n + 1)))) (fun V => TFr S V ∧ V.1 3 7 = ((tlast b n + 1 : Nat) : Int) ∧ TRow V b n (tlast b n + 1)) r) := by
      unfold F_X6_splitTokens_70
      have k7 : zup V.1 3 10 (tat b n i : Int) 3 7 = (i : Int) := by rw [zup_k (by decide)]; exact v2
      simp only [k7, zup_s, Int.toNat_natCast]
      refine zp_pos (by omega) (zp_lt.mpr (zp_bind.mpr ?_))
      have hk := lp_kind8 (S := (zup V.1 3 10 (tat b n i : Int), zuA V.2 3 6 (zset (V.2 3 6) i (tat b n i : Int)))) (b := b) (n := n) (A := tat b n i) (j := i) ⟨h.1, (hC _).2.1, fun k hk => by dsimp only; rw [zuA_o (by decide)]; exact (hC 0).2.2 k hk⟩ (by dsimp only; rw [zup_s]) htb (by dsimp only; exact k7) (by omega)
      refine zp_mono hk fun v hv => ?_
      obtain ⟨w1, w2, w3, w4, w5⟩ := hv
      dsimp only at w2 w3 w4
      simp only [k7, Int.toNat_natCast, zuA_s, zset_s, w1]
      have g7 : v.2.1 3 7 = (i : Int) := by rw [w2, zup_k (by decide)]; exact k7
      have f0 : zadd (i : Int) 1 = ((i + 1 : Nat) : Int) := by rw [zadd_ok (by omega) (by omega)]; rfl
      have hfr : ∀ X : Int, TFr S (zup v.2.1 3 7 X, zuA v.2.2 3 5 (zset (v.2.2 3 5) i (tck (tkd b n (tat b n i)) : Int))) := by
        intro X
        refine ⟨fun r hr => ?_, fun r hr => ?_, fun c h1 h2 => ?_, fun o h1 h2 h3 => ?_⟩
        · (try dsimp only)
          rw [zup_R hr, w2, zup_R hr, zup_R hr]
          exact f1 r hr
        · (try dsimp only)
          rw [zuA_R hr]
          funext o
          rw [w3 r o (Or.inl hr)]
          show zuA V.2 3 6 _ r o = _
          rw [zuA_R hr, f2 r hr]
        · (try dsimp only)
          rw [zup_k h1, w2, zup_k h2, zup_k h2]
          exact f3 c h1 h2
        · (try dsimp only)
          rw [zuA_o h1, w3 3 o (Or.inr h3)]
          show zuA V.2 3 6 _ 3 o = _
          rw [zuA_o h2]
          exact f4 o h1 h2 h3
      have hrow : ∀ X : Int, TRow (zup v.2.1 3 7 X, zuA v.2.2 3 5 (zset (v.2.2 3 5) i (tck (tkd b n (tat b n i)) : Int))) b n (i + 1) := by
        intro X k hk
        (try dsimp only)
        rw [zuA_s, zuA_o (by decide), zuA_o (by decide), w3 3 6 (Or.inr (by decide))]
        show zset (v.2.2 3 5) i _ k = _ ∧ zuA V.2 3 6 _ 3 6 k = _ ∧ _
        rw [zuA_s, zset_ap, zset_ap]
        by_cases e : k = i
        · subst e
          rw [if_pos rfl, if_pos rfl]
          exact ⟨rfl, rfl, w5⟩
        · rw [if_neg e, if_neg e, w3 3 5 (Or.inr (by decide)), w4 k e]
          show zuA V.2 3 6 _ 3 5 k = _ ∧ _ ∧ (_ → zuA V.2 3 6 _ 3 7 k = _)
          rw [zuA_o (by decide), zuA_o (by decide)]
          exact v4 k (by omega)
      have h13 := tkd_13 (b := b) (n := n) (tat b n i)
      refine zp_pos (by omega) (zp_lt.mpr ?_)
      simp only [g7, zuA_s, zset_s, Int.toNat_natCast]
      refine zp_pos (by omega) ?_
      have hlast : i = tlast b n → zp (F_X6_splitTokens_125 (v.2.1, zuA v.2.2 3 5 (zset (v.2.2 3 5) i (tck (tkd b n (tat b n i)) : Int)))) (fun r => zor2 (fun s' => ∃ m, m < d ∧ ((∃ i V, m + i = tlast b n + 1 ∧ s' = ((1 : Int), V) ∧ i ≤ tlast b n ∧ TFr S V ∧ V.1 3 7 = (i : Int) ∧ V.1 3 10 = (tst b n i : Int) ∧ TRow V b n i) ∨ (∃ V, m = 0 ∧ s' = ((0 : Int), V) ∧ TFr S V ∧ V.1 3 7 = ((tlast b n + 1 : Nat) : Int) ∧ TRow V b n (tlast b n + 1)))) (fun V => TFr S V ∧ V.1 3 7 = ((tlast b n + 1 : Nat) : Int) ∧ TRow V b n (tlast b n + 1)) r) := by
        intro e
        unfold F_X6_splitTokens_125
        refine zp_lt.mpr (zp_some.mpr (zor2_l.mpr ⟨0, by omega, Or.inr ⟨_, rfl, rfl, hfr _, ?_, ?_⟩⟩))
        · (try dsimp only)
          rw [zup_s, g7, f0, e]
        · rw [← e]
          exact hrow _
      refine zp_if (fun c => hlast ?_) (fun c => zp_if (fun c2 => hlast ?_) (fun c2 => ?_))
      · rcases Nat.lt_or_ge i (tlast b n) with z | z
        · have := l3 i z
          exact absurd (tck_0 (by omega)) this.1
        · omega
      · rcases Nat.lt_or_ge i (tlast b n) with z | z
        · have := l3 i z
          exact absurd (tck_1 (by omega)) this.2
        · omega
      · have hil : i < tlast b n := by
          rcases Nat.lt_or_ge i (tlast b n) with z | z
          · exact z
          · have : i = tlast b n := by omega
            rw [← this] at l2
            rcases l2 with y | y
            · rw [y] at c; exact absurd rfl c
            · rw [y] at c2; exact absurd rfl c2
        refine zp_lt.mpr (zp_some.mpr (zor2_l.mpr ⟨d - 1, by omega, Or.inl ⟨i + 1, _, by omega, rfl, by omega, hfr _, ?_, ?_, hrow _⟩⟩))
        · (try dsimp only)
          rw [zup_s, f0]
        · (try dsimp only)
          rw [zup_k (by decide), w2, zup_s]
          rfl
    unfold F_X6_splitTokens_31
    obtain ⟨cn, hcnd⟩ : ∃ cn, fnd (fun d => decide (b (tst b n i + d) ≠ 10 ∧ b (tst b n i + d) ≠ 32)) (n - tst b n i) = cn := ⟨_, rfl⟩
    rw [hcnd] at hts hcn
    refine zp_w (fun e st => ∃ k, e + k = cn ∧ st = (zup V.1 3 10 ((tst b n i + k : Nat) : Int), V.2)) (fun e st hst => ?_) cn _ ⟨0, by omega, by rw [Nat.add_zero, ← v3, zup_self]⟩
    obtain ⟨k, hek, rfl⟩ := hst
    have k9 : zup V.1 3 10 ((tst b n i + k : Nat) : Int) 3 9 = (n : Int) := (hC ((tst b n i + k : Nat) : Int)).2.1
    have hend : k = cn → zp (zjn (σ := ZS) (F_X6_splitTokens_70 (zup V.1 3 10 ((tst b n i + k : Nat) : Int), V.2))) (zor2 (fun s' => ∃ m, m < e ∧ ∃ k, m + k = cn ∧ s' = (zup V.1 3 10 ((tst b n i + k : Nat) : Int), V.2)) (fun r => zor2 (fun s' => ∃ m, m < d ∧ ((∃ i V, m + i = tlast b n + 1 ∧ s' = ((1 : Int), V) ∧ i ≤ tlast b n ∧ TFr S V ∧ V.1 3 7 = (i : Int) ∧ V.1 3 10 = (tst b n i : Int) ∧ TRow V b n i) ∨ (∃ V, m = 0 ∧ s' = ((0 : Int), V) ∧ TFr S V ∧ V.1 3 7 = ((tlast b n + 1 : Nat) : Int) ∧ TRow V b n (tlast b n + 1)))) (fun V => TFr S V ∧ V.1 3 7 = ((tlast b n + 1 : Nat) : Int) ∧ TRow V b n (tlast b n + 1)) r)) := by
      intro hk
      rw [zp_in, hk, ← hts]
      exact zp_mono h70 fun r hr => zor2_r.mpr hr
    simp only [zup_s, k9, Int.toNat_natCast]
    refine zp_if (fun c => zp_pos (by omega) (zp_bind.mpr ?_)) (fun c => hend (by omega))
    have hb := CT_l (hC 0) (show tst b n i + k < n by omega)
    dsimp only at hb
    rw [lp_isB, zp_some]
    by_cases c1 : b (tst b n i + k) ≠ 10 ∧ b (tst b n i + k) ≠ 32
    · have hbl : (if V.2 3 1 (tst b n i + k) ≠ 10 ∧ V.2 3 1 (tst b n i + k) ≠ 32 then (0 : Int) else 1) = 0 := if_pos ⟨fun z => c1.1 (hb.2.2.2.1.mp z), fun z => c1.2 (hb.2.2.2.2.1.mp z)⟩
      refine zp_pos hbl (hend ?_)
      rcases Nat.lt_or_ge k cn with z | z
      · have := of_decide_eq_false (fnd_no (p := fun d => decide (b (tst b n i + d) ≠ 10 ∧ b (tst b n i + d) ≠ 32)) (n := n - tst b n i) (k := k) (by omega))
        exact absurd c1 this
      · omega
    · have hbl : (if V.2 3 1 (tst b n i + k) ≠ 10 ∧ V.2 3 1 (tst b n i + k) ≠ 32 then (0 : Int) else 1) = 1 := if_neg (fun z => c1 ⟨fun y => z.1 (hb.2.2.2.1.mpr y), fun y => z.2 (hb.2.2.2.2.1.mpr y)⟩)
      have hlt : k < cn := by
        rcases Nat.lt_or_ge k cn with z | z
        · exact z
        · have hkc : k = cn := by omega
          have := of_decide_eq_true (fnd_yes (p := fun d => decide (b (tst b n i + d) ≠ 10 ∧ b (tst b n i + d) ≠ 32)) (n := n - tst b n i) (by omega))
          rw [hcnd, ← hkc] at this
          exact absurd this c1
      refine zp_neg (by rw [hbl]; decide) (zp_lt.mpr (zp_some.mpr (zor2_l.mpr ⟨e - 1, by omega, k + 1, by omega, ?_⟩)))
      rw [zup_up, zadd_ok (by omega) (by omega)]
      rfl
end TOKS
section TOKR
variable {R : ZS} {b : Nat → Int} {n A B len q : Nat}
def tws (q : Nat) : Nat := [0, 3, 2, 1, 4, 5, 6, 7, 8].getD q 0
def tks (q : Nat) : Nat := [1, 5, 12, 18, 22, 27, 32, 37, 42, 47].getD q 0
theorem tks_ok : ∀ q : Nat, q < 9 → tws q < 9 ∧ tks q + (zstr (tws q)).length + 1 = tks (q + 1) ∧ tks (q + 1) ≤ 47 ∧ (zstr 9).getD (tks q + (zstr (tws q)).length) 0 = 32 ∧ ∀ i, i < 6 → i < (zstr (tws q)).length → (zstr 9).getD (tks q + i) 0 = (zstr (tws q)).getD i 0 := by decide +kernel
def RTape (R : ZS) (b : Nat → Int) (n : Nat) : Prop := n ≤ 400 ∧ R.1 1 13 = (n : Int) ∧ ∀ k, k < n → (0 ≤ b k ∧ b k < 256) ∧ R.2 1 2 k = b k
theorem lp_key1 (h : RTape R b n) (h11 : R.1 1 11 = (A : Int)) (h12 : R.1 1 12 = ((A + len : Nat) : Int)) (hn : A + len ≤ n) (hq : q < 9) :
    F_X12_keyAt_15 (q : Int) (tks q : Int) 0 R = some (if tmt b (zstr (tws q)) A len then .inr (q : Int) else .inl (((q + 1 : Nat) : Int), (tks (q + 1) : Int))) := by
  obtain ⟨k1, k2, k3, k4, k5⟩ := tks_ok q hq
  obtain ⟨w1, w2, w3⟩ := zstr_w (tws q) k1
  have h0 := h.1
  have h47 : ((zstr 9).length : Int) = 47 := rfl
  obtain ⟨l, hl⟩ : ∃ l, (zstr (tws q)).length = l := ⟨_, rfl⟩
  rw [hl] at k2 k4 k5 w1 w2 w3
  have h97 : F_X12_keyAt_97 (q : Int) (tks q : Int) R = some (.inl (((q + 1 : Nat) : Int), (tks (q + 1) : Int))) := by
    unfold F_X12_keyAt_97
    rw [h47]
    refine zw_for (fun j => ((tks q + j : Nat) : Int)) l (by rw [Nat.add_zero]) (fun j hj => ?_) ?_
    · have := w3 j hj
      have := k5 j (by omega) hj
      (try dsimp only)
      rw [if_pos (by omega), Int.toNat_natCast, if_neg (by omega), zadd_ok (by omega) (by omega)]
      rfl
    · (try dsimp only)
      rw [if_pos (by omega), Int.toNat_natCast, if_pos k4, zadd_ok (by omega) (by omega), zadd_ok (by omega) (by omega)]
      have : ((tks q + l : Nat) : Int) + 1 = (tks (q + 1) : Int) := by omega
      rw [this]
      rfl
  obtain ⟨z, hz⟩ : ∃ z, fnd (fun i => decide (¬(i < len ∧ b (A + i) = (zstr (tws q)).getD i 0))) l = z := ⟨_, rfl⟩
  have hzl := fnd_le (fun i => decide (¬(i < len ∧ b (A + i) = (zstr (tws q)).getD i 0))) l
  rw [hz] at hzl
  have hno : ∀ i, i < z → i < len ∧ b (A + i) = (zstr (tws q)).getD i 0 := fun i hi => Decidable.not_not.mp (of_decide_eq_false (fnd_no (p := fun i => decide (¬(i < len ∧ b (A + i) = (zstr (tws q)).getD i 0))) (n := l) (k := i) (by omega)))
  have hmt : tmt b (zstr (tws q)) A len ↔ z = l ∧ l = len := by
    unfold tmt tms
    rw [hl]
    constructor
    · rintro ⟨y1, y2⟩
      refine ⟨?_, y1.symm⟩
      rw [← hz]
      refine fnd_none fun i hi => decide_eq_false fun y => y ⟨by omega, ?_⟩
      have := of_decide_eq_false (fnd_no (p := fun i => decide (b (A + i) ≠ (zstr (tws q)).getD i 0)) (n := l) (k := i) (by omega))
      exact Decidable.not_not.mp this
    · rintro ⟨y1, y2⟩
      refine ⟨y2.symm, fnd_none fun i hi => decide_eq_false fun y => y (hno i (by omega)).2⟩
  have h69 : F_X12_keyAt_69 (q : Int) (tks q : Int) (z : Int) R = some (if tmt b (zstr (tws q)) A len then .inr (q : Int) else .inl (((q + 1 : Nat) : Int), (tks (q + 1) : Int))) := by
    unfold F_X12_keyAt_69
    rw [zadd_ok (by omega) (by omega), h47, if_pos (by omega), show ((tks q : Int) + (z : Int)).toNat = tks q + z by omega, h11, h12, zadd_ok (by omega) (by omega), h97]
    by_cases c : z = l
    · rw [c, if_pos k4]
      by_cases d : l = len
      · rw [if_pos (by omega), if_pos (hmt.mpr ⟨c, d⟩)]
      · rw [if_neg (by omega), if_neg (fun y => d (hmt.mp y).2)]
    · have := w3 z (by omega)
      have := k5 z (by omega) (by omega)
      rw [if_neg (by omega), if_neg (fun y => c (hmt.mp y).1)]
  unfold F_X12_keyAt_15
  rw [h47]
  refine zw_for (fun j => (j : Int)) z rfl (fun j hj => ?_) ?_
  · have hn1 := hno j hj
    have := w3 j (by omega)
    have e5 := k5 j (by omega) (by omega)
    have eb := (h.2.2 (A + j) (by omega)).2
    (try dsimp only)
    rw [zadd_ok (x := (tks q : Int)) (by omega) (by omega), if_pos (by omega), show ((tks q : Int) + (j : Int)).toNat = tks q + j by omega, if_neg (by omega), h11, h12, zadd_ok (by omega) (by omega), if_pos (by omega), if_pos (by omega), show ((A : Int) + (j : Int)).toNat = A + j by omega, eb, e5, if_pos hn1.2, zadd_ok (by omega) (by omega)]
    rfl
  · have hz69 : zjn (σ := Int) (F_X12_keyAt_69 (q : Int) (tks q : Int) (z : Int) R) = some (.inr (if tmt b (zstr (tws q)) A len then .inr (q : Int) else .inl (((q + 1 : Nat) : Int), (tks (q + 1) : Int)))) := by
      rw [h69]
      rfl
    (try dsimp only)
    rw [zadd_ok (x := (tks q : Int)) (by omega) (by omega), if_pos (by omega), show ((tks q : Int) + (z : Int)).toNat = tks q + z by omega]
    by_cases c : z = l
    · rw [if_pos (by rw [c]; exact k4)]
      exact hz69
    · have := w3 z (by omega)
      have e5 := k5 z (by omega) (by omega)
      rw [if_neg (by omega), h11, h12, zadd_ok (by omega) (by omega)]
      by_cases d : z < len
      · have eb := (h.2.2 (A + z) (by omega)).2
        have hy := of_decide_eq_true (fnd_yes (p := fun i => decide (¬(i < len ∧ b (A + i) = (zstr (tws q)).getD i 0))) (n := l) (by omega))
        rw [hz] at hy
        rw [if_pos (by omega), if_pos (by omega), show ((A : Int) + (z : Int)).toNat = A + z by omega, eb, e5, if_neg (fun y => hy ⟨d, y⟩)]
        exact hz69
      · rw [if_neg (by omega)]
        exact hz69
theorem tky_fnd {b : Nat → Int} {A len : Nat} : fnd (fun q => decide (tmt b (zstr (tws q)) A len)) 9 = tky b A len := by
  have key : ∀ q, q < 9 → tmt b (zstr (tws q)) A len → (∀ i, i < q → ¬ tmt b (zstr (tws i)) A len) → fnd (fun q => decide (tmt b (zstr (tws q)) A len)) 9 = q := fun q hq h1 h2 => fnd_eq hq (decide_eq_true h1) (fun i hi => decide_eq_false (h2 i hi))
  unfold tky
  by_cases c0 : tmt b (zstr 0) A len
  · rw [if_pos c0]; exact key 0 (by decide) c0 (fun i hi => by omega)
  rw [if_neg c0]
  by_cases c1 : tmt b (zstr 3) A len
  · rw [if_pos c1]; exact key 1 (by decide) c1 (fun i hi => by rcases (show i = 0 by omega) with rfl; exact c0)
  rw [if_neg c1]
  by_cases c2 : tmt b (zstr 2) A len
  · rw [if_pos c2]; exact key 2 (by decide) c2 (fun i hi => by rcases (show i = 0 ∨ i = 1 by omega) with rfl | rfl <;> first | exact c0 | exact c1)
  rw [if_neg c2]
  by_cases c3 : tmt b (zstr 1) A len
  · rw [if_pos c3]; exact key 3 (by decide) c3 (fun i hi => by rcases (show i = 0 ∨ i = 1 ∨ i = 2 by omega) with rfl | rfl | rfl <;> first | exact c0 | exact c1 | exact c2)
  rw [if_neg c3]
  by_cases c4 : tmt b (zstr 4) A len
  · rw [if_pos c4]; exact key 4 (by decide) c4 (fun i hi => by rcases (show i = 0 ∨ i = 1 ∨ i = 2 ∨ i = 3 by omega) with rfl | rfl | rfl | rfl <;> first | exact c0 | exact c1 | exact c2 | exact c3)
  rw [if_neg c4]
  by_cases c5 : tmt b (zstr 5) A len
  · rw [if_pos c5]; exact key 5 (by decide) c5 (fun i hi => by rcases (show i = 0 ∨ i = 1 ∨ i = 2 ∨ i = 3 ∨ i = 4 by omega) with rfl | rfl | rfl | rfl | rfl <;> first | exact c0 | exact c1 | exact c2 | exact c3 | exact c4)
  rw [if_neg c5]
  by_cases c6 : tmt b (zstr 6) A len
  · rw [if_pos c6]; exact key 6 (by decide) c6 (fun i hi => by rcases (show i = 0 ∨ i = 1 ∨ i = 2 ∨ i = 3 ∨ i = 4 ∨ i = 5 by omega) with rfl | rfl | rfl | rfl | rfl | rfl <;> first | exact c0 | exact c1 | exact c2 | exact c3 | exact c4 | exact c5)
  rw [if_neg c6]
  by_cases c7 : tmt b (zstr 7) A len
  · rw [if_pos c7]; exact key 7 (by decide) c7 (fun i hi => by rcases (show i = 0 ∨ i = 1 ∨ i = 2 ∨ i = 3 ∨ i = 4 ∨ i = 5 ∨ i = 6 by omega) with rfl | rfl | rfl | rfl | rfl | rfl | rfl <;> first | exact c0 | exact c1 | exact c2 | exact c3 | exact c4 | exact c5 | exact c6)
  rw [if_neg c7]
  by_cases c8 : tmt b (zstr 8) A len
  · rw [if_pos c8]; exact key 8 (by decide) c8 (fun i hi => by rcases (show i = 0 ∨ i = 1 ∨ i = 2 ∨ i = 3 ∨ i = 4 ∨ i = 5 ∨ i = 6 ∨ i = 7 by omega) with rfl | rfl | rfl | rfl | rfl | rfl | rfl | rfl <;> first | exact c0 | exact c1 | exact c2 | exact c3 | exact c4 | exact c5 | exact c6 | exact c7)
  rw [if_neg c8]
  exact fnd_none fun i hi => decide_eq_false (by rcases (show i = 0 ∨ i = 1 ∨ i = 2 ∨ i = 3 ∨ i = 4 ∨ i = 5 ∨ i = 6 ∨ i = 7 ∨ i = 8 by omega) with rfl | rfl | rfl | rfl | rfl | rfl | rfl | rfl | rfl <;> first | exact c0 | exact c1 | exact c2 | exact c3 | exact c4 | exact c5 | exact c6 | exact c7 | exact c8)
theorem lp_key (h : RTape R b n) (h11 : R.1 1 11 = (A : Int)) (h12 : R.1 1 12 = ((A + len : Nat) : Int)) (hn : A + len ≤ n) : F_X12_keyAt R = some (tky b A len : Int) := by
  unfold F_X12_keyAt F_X12_keyAt_4
  have h47 : ((zstr 9).length : Int) = 47 := rfl
  rw [h47]
  refine (zw_fnd (fun q => decide (tmt b (zstr (tws q)) A len)) (fun q => ((q : Int), (tks q : Int))) 9 (fun q => (q : Int)) 9 rfl (fun q hq hp => ?_) (fun q hq hp => ?_) ?_).trans ?_
  rotate_left 3
  · rw [tky_fnd]
    have := tky_9 (b := b) A len
    congr 1
    split
    · rfl
    · omega
  · have hp := of_decide_eq_false hp
    have := (tks_ok q hq).2.1
    have := (tks_ok q hq).2.2.1
    (try dsimp only)
    rw [if_pos (by omega), lp_key1 h h11 h12 hn hq, if_neg hp]
  · have hp := of_decide_eq_true hp
    have := (tks_ok q hq).2.1
    have := (tks_ok q hq).2.2.1
    (try dsimp only)
    rw [if_pos (by omega), lp_key1 h h11 h12 hn hq, if_pos hp]
  · rfl
theorem lp_see (h : RTape R b n) {k : Nat} : F_X12_see (k : Int) R = some (if k < n then b k else -1) := by
  have h0 := h.1
  unfold F_X12_see
  rw [h.2.1]
  by_cases c : k < n
  · rw [if_pos (by omega), if_pos (by omega), if_pos c, Int.toNat_natCast, (h.2.2 k c).2]
  · rw [if_neg (by omega), if_neg c]
theorem lp_sm {x : Int} : F_X12_isSmall x R = some (if 97 ≤ x ∧ x ≤ 122 then 1 else 0) := by
  unfold F_X12_isSmall
  by_cases c : x < 97
  · rw [if_pos c, if_neg (by omega)]
  · rw [if_neg c]
    by_cases d : 122 < x
    · rw [if_pos d, if_neg (by omega)]
    · rw [if_neg d, if_pos (by omega)]
theorem lp_dg {x : Int} : F_X12_isDigit x R = some (if 48 ≤ x ∧ x ≤ 57 then 1 else 0) := by
  unfold F_X12_isDigit
  by_cases c : x < 48
  · rw [if_pos c, if_neg (by omega)]
  · rw [if_neg c]
    by_cases d : 57 < x
    · rw [if_pos d, if_neg (by omega)]
    · rw [if_neg d, if_pos (by omega)]
/-- the reference's cells of a token -/
def RTok (R V : ZS) (b : Nat → Int) (n A : Nat) : Prop := V.2 = R.2 ∧ (∀ r, r ≠ 1 → V.1 r = R.1 r) ∧ (∀ c, c ≠ 11 → c ≠ 12 → c ≠ 14 → c ≠ 15 → V.1 1 c = R.1 1 c) ∧ V.1 1 11 = (A : Int) ∧ V.1 1 12 = (tbh b n A : Int) ∧ V.1 1 14 = (tkd b n A : Int) ∧ (tkd b n A = 10 → V.1 1 15 = tnv b A (tdg b n A - A))
theorem lp_next146 (h : RTape R b n) (h11 : R.1 1 11 = (A : Int)) (h12 : R.1 1 12 = (A : Int)) (h15 : R.1 1 15 = 0) (hA : A < n) (hl : 48 ≤ b A ∧ b A ≤ 57) : zp (F_X12_next_146 R) (fun V => RTok R V b n A) := by
  have h0 := h.1
  have hw := tdg_b hA hl
  have hcn := fnd_le (fun d => decide (¬(48 ≤ b (A + d) ∧ b (A + d) ≤ 57))) (n - A)
  have hwe : tdg b n A = A + fnd (fun d => decide (¬(48 ≤ b (A + d) ∧ b (A + d) ≤ 57))) (n - A) := rfl
  obtain ⟨cn, hcnd⟩ : ∃ cn, fnd (fun d => decide (¬(48 ≤ b (A + d) ∧ b (A + d) ≤ 57))) (n - A) = cn := ⟨_, rfl⟩
  rw [hcnd] at hcn hwe
  have hbh : tbh b n A = A + cn := by
    unfold tbh
    rw [if_neg (by omega), if_neg (by omega), if_pos hl, hwe]
  have hkd : tkd b n A = if 3 < cn then 13 else 10 := by
    unfold tkd
    rw [if_neg (by omega), if_neg (by omega), if_pos hl, hwe, show A + cn - A = cn by omega]
  have hdig : ∀ d, d < cn → 48 ≤ b (A + d) ∧ b (A + d) ≤ 57 := fun d hd => by
    have := of_decide_eq_false (fnd_no (p := fun d => decide (¬(48 ≤ b (A + d) ∧ b (A + d) ≤ 57))) (n := n - A) (k := d) (by omega))
    omega
  unfold F_X12_next_146
  refine zp_w (fun e V => ∃ d, e + d = cn ∧ V.2 = R.2 ∧ (∀ r, r ≠ 1 → V.1 r = R.1 r) ∧ (∀ c, c ≠ 12 → c ≠ 15 → V.1 1 c = R.1 1 c) ∧ V.1 1 12 = ((A + d : Nat) : Int) ∧ V.1 1 15 = tnv b A (min d 3)) (fun e V hst => ?_) cn _ ⟨0, by omega, rfl, fun r _ => rfl, fun c _ _ => rfl, h12, h15⟩
  obtain ⟨d, hed, v1, v2, v3, v4, v5⟩ := hst
  have hV : RTape V b n := ⟨h.1, by rw [v3 13 (by decide) (by decide)]; exact h.2.1, fun k hk => by rw [v1]; exact h.2.2 k hk⟩
  have k11 : V.1 1 11 = (A : Int) := by rw [v3 11 (by decide) (by decide)]; exact h11
  have hz : zsub ((A + d : Nat) : Int) (A : Int) = (d : Int) := by rw [zsub_ok (by omega) (by omega)]; omega
  simp only [v4, k11, hz]
  rw [zp_bind, lp_see hV, zp_some, zp_bind, lp_dg, zp_some]
  rcases Nat.lt_or_ge d cn with hd | hd
  · have hb := hdig d hd
    rw [if_pos (show A + d < n by omega), if_pos hb]
    have f1 : zadd ((A + d : Nat) : Int) 1 = ((A + (d + 1) : Nat) : Int) := by rw [zadd_ok (by omega) (by omega)]; omega
    refine zp_neg (by decide) (zp_if (fun c => zp_bind.mpr ?_) (fun c => zp_lt.mpr (zp_some.mpr (zor2_l.mpr ⟨e - 1, by omega, d + 1, by omega, v1, fun r hr => by dsimp only; rw [zup_R hr]; exact v2 r hr, fun c h1 h2 => by dsimp only; rw [zup_k h1]; exact v3 c h1 h2, by dsimp only; rw [zup_s, f1], ?_⟩))))
    · rw [zp_some]
      refine zp_lt.mpr (zp_lt.mpr (zp_some.mpr (zor2_l.mpr ⟨e - 1, by omega, d + 1, by omega, v1, fun r hr => by dsimp only; rw [zup_R hr, zup_R hr]; exact v2 r hr, fun c h1 h2 => by dsimp only; rw [zup_k h1, zup_k h2]; exact v3 c h1 h2, ?_, ?_⟩)))
      · (try dsimp only)
        rw [zup_s, zup_k (by decide), v4, f1]
      · have h2 := tnv_b (b := b) (a := A) d (by omega) (fun d' hd' => hdig d' (by omega))
        have h3 : d = 0 ∨ d = 1 ∨ d = 2 := by omega
        have hmin : min d 3 = d := by omega
        have hmin2 : min (d + 1) 3 = d + 1 := by omega
        (try dsimp only)
        rw [zup_k (by decide), zup_s, v5, hmin, hmin2]
        show _ = 10 * tnv b A d + (b (A + d) - 48)
        have h4 : 0 ≤ tnv b A d ∧ tnv b A d ≤ 999 := by rcases h3 with rfl | rfl | rfl <;> simp at h2 <;> omega
        rw [zmul_ok (by omega) (by omega), zadd_ok (by omega) (by omega), zsub_ok (by omega) (by omega)]
        omega
    · (try dsimp only)
      rw [zup_k (by decide), v5, show min (d + 1) 3 = min d 3 by omega]
  · have hde : d = cn := by omega
    have hn : ¬(48 ≤ (if A + d < n then b (A + d) else -1) ∧ (if A + d < n then b (A + d) else -1) ≤ 57) := by
      by_cases c : A + d < n
      · rw [if_pos c]
        have := of_decide_eq_true (fnd_yes (p := fun d => decide (¬(48 ≤ b (A + d) ∧ b (A + d) ≤ 57))) (n := n - A) (by omega))
        rw [hcnd, ← hde] at this
        exact this
      · rw [if_neg c]; omega
    rw [if_neg hn]
    refine zp_pos rfl (zp_if (fun c => zp_lt.mpr (zp_some.mpr (zor2_r.mpr ⟨v1, fun r hr => by dsimp only; rw [zup_R hr]; exact v2 r hr, fun c h1 h2 h3 h4 => by dsimp only; rw [zup_k h3]; exact v3 c h2 h4, by dsimp only; rw [zup_k (by decide)]; exact k11, by dsimp only; rw [zup_k (by decide), hbh, v4, hde], ?_, fun z => ?_⟩)))
      (fun c => zp_lt.mpr (zp_some.mpr (zor2_r.mpr ⟨v1, fun r hr => by dsimp only; rw [zup_R hr]; exact v2 r hr, fun c h1 h2 h3 h4 => by dsimp only; rw [zup_k h3]; exact v3 c h2 h4, by dsimp only; rw [zup_k (by decide)]; exact k11, by dsimp only; rw [zup_k (by decide), hbh, v4, hde], ?_, fun z => ?_⟩))))
    · (try dsimp only)
      rw [zup_s, hkd, if_pos (by omega)]
      rfl
    · rw [hkd, if_pos (by omega)] at z
      omega
    · (try dsimp only)
      rw [zup_s, hkd, if_neg (by omega)]
      rfl
    · (try dsimp only)
      rw [zup_k (by decide), v5, hwe, show A + cn - A = cn by omega, hde, show min cn 3 = cn by omega]
theorem lp_next89 (h : RTape R b n) (h11 : R.1 1 11 = (A : Int)) (h12 : R.1 1 12 = (A : Int)) (hA : A < n) (hl : 97 ≤ b A ∧ b A ≤ 122) : zp (F_X12_next_89 R) (fun V => RTok R V b n A) := by
  have h0 := h.1
  have hw := twd_b hA hl
  have hcn := fnd_le (fun d => decide (¬(97 ≤ b (A + d) ∧ b (A + d) ≤ 122))) (n - A)
  have hwe : twd b n A = A + fnd (fun d => decide (¬(97 ≤ b (A + d) ∧ b (A + d) ≤ 122))) (n - A) := rfl
  obtain ⟨cn, hcnd⟩ : ∃ cn, fnd (fun d => decide (¬(97 ≤ b (A + d) ∧ b (A + d) ≤ 122))) (n - A) = cn := ⟨_, rfl⟩
  rw [hcnd] at hcn hwe
  have hbh : tbh b n A = A + cn := by
    unfold tbh
    rw [if_neg (by omega), if_pos hl, hwe]
  have hkd : tkd b n A = tky b A cn := by
    unfold tkd
    rw [if_neg (by omega), if_pos hl, hwe, show A + cn - A = cn by omega]
  have hdig : ∀ d, d < cn → 97 ≤ b (A + d) ∧ b (A + d) ≤ 122 := fun d hd => by
    have := of_decide_eq_false (fnd_no (p := fun d => decide (¬(97 ≤ b (A + d) ∧ b (A + d) ≤ 122))) (n := n - A) (k := d) (by omega))
    omega
  unfold F_X12_next_89
  refine zp_w (fun e V => ∃ d, e + d = cn ∧ V.2 = R.2 ∧ (∀ r, r ≠ 1 → V.1 r = R.1 r) ∧ (∀ c, c ≠ 12 → V.1 1 c = R.1 1 c) ∧ V.1 1 12 = ((A + d : Nat) : Int)) (fun e V hst => ?_) cn _ ⟨0, by omega, rfl, fun r _ => rfl, fun c _ => rfl, h12⟩
  obtain ⟨d, hed, v1, v2, v3, v4⟩ := hst
  have hV : RTape V b n := ⟨h.1, by rw [v3 13 (by decide)]; exact h.2.1, fun k hk => by rw [v1]; exact h.2.2 k hk⟩
  have k11 : V.1 1 11 = (A : Int) := by rw [v3 11 (by decide)]; exact h11
  simp only [v4]
  rw [zp_bind, lp_see hV, zp_some, zp_bind, lp_sm, zp_some]
  rcases Nat.lt_or_ge d cn with hd | hd
  · have hb := hdig d hd
    rw [if_pos (show A + d < n by omega), if_pos hb]
    refine zp_neg (by decide) (zp_lt.mpr (zp_some.mpr (zor2_l.mpr ⟨e - 1, by omega, d + 1, by omega, v1, fun r hr => by dsimp only; rw [zup_R hr]; exact v2 r hr, fun c h1 => by dsimp only; rw [zup_k h1]; exact v3 c h1, ?_⟩)))
    (try dsimp only)
    rw [zup_s, zadd_ok (by omega) (by omega)]
    omega
  · have hde : d = cn := by omega
    have hn : ¬(97 ≤ (if A + d < n then b (A + d) else -1) ∧ (if A + d < n then b (A + d) else -1) ≤ 122) := by
      by_cases c : A + d < n
      · rw [if_pos c]
        have := of_decide_eq_true (fnd_yes (p := fun d => decide (¬(97 ≤ b (A + d) ∧ b (A + d) ≤ 122))) (n := n - A) (by omega))
        rw [hcnd, ← hde] at this
        exact this
      · rw [if_neg c]; omega
    rw [if_neg hn]
    refine zp_pos rfl (zp_bind.mpr ?_)
    rw [zp_eq (lp_key (len := d) hV k11 v4 (by omega))]
    have h9 := tky_9 (b := b) A cn
    refine zp_lt.mpr (zp_some.mpr (zor2_r.mpr ⟨v1, fun r hr => by dsimp only; rw [zup_R hr]; exact v2 r hr, fun c h1 h2 h3 h4 => by dsimp only; rw [zup_k h3]; exact v3 c h2, by dsimp only; rw [zup_k (by decide)]; exact k11, by dsimp only; rw [zup_k (by decide), hbh, v4, hde], by dsimp only; rw [zup_s, hkd, hde], fun z => ?_⟩))
    rw [hkd] at z
    omega
theorem lp_next12 (h : RTape R b n) (h12 : R.1 1 12 = (B : Int)) (hB : B ≤ n) : zp (F_X12_next R) (fun V => RTok R V b n (tsk b n B)) := by
  have h0 := h.1
  have hs := tsk_b (b := b) hB
  have hcn := fnd_le (fun d => decide (b (B + d) ≠ 10 ∧ b (B + d) ≠ 32)) (n - B)
  have hwe : tsk b n B = B + fnd (fun d => decide (b (B + d) ≠ 10 ∧ b (B + d) ≠ 32)) (n - B) := rfl
  obtain ⟨cn, hcnd⟩ : ∃ cn, fnd (fun d => decide (b (B + d) ≠ 10 ∧ b (B + d) ≠ 32)) (n - B) = cn := ⟨_, rfl⟩
  rw [hcnd] at hcn hwe
  rw [hwe]
  unfold F_X12_next F_X12_next_8
  refine zp_lt.mpr ?_
  rw [h12]
  refine zp_w (fun e V => ∃ d, e + d = cn ∧ V = (zup R.1 1 11 ((B + d : Nat) : Int), R.2)) (fun e V hst => ?_) cn _ ⟨0, by omega, rfl⟩
  obtain ⟨d, hed, rfl⟩ := hst
  have hV : ∀ x : Int, RTape (zup R.1 1 11 x, R.2) b n := fun x => ⟨h.1, by dsimp only; rw [zup_k (by decide)]; exact h.2.1, h.2.2⟩
  have f1 : zadd ((B + d : Nat) : Int) 1 = ((B + (d + 1) : Nat) : Int) := by rw [zadd_ok (by omega) (by omega)]; omega
  simp only [zup_s]
  rw [zp_bind, lp_see (hV _), zp_some]
  have hgo : d < cn → zp (zlt (zup (zup R.1 1 11 ((B + d : Nat) : Int)) 1 11 (zadd ((B + d : Nat) : Int) 1), R.2) fun S20 => (some (.inl S20) : Option (ZS ⊕ ZS))) (zor2 (fun s' => ∃ m, m < e ∧ ∃ d, m + d = cn ∧ s' = (zup R.1 1 11 ((B + d : Nat) : Int), R.2)) (fun V => RTok R V b n (B + cn))) := by
    intro hd
    refine zp_lt.mpr (zp_some.mpr (zor2_l.mpr ⟨e - 1, by omega, d + 1, by omega, ?_⟩))
    rw [zup_up, f1]
  rcases Nat.lt_or_ge d cn with hd | hd
  · have hb := of_decide_eq_false (fnd_no (p := fun d => decide (b (B + d) ≠ 10 ∧ b (B + d) ≠ 32)) (n := n - B) (k := d) (by omega))
    rw [if_pos (show B + d < n by omega)]
    refine zp_if (fun c => hgo hd) (fun c => ?_)
    rw [zp_bind, zp_some]
    exact zp_pos (Decidable.not_not.mp (fun y => hb ⟨c, y⟩)) (hgo hd)
  · have hde : d = cn := by omega
    have hnb : (if B + d < n then b (B + d) else -1) ≠ 10 ∧ (if B + d < n then b (B + d) else -1) ≠ 32 := by
      by_cases c : B + d < n
      · rw [if_pos c]
        have := of_decide_eq_true (fnd_yes (p := fun d => decide (b (B + d) ≠ 10 ∧ b (B + d) ≠ 32)) (n := n - B) (by omega))
        rw [hcnd, ← hde] at this
        exact this
      · rw [if_neg c]; omega
    refine zp_neg hnb.1 ?_
    rw [zp_bind, zp_some]
    refine zp_neg hnb.2 (zp_lt.mpr ?_)
    obtain ⟨A, hAd⟩ : ∃ A, B + d = A := ⟨_, rfl⟩
    rw [← hde]
    simp only [hAd]
    have hX : RTape (zup (zup R.1 1 11 (A : Int)) 1 12 (A : Int), R.2) b n := ⟨h.1, by dsimp only; rw [zup_k (by decide), zup_k (by decide)]; exact h.2.1, h.2.2⟩
    have x11 : zup (zup R.1 1 11 (A : Int)) 1 12 (A : Int) 1 11 = (A : Int) := by rw [zup_k (by decide), zup_s]
    have x13 : zup (zup R.1 1 11 (A : Int)) 1 12 (A : Int) 1 13 = (n : Int) := hX.2.1
    have hfr : ∀ (V : ZS) (y : Int → Nat → Nat → Int), True := fun _ _ => trivial
    simp only [x11, x13]
    refine zp_if (fun c => ?_) (fun c => ?_)
    · have hA : A < n := by omega
      rw [zp_bind, lp_see hX, zp_some, if_pos hA, zp_bind, lp_sm, zp_some]
      by_cases c1 : 97 ≤ b A ∧ b A ≤ 122
      · rw [if_pos c1]
        refine zp_neg (by decide) (zp_in.mpr (zp_mono (lp_next89 hX x11 (by dsimp only; rw [zup_s]) hA c1) fun V hV => zor2_r.mpr ?_))
        obtain ⟨a1, a2, a3, a4, a5, a6, a7⟩ := hV
        refine ⟨a1, fun r hr => ?_, fun c h1 h2 h3 h4 => ?_, a4, a5, a6, a7⟩
        · rw [a2 r hr]; dsimp only; rw [zup_R hr, zup_R hr]
        · rw [a3 c h1 h2 h3 h4]; dsimp only; rw [zup_k h2, zup_k h1]
      · rw [if_neg c1]
        refine zp_pos rfl ?_
        rw [zp_bind, zp_some, zp_bind, lp_dg, zp_some]
        by_cases c2 : 48 ≤ b A ∧ b A ≤ 57
        · rw [if_pos c2]
          refine zp_neg (by decide) (zp_lt.mpr (zp_in.mpr ?_))
          have hY : RTape (zup (zup (zup R.1 1 11 (A : Int)) 1 12 (A : Int)) 1 15 0, R.2) b n := ⟨h.1, by dsimp only; rw [zup_k (by decide)]; exact x13, h.2.2⟩
          refine zp_mono (lp_next146 hY (by dsimp only; rw [zup_k (by decide)]; exact x11) (by dsimp only; rw [zup_k (by decide), zup_s]) (by dsimp only; rw [zup_s]) hA c2) fun V hV => zor2_r.mpr ?_
          obtain ⟨a1, a2, a3, a4, a5, a6, a7⟩ := hV
          refine ⟨a1, fun r hr => ?_, fun c h1 h2 h3 h4 => ?_, a4, a5, a6, a7⟩
          · rw [a2 r hr]; dsimp only; rw [zup_R hr, zup_R hr, zup_R hr]
          · rw [a3 c h1 h2 h3 h4]; dsimp only; rw [zup_k h4, zup_k h2, zup_k h1]
        · rw [if_neg c2]
          have f2 : zadd (zup (zup R.1 1 11 (A : Int)) 1 12 (A : Int) 1 12) 1 = ((A + 1 : Nat) : Int) := by rw [zup_s, zadd_ok (by omega) (by omega)]; rfl
          refine zp_pos rfl (zp_lt.mpr ?_)
          rw [f2]
          have y11 : zup (zup (zup R.1 1 11 (A : Int)) 1 12 (A : Int)) 1 12 ((A + 1 : Nat) : Int) 1 11 = (A : Int) := by rw [zup_k (by decide)]; exact x11
          simp only [y11]
          rw [zp_bind, lp_see (R := (zup (zup (zup R.1 1 11 (A : Int)) 1 12 (A : Int)) 1 12 ((A + 1 : Nat) : Int), R.2)) ⟨h.1, by dsimp only; rw [zup_k (by decide)]; exact x13, h.2.2⟩, zp_some, if_pos hA]
          have hbh : tbh b n A = A + 1 := by unfold tbh; rw [if_neg (by omega), if_neg c1, if_neg c2]
          have hkd : tkd b n A = if b A = 59 then 11 else 13 := by unfold tkd; rw [if_neg (by omega), if_neg c1, if_neg c2]
          refine zp_if (fun c3 => zp_lt.mpr (zp_some.mpr (zor2_r.mpr ⟨rfl, fun r hr => ?_, fun c h1 h2 h3 h4 => ?_, ?_, ?_, ?_, fun z => ?_⟩))) (fun c3 => zp_lt.mpr (zp_some.mpr (zor2_r.mpr ⟨rfl, fun r hr => ?_, fun c h1 h2 h3 h4 => ?_, ?_, ?_, ?_, fun z => ?_⟩)))
          · dsimp only; rw [zup_R hr, zup_R hr, zup_R hr, zup_R hr]
          · dsimp only; rw [zup_k h3, zup_k h2, zup_k h2, zup_k h1]
          · dsimp only; rw [zup_k (by decide)]; exact y11
          · dsimp only; rw [zup_k (by decide), zup_s, hbh]
          · dsimp only; rw [zup_s, hkd, if_pos c3]; rfl
          · rw [hkd, if_pos c3] at z; omega
          · dsimp only; rw [zup_R hr, zup_R hr, zup_R hr, zup_R hr]
          · dsimp only; rw [zup_k h3, zup_k h2, zup_k h2, zup_k h1]
          · dsimp only; rw [zup_k (by decide)]; exact y11
          · dsimp only; rw [zup_k (by decide), zup_s, hbh]
          · dsimp only; rw [zup_s, hkd, if_neg c3]; rfl
          · rw [hkd, if_neg c3] at z; omega
    · have hkd : tkd b n A = 12 := tkd_end (by omega)
      have hbh : tbh b n A = A := by unfold tbh; rw [if_pos (by omega)]
      refine zp_lt.mpr (zp_some.mpr (zor2_r.mpr ⟨rfl, fun r hr => ?_, fun c h1 h2 h3 h4 => ?_, ?_, ?_, ?_, fun z => ?_⟩))
      · dsimp only; rw [zup_R hr, zup_R hr, zup_R hr]
      · dsimp only; rw [zup_k h3, zup_k h2, zup_k h1]
      · dsimp only; rw [zup_k (by decide)]; exact x11
      · dsimp only; rw [zup_k (by decide), zup_s, hbh]
      · dsimp only; rw [zup_s, hkd]; rfl
      · rw [hkd] at z; omega
end TOKR
