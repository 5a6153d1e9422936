/-! pairs of the stack: what the two tables tell -/
section KMS
variable {st : Nat → Int} {n pg many : Nat}
theorem kms_0 (w : Nat) : kms st n pg many 0 w = 0 := by unfold kms; rfl
theorem kms_w0 (i : Nat) : kms st n pg many i 0 = 0 := by
  cases i with
  | zero => exact kms_0 0
  | succ i => unfold kms; rfl
theorem kms_s (i w : Nat) : kms st n pg many (i + 1) (w + 1) = if st (n - (i + 1)) = (((many - (w + 1)) % pg : Nat) : Int) then max (max (kms st n pg many i (w + 1)) (kms st n pg many (i + 1) w)) (kms st n pg many i w + 1) else max (kms st n pg many i (w + 1)) (kms st n pg many (i + 1) w) := by
  conv => lhs; unfold kms
theorem kms_i (i w : Nat) : kms st n pg many i w ≤ kms st n pg many (i + 1) w := by
  cases w with
  | zero => rw [kms_w0, kms_w0]; exact Nat.le_refl 0
  | succ w =>
    rw [kms_s]
    split <;> omega
theorem kms_w (i w : Nat) : kms st n pg many i w ≤ kms st n pg many i (w + 1) := by
  cases i with
  | zero => rw [kms_0, kms_0]; exact Nat.le_refl 0
  | succ i =>
    rw [kms_s]
    split <;> omega
theorem kms_im {i j : Nat} (h : i ≤ j) (w : Nat) : kms st n pg many i w ≤ kms st n pg many j w := by
  induction h with
  | refl => exact Nat.le_refl _
  | step _ ih => exact Nat.le_trans ih (kms_i _ _)
theorem kms_wm (i : Nat) {w v : Nat} (h : w ≤ v) : kms st n pg many i w ≤ kms st n pg many i v := by
  induction h with
  | refl => exact Nat.le_refl _
  | step _ ih => exact Nat.le_trans ih (kms_w _ _)
theorem kms_up (i w : Nat) : kms st n pg many i (w + 1) ≤ kms st n pg many i w + 1 := by
  induction i with
  | zero => rw [kms_0, kms_0]; omega
  | succ i ih =>
    have h1 := kms_i (st := st) (n := n) (pg := pg) (many := many) i w
    rw [kms_s]
    split <;> omega
theorem kms_le (i w : Nat) : kms st n pg many i w ≤ i := by
  induction i generalizing w with
  | zero => rw [kms_0]; exact Nat.le_refl 0
  | succ i ih =>
    induction w with
    | zero => rw [kms_w0]; omega
    | succ w iw =>
      have h1 := ih (w + 1)
      have h2 := ih w
      rw [kms_s]
      split <;> omega
/-- the earliest that can be is as good as any -/
theorem kms_first (w : Nat) : ∀ (i f : Nat), f + i = n →
    (∀ s, f ≤ s → s < n → (∀ j, f ≤ j → j < s → st j ≠ (((many - (w + 1)) % pg : Nat) : Int)) → st s = (((many - (w + 1)) % pg : Nat) : Int) → kms st n pg many i (w + 1) = max (kms st n pg many i w) (1 + kms st n pg many (n - (s + 1)) w)) ∧
    ((∀ j, f ≤ j → j < n → st j ≠ (((many - (w + 1)) % pg : Nat) : Int)) → kms st n pg many i (w + 1) = kms st n pg many i w)
  | 0, f, hf => ⟨fun s h1 h2 _ _ => by omega, fun _ => by rw [kms_0, kms_0]⟩
  | i + 1, f, hf => by
    obtain ⟨i1, i2⟩ := kms_first w i (f + 1) (by omega)
    have e : n - (i + 1) = f := by omega
    have h1 := kms_i (st := st) (n := n) (pg := pg) (many := many) i w
    have h2 := kms_up (st := st) (n := n) (pg := pg) (many := many) i w
    constructor
    · intro s hs1 hs2 hno hy
      rw [kms_s, e]
      by_cases hh : st f = (((many - (w + 1)) % pg : Nat) : Int)
      · have es : s = f := by
          rcases Nat.lt_or_ge f s with q | q
          · exact absurd hh (hno f (Nat.le_refl f) q)
          · omega
        subst es
        rw [if_pos hh, show n - (s + 1) = i by omega]
        omega
      · have hne : s ≠ f := fun q => hh (q ▸ hy)
        have := i1 s (by omega) hs2 (fun j a b => hno j (by omega) b) hy
        rw [if_neg hh, this]
        omega
    · intro hno
      have := i2 (fun j a b => hno j (by omega) b)
      rw [kms_s, e, if_neg (hno f (Nat.le_refl f) (by omega)), this]
      omega
theorem kfi_spec {f w : Nat} (h : kfi st n pg f w < n) : f ≤ kfi st n pg f w ∧ st (kfi st n pg f w) = ((w % pg : Nat) : Int) ∧ ∀ j, f ≤ j → j < kfi st n pg f w → st j ≠ ((w % pg : Nat) : Int) := by
  unfold kfi at h ⊢
  have h1 := fnd_yes h
  refine ⟨(of_decide_eq_true h1).1, (of_decide_eq_true h1).2, fun j a b q => ?_⟩
  have := fnd_no b
  exact (of_decide_eq_false this) ⟨a, q⟩
theorem kfi_none {f w : Nat} (h : ¬ kfi st n pg f w < n) : ∀ j, f ≤ j → j < n → st j ≠ ((w % pg : Nat) : Int) := by
  intro j a b q
  unfold kfi at h
  have h1 := fnd_le (fun j => decide (f ≤ j ∧ st j = ((w % pg : Nat) : Int))) n
  have h2 : fnd (fun j => decide (f ≤ j ∧ st j = ((w % pg : Nat) : Int))) n = n := by omega
  have := fnd_no (p := fun j => decide (f ≤ j ∧ st j = ((w % pg : Nat) : Int))) (n := n) (k := j) (by omega)
  exact (of_decide_eq_false this) ⟨a, q⟩
theorem kst_ok : ∀ w, w ≤ many → (kst st n pg many w).1 ≤ n ∧ (kst st n pg many w).2 = kms st n pg many (n - (kst st n pg many w).1) (many - w)
  | 0, _ => ⟨Nat.zero_le n, rfl⟩
  | w + 1, hw => by
    obtain ⟨h1, h2⟩ := kst_ok w (by omega)
    unfold kst
    dsimp only
    generalize kst st n pg many w = q at h1 h2 ⊢
    have ew : many - w = (many - (w + 1)) + 1 := by omega
    have em : many - ((many - (w + 1)) + 1) = w := by omega
    have hm := kms_w (st := st) (n := n) (pg := pg) (many := many) (n - q.1) (many - (w + 1))
    by_cases h0 : q.2 = 0
    · rw [if_pos h0]
      refine ⟨h1, ?_⟩
      rw [ew] at h2
      omega
    · rw [if_neg h0]
      by_cases hc : kfi st n pg q.1 w < n ∧ 1 + kms st n pg many (n - (kfi st n pg q.1 w + 1)) (many - (w + 1)) = q.2
      · rw [if_pos hc]
        refine ⟨by have := hc.1; omega, ?_⟩
        have := hc.2
        show q.2 - 1 = kms st n pg many (n - (kfi st n pg q.1 w + 1)) (many - (w + 1))
        omega
      · rw [if_neg hc]
        refine ⟨h1, ?_⟩
        obtain ⟨k1, k2⟩ := kms_first (st := st) (n := n) (pg := pg) (many := many) (many - (w + 1)) (n - q.1) q.1 (by omega)
        rw [em] at k1 k2
        by_cases hk : kfi st n pg q.1 w < n
        · obtain ⟨a1, a2, a3⟩ := kfi_spec hk
          have := k1 _ a1 hk a3 a2
          have h3 : ¬ 1 + kms st n pg many (n - (kfi st n pg q.1 w + 1)) (many - (w + 1)) = q.2 := fun z => hc ⟨hk, z⟩
          rw [ew] at h2
          omega
        · have := k2 (kfi_none hk)
          rw [ew] at h2
          omega
/-- a pair fits, if what is left can be found behind it -/
theorem kst_eq {w : Nat} (hw : w < many) (h0 : (kst st n pg many w).2 ≠ 0) (hk : kfi st n pg (kst st n pg many w).1 w < n) :
    1 + kms st n pg many (n - (kfi st n pg (kst st n pg many w).1 w + 1)) (many - (w + 1)) = (kst st n pg many w).2 ↔ (kst st n pg many w).2 - 1 ≤ kms st n pg many (n - (kfi st n pg (kst st n pg many w).1 w + 1)) (many - (w + 1)) := by
  obtain ⟨h1, h2⟩ := kst_ok (st := st) (n := n) (pg := pg) w (Nat.le_of_lt hw)
  obtain ⟨a1, a2, a3⟩ := kfi_spec hk
  obtain ⟨k1, _⟩ := kms_first (st := st) (n := n) (pg := pg) (many := many) (many - (w + 1)) (n - (kst st n pg many w).1) (kst st n pg many w).1 (by omega)
  have em : many - ((many - (w + 1)) + 1) = w := by omega
  have ew : many - w = (many - (w + 1)) + 1 := by omega
  rw [em] at k1
  have := k1 _ a1 hk a3 a2
  rw [ew] at h2
  omega
/-- more than m on i more: among those behind, or with the first of them at a place -/
theorem kms_ge (i m : Nat) : ∀ w, w ≤ many → (m + 1 ≤ kms st n pg many (i + 1) w ↔ m + 1 ≤ kms st n pg many i w ∨ ∃ v, many - w ≤ v ∧ v < many ∧ st (n - (i + 1)) = ((v % pg : Nat) : Int) ∧ m ≤ kms st n pg many i (many - (v + 1)))
  | 0, _ => by
    rw [kms_w0, kms_w0]
    constructor
    · intro h; omega
    · rintro (h | ⟨v, h1, h2, _⟩) <;> omega
  | w + 1, hw => by
    have ih := kms_ge i m w (by omega)
    have hm := kms_w (st := st) (n := n) (pg := pg) (many := many) i w
    rw [kms_s]
    constructor
    · intro h
      have h' : m + 1 ≤ kms st n pg many i (w + 1) ∨ m + 1 ≤ kms st n pg many (i + 1) w ∨ (st (n - (i + 1)) = (((many - (w + 1)) % pg : Nat) : Int) ∧ m ≤ kms st n pg many i w) := by
        split at h
        · rename_i hh
          rcases Nat.lt_or_ge m (kms st n pg many i (w + 1)) with q | q
          · exact Or.inl q
          · rcases Nat.lt_or_ge m (kms st n pg many (i + 1) w) with q2 | q2
            · exact Or.inr (Or.inl q2)
            · exact Or.inr (Or.inr ⟨hh, by omega⟩)
        · rcases Nat.lt_or_ge m (kms st n pg many i (w + 1)) with q | q
          · exact Or.inl q
          · exact Or.inr (Or.inl (by omega))
      rcases h' with q | q | ⟨q1, q2⟩
      · exact Or.inl q
      · rcases ih.mp q with q | ⟨v, a1, a2, a3, a4⟩
        · exact Or.inl (by omega)
        · exact Or.inr ⟨v, by omega, a2, a3, a4⟩
      · refine Or.inr ⟨many - (w + 1), Nat.le_refl _, by omega, q1, ?_⟩
        rw [show many - (many - (w + 1) + 1) = w by omega]
        exact q2
    · rintro (h | ⟨v, a1, a2, a3, a4⟩)
      · split <;> omega
      · by_cases hv : v = many - (w + 1)
        · subst hv
          rw [show many - (many - (w + 1) + 1) = w by omega] at a4
          rw [if_pos a3]
          omega
        · have := ih.mpr (Or.inr ⟨v, by omega, a2, a3, a4⟩)
          split <;> omega
/-- the last place below a limit that is a page's -/
def lpb (lim p pg : Int) : Int := if lim ≤ p ∨ pg = 0 then -1 else lim - 1 - (lim - 1 - p) % pg
theorem lpb_ok {lim p : Int} {g w : Nat} (hp : 0 ≤ p) (hg : p < (g : Int)) : (∃ v : Nat, w ≤ v ∧ (v : Int) < lim ∧ p = ((v % g : Nat) : Int)) ↔ (w : Int) ≤ lpb lim p (g : Int) := by
  unfold lpb
  have hg0 : (0 : Int) < (g : Int) := by omega
  constructor
  · rintro ⟨v, h1, h2, h3⟩
    have h4 : ((v : Int)) = (g : Int) * ((v : Int) / (g : Int)) + p := by
      rw [h3, Int.natCast_emod]
      exact (Int.mul_ediv_add_emod (v : Int) (g : Int)).symm
    have h5 : p ≤ (v : Int) := by
      rw [h3]
      exact Int.ofNat_le.mpr (Nat.mod_le v g)
    rw [if_neg (by omega)]
    have h6 := Int.mul_ediv_add_emod (lim - 1 - p) (g : Int)
    have h7 := Int.emod_lt_of_pos (lim - 1 - p) hg0
    have h8 := Int.emod_nonneg (lim - 1 - p) (show (g : Int) ≠ 0 by omega)
    have h9 : (v : Int) / (g : Int) ≤ (lim - 1 - p) / (g : Int) := by
      have : (g : Int) * ((v : Int) / (g : Int)) < (g : Int) * ((lim - 1 - p) / (g : Int) + 1) := by
        rw [Int.mul_add, Int.mul_one]
        omega
      have := Int.lt_of_mul_lt_mul_left this (Int.le_of_lt hg0)
      omega
    have h10 := Int.mul_le_mul_of_nonneg_left h9 (Int.le_of_lt hg0)
    omega
  · intro h
    split at h
    · omega
    · rename_i hc
      have h6 := Int.mul_ediv_add_emod (lim - 1 - p) (g : Int)
      have h7 := Int.emod_lt_of_pos (lim - 1 - p) hg0
      have h8 := Int.emod_nonneg (lim - 1 - p) (show (g : Int) ≠ 0 by omega)
      have h9 : 0 ≤ (lim - 1 - p) / (g : Int) := Int.ediv_nonneg (by omega) (Int.le_of_lt hg0)
      have h10 : 0 ≤ (g : Int) * ((lim - 1 - p) / (g : Int)) := Int.mul_nonneg (Int.le_of_lt hg0) h9
      refine ⟨(lim - 1 - (lim - 1 - p) % (g : Int)).toNat, by omega, by omega, ?_⟩
      rw [Int.natCast_emod, Int.toNat_of_nonneg (by omega), show lim - 1 - (lim - 1 - p) % (g : Int) = p + (g : Int) * ((lim - 1 - p) / (g : Int)) by omega, Int.add_mul_emod_self_left, Int.emod_eq_of_lt hp hg]
end KMS
section KRM
/-- the last place from which m of the last k still find theirs -/
def krm (st : Nat → Int) (n pg many : Nat) : Nat → Nat → Int
  | _, 0 => (many : Int)
  | 0, _ + 1 => -1
  | k + 1, m + 1 => max (krm st n pg many k (m + 1)) (lpb (krm st n pg many k m) (st (n - (k + 1))) (pg : Int))
variable {st : Nat → Int} {n pg many : Nat}
theorem krm_0 (k : Nat) : krm st n pg many k 0 = (many : Int) := by cases k <;> rfl
theorem lpb_b {lim p : Int} {g : Nat} (hp : 0 ≤ p) (hg : p < (g : Int)) : -1 ≤ lpb lim p (g : Int) ∧ (lpb lim p (g : Int) < lim ∨ lpb lim p (g : Int) = -1) := by
  unfold lpb
  split
  · omega
  · have h6 := Int.mul_ediv_add_emod (lim - 1 - p) (g : Int)
    have h7 := Int.emod_lt_of_pos (lim - 1 - p) (show 0 < (g : Int) by omega)
    have h8 := Int.emod_nonneg (lim - 1 - p) (show (g : Int) ≠ 0 by omega)
    have h9 : 0 ≤ (lim - 1 - p) / (g : Int) := Int.ediv_nonneg (by omega) (by omega)
    have h10 : 0 ≤ (g : Int) * ((lim - 1 - p) / (g : Int)) := Int.mul_nonneg (by omega) h9
    omega
theorem krm_ok (hst : ∀ j, j < n → 0 ≤ st j ∧ st j < (pg : Int)) : ∀ k, k ≤ n → ∀ m, (-1 ≤ krm st n pg many k m ∧ krm st n pg many k m ≤ (many : Int)) ∧ ∀ w, w ≤ many → (m ≤ kms st n pg many k (many - w) ↔ (w : Int) ≤ krm st n pg many k m)
  | k, _, 0 => by
    rw [krm_0]
    exact ⟨by omega, fun w hw => by omega⟩
  | 0, _, m + 1 => by
    refine ⟨⟨Int.le_refl _, by show (-1 : Int) ≤ _; omega⟩, fun w hw => ?_⟩
    rw [kms_0]
    show _ ↔ (w : Int) ≤ -1
    omega
  | k + 1, hk, m + 1 => by
    obtain ⟨b1, c1⟩ := krm_ok hst k (by omega) (m + 1)
    obtain ⟨b2, c2⟩ := krm_ok hst k (by omega) m
    obtain ⟨p1, p2⟩ := hst (n - (k + 1)) (by omega)
    have hb := lpb_b (lim := krm st n pg many k m) p1 p2
    have e : krm st n pg many (k + 1) (m + 1) = max (krm st n pg many k (m + 1)) (lpb (krm st n pg many k m) (st (n - (k + 1))) (pg : Int)) := rfl
    rw [e]
    refine ⟨by omega, fun w hw => ?_⟩
    rw [kms_ge k m (many - w) (by omega), c1 w hw]
    have hl := lpb_ok (lim := krm st n pg many k m) (w := w) p1 p2
    have : (∃ v, many - (many - w) ≤ v ∧ v < many ∧ st (n - (k + 1)) = ((v % pg : Nat) : Int) ∧ m ≤ kms st n pg many k (many - (v + 1))) ↔ ∃ v : Nat, w ≤ v ∧ (v : Int) < krm st n pg many k m ∧ st (n - (k + 1)) = ((v % pg : Nat) : Int) := by
      constructor
      · rintro ⟨v, a1, a2, a3, a4⟩
        have := (c2 (v + 1) (by omega)).mp a4
        exact ⟨v, by omega, by omega, a3⟩
      · rintro ⟨v, a1, a2, a3⟩
        exact ⟨v, by omega, by omega, a3, (c2 (v + 1) (by omega)).mpr (by omega)⟩
    rw [this, hl]
    clear this hl c1 c2 e
    generalize lpb (krm st n pg many k m) (st (n - (k + 1))) (pg : Int) = u
    generalize krm st n pg many k (m + 1) = v
    omega
end KRM
