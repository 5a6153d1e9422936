/-! whether a stretch lies free: the line and all sheets -/
theorem fnd_ex {p : Nat → Bool} {n : Nat} : fnd p n < n ↔ ∃ i, i < n ∧ p i = true := by
  constructor
  · exact fun h => ⟨_, h, fnd_yes h⟩
  · intro ⟨i, hi, hp⟩
    have hl := fnd_le p n
    rcases Nat.lt_or_ge (fnd p n) n with h | h
    · exact h
    · have := fnd_no (p := p) (n := n) (k := i) (by omega)
      rw [hp] at this
      cases this
section FREE
variable {S : ZS} {T m : Nat} {front en x2 : Int} {L : List Nat}
/-- sheet a lies over it -/
def ovr (A : ZA) (T : Nat) (front en : Int) (a : Nat) : Bool := decide (A T 7 a - A T 10 a < front ∧ en < A T 7 a)
theorem lp_free8 (hL : S.1 T 13 = (L.length : Int)) (hl : L.length ≤ 40) (hA : ∀ i (h : i < L.length), S.2 T 13 i = (L[i] : Int)) (hb : ∀ a, a ∈ L → a < 40 ∧ (0 ≤ S.2 T 7 a ∧ S.2 T 7 a ≤ 10000) ∧ (0 ≤ S.2 T 10 a ∧ S.2 T 10 a ≤ 1000)) :
    F_X8_liesFree T front en S = some (if ∃ a, a ∈ L ∧ ovr S.2 T front en a = true then 0 else 1) := by
  unfold F_X8_liesFree F_X8_liesFree_2
  have key := zw_fnd (f := fun s : Int => if s < (S.1 T 13) then if 0 ≤ s ∧ s < 40 then (F_X8_tailOf T (S.2 T 13 s.toNat) S).bind fun r3 => if r3 < front then if 0 ≤ (S.2 T 13 s.toNat) ∧ (S.2 T 13 s.toNat) < 40 then if en < (S.2 T 7 (S.2 T 13 s.toNat).toNat) then some (.inr 0) else some (.inl (zadd s 1)) else none else some (.inl (zadd s 1)) else none else some (.inr 1))
    (fun i => ovr S.2 T front en (L.getD i 0)) (fun i => (i : Int)) L.length (fun _ => (0 : Int)) 1 (s0 := 0) rfl ?_ ?_ ?_
  · rw [key]
    congr 1
    by_cases c : fnd (fun i => ovr S.2 T front en (L.getD i 0)) L.length < L.length
    · rw [if_pos c, if_pos]
      obtain ⟨i, hi, hp⟩ := fnd_ex.mp c
      refine ⟨L[i], List.getElem_mem hi, ?_⟩
      (try dsimp only at hp)
      rwa [List.getD_eq_getElem?_getD, List.getElem?_eq_getElem hi] at hp
    · rw [if_neg c, if_neg]
      rintro ⟨a, ha, hp⟩
      obtain ⟨i, hi, rfl⟩ := List.getElem_of_mem ha
      refine c (fnd_ex.mpr ⟨i, hi, ?_⟩)
      (try dsimp only)
      rwa [List.getD_eq_getElem?_getD, List.getElem?_eq_getElem hi]
  · intro i hi hp
    (try dsimp only at hp)
    rw [List.getD_eq_getElem?_getD, List.getElem?_eq_getElem hi] at hp
    have hp := of_decide_eq_false hp
    have hh := hb L[i] (List.getElem_mem hi)
    dsimp only [Option.getD] at hp
    (try dsimp only)
    rw [hL, if_pos (by omega), if_pos (by omega), Int.toNat_natCast, hA i hi, Int.toNat_natCast]
    unfold F_X8_tailOf
    rw [if_pos (by omega), Int.toNat_natCast, zsub_ok (by omega) (by omega), Option.bind_some, zadd_ok (by omega) (by omega)]
    by_cases c1 : S.2 T 7 L[i] - S.2 T 10 L[i] < front
    · rw [if_pos c1, if_pos (by omega), if_neg (fun z => hp ⟨c1, z⟩)]; rfl
    · rw [if_neg c1]; rfl
  · intro i hi hp
    (try dsimp only at hp)
    rw [List.getD_eq_getElem?_getD, List.getElem?_eq_getElem hi] at hp
    have hp := of_decide_eq_true hp
    have hh := hb L[i] (List.getElem_mem hi)
    dsimp only [Option.getD] at hp
    (try dsimp only)
    rw [hL, if_pos (by omega), if_pos (by omega), Int.toNat_natCast, hA i hi, Int.toNat_natCast]
    unfold F_X8_tailOf
    rw [if_pos (by omega), Int.toNat_natCast, zsub_ok (by omega) (by omega), Option.bind_some, if_pos hp.1, if_pos (by omega), if_pos hp.2]
  · (try dsimp only)
    rw [hL, if_neg (by omega)]
/-- sheet a of the reference lies over it -/
def ov12 (A : ZA) (front en : Int) (a : Nat) : Bool := decide ((A 1 33 a = 0 ∨ A 1 33 a = 3) ∧ A 1 32 a - 10 * A 1 31 a < front ∧ en < A 1 32 a)
theorem lp_over12 (hm : S.1 1 27 = (m : Int)) (hm40 : m ≤ 40) (hb : ∀ a : Nat, a < m → (0 ≤ S.2 1 32 a ∧ S.2 1 32 a ≤ 10000) ∧ (0 ≤ S.2 1 31 a ∧ S.2 1 31 a ≤ 100)) (hf : 0 ≤ front ∧ front ≤ 10000) (hx : 0 ≤ x2 ∧ x2 ≤ 100) :
    F_X12_isOver front x2 S = some (if ∃ a, a < m ∧ ov12 S.2 front (front - 10 * x2) a = true then 1 else 0) := by
  have f0 : zsub front (zmul 10 x2) = front - 10 * x2 := by rw [zmul_ok (by omega) (by omega), zsub_ok (by omega) (by omega)]
  have hgo : ∀ i : Nat, i < m → F_X12_isGoing (i : Int) S = some (if S.2 1 33 i = 0 ∨ S.2 1 33 i = 3 then 1 else 0) := by
    intro i hi
    unfold F_X12_isGoing
    rw [if_pos (by omega), Int.toNat_natCast]
    by_cases c : S.2 1 33 i = 0
    · rw [if_pos c, if_pos (Or.inl c)]
    · by_cases d : S.2 1 33 i = 3
      · rw [if_neg c, if_pos d, if_pos (Or.inr d)]
      · rw [if_neg c, if_neg d, if_neg (fun z => by rcases z with z | z; exact c z; exact d z)]
  have hta : ∀ i : Nat, i < m → F_X12_tail (i : Int) S = some (S.2 1 32 i - 10 * S.2 1 31 i) := by
    intro i hi
    have hh := hb i hi
    unfold F_X12_tail
    rw [if_pos (by omega), Int.toNat_natCast, zmul_ok (by omega) (by omega), zsub_ok (by omega) (by omega)]
  unfold F_X12_isOver F_X12_isOver_2
  have key := zw_fnd (f := fun s : Int => if s < (S.1 1 27) then (F_X12_isGoing s S).bind fun r2 => if r2 = 0 then some (.inl (zadd s 1)) else (F_X12_tail s S).bind fun r4 => if r4 < front then if 0 ≤ s ∧ s < 40 then if (zsub front (zmul 10 x2)) < (S.2 1 32 s.toNat) then some (.inr 1) else some (.inl (zadd s 1)) else none else some (.inl (zadd s 1)) else some (.inr 0))
    (ov12 S.2 front (front - 10 * x2)) (fun i => (i : Int)) m (fun _ => (1 : Int)) 0 (s0 := 0) rfl ?_ ?_ ?_
  · rw [key]
    congr 1
    by_cases c : fnd (ov12 S.2 front (front - 10 * x2)) m < m
    · rw [if_pos c, if_pos (fnd_ex.mp c)]
    · rw [if_neg c, if_neg (fun z => c (fnd_ex.mpr z))]
  · intro i hi hp
    have hp := of_decide_eq_false hp
    (try dsimp only)
    rw [hm, if_pos (by omega), hgo i hi, Option.bind_some, hta i hi, f0, zadd_ok (by omega) (by omega), Int.toNat_natCast]
    by_cases c : S.2 1 33 i = 0 ∨ S.2 1 33 i = 3
    · rw [if_pos c, if_neg (by decide), Option.bind_some]
      by_cases d : S.2 1 32 i - 10 * S.2 1 31 i < front
      · rw [if_pos d, if_pos (by omega), if_neg (fun z => hp ⟨c, d, z⟩)]; rfl
      · rw [if_neg d]; rfl
    · rw [if_neg c, if_pos rfl]; rfl
  · intro i hi hp
    have hp := of_decide_eq_true hp
    (try dsimp only)
    rw [hm, if_pos (by omega), hgo i hi, Option.bind_some, hta i hi, f0, Int.toNat_natCast, if_pos hp.1, if_neg (by decide), Option.bind_some, if_pos hp.2.1, if_pos (by omega), if_pos hp.2.2]
  · (try dsimp only)
    rw [hm, if_neg (by omega)]
end FREE
