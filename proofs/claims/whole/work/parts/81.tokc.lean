/-! tokens: what is read of the tape; the class -/
section TOKD
variable (b : Nat → Int) (n : Nat)
def tsk (i : Nat) : Nat := i + fnd (fun d => decide (b (i + d) ≠ 10 ∧ b (i + d) ≠ 32)) (n - i)
def twd (i : Nat) : Nat := i + fnd (fun d => decide (¬(97 ≤ b (i + d) ∧ b (i + d) ≤ 122))) (n - i)
def tdg (i : Nat) : Nat := i + fnd (fun d => decide (¬(48 ≤ b (i + d) ∧ b (i + d) ≤ 57))) (n - i)
def tnv (i : Nat) : Nat → Int
  | 0 => 0
  | k + 1 => 10 * tnv i k + (b (i + k) - 48)
def tms (w : List Int) (a : Nat) : Nat := fnd (fun i => decide (b (a + i) ≠ w.getD i 0)) w.length
abbrev tmt (w : List Int) (a len : Nat) : Prop := len = w.length ∧ tms b w a = w.length
def tky (a len : Nat) : Nat :=
  if tmt b (zstr 0) a len then 0 else if tmt b (zstr 3) a len then 1 else if tmt b (zstr 2) a len then 2 else if tmt b (zstr 1) a len then 3 else if tmt b (zstr 4) a len then 4
  else if tmt b (zstr 5) a len then 5 else if tmt b (zstr 6) a len then 6 else if tmt b (zstr 7) a len then 7 else if tmt b (zstr 8) a len then 8 else 9
/-- the kind of the token at a place, as the reference tells it; where the next begins -/
def tkd (a : Nat) : Nat :=
  if n ≤ a then 12 else if 97 ≤ b a ∧ b a ≤ 122 then tky b a (twd b n a - a) else if 48 ≤ b a ∧ b a ≤ 57 then (if 3 < tdg b n a - a then 13 else 10) else if b a = 59 then 11 else 13
def tbh (a : Nat) : Nat := if n ≤ a then a else if 97 ≤ b a ∧ b a ≤ 122 then twd b n a else if 48 ≤ b a ∧ b a ≤ 57 then tdg b n a else a + 1
def tat : Nat → Nat
  | 0 => tsk b n 0
  | i + 1 => tsk b n (tbh b n (tat i))
/-- the class's number of a kind -/
def tck (k : Nat) : Nat := if k = 12 then 0 else if k = 13 then 1 else if k = 10 then 2 else if k = 11 then 3 else if k = 9 then 4 else k + 5
/-- the last token -/
def tlast : Nat := fnd (fun i => decide (tkd b n (tat b n i) = 12 ∨ tkd b n (tat b n i) = 13)) (n + 1)
end TOKD
section TOKL
variable {b : Nat → Int} {n : Nat}
theorem tsk_b {i : Nat} (h : i ≤ n) : i ≤ tsk b n i ∧ tsk b n i ≤ n := by
  have := fnd_le (fun d => decide (b (i + d) ≠ 10 ∧ b (i + d) ≠ 32)) (n - i)
  unfold tsk
  omega
theorem twd_b {i : Nat} (h : i < n) (hl : 97 ≤ b i ∧ b i ≤ 122) : i < twd b n i ∧ twd b n i ≤ n := by
  have := fnd_le (fun d => decide (¬(97 ≤ b (i + d) ∧ b (i + d) ≤ 122))) (n - i)
  have h0 : fnd (fun d => decide (¬(97 ≤ b (i + d) ∧ b (i + d) ≤ 122))) (n - i) ≠ 0 := by
    intro z
    have := fnd_yes (p := fun d => decide (¬(97 ≤ b (i + d) ∧ b (i + d) ≤ 122))) (n := n - i) (by omega)
    rw [z] at this
    exact of_decide_eq_true this hl
  unfold twd
  omega
theorem tdg_b {i : Nat} (h : i < n) (hl : 48 ≤ b i ∧ b i ≤ 57) : i < tdg b n i ∧ tdg b n i ≤ n := by
  have := fnd_le (fun d => decide (¬(48 ≤ b (i + d) ∧ b (i + d) ≤ 57))) (n - i)
  have h0 : fnd (fun d => decide (¬(48 ≤ b (i + d) ∧ b (i + d) ≤ 57))) (n - i) ≠ 0 := by
    intro z
    have := fnd_yes (p := fun d => decide (¬(48 ≤ b (i + d) ∧ b (i + d) ≤ 57))) (n := n - i) (by omega)
    rw [z] at this
    exact of_decide_eq_true this hl
  unfold tdg
  omega
theorem tbh_b {a : Nat} (h : a ≤ n) : a ≤ tbh b n a ∧ tbh b n a ≤ n ∧ (a < n → a < tbh b n a) := by
  unfold tbh
  by_cases c : n ≤ a
  · rw [if_pos c]; omega
  · rw [if_neg c]
    by_cases c1 : 97 ≤ b a ∧ b a ≤ 122
    · rw [if_pos c1]
      have := twd_b (show a < n by omega) c1
      omega
    · rw [if_neg c1]
      by_cases c2 : 48 ≤ b a ∧ b a ≤ 57
      · rw [if_pos c2]
        have := tdg_b (show a < n by omega) c2
        omega
      · rw [if_neg c2]; omega
theorem tat_b : ∀ i, tat b n i ≤ n ∧ (tat b n i < n → i ≤ tat b n i)
  | 0 => ⟨(tsk_b (Nat.zero_le n)).2, fun _ => Nat.zero_le _⟩
  | i + 1 => by
    obtain ⟨h1, h2⟩ := tat_b i
    obtain ⟨h3, h4, h5⟩ := tbh_b (b := b) h1
    obtain ⟨h6, h7⟩ := tsk_b (b := b) h4
    refine ⟨h7, fun z => ?_⟩
    show i + 1 ≤ tsk b n (tbh b n (tat b n i))
    change tsk b n (tbh b n (tat b n i)) < n at z
    have := h2 (by omega)
    have := h5 (by omega)
    omega
theorem tky_9 (a len : Nat) : tky b a len ≤ 9 := by
  unfold tky
  (repeat' split) <;> omega
theorem tkd_end {a : Nat} (h : n ≤ a) : tkd b n a = 12 := if_pos h
theorem tkd_13 (a : Nat) : tkd b n a ≤ 13 := by
  have := tky_9 (b := b) a (twd b n a - a)
  unfold tkd
  (repeat' split) <;> omega
theorem tkd_12 {a : Nat} (h : tkd b n a = 12) : n ≤ a := by
  have := tky_9 (b := b) a (twd b n a - a)
  unfold tkd at h
  by_cases c : n ≤ a
  · exact c
  · rw [if_neg c] at h
    exfalso
    (repeat' split at h) <;> omega
theorem tlast_b : tlast b n ≤ n ∧ (tkd b n (tat b n (tlast b n)) = 12 ∨ tkd b n (tat b n (tlast b n)) = 13) ∧ ∀ i, i < tlast b n → tkd b n (tat b n i) ≠ 12 ∧ tkd b n (tat b n i) ≠ 13 := by
  have hlt : tlast b n < n + 1 := by
    refine fnd_ex.mpr ?_
    obtain ⟨h1, h2⟩ := tat_b (b := b) (n := n) n
    exact ⟨n, by omega, decide_eq_true (Or.inl (tkd_end (by
      rcases Nat.lt_or_ge (tat b n n) n with z | z
      · have := h2 z; omega
      · exact z)))⟩
  refine ⟨by omega, of_decide_eq_true (fnd_yes (p := fun i => decide (tkd b n (tat b n i) = 12 ∨ tkd b n (tat b n i) = 13)) hlt), fun i hi => ?_⟩
  have := of_decide_eq_false (fnd_no (p := fun i => decide (tkd b n (tat b n i) = 12 ∨ tkd b n (tat b n i) = 13)) hi)
  omega
theorem tnv_b {a : Nat} : ∀ k, k ≤ 3 → (∀ d, d < k → 48 ≤ b (a + d) ∧ b (a + d) ≤ 57) → 0 ≤ tnv b a k ∧ tnv b a k ≤ (if k = 0 then 0 else if k = 1 then 9 else if k = 2 then 99 else 999)
  | 0, _, _ => by unfold tnv; simp
  | k + 1, hk, h => by
    have ih := tnv_b k (by omega) (fun d hd => h d (by omega))
    have := h k (by omega)
    unfold tnv
    rcases (show k = 0 ∨ k = 1 ∨ k = 2 by omega) with rfl | rfl | rfl <;> simp at ih this ⊢ <;> omega
theorem zstr_w (q : Nat) (h : q < 9) : 3 ≤ (zstr q).length ∧ (zstr q).length ≤ 6 ∧ ∀ i, i < (zstr q).length → 97 ≤ (zstr q).getD i 0 ∧ (zstr q).getD i 0 ≤ 122 := by
  have key : ∀ q : Nat, q < 9 → 3 ≤ (zstr q).length ∧ (zstr q).length ≤ 6 ∧ ∀ i, i < 6 → i < (zstr q).length → 97 ≤ (zstr q).getD i 0 ∧ (zstr q).getD i 0 ≤ 122 := by decide +kernel
  obtain ⟨a, b, c⟩ := key q h
  exact ⟨a, b, fun i hi => c i (by omega) hi⟩
end TOKL
section TOKC
variable {S : ZS} {b : Nat → Int} {n A m : Nat}
/-- the class's tape tells these bytes -/
def CTape (S : ZS) (b : Nat → Int) (n : Nat) : Prop := n ≤ 400 ∧ S.1 3 9 = (n : Int) ∧ ∀ k, k < n → (0 ≤ b k ∧ b k < 256) ∧ S.2 3 1 k = if b k < 128 then b k else b k - 256
theorem CT_l (h : CTape S b n) {k : Nat} (hk : k < n) : (97 ≤ S.2 3 1 k ∧ S.2 3 1 k ≤ 122 ↔ 97 ≤ b k ∧ b k ≤ 122) ∧ (48 ≤ S.2 3 1 k ∧ S.2 3 1 k ≤ 57 ↔ 48 ≤ b k ∧ b k ≤ 57) ∧ (S.2 3 1 k = 59 ↔ b k = 59) ∧ (S.2 3 1 k = 10 ↔ b k = 10) ∧ (S.2 3 1 k = 32 ↔ b k = 32) ∧ ((48 ≤ b k ∧ b k ≤ 122) → S.2 3 1 k = b k) := by
  obtain ⟨h1, h2⟩ := h.2.2 k hk
  rw [h2]
  split <;> omega
theorem lp_isL {x : Int} : F_X6_isLetter x S = some (if 97 ≤ x ∧ x ≤ 122 then 1 else 0) := by
  unfold F_X6_isLetter
  by_cases c : x < 97
  · rw [if_pos c, if_neg (by omega)]
  · rw [if_neg c]
    by_cases d : 122 < x
    · rw [if_pos d, if_neg (by omega)]
    · rw [if_neg d, if_pos (by omega)]
theorem lp_isD {x : Int} : F_X6_isDigit x S = some (if 48 ≤ x ∧ x ≤ 57 then 1 else 0) := by
  unfold F_X6_isDigit
  by_cases c : x < 48
  · rw [if_pos c, if_neg (by omega)]
  · rw [if_neg c]
    by_cases d : 57 < x
    · rw [if_pos d, if_neg (by omega)]
    · rw [if_neg d, if_pos (by omega)]
theorem lp_isB {x : Int} : F_X6_isBlank x S = some (if x ≠ 10 ∧ x ≠ 32 then 0 else 1) := by
  unfold F_X6_isBlank
  by_cases c : x = 10
  · rw [if_pos c, if_neg (by omega)]
  · rw [if_neg c]
    by_cases d : x = 32
    · rw [if_pos d, if_neg (by omega)]
    · rw [if_neg d, if_pos ⟨c, d⟩]
theorem lp_isAt (h : CTape S b n) {q : Nat} (hq : q < 9) (hl : A + (zstr q).length ≤ n) : F_X6_isAt (A : Int) q S = some (if tms b (zstr q) A = (zstr q).length then 1 else 0) := by
  obtain ⟨w1, w2, w3⟩ := zstr_w q hq
  have h0 := h.1
  unfold F_X6_isAt
  rw [h.2.1, zadd_ok (by omega) (by omega), if_neg (by omega)]
  unfold F_X6_isAt_20
  have key := zw_fnd (f := fun s : Int => if s < ((zstr q).length : Int) then if 0 ≤ (zadd (A : Int) s) ∧ (zadd (A : Int) s) < 400 then if 0 ≤ s ∧ s < ((zstr q).length : Int) then if (S.2 3 1 (zadd (A : Int) s).toNat) = ((zstr q).getD s.toNat 0) then some (.inl (zadd s 1)) else some (.inr 0) else none else none else some (.inr 1))
    (fun i => decide (b (A + i) ≠ (zstr q).getD i 0)) (fun i => (i : Int)) (zstr q).length (fun _ => (0 : Int)) 1 (s0 := 0) rfl ?_ ?_ ?_
  · rw [key]
    congr 1
    unfold tms
    have hl := fnd_le (fun i => decide (b (A + i) ≠ (zstr q).getD i 0)) (zstr q).length
    by_cases c : fnd (fun i => decide (b (A + i) ≠ (zstr q).getD i 0)) (zstr q).length < (zstr q).length
    · rw [if_pos c, if_neg (by omega)]
    · rw [if_neg c, if_pos (by omega)]
  · intro i hi hp
    have hp : b (A + i) = (zstr q).getD i 0 := Decidable.not_not.mp (of_decide_eq_false hp)
    have hw := w3 i hi
    have hc := (CT_l h (show A + i < n by omega)).2.2.2.2.2 (by omega)
    (try dsimp only)
    rw [if_pos (by omega), zadd_ok (x := (A : Int)) (by omega) (by omega), if_pos (by omega), if_pos (by omega), show ((A : Int) + (i : Int)).toNat = A + i by omega, Int.toNat_natCast, hc, if_pos hp, zadd_ok (by omega) (by omega)]
    rfl
  · intro i hi hp
    have hp := of_decide_eq_true hp
    have hw := w3 i hi
    obtain ⟨h1, h2⟩ := h.2.2 (A + i) (by omega)
    (try dsimp only)
    rw [if_pos (by omega), zadd_ok (x := (A : Int)) (by omega) (by omega), if_pos (by omega), if_pos (by omega), show ((A : Int) + (i : Int)).toNat = A + i by omega, Int.toNat_natCast, h2, if_neg]
    intro z
    apply hp
    rw [← z]
    split at z
    · rw [if_pos (by assumption)]
    · omega
  · (try dsimp only)
    rw [if_neg (by omega)]
theorem lp_word4 (h : CTape S b n) (hl : A + 4 ≤ n) : F_X6_wordOfFour (A : Int) S = some (tck (tky b A 4) : Int) := by
  have e4 : (zstr 4).length = 4 := rfl
  have e5 : (zstr 5).length = 4 := rfl
  have e6 : (zstr 6).length = 4 := rfl
  have e7 : (zstr 7).length = 4 := rfl
  have e8 : (zstr 8).length = 4 := rfl
  have z0 : ¬ tmt b (zstr 0) A 4 := fun z => absurd z.1 (by decide)
  have z1 : ¬ tmt b (zstr 1) A 4 := fun z => absurd z.1 (by decide)
  have z2 : ¬ tmt b (zstr 2) A 4 := fun z => absurd z.1 (by decide)
  have z3 : ¬ tmt b (zstr 3) A 4 := fun z => absurd z.1 (by decide)
  unfold F_X6_wordOfFour tky
  rw [if_neg z0, if_neg z3, if_neg z2, if_neg z1]
  rw [lp_isAt h (q := 4) (by decide) (by omega), Option.bind_some]
  by_cases c4 : tms b (zstr 4) A = (zstr 4).length
  · rw [if_pos c4, if_neg (by decide), if_pos ⟨rfl, c4⟩]; rfl
  rw [if_neg c4, if_pos rfl, if_neg (fun z => c4 z.2), lp_isAt h (q := 5) (by decide) (by omega), Option.bind_some]
  by_cases c5 : tms b (zstr 5) A = (zstr 5).length
  · rw [if_pos c5, if_neg (by decide), if_pos ⟨rfl, c5⟩]; rfl
  rw [if_neg c5, if_pos rfl, if_neg (fun z => c5 z.2), lp_isAt h (q := 6) (by decide) (by omega), Option.bind_some]
  by_cases c6 : tms b (zstr 6) A = (zstr 6).length
  · rw [if_pos c6, if_neg (by decide), if_pos ⟨rfl, c6⟩]; rfl
  rw [if_neg c6, if_pos rfl, if_neg (fun z => c6 z.2), lp_isAt h (q := 7) (by decide) (by omega), Option.bind_some]
  by_cases c7 : tms b (zstr 7) A = (zstr 7).length
  · rw [if_pos c7, if_neg (by decide), if_pos ⟨rfl, c7⟩]; rfl
  rw [if_neg c7, if_pos rfl, if_neg (fun z => c7 z.2), lp_isAt h (q := 8) (by decide) (by omega), Option.bind_some]
  by_cases c8 : tms b (zstr 8) A = (zstr 8).length
  · rw [if_pos c8, if_neg (by decide), if_pos ⟨rfl, c8⟩]; rfl
  rw [if_neg c8, if_pos rfl, if_neg (fun z => c8 z.2)]; rfl
theorem tky_len {a len : Nat} (h : len ≠ 3 ∧ len ≠ 4 ∧ len ≠ 5 ∧ len ≠ 6) : tky b a len = 9 := by
  have key : ∀ q, q < 9 → ¬ tmt b (zstr q) a len := fun q hq z => by
    have h1 := z.1
    obtain ⟨w1, w2, _⟩ := zstr_w q hq
    omega
  unfold tky
  rw [if_neg (key 0 (by decide)), if_neg (key 3 (by decide)), if_neg (key 2 (by decide)), if_neg (key 1 (by decide)), if_neg (key 4 (by decide)), if_neg (key 5 (by decide)), if_neg (key 6 (by decide)), if_neg (key 7 (by decide)), if_neg (key 8 (by decide))]
theorem tky_n {a len q : Nat} (h : len ≠ (zstr q).length) : ¬ tmt b (zstr q) a len := fun z => h z.1
theorem lp_word8 (h : CTape S b n) (hA : S.1 3 10 = (A : Int)) (hAn : A < n) (hl : 97 ≤ b A ∧ b A ≤ 122) : F_X6_nextWord S = some ((tck (tky b A (twd b n A - A)) : Int), (zup S.1 3 10 (twd b n A : Int), S.2)) := by
  have h0 := h.1
  have hw := twd_b hAn hl
  have hcn := fnd_le (fun d => decide (¬(97 ≤ b (A + d) ∧ b (A + d) ≤ 122))) (n - A)
  have hwe : twd b n A = A + fnd (fun d => decide (¬(97 ≤ b (A + d) ∧ b (A + d) ≤ 122))) (n - A) := rfl
  unfold F_X6_nextWord
  rw [hA]
  unfold F_X6_nextWord_5
  obtain ⟨cn, hcnd⟩ : ∃ cn, fnd (fun d => decide (¬(97 ≤ b (A + d) ∧ b (A + d) ≤ 122))) (n - A) = cn := ⟨_, rfl⟩
  rw [hcnd] at hcn hwe
  have hD : ∀ V : ZS, V = (zup S.1 3 10 ((A + cn : Nat) : Int), S.2) → (if (zsub (V.1 3 10) (A : Int)) = 3 then (F_X6_isAt (A : Int) 0 V).bind fun r19 => if r19 = 0 then (F_X6_isAt (A : Int) 1 V).bind fun r21 => if r21 = 0 then some (.inr (4, V)) else some (.inr (8, V)) else some (.inr (5, V)) else if (zsub (V.1 3 10) (A : Int)) = 4 then (F_X6_wordOfFour (A : Int) V).bind fun r24 => some (.inr (r24, V)) else if (zsub (V.1 3 10) (A : Int)) = 5 then (F_X6_isAt (A : Int) 2 V).bind fun r26 => if r26 = 0 then some (.inr (4, V)) else some (.inr (7, V)) else if (zsub (V.1 3 10) (A : Int)) = 6 then (F_X6_isAt (A : Int) 3 V).bind fun r29 => if r29 = 0 then some (.inr (4, V)) else some (.inr (6, V)) else some (.inr (4, V)))
      = (some (.inr ((tck (tky b A cn) : Int), V)) : Option (ZS ⊕ (Int × ZS))) := by
    intro V hV
    have hCV : CTape V b n := by
      rw [hV]
      exact ⟨h.1, by dsimp only; rw [zup_k (by decide)]; exact h.2.1, h.2.2⟩
    have v10 : zsub (V.1 3 10) (A : Int) = (cn : Int) := by
      rw [hV]
      dsimp only
      rw [zup_s, zsub_ok (by omega) (by omega)]
      omega
    rw [v10]
    by_cases c3 : cn = 3
    · subst c3
      rw [if_pos (by omega), lp_isAt hCV (q := 0) (by decide) (by have : (zstr 0).length = 3 := rfl; omega), Option.bind_some]
      unfold tky
      by_cases d0 : tms b (zstr 0) A = (zstr 0).length
      · rw [if_pos d0, if_neg (by decide), if_pos ⟨rfl, d0⟩]; rfl
      rw [if_neg d0, if_pos rfl, if_neg (fun z => d0 z.2), if_neg (tky_n (by decide)), if_neg (tky_n (by decide)), lp_isAt hCV (q := 1) (by decide) (by have : (zstr 1).length = 3 := rfl; omega), Option.bind_some]
      by_cases d1 : tms b (zstr 1) A = (zstr 1).length
      · rw [if_pos d1, if_neg (by decide), if_pos ⟨rfl, d1⟩]; rfl
      rw [if_neg d1, if_pos rfl, if_neg (fun z => d1 z.2), if_neg (tky_n (by decide)), if_neg (tky_n (by decide)), if_neg (tky_n (by decide)), if_neg (tky_n (by decide)), if_neg (tky_n (by decide))]; rfl
    rw [if_neg (by omega)]
    by_cases c4 : cn = 4
    · subst c4
      rw [if_pos (by omega), lp_word4 hCV (by omega), Option.bind_some]
    rw [if_neg (by omega)]
    by_cases c5 : cn = 5
    · subst c5
      rw [if_pos (by omega), lp_isAt hCV (q := 2) (by decide) (by have : (zstr 2).length = 5 := rfl; omega), Option.bind_some]
      unfold tky
      rw [if_neg (tky_n (by decide)), if_neg (tky_n (by decide))]
      by_cases d0 : tms b (zstr 2) A = (zstr 2).length
      · rw [if_pos d0, if_neg (by decide), if_pos ⟨rfl, d0⟩]; rfl
      rw [if_neg d0, if_pos rfl, if_neg (fun z => d0 z.2), if_neg (tky_n (by decide)), if_neg (tky_n (by decide)), if_neg (tky_n (by decide)), if_neg (tky_n (by decide)), if_neg (tky_n (by decide)), if_neg (tky_n (by decide))]; rfl
    rw [if_neg (by omega)]
    by_cases c6 : cn = 6
    · subst c6
      rw [if_pos (by omega), lp_isAt hCV (q := 3) (by decide) (by have : (zstr 3).length = 6 := rfl; omega), Option.bind_some]
      unfold tky
      rw [if_neg (tky_n (by decide))]
      by_cases d0 : tms b (zstr 3) A = (zstr 3).length
      · rw [if_pos d0, if_neg (by decide), if_pos ⟨rfl, d0⟩]; rfl
      rw [if_neg d0, if_pos rfl, if_neg (fun z => d0 z.2), if_neg (tky_n (by decide)), if_neg (tky_n (by decide)), if_neg (tky_n (by decide)), if_neg (tky_n (by decide)), if_neg (tky_n (by decide)), if_neg (tky_n (by decide)), if_neg (tky_n (by decide))]; rfl
    rw [if_neg (by omega), tky_len ⟨c3, c4, c5, c6⟩]; rfl
  rw [hwe, show A + cn - A = cn by omega]
  refine zw_for (fun d => (zup S.1 3 10 ((A + d : Nat) : Int), S.2)) cn ?_ (fun d hd => ?_) ?_
  · rw [Nat.add_zero, ← hA, zup_self]
  · have hl2 : 97 ≤ b (A + d) ∧ b (A + d) ≤ 122 := by
      have := of_decide_eq_false (fnd_no (p := fun d => decide (¬(97 ≤ b (A + d) ∧ b (A + d) ≤ 122))) (n := n - A) (k := d) (by omega))
      omega
    have hc := (CT_l h (show A + d < n by omega)).1.mpr hl2
    have k9 : zup S.1 3 10 ((A + d : Nat) : Int) 3 9 = (n : Int) := by rw [zup_k (by decide)]; exact h.2.1
    dsimp only
    simp only [zup_s, k9, Int.toNat_natCast]
    rw [if_pos (by omega), if_pos (by omega), lp_isL, Option.bind_some, if_pos hc, if_neg (by decide)]
    unfold zlt
    dsimp only
    rw [zup_up, zadd_ok (by omega) (by omega)]
    congr 4
  · have k9 : zup S.1 3 10 ((A + cn : Nat) : Int) 3 9 = (n : Int) := by rw [zup_k (by decide)]; exact h.2.1
    have hD' := hD _ rfl
    rw [show cn = cn from rfl] at hD'
    by_cases c : A + cn < n
    · have hn : ¬(97 ≤ b (A + cn) ∧ b (A + cn) ≤ 122) := by
        have := of_decide_eq_true (fnd_yes (p := fun d => decide (¬(97 ≤ b (A + d) ∧ b (A + d) ≤ 122))) (n := n - A) (by omega))
        rw [hcnd] at this
        exact this
      have hc : ¬(97 ≤ S.2 3 1 (A + cn) ∧ S.2 3 1 (A + cn) ≤ 122) := fun z => hn ((CT_l h c).1.mp z)
      dsimp only at hD' ⊢
      have e1 : (zup S.1 3 10 ((A + cn : Nat) : Int) 3 10) < (zup S.1 3 10 ((A + cn : Nat) : Int) 3 9) := by rw [zup_s, k9]; omega
      have e2 : 0 ≤ (zup S.1 3 10 ((A + cn : Nat) : Int) 3 10) ∧ (zup S.1 3 10 ((A + cn : Nat) : Int) 3 10) < 400 := by rw [zup_s]; omega
      have e3 : (if 97 ≤ S.2 3 1 (zup S.1 3 10 ((A + cn : Nat) : Int) 3 10).toNat ∧ S.2 3 1 (zup S.1 3 10 ((A + cn : Nat) : Int) 3 10).toNat ≤ 122 then (1 : Int) else 0) = 0 := by
        rw [zup_s, Int.toNat_natCast]
        exact if_neg hc
      rw [if_pos e1, if_pos e2, lp_isL, Option.bind_some, if_pos e3]
      exact hD'
    · dsimp only at hD' ⊢
      have e1 : ¬(zup S.1 3 10 ((A + cn : Nat) : Int) 3 10) < (zup S.1 3 10 ((A + cn : Nat) : Int) 3 9) := by rw [zup_s, k9]; omega
      rw [if_neg e1]
      exact hD'
theorem lp_num8 (h : CTape S b n) (hA : S.1 3 10 = (A : Int)) (hAn : A < n) (hl : 48 ≤ b A ∧ b A ≤ 57) {j : Nat} (hj : S.1 3 7 = (j : Int)) (hj4 : j ≤ 400) :
    zp (F_X6_nextNumber S) (fun v => v.1 = (if 3 < tdg b n A - A then 1 else 2) ∧ v.2.1 = zup S.1 3 10 (tdg b n A : Int) ∧ ∃ x, v.2.2 = zuA S.2 3 7 (zset (S.2 3 7) j x) ∧ (¬ 3 < tdg b n A - A → x = tnv b A (tdg b n A - A))) := by
  have h0 := h.1
  have hw := tdg_b hAn hl
  have hcn := fnd_le (fun d => decide (¬(48 ≤ b (A + d) ∧ b (A + d) ≤ 57))) (n - A)
  have hwe : tdg b n A = A + fnd (fun d => decide (¬(48 ≤ b (A + d) ∧ b (A + d) ≤ 57))) (n - A) := rfl
  unfold F_X6_nextNumber
  rw [hA]
  unfold F_X6_nextNumber_7
  obtain ⟨cn, hcnd⟩ : ∃ cn, fnd (fun d => decide (¬(48 ≤ b (A + d) ∧ b (A + d) ≤ 57))) (n - A) = cn := ⟨_, rfl⟩
  rw [hcnd] at hcn hwe
  rw [hwe, show A + cn - A = cn by omega]
  have hdig : ∀ d, d < cn → 48 ≤ b (A + d) ∧ b (A + d) ≤ 57 := fun d hd => by
    have := of_decide_eq_false (fnd_no (p := fun d => decide (¬(48 ≤ b (A + d) ∧ b (A + d) ≤ 57))) (n := n - A) (k := d) (by omega))
    omega
  refine zp_w (fun e st => ∃ d x, e + d = cn ∧ st = (x, (zup S.1 3 10 ((A + d : Nat) : Int), S.2)) ∧ (0 ≤ x ∧ x ≤ 9999) ∧ (d ≤ 3 → x = tnv b A d)) (fun e st hst => ?_) cn _ ⟨0, 0, by omega, by rw [Nat.add_zero, ← hA, zup_self], by omega, fun _ => rfl⟩
  obtain ⟨d, x, hed, rfl, hx, hx3⟩ := hst
  have k9 : zup S.1 3 10 ((A + d : Nat) : Int) 3 9 = (n : Int) := by rw [zup_k (by decide)]; exact h.2.1
  have k7 : zup S.1 3 10 ((A + d : Nat) : Int) 3 7 = (j : Int) := by rw [zup_k (by decide)]; exact hj
  simp only [zup_s, k9, Int.toNat_natCast]
  have hfin : d = cn → zp (zjn (σ := Int × ZS) (F_X6_nextNumber_70 (A : Int) x (zup S.1 3 10 ((A + d : Nat) : Int), S.2))) (zor2 (fun s' => ∃ m, m < e ∧ ∃ d x, m + d = cn ∧ s' = (x, (zup S.1 3 10 ((A + d : Nat) : Int), S.2)) ∧ (0 ≤ x ∧ x ≤ 9999) ∧ (d ≤ 3 → x = tnv b A d))
      (fun v => v.1 = (if 3 < cn then 1 else 2) ∧ v.2.1 = zup S.1 3 10 ((A + cn : Nat) : Int) ∧ ∃ x, v.2.2 = zuA S.2 3 7 (zset (S.2 3 7) j x) ∧ (¬ 3 < cn → x = tnv b A cn))) := by
    intro hd
    subst hd
    rw [zp_in]
    unfold F_X6_nextNumber_70
    have hs : zsub ((A + d : Nat) : Int) (A : Int) = (d : Int) := by rw [zsub_ok (by omega) (by omega)]; omega
    simp only [k7, Int.toNat_natCast]
    refine zp_pos (by omega) (zp_lt.mpr ?_)
    simp only [zup_s, hs]
    refine zp_if (fun c => zp_some.mpr (zor2_r.mpr ⟨?_, rfl, x, rfl, fun z => hx3 (by omega)⟩)) (fun c => zp_some.mpr (zor2_r.mpr ⟨?_, rfl, x, rfl, fun z => hx3 (by omega)⟩))
    · rw [if_pos (by omega)]
    · rw [if_neg (by omega)]
  rcases Nat.lt_or_ge d cn with hd | hd
  · have hb := hdig d hd
    obtain ⟨_, c2, _, _, _, c6⟩ := CT_l h (show A + d < n by omega)
    have c6 := c6 (by omega)
    refine zp_pos (by omega) (zp_pos (by omega) (zp_bind.mpr ?_))
    rw [lp_isD, zp_some, c6, if_pos hb]
    have f1 : zadd ((A + d : Nat) : Int) 1 = ((A + (d + 1) : Nat) : Int) := by rw [zadd_ok (by omega) (by omega)]; omega
    refine zp_neg (by decide) (zp_lt.mpr (zp_lt.mpr (zp_some.mpr (zor2_l.mpr ⟨e - 1, by omega, d + 1, zmin 9999 (zadd (zmul x 10) (zsub (b (A + d)) 48)), by omega, by rw [zup_up, f1], ?_, fun z => ?_⟩))))
    · rw [zmul_ok (by omega) (by omega), zsub_ok (by omega) (by omega), zadd_ok (by omega) (by omega), zmin_d]
      omega
    · have h1 := hx3 (by omega)
      have h2 := tnv_b (b := b) (a := A) d (by omega) (fun d' hd' => hdig d' (by omega))
      have : d = 0 ∨ d = 1 ∨ d = 2 := by omega
      rw [zmul_ok (by omega) (by omega), zsub_ok (by omega) (by omega), zadd_ok (by omega) (by omega), zmin_d]
      show _ = 10 * tnv b A d + (b (A + d) - 48)
      rw [h1] at *
      rcases this with rfl | rfl | rfl <;> simp at h2 <;> omega
  · have hde : d = cn := by omega
    have hf := hfin hde
    refine zp_if (fun c => zp_pos (by omega) (zp_bind.mpr ?_)) (fun c => hf)
    have hn : ¬(48 ≤ b (A + d) ∧ b (A + d) ≤ 57) := by
      have := of_decide_eq_true (fnd_yes (p := fun d => decide (¬(48 ≤ b (A + d) ∧ b (A + d) ≤ 57))) (n := n - A) (by omega))
      rw [hcnd, ← hde] at this
      exact this
    rw [lp_isD, zp_some, if_neg (fun z => hn ((CT_l h (show A + d < n by omega)).2.1.mp z))]
    exact zp_pos rfl hf
theorem lp_kind8 (h : CTape S b n) (hA : S.1 3 10 = (A : Int)) (hAn : A ≤ n) {j : Nat} (hj : S.1 3 7 = (j : Int)) (hj4 : j ≤ 400) :
    zp (F_X6_nextKind S) (fun v => v.1 = (tck (tkd b n A) : Int) ∧ v.2.1 = zup S.1 3 10 (tbh b n A : Int) ∧ (∀ r o, r ≠ 3 ∨ o ≠ 7 → v.2.2 r o = S.2 r o) ∧ (∀ i, i ≠ j → v.2.2 3 7 i = S.2 3 7 i) ∧ (tkd b n A = 10 → v.2.2 3 7 j = tnv b A (tdg b n A - A))) := by
  have h0 := h.1
  unfold F_X6_nextKind
  rw [hA, h.2.1]
  refine zp_if (fun c => zp_pos (by omega) (zp_bind.mpr ?_)) (fun c => zp_some.mpr ⟨?_, ?_, fun r o _ => rfl, fun i _ => rfl, fun z => ?_⟩)
  · have hc := CT_l h (show A < n by omega)
    rw [lp_isL, zp_some, Int.toNat_natCast]
    unfold tkd tbh
    rw [if_neg (show ¬ n ≤ A by omega), if_neg (show ¬ n ≤ A by omega)]
    by_cases c1 : 97 ≤ b A ∧ b A ≤ 122
    · rw [if_pos (hc.1.mpr c1), if_pos c1, if_pos c1]
      refine zp_neg (by decide) (zp_bind.mpr ?_)
      rw [zp_eq (lp_word8 h hA (by omega) c1)]
      refine zp_some.mpr ⟨rfl, rfl, fun r o _ => rfl, fun i _ => rfl, fun z => ?_⟩
      have := tky_9 (b := b) A (twd b n A - A)
      omega
    · rw [if_neg (fun z => c1 (hc.1.mp z)), if_neg c1, if_neg c1]
      refine zp_pos rfl (zp_bind.mpr ?_)
      rw [lp_isD, zp_some]
      by_cases c2 : 48 ≤ b A ∧ b A ≤ 57
      · rw [if_pos (hc.2.1.mpr c2), if_pos c2, if_pos c2]
        refine zp_neg (by decide) (zp_bind.mpr (zp_mono (lp_num8 h hA (by omega) c2 hj hj4) fun v hv => zp_some.mpr ?_))
        obtain ⟨v1, v2, x, v3, v4⟩ := hv
        refine ⟨?_, v2, fun r o hro => ?_, fun i hi => ?_, fun z => ?_⟩
        · rw [v1]
          split <;> rfl
        · rw [v3]
          funext k
          rw [zuA_ap, if_neg (by omega)]
        · rw [v3, zuA_s, zset_n hi]
        · rw [v3, zuA_s, zset_s]
          refine v4 fun y => ?_
          rw [if_pos y] at z
          omega
      · rw [if_neg (fun z => c2 (hc.2.1.mp z)), if_neg c2, if_neg c2]
        refine zp_pos rfl (zp_lt.mpr ?_)
        rw [zadd_ok (by omega) (by omega)]
        refine zp_if (fun c3 => zp_some.mpr ?_) (fun c3 => zp_some.mpr ?_)
        · rw [if_pos (hc.2.2.1.mp c3)]
          exact ⟨rfl, rfl, fun r o _ => rfl, fun i _ => rfl, fun z => absurd z (by decide)⟩
        · rw [if_neg (fun z => c3 (hc.2.2.1.mpr z))]
          exact ⟨rfl, rfl, fun r o _ => rfl, fun i _ => rfl, fun z => absurd z (by decide)⟩
  · rw [tkd_end (by omega)]
    rfl
  · unfold tbh
    rw [if_pos (by omega), ← hA, zup_self]
  · rw [tkd_end (by omega)] at z
    omega
end TOKC
