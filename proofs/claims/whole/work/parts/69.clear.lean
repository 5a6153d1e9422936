/-! all sheets taken -/
theorem zuA_com {A : ZA} {r o r' o' : Nat} {g g' : Nat → Int} (h : o ≠ o' ∨ r ≠ r') : zuA (zuA A r o g) r' o' g' = zuA (zuA A r' o' g') r o g := by
  funext a b c
  simp only [zuA_ap]
  by_cases h1 : a = r' ∧ b = o'
  · by_cases h2 : a = r ∧ b = o
    · exfalso
      rcases h with z | z
      · exact z (h2.2.symm.trans h1.2)
      · exact z (h2.1.symm.trans h1.1)
    · rw [if_pos h1, if_neg h2, if_pos h1]
  · rw [if_neg h1]
    by_cases h2 : a = r ∧ b = o
    · rw [if_pos h2, if_pos h2]
    · rw [if_neg h2, if_neg h2, if_neg h1]
theorem getD_el {L : List Nat} {i : Nat} (h : i < L.length) : L.getD i 0 = L[i] := by
  rw [List.getD_eq_getElem?_getD, List.getElem?_eq_getElem h]
  rfl
/-- the first k of L are told v -/
def tkP (L : List Nat) (v : Int) (g : Nat → Int) : Nat → (Nat → Int)
  | 0 => g
  | k + 1 => zset (tkP L v g k) (L.getD k 0) v
theorem tkP_in {L : List Nat} {v : Int} {g : Nat → Int} : ∀ {k i : Nat}, i < k → tkP L v g k (L.getD i 0) = v
  | 0, i, h => by omega
  | k + 1, i, h => by
    unfold tkP
    rw [zset_ap]
    split
    · rfl
    · rename_i q
      have : i ≠ k := fun z => q (by rw [z])
      exact tkP_in (by omega)
theorem tkP_out {L : List Nat} {v : Int} {g : Nat → Int} {j : Nat} : ∀ {k : Nat}, (∀ i, i < k → L.getD i 0 ≠ j) → tkP L v g k j = g j
  | 0, _ => rfl
  | k + 1, h => by
    unfold tkP
    rw [zset_ap, if_neg (fun z => h k (by omega) z.symm)]
    exact tkP_out fun i hi => h i (by omega)
theorem tkP_m {L : List Nat} {v : Int} {g : Nat → Int} {j : Nat} (h : j ∈ L) : tkP L v g L.length j = v := by
  obtain ⟨i, hi, rfl⟩ := List.getElem_of_mem h
  rw [← getD_el hi]
  exact tkP_in hi
theorem tkP_n {L : List Nat} {v : Int} {g : Nat → Int} {j : Nat} (h : j ∉ L) : tkP L v g L.length j = g j := by
  refine tkP_out fun i hi z => h ?_
  rw [← z, getD_el hi]
  exact List.getElem_mem hi
section TAKE
variable {S : ZS} {T U : Nat} {L P : List Nat}
theorem lp_cut9 : F_X9_cutOff U S = some (S.1, zuA (zuA S.2 U 1 (zrg 0 19 (fun _ => 0) (S.2 U 1))) U 5 (zrg 0 19 (fun _ => -1) (S.2 U 5))) := by
  unfold F_X9_cutOff F_X9_cutOff_2
  refine zw_for (fun i => ((i : Int), (S.1, zuA (zuA S.2 U 1 (zrg 0 i (fun _ => 0) (S.2 U 1))) U 5 (zrg 0 i (fun _ => -1) (S.2 U 5))))) 19 ?_ (fun i hi => ?_) ?_
  · rw [zrg_0, zrg_0, zuA_same, zuA_same]; rfl
  · have e1 : ∀ g g' : Nat → Int, zuA (zuA S.2 U 1 g) U 5 g' U 1 = g := fun g g' => (zuA_o (by decide)).trans zuA_s
    have e2 : ∀ g g' g'' : Nat → Int, zuA (zuA (zuA S.2 U 1 g) U 5 g') U 1 g'' U 5 = g' := fun g g' g'' => (zuA_o (by decide)).trans zuA_s
    have e3 : ∀ g g' g'' h' : Nat → Int, zuA (zuA (zuA (zuA S.2 U 1 g) U 5 g') U 1 g'') U 5 h' = zuA (zuA S.2 U 1 g'') U 5 h' := by
      intro g g' g'' h'
      rw [zuA_com (A := zuA S.2 U 1 g) (Or.inl (by decide)), zuA_A, zuA_A]
    simp (disch := omega) only [zlt, if_pos, zadd_ok, Int.toNat_natCast]
    rw [e1, e2, e3, zrg_z rfl, zrg_z rfl]; rfl
  · simp (disch := omega) only [zlt, if_neg]
theorem lp_take40 {x : Int} (h4 : S.1 T 4 = (P.length : Int)) (hp : P.length ≤ 3) (hA : ∀ i (h : i < P.length), S.2 T 15 i = (P[i] : Int)) (hb : ∀ a, a ∈ P → a < 40) :
    F_X8_takeAll_40 T x 0 S = some (x, (zup (zup (zup S.1 T 13 0) T 4 0) T 3 (-1), zuA (zuA (zuA S.2 T 6 (tkP P 4 (S.2 T 6) P.length)) (T + 1) 1 (zrg 0 19 (fun _ => 0) (S.2 (T + 1) 1))) (T + 1) 5 (zrg 0 19 (fun _ => -1) (S.2 (T + 1) 5)))) := by
  have er : T + 1 ≠ T := by omega
  unfold F_X8_takeAll_40
  refine zw_for (fun i => ((i : Int), (S.1, zuA S.2 T 6 (tkP P 4 (S.2 T 6) i)))) P.length ?_ (fun i hi => ?_) ?_
  · show _ = ((0 : Int), (S.1, zuA S.2 T 6 (S.2 T 6)))
    rw [zuA_same]
  · have e15 : zuA S.2 T 6 (tkP P 4 (S.2 T 6) i) T 15 = S.2 T 15 := zuA_o (by decide)
    have hh := hb _ (List.getElem_mem hi)
    dsimp only
    simp only [e15, Int.toNat_natCast, hA i hi, h4]
    rw [if_pos (by omega), if_pos (by omega), if_pos (by omega), zadd_ok (by omega) (by omega)]
    unfold zlt
    dsimp only
    rw [zuA_s, zuA_A, ← getD_el hi]
    rfl
  · dsimp only
    rw [h4, if_neg (by omega)]
    unfold zlt
    dsimp only
    rw [lp_cut9, Option.bind_some]
    dsimp only
    rw [zuA_R er]
theorem lp_take8 (hL : S.1 T 13 = (L.length : Int)) (hl : L.length ≤ 40) (hA : ∀ i (h : i < L.length), S.2 T 13 i = (L[i] : Int)) (hLb : ∀ a, a ∈ L → a < 40)
    (h4 : S.1 T 4 = (P.length : Int)) (hp : P.length ≤ 3) (hPA : ∀ i (h : i < P.length), S.2 T 15 i = (P[i] : Int)) (hPb : ∀ a, a ∈ P → a < 40) :
    F_X8_takeAll T S = some (((L.length + P.length : Nat) : Int), (zup (zup (zup S.1 T 13 0) T 4 0) T 3 (-1), zuA (zuA (zuA S.2 T 6 (tkP P 4 (tkP L 4 (S.2 T 6) L.length) P.length)) (T + 1) 1 (zrg 0 19 (fun _ => 0) (S.2 (T + 1) 1))) (T + 1) 5 (zrg 0 19 (fun _ => -1) (S.2 (T + 1) 5)))) := by
  have er : T + 1 ≠ T := by omega
  unfold F_X8_takeAll F_X8_takeAll_12
  rw [hL, h4, zadd_ok (by omega) (by omega)]
  refine zw_for (fun i => ((i : Int), (S.1, zuA S.2 T 6 (tkP L 4 (S.2 T 6) i)))) L.length ?_ (fun i hi => ?_) ?_
  · show _ = ((0 : Int), (S.1, zuA S.2 T 6 (S.2 T 6)))
    rw [zuA_same]
  · have e13 : zuA S.2 T 6 (tkP L 4 (S.2 T 6) i) T 13 = S.2 T 13 := zuA_o (by decide)
    have hh := hLb _ (List.getElem_mem hi)
    dsimp only
    simp only [e13, Int.toNat_natCast, hA i hi, hL]
    rw [if_pos (by omega), if_pos (by omega), if_pos (by omega), zadd_ok (by omega) (by omega)]
    unfold zlt
    dsimp only
    rw [zuA_s, zuA_A, ← getD_el hi]
    rfl
  · have e15 : ∀ g, zuA S.2 T 6 g T 15 = S.2 T 15 := fun g => zuA_o (by decide)
    have e7 : ∀ g o, zuA S.2 T 6 g (T + 1) o = S.2 (T + 1) o := fun g o => by rw [zuA_R er]
    dsimp only
    rw [hL, if_neg (by omega), lp_take40 (S := (S.1, zuA S.2 T 6 (tkP L 4 (S.2 T 6) L.length))) (P := P) h4 hp (fun i h => by (show zuA S.2 T 6 _ T 15 i = _); rw [e15]; exact hPA i h) hPb]
    dsimp only
    rw [zuA_s, zuA_A, e7, e7, zjn]
    rfl
/-- a sheet that goes when all are taken -/
def gst (g : Nat → Int) (j : Nat) : Bool := decide (g j = 0 ∨ g j = 3 ∨ g j = 1)
def gtk (g : Nat → Int) (i : Nat) : Nat → Int := fun j => if j < i ∧ gst g j = true then 4 else g j
theorem cnt_or {p q r : Nat → Bool} (h : ∀ i, r i = (p i || q i)) (hd : ∀ i, p i = true → q i = false) : ∀ n, cnt r n = cnt p n + cnt q n
  | 0 => rfl
  | n + 1 => by
    unfold cnt
    rw [cnt_or h hd n, h n]
    cases hp : p n
    · cases hq : q n <;> simp <;> omega
    · rw [hd n hp]
      simp
      omega
theorem lp_clr140 {x : Int} : F_X12_clear_140 x 0 S = some (x, (S.1, zuA S.2 1 39 (zrg 0 19 (fun _ => 0) (S.2 1 39)))) := by
  unfold F_X12_clear_140
  refine zw_for (fun i => ((i : Int), (S.1, zuA S.2 1 39 (zrg 0 i (fun _ => 0) (S.2 1 39))))) 19 ?_ (fun i hi => ?_) ?_
  · rw [zrg_0, zuA_same]; rfl
  · simp (disch := omega) only [zlt, if_pos, zadd_ok, Int.toNat_natCast, zuA_s, zuA_A]
    rw [zrg_z rfl]; rfl
  · simp (disch := omega) only [if_neg]
theorem lp_clr83 {m : Nat} (hm : S.1 1 27 = (m : Int)) (h40 : m ≤ 40) :
    F_X12_clear_83 0 0 S = some ((cnt (gst (S.2 1 33)) m : Int), (zup S.1 1 29 (-1), zuA (zuA S.2 1 33 (gtk (S.2 1 33) m)) 1 39 (zrg 0 19 (fun _ => 0) (S.2 1 39)))) := by
  unfold F_X12_clear_83
  refine zw_for (fun i => ((cnt (gst (S.2 1 33)) i : Int), (i : Int), (S.1, zuA S.2 1 33 (gtk (S.2 1 33) i)))) m ?_ (fun i hi => ?_) ?_
  · have e : gtk (S.2 1 33) 0 = S.2 1 33 := by
      funext j
      exact if_neg (by omega)
    rw [e, zuA_same]
    rfl
  · have hc := cnt_le (gst (S.2 1 33)) i
    have es : gtk (S.2 1 33) i i = S.2 1 33 i := if_neg (by omega)
    have ec : cnt (gst (S.2 1 33)) (i + 1) = cnt (gst (S.2 1 33)) i + (if gst (S.2 1 33) i then 1 else 0) := rfl
    have f1 : zadd (i : Int) 1 = ((i + 1 : Nat) : Int) := by rw [zadd_ok (by omega) (by omega)]; rfl
    have f2 : zadd (cnt (gst (S.2 1 33)) i : Int) 1 = ((cnt (gst (S.2 1 33)) i + 1 : Nat) : Int) := by rw [zadd_ok (by omega) (by omega)]; rfl
    have hgo : F_X12_isGoing (i : Int) (S.1, zuA S.2 1 33 (gtk (S.2 1 33) i)) = some (if S.2 1 33 i = 0 ∨ S.2 1 33 i = 3 then 1 else 0) := by
      unfold F_X12_isGoing
      dsimp only
      rw [if_pos (by omega)]
      simp only [Int.toNat_natCast, zuA_s, es]
      by_cases c : S.2 1 33 i = 0
      · rw [if_pos c, if_pos (Or.inl c)]
      · by_cases d : S.2 1 33 i = 3
        · rw [if_neg c, if_pos d, if_pos (Or.inr d)]
        · rw [if_neg c, if_neg d, if_neg (fun z => by rcases z with z | z; exact c z; exact d z)]
    have h115 : gst (S.2 1 33) i = true → F_X12_clear_115 (cnt (gst (S.2 1 33)) i : Int) (i : Int) (S.1, zuA S.2 1 33 (gtk (S.2 1 33) i)) = some (.inl ((cnt (gst (S.2 1 33)) (i + 1) : Int), ((i + 1 : Nat) : Int), (S.1, zuA S.2 1 33 (gtk (S.2 1 33) (i + 1))))) := by
      intro hg
      unfold F_X12_clear_115
      have e : zset (gtk (S.2 1 33) i) i 4 = gtk (S.2 1 33) (i + 1) := by
        funext j
        unfold zset gtk
        by_cases q : j = i
        · subst q
          rw [if_pos rfl, if_pos ⟨by omega, hg⟩]
        · rw [if_neg q]
          by_cases q2 : j < i ∧ gst (S.2 1 33) j = true
          · rw [if_pos q2, if_pos ⟨by omega, q2.2⟩]
          · rw [if_neg q2, if_neg (fun z => q2 ⟨by omega, z.2⟩)]
      rw [if_pos (by omega)]
      unfold zlt
      dsimp only
      rw [Int.toNat_natCast, zuA_s, zuA_A, e, f1, f2, ec, if_pos hg]
    have hn : gst (S.2 1 33) i = false → gtk (S.2 1 33) (i + 1) = gtk (S.2 1 33) i := by
      intro hg
      funext j
      unfold gtk
      by_cases q2 : j < i ∧ gst (S.2 1 33) j = true
      · rw [if_pos q2, if_pos ⟨by omega, q2.2⟩]
      · rw [if_neg q2, if_neg]
        intro z
        by_cases q : j = i
        · rw [q, hg] at z
          exact absurd z.2 (by decide)
        · exact q2 ⟨by omega, z.2⟩
    dsimp only
    rw [hm, if_pos (by omega), hgo, Option.bind_some]
    by_cases c : S.2 1 33 i = 0 ∨ S.2 1 33 i = 3
    · rw [if_pos c, if_neg (by decide)]
      exact h115 (decide_eq_true (by omega))
    · rw [if_neg c, if_pos rfl, if_pos (by omega)]
      simp only [Int.toNat_natCast, zuA_s, es]
      by_cases d : S.2 1 33 i = 1
      · rw [if_pos d]
        exact h115 (decide_eq_true (by omega))
      · have hg : gst (S.2 1 33) i = false := decide_eq_false (by omega)
        rw [if_neg d, f1, ec, hg, hn hg]
        rfl
  · dsimp only
    rw [hm, if_neg (by omega)]
    unfold zlt
    dsimp only
    rw [lp_clr140]
    have e39 : ∀ g, zuA S.2 1 33 g 1 39 = S.2 1 39 := fun g => zuA_o (by decide)
    dsimp only
    rw [e39, zjn]
    rfl
end TAKE
section XCLR
variable {wp sheets now jam jam' eyes : Int} {n : Nat} {L P : List Nat} {I6 I6' : Nat → Int} {A6 A6' A7 A7' : Nat → Nat → Int} {wy ro len head state side stood came turned state' seeing seeing' kept passings passOn passOff : Nat → Int}
theorem X_clear (R : TrafR I6 A6 wp sheets now jam len head state side stood came turned L P) (K : TrafOK wy ro sheets now jam len head state side stood came turned L P n)
    (hI : ∀ q, I6' q = if q = 3 then -1 else if q = 4 then 0 else if q = 13 then 0 else I6 q)
    (hA : ∀ j, j ∈ L ∨ j ∈ P → A6' 6 j = 4) (hN : ∀ j, j ∉ L → j ∉ P → A6' 6 j = A6 6 j) (hO : ∀ o j, o ≠ 6 → A6' o j = A6 o j)
    (hst : ∀ j : Nat, (j : Int) < sheets → state' j = if gst state j = true then 4 else state j) (hj : jam' = -1) :
    TrafR I6' A6' wp sheets now jam' len head state' side stood came turned [] [] ∧ TrafOK wy ro sheets now jam' len head state' side stood came turned [] [] n := by
  obtain ⟨r1, r2, r3, r4, r5, r6, r7, rs, rL, rP⟩ := R
  obtain ⟨⟨o1, o2⟩, ⟨o3, o4⟩, o5, os, oL, oLp, oP, oPp, oPl, o6, o7, o8⟩ := K
  have h4 : ∀ s : Nat, (s : Int) < sheets → state' s ≠ 0 ∧ state' s ≠ 1 ∧ state' s ≠ 3 ∧ (0 ≤ state' s ∧ state' s ≤ 4) ∧ A6' 6 s = state' s := by
    intro s hs
    have q1 := (os s hs).1
    have q2 := (rs s hs).1
    rw [hst s hs]
    by_cases c : gst state s = true
    · have c2 := of_decide_eq_true c
      rw [if_pos c, hA s]
      · omega
      · rw [oL, oP]
        rcases c2 with z | z | z
        · exact Or.inl ⟨hs, Or.inl z⟩
        · exact Or.inl ⟨hs, Or.inr z⟩
        · exact Or.inr ⟨hs, z⟩
    · have c2 := of_decide_eq_false (Bool.not_eq_true _ ▸ c)
      rw [if_neg c, hN s (fun z => by have := (oL s).mp z; omega) (fun z => by have := (oP s).mp z; omega)]
      omega
  refine ⟨⟨?_, ?_, ?_, ?_, ?_, ?_, ?_, fun s hs => ?_, fun i h => absurd h (by simp), fun i h => absurd h (by simp)⟩, ⟨o1, o2⟩, ⟨o3, o4⟩, Or.inl hj, fun s hs => ?_, fun s => ?_, List.Pairwise.nil, fun s => ?_, List.Pairwise.nil, ?_, o6, fun s hs h _ => ?_, fun s hs h => ?_⟩
  · rw [hI]; exact r1
  · rw [hI]; exact r2
  · rw [hI, hj]; rfl
  · rw [hI]; rfl
  · rw [hI]; rfl
  · rw [hI]; exact r6
  · rw [hI]; exact r7
  · obtain ⟨_, q2, q3, q4, q5, q6, q7⟩ := rs s hs
    have := h4 s hs
    rw [hO 7 s (by decide), hO 8 s (by decide), hO 9 s (by decide), hO 10 s (by decide), hO 12 s (by decide)]
    exact ⟨this.2.2.2.2, q2, q3, q4, q5, q6, fun z => absurd z this.2.1⟩
  · obtain ⟨_, q2, q3, q4, q5, q6, _⟩ := os s hs
    have := h4 s hs
    exact ⟨this.2.2.2.1, q2, q3, q4, q5, q6, fun z => absurd z this.2.2.1, fun z => absurd z this.2.1, fun z => absurd z this.1, fun z => by rcases z with z | z; exact absurd z this.1; exact absurd z this.2.2.1⟩
  · constructor
    · intro z; cases z
    · rintro ⟨hs, z⟩
      have := h4 s hs
      rcases z with z | z
      · exact absurd z this.1
      · exact absurd z this.2.2.1
  · constructor
    · intro z; cases z
    · rintro ⟨hs, z⟩
      exact absurd z (h4 s hs).2.1
  · show ((0 : Nat) : Int) ≤ wy 3
    omega
  · have := h4 s hs
    rcases h with z | z
    · exact absurd z this.1
    · exact absurd z this.2.2.1
  · exact absurd h (h4 s hs).1
theorem W_clear (H : WatR A7 eyes seeing kept passings passOn passOff) (he : eyes ≤ 19) (hA : ∀ o j, A7' o j = if o = 5 then (if j < 19 then -1 else A7 o j) else if o = 1 then (if j < 19 then 0 else A7 o j) else A7 o j) (hs : ∀ j, j < 19 → seeing' j = 0) :
    WatR A7' eyes seeing' kept passings passOn passOff := by
  intro e h
  obtain ⟨_, _, q3, q4, q5, q6, _, _⟩ := H e h
  have h19 : e < 19 := by omega
  simp only [hA, Nat.reduceEqDiff, reduceIte, if_pos h19, hs e h19]
  exact ⟨by trivial, Or.inl (by trivial), fun z => absurd z (by decide), q4, q5, q6, fun z => absurd z.1 (by decide), fun _ => by trivial⟩
end XCLR
section PCLR
variable {n : Nat} {S : ZS} {x1 x2 : Int}
theorem lp_leave11 {F m : Nat} {x : Int} (hm : S.1 F 3 = (m : Int)) (h3 : m ≤ 3) :
    F_X1_leaveCorner F x S = some (if m < 3 ∧ ¬ fnd (fun i => decide (S.2 F 3 i = x)) m < m then (1, (zup S.1 F 3 ((m + 1 : Nat) : Int), zuA S.2 F 3 (zset (S.2 F 3) m x))) else (0, S)) := by
  unfold F_X1_leaveCorner
  rw [hm]
  by_cases c : m < 3
  · rw [if_pos (by omega), lp_cornerAt hm h3, Option.bind_some]
    by_cases d : fnd (fun i => decide (S.2 F 3 i = x)) m < m
    · rw [if_pos d, if_neg (by omega), if_neg (fun z => z.2 d)]
    · rw [if_neg d, if_pos rfl, if_pos (by omega), if_pos ⟨c, d⟩]
      unfold zlt
      dsimp only
      rw [hm, Int.toNat_natCast, zadd_ok (by omega) (by omega)]
      rfl
  · rw [if_neg (by omega), if_neg (fun z => c z.1)]
theorem lp_leave12 {m : Nat} {x : Int} (hm : S.1 1 26 = (m : Int)) (h3 : m ≤ 3) :
    F_X12_leaves x S = some (if m < 3 ∧ ¬ fnd (fun i => decide (S.2 1 26 i = x)) m < m then (1, (zup S.1 1 26 ((m + 1 : Nat) : Int), zuA S.2 1 26 (zset (S.2 1 26) m x))) else (0, S)) := by
  unfold F_X12_leaves
  rw [hm]
  by_cases c : m < 3
  · rw [if_neg (by omega), lp_cornerOf hm h3, Option.bind_some]
    by_cases d : fnd (fun i => decide (S.2 1 26 i = x)) m < m
    · rw [if_pos d, if_neg (by omega), if_neg (fun z => z.2 d)]
    · rw [if_neg d, if_pos rfl, if_pos (by omega), if_pos ⟨c, d⟩]
      unfold zlt
      dsimp only
      rw [hm, Int.toNat_natCast, zadd_ok (by omega) (by omega)]
      rfl
  · rw [if_pos (by omega), if_neg (fun z => c z.1)]
theorem pair_clear (h : Inv n S) (hb : x1 = 0 ∨ x1 = 1) : Pair n S (F_X11_clear x1) (F_X12_clear x1) := by
  obtain ⟨hT, hW, hF, hX, hO, hC, hJ, hI, hP, hK, hR, hM⟩ := h
  have hX := InvX_up hX
  obtain ⟨hWo, hWd⟩ := id hW
  obtain ⟨⟨g1, g2⟩, ⟨g3, g4⟩, ⟨g5, g6⟩, g7, g8, g9, g10, g11, g12⟩ := id hWo
  obtain ⟨W, hw1, hw2, hWR⟩ : ∃ W : Nat, (W = 19 ∨ W = 20) ∧ (S.1 2 11).toNat = W ∧ WayR (S.1 W) (S.2 W) (S.2 1 4) (S.2 1 6) (S.2 1 7) (S.2 1 10) := by
    rcases hWd with ⟨q1, q2, q3⟩ | ⟨q1, q2, q3⟩
    · exact ⟨19, Or.inl rfl, by rw [q1]; rfl, q3⟩
    · exact ⟨20, Or.inr rfl, by rw [q1]; rfl, q3⟩
  obtain ⟨w0, w1, w2, w3, w4, w5, w6, w7, w8, w9⟩ := id hWR
  obtain ⟨⟨L, P, R, K⟩, hWa⟩ := id hX
  obtain ⟨r1, r2, r3, r4, r5, r6, r7, rs, rL, rP⟩ := id R
  obtain ⟨⟨o1, o2⟩, ⟨o3, o4⟩, o5, os, oL, oLp, oP, oPp, oPl, o6, o7, o8⟩ := id K
  obtain ⟨m, hm⟩ : ∃ m : Nat, S.1 1 27 = (m : Int) := ⟨_, (Int.toNat_of_nonneg o1).symm⟩
  obtain ⟨hf1, hf2, ⟨hf3, hf4⟩, hf5⟩ := id hF
  obtain ⟨q, hq⟩ : ∃ q : Nat, S.1 1 26 = (q : Int) := ⟨_, (Int.toNat_of_nonneg hf3).symm⟩
  rcases o5 with c0 | ⟨c0, c1, c2⟩
  · unfold Pair F_X11_clear
    refine zp_pos (by omega) (zp_some.mpr ⟨rfl, zp_gen S rfl rfl rfl (fun T hE t0 t1 t2 => ?_)⟩)
    unfold F_X12_clear
    refine zp_lt.mpr (zp_pos (by dsimp only; rw [zup_k (by decide), t1]; exact c0) (zp_some.mpr ?_))
    replace hE := hE.symm
    subst hE
    exact ⟨rfl, rfl, hT, hW, hF, hX, hO, hC, hJ, hI, hP, hK, hR, hM⟩
  obtain ⟨j, hj⟩ : ∃ j : Nat, S.1 1 29 = (j : Int) := ⟨_, (Int.toNat_of_nonneg c0).symm⟩
  have hjs := os j (by omega)
  have hjr := rs j (by omega)
  have hL40 : L.length ≤ m := nodup_le m L (sort_nodup (hd := S.2 1 32) (ten := fun a => 10 * S.2 1 31 a) oLp (fun a ha => by have := (os a ((oL a).mp ha).1).2.1; (try dsimp only); omega)) (fun a ha => by have := ((oL a).mp ha).1; omega)
  have hP3 : P.length ≤ 3 := by
    rcases Nat.eq_zero_or_pos P.length with z | z
    · omega
    · have hh := (os P[0] (((oP P[0]).mp (List.getElem_mem z)).1)).2.2.2.2.2.2.2.1 (((oP P[0]).mp (List.getElem_mem z)).2)
      have ht := (os P[0] (((oP P[0]).mp (List.getElem_mem z)).1)).2.2.2.2.2.1
      rcases g7 with z2 | z2
      · rcases ht with z3 | z3
        · omega
        · exact absurd z2 z3.2
      · omega
  have hLb : ∀ a, a ∈ L → a < 40 := fun a ha => by have := ((oL a).mp ha).1; omega
  have hPb : ∀ a, a ∈ P → a < 40 := fun a ha => by have := ((oP a).mp ha).1; omega
  have hcnt : cnt (gst (S.2 1 33)) m = L.length + P.length := by
    rw [cnt_or (p := fun s => decide (S.2 1 33 s = 0 ∨ S.2 1 33 s = 3)) (q := fun s => decide (S.2 1 33 s = 1)) (r := gst (S.2 1 33)) (fun i => ?_) (fun i hp => decide_eq_false (by have := of_decide_eq_true hp; omega))]
    · rw [← len_cnt m L (sort_nodup (hd := S.2 1 32) (ten := fun a => 10 * S.2 1 31 a) oLp (fun a ha => by have := (os a ((oL a).mp ha).1).2.1; (try dsimp only); omega)) (fun s => by rw [oL s, decide_eq_true_iff]; omega)]
      rw [← len_cnt m P (oPp.imp (fun {a b} q z => by subst z; omega)) (fun s => by rw [oP s, decide_eq_true_iff]; omega)]
    · unfold gst
      by_cases c : S.2 1 33 i = 0 ∨ S.2 1 33 i = 3
      · rw [decide_eq_true c, decide_eq_true (by omega)]; rfl
      · rw [decide_eq_false c, Bool.false_or]
        by_cases d : S.2 1 33 i = 1
        · rw [decide_eq_true d, decide_eq_true (by omega)]
        · rw [decide_eq_false d, decide_eq_false (by omega)]
  have f10 : zdiv (S.2 1 32 j) 10 = S.2 1 32 j / 10 := zdiv_ok (by omega) (by omega) (by omega) (by omega)
  -- with the corners' cells as they come
  have fin : ∀ (B : Nat → Nat → Int) (A : ZA), (∀ r, r ≠ 4 → B r = S.1 r) → (∀ r, r ≠ 4 → A r = S.2 r) → zp (F_X8_takeAll 6 (B, A)) (fun v => v.1 = ((L.length + P.length : Nat) : Int) ∧ (∀ r, r ≠ 4 → r ≠ 6 → v.2.1 r = S.1 r) ∧ v.2.1 4 = B 4 ∧ (∀ r, r ≠ 4 → r ≠ 6 → r ≠ 7 → v.2.2 r = S.2 r) ∧ v.2.2 4 = A 4 ∧
      (∀ k, v.2.1 6 k = if k = 3 then -1 else if k = 4 then 0 else if k = 13 then 0 else S.1 6 k) ∧ (∀ i, i ∈ L ∨ i ∈ P → v.2.2 6 6 i = 4) ∧ (∀ i, i ∉ L → i ∉ P → v.2.2 6 6 i = S.2 6 6 i) ∧ (∀ o i, o ≠ 6 → v.2.2 6 o i = S.2 6 o i) ∧
      (∀ o i, v.2.2 7 o i = if o = 5 then (if i < 19 then -1 else S.2 7 o i) else if o = 1 then (if i < 19 then 0 else S.2 7 o i) else S.2 7 o i)) := by
    intro B A hB hA
    have h6 := hB 6 (by decide)
    have h6A := hA 6 (by decide)
    have h7A := hA 7 (by decide)
    have ht := lp_take8 (S := (B, A)) (T := 6) (L := L) (P := P) (by show B 6 13 = _; rw [h6]; exact r5) (by omega) (fun i h => by show A 6 13 i = _; rw [h6A]; exact rL i h) hLb (by show B 6 4 = _; rw [h6]; exact r4) hP3 (fun i h => by show A 6 15 i = _; rw [h6A]; exact rP i h) hPb
    rw [zp_eq ht]
    refine ⟨rfl, fun r hr hr2 => ?_, rfl, fun r hr hr2 hr3 => ?_, rfl, fun k => ?_, fun i hi => ?_, fun i h1 h2 => ?_, fun o i ho => ?_, fun o i => ?_⟩
    · dsimp only
      rw [zup_R hr2, zup_R hr2, zup_R hr2]
      exact hB r hr
    · dsimp only
      rw [zuA_R hr3, zuA_R hr3, zuA_R hr2]
      exact hA r hr
    · dsimp only
      simp only [zup_ap, h6, true_and]
    · dsimp only
      rw [zuA_r (by decide), zuA_r (by decide), zuA_s]
      by_cases c : i ∈ P
      · exact tkP_m c
      · rw [tkP_n c]
        exact tkP_m (hi.resolve_right c)
    · dsimp only
      rw [zuA_r (by decide), zuA_r (by decide), zuA_s, tkP_n h2, tkP_n h1, h6A]
    · dsimp only
      rw [zuA_r (by decide), zuA_r (by decide), zuA_o ho, h6A]
    · dsimp only
      simp only [zuA_ap, zrg_ap, true_and, h7A, Nat.zero_le, Nat.zero_add, (show (7 : Nat) ≠ 6 by decide), false_and, if_false]
      (repeat' split) <;> first | rfl | (exfalso; omega) | (subst_vars; rfl)
  have ref : ∀ (T : ZS), T.1 1 27 = (m : Int) → T.2 1 33 = S.2 1 33 → F_X12_clear_83 0 0 T = some (((L.length + P.length : Nat) : Int), (zup T.1 1 29 (-1), zuA (zuA T.2 1 33 (gtk (S.2 1 33) m)) 1 39 (zrg 0 19 (fun _ => 0) (T.2 1 39)))) := by
    intro T h1 h2
    rw [lp_clr83 h1 (by omega), h2, hcnt]
  have inv : ∀ v : Int × ZS, ∀ (q' : Nat) (cor' : Nat → Int), (∀ r, r ≠ 4 → r ≠ 6 → v.2.1 r = S.1 r) → (∀ r, r ≠ 4 → r ≠ 6 → r ≠ 7 → v.2.2 r = S.2 r) →
      (∀ k, v.2.1 6 k = if k = 3 then -1 else if k = 4 then 0 else if k = 13 then 0 else S.1 6 k) → (∀ i, i ∈ L ∨ i ∈ P → v.2.2 6 6 i = 4) → (∀ i, i ∉ L → i ∉ P → v.2.2 6 6 i = S.2 6 6 i) → (∀ o i, o ≠ 6 → v.2.2 6 o i = S.2 6 o i) →
      (∀ o i, v.2.2 7 o i = if o = 5 then (if i < 19 then -1 else S.2 7 o i) else if o = 1 then (if i < 19 then 0 else S.2 7 o i) else S.2 7 o i) →
      InvF (v.2.1 4) (v.2.2 4) (S.2 1 4 0) (S.2 1 24) (S.2 1 25) cor' (q' : Int) → ∀ (I1 : Nat → Int) (A1 : Nat → Nat → Int), (∀ k, k ≠ 0 → k ≠ 26 → k ≠ 29 → I1 k = S.1 1 k) → I1 26 = (q' : Int) → I1 29 = -1 → (∀ k, k ≠ 26 → k ≠ 33 → k ≠ 39 → A1 k = S.2 1 k) → A1 26 = cor' → A1 33 = gtk (S.2 1 33) m → A1 39 = zrg 0 19 (fun _ => 0) (S.2 1 39) →
      ∀ U : ZS, U.1 1 = I1 → U.2 1 = A1 → (∀ r, r ≠ 1 → U.1 r = v.2.1 r) → (∀ r, r ≠ 1 → U.2 r = v.2.2 r) → Inv (n + 1) U := by
    intro v q' cor' a1 a2 a3 a4 a5 a6 a7 a8 I1 A1 b1 b2 b3 b4 b5 b6 b7 U u1 u2 u3 u4
    have i1 : ∀ r, r ≠ 1 → r ≠ 4 → r ≠ 6 → U.1 r = S.1 r := fun r h1 h2 h3 => by rw [u3 r h1, a1 r h2 h3]
    have i2 : ∀ r, r ≠ 1 → r ≠ 4 → r ≠ 6 → r ≠ 7 → U.2 r = S.2 r := fun r h1 h2 h3 h4 => by rw [u4 r h1, a2 r h2 h3 h4]
    unfold Inv
    rw [u1, u2, u3 4 (by decide), u4 4 (by decide), u3 6 (by decide), u4 6 (by decide), u4 7 (by decide)]
    rw [i1 2 (by decide) (by decide) (by decide), i1 3 (by decide) (by decide) (by decide), i1 10 (by decide) (by decide) (by decide), i1 11 (by decide) (by decide) (by decide), i1 12 (by decide) (by decide) (by decide), i1 13 (by decide) (by decide) (by decide), i1 14 (by decide) (by decide) (by decide), i1 16 (by decide) (by decide) (by decide), i1 17 (by decide) (by decide) (by decide), i1 19 (by decide) (by decide) (by decide), i1 20 (by decide) (by decide) (by decide)]
    rw [i2 2 (by decide) (by decide) (by decide) (by decide), i2 3 (by decide) (by decide) (by decide) (by decide), i2 10 (by decide) (by decide) (by decide) (by decide), i2 11 (by decide) (by decide) (by decide) (by decide), i2 12 (by decide) (by decide) (by decide) (by decide), i2 13 (by decide) (by decide) (by decide) (by decide), i2 14 (by decide) (by decide) (by decide) (by decide), i2 16 (by decide) (by decide) (by decide) (by decide), i2 18 (by decide) (by decide) (by decide) (by decide), i2 19 (by decide) (by decide) (by decide) (by decide), i2 20 (by decide) (by decide) (by decide) (by decide)]
    rw [b1 2 (by decide) (by decide) (by decide), b1 21 (by decide) (by decide) (by decide), b1 22 (by decide) (by decide) (by decide), b1 27 (by decide) (by decide) (by decide), b1 28 (by decide) (by decide) (by decide), b2, b5, b6, b7]
    rw [b4 2 (by decide) (by decide) (by decide), b4 4 (by decide) (by decide) (by decide), b4 6 (by decide) (by decide) (by decide), b4 7 (by decide) (by decide) (by decide), b4 10 (by decide) (by decide) (by decide), b4 24 (by decide) (by decide) (by decide), b4 25 (by decide) (by decide) (by decide), b4 31 (by decide) (by decide) (by decide), b4 32 (by decide) (by decide) (by decide), b4 34 (by decide) (by decide) (by decide), b4 35 (by decide) (by decide) (by decide), b4 36 (by decide) (by decide) (by decide), b4 37 (by decide) (by decide) (by decide), b4 38 (by decide) (by decide) (by decide), b4 40 (by decide) (by decide) (by decide), b4 41 (by decide) (by decide) (by decide), b4 42 (by decide) (by decide) (by decide), b4 43 (by decide) (by decide) (by decide), b4 44 (by decide) (by decide) (by decide), b4 45 (by decide) (by decide) (by decide), b4 55 (by decide) (by decide) (by decide), b4 56 (by decide) (by decide) (by decide), b4 67 (by decide) (by decide) (by decide), b4 68 (by decide) (by decide) (by decide), b4 69 (by decide) (by decide) (by decide)]
    refine ⟨hT, hW, a8, ⟨⟨[], [], X_clear (wy := S.2 1 4) (ro := S.2 1 6) R K a3 a4 a5 a6 (fun i hi => ?_) b3⟩, W_clear hWa g6 a7 (fun i hi => ?_)⟩, hO, hC, hJ, hI, hP, hK, hR, hM⟩
    · unfold gtk
      by_cases c : gst (S.2 1 33) i = true
      · rw [if_pos ⟨by omega, c⟩, if_pos c]
      · rw [if_neg (fun z => c z.2), if_neg c]
    · rw [zrg_ap, if_pos (by omega)]
  have a7 : S.2 6 7 j = S.2 1 32 j := hjr.2.1
  unfold Pair F_X11_clear
  refine zp_neg (by omega) (zp_pos (by omega) ?_)
  rcases hb with hb | hb
  · refine zp_pos hb (zp_bind.mpr (zp_mono (fin S.1 S.2 (fun r _ => rfl) (fun r _ => rfl)) fun v hv => zp_some.mpr ?_))
    obtain ⟨v0, v1, v2, v3, v4, v5, v6, v7, v8, v9⟩ := hv
    have t1 := v1 1 (by decide) (by decide)
    have t2 := v3 1 (by decide) (by decide) (by decide)
    refine ⟨by show v.2.2 0 = _; rw [v3 0 (by decide) (by decide) (by decide)], ?_⟩
    unfold F_X12_clear
    refine zp_lt.mpr ?_
    dsimp only
    have k29 : zup v.2.1 1 0 0 1 29 = (j : Int) := by rw [zup_k (by decide), t1]; exact hj
    simp only [k29, Int.toNat_natCast, t2, f10]
    have r83 := ref (zup v.2.1 1 0 0, v.2.2) (by show zup v.2.1 1 0 0 1 27 = _; rw [zup_k (by decide), t1]; exact hm) (by show v.2.2 1 33 = _; rw [t2])
    have goal : zp (F_X12_clear_83 0 0 (zup v.2.1 1 0 0, v.2.2)) (fun u => u.1 = v.1 ∧ u.2.2 0 = S.2 0 ∧ Inv (n + 1) u.2) := by
      rw [zp_eq r83]
      refine ⟨v0.symm, ?_, inv v q (S.2 1 26) v1 v3 v5 v6 v7 v8 v9 (by rw [v2, v4, ← hq]; exact hF) _ _ (fun k h0 h26 h29 => ?_) ?_ ?_ (fun k h26 h33 h39 => ?_) ?_ ?_ ?_ _ rfl rfl (fun r hr => ?_) (fun r hr => ?_)⟩
      · dsimp only
        rw [zuA_R (by decide), zuA_R (by decide)]
        exact v3 0 (by decide) (by decide) (by decide)
      · dsimp only
        rw [zup_k h29, zup_k h0, t1]
      · dsimp only
        rw [zup_k (by decide), zup_k (by decide), t1]; exact hq
      · dsimp only
        rw [zup_s]
      · dsimp only
        rw [zuA_o h39, zuA_o h33, t2]
      · dsimp only
        rw [zuA_o (by decide), zuA_o (by decide), t2]
      · dsimp only
        rw [zuA_o (by decide), zuA_s]
      · dsimp only
        rw [zuA_s, t2]
      · dsimp only
        rw [zup_R hr, zup_R hr]
      · dsimp only
        rw [zuA_R hr, zuA_R hr]
    refine zp_neg (by omega) (zp_pos (by omega) (zp_if (fun _ => zp_pos hb goal) (fun _ => zp_if (fun _ => zp_pos hb goal) (fun _ => zp_pos hb goal))))
  · have e7 : zmax 1 (zmin (S.1 W 0) (zdiv (S.2 6 7 (S.1 6 3).toNat) 10)) = max 1 (min (S.2 1 4 0) (S.2 1 32 j / 10)) := by
      rw [r3, hj, Int.toNat_natCast, a7, f10, w0, zmin_d, zmax_d]
    refine zp_neg (by omega) (zp_pos (by omega) ?_)
    rw [hw2]
    refine zp_pos hw1 (zp_bind.mpr ?_)
    rw [e7]
    have hx : 1 ≤ max 1 (min (S.2 1 4 0) (S.2 1 32 j / 10)) ∧ max 1 (min (S.2 1 4 0) (S.2 1 32 j / 10)) ≤ S.2 1 4 0 := by omega
    have hx3 : max 1 (min (S.2 1 4 0) (S.2 1 32 j / 10)) = if S.2 1 32 j / 10 < 1 then 1 else if S.2 1 4 0 < S.2 1 32 j / 10 then S.2 1 4 0 else S.2 1 32 j / 10 := by
      (repeat' split) <;> omega
    generalize max 1 (min (S.2 1 4 0) (S.2 1 32 j / 10)) = x at hx hx3
    have ef : fnd (fun i => decide (S.2 4 3 i = x)) q = fnd (fun i => decide (S.2 1 26 i = x)) q := fnd_cong fun i hi => by rw [(hf5 i (by omega)).1]
    have l11 := lp_leave11 (S := S) (F := 4) (x := x) (m := q) (hf2.trans hq) (by omega)
    rw [ef] at l11
    rw [zp_eq l11]
    by_cases cl : q < 3 ∧ ¬ fnd (fun i => decide (S.2 1 26 i = x)) q < q
    · rw [if_pos cl]
      dsimp only
      refine zp_bind.mpr (zp_mono (fin (zup S.1 4 3 ((q + 1 : Nat) : Int)) (zuA S.2 4 3 (zset (S.2 4 3) q x)) (fun r hr => zup_R hr) (fun r hr => zuA_R hr)) fun v hv => zp_some.mpr ?_)
      obtain ⟨v0, v1, v2, v3, v4, v5, v6, v7, v8, v9⟩ := hv
      have t1 := v1 1 (by decide) (by decide)
      have t2 := v3 1 (by decide) (by decide) (by decide)
      refine ⟨by show v.2.2 0 = _; rw [v3 0 (by decide) (by decide) (by decide)], ?_⟩
      unfold F_X12_clear
      refine zp_lt.mpr ?_
      dsimp only
      have k29 : zup v.2.1 1 0 0 1 29 = (j : Int) := by rw [zup_k (by decide), t1]; exact hj
      simp only [k29, Int.toNat_natCast, t2, f10]
      have l12 := lp_leave12 (S := (zup v.2.1 1 0 0, v.2.2)) (x := x) (m := q) (by show zup v.2.1 1 0 0 1 26 = _; rw [zup_k (by decide), t1]; exact hq) (by omega)
      dsimp only at l12
      simp only [t2] at l12
      rw [if_pos cl] at l12
      have r83 := ref (zup (zup v.2.1 1 0 0) 1 26 ((q + 1 : Nat) : Int), zuA v.2.2 1 26 (zset (S.2 1 26) q x)) (by dsimp only; rw [zup_k (by decide), zup_k (by decide), t1]; exact hm) (by dsimp only; rw [zuA_o (by decide), t2])
      have goal0 : zp (F_X12_clear_83 0 0 (zup (zup v.2.1 1 0 0) 1 26 ((q + 1 : Nat) : Int), zuA v.2.2 1 26 (zset (S.2 1 26) q x))) (fun u => u.1 = v.1 ∧ u.2.2 0 = S.2 0 ∧ Inv (n + 1) u.2) := by
        rw [zp_eq r83]
        refine ⟨v0.symm, ?_, inv v (q + 1) (zset (S.2 1 26) q x) v1 v3 v5 v6 v7 v8 v9 ?_ _ _ (fun k h0 h26 h29 => ?_) ?_ ?_ (fun k h26 h33 h39 => ?_) ?_ ?_ ?_ _ rfl rfl (fun r hr => ?_) (fun r hr => ?_)⟩
        · dsimp only
          rw [zuA_R (by decide), zuA_R (by decide), zuA_R (by decide)]
          exact v3 0 (by decide) (by decide) (by decide)
        · rw [v2, v4]
          rw [hq] at hF
          exact F_leave (m := q) (x := x) hF cl.1 hx (by rw [zup_s]) (fun o i => by simp only [zuA_ap, zset_ap, true_and]; (repeat' split) <;> first | rfl | (exfalso; omega) | (subst_vars; rfl)) (fun i => zset_ap)
        · dsimp only
          rw [zup_k h29, zup_k h26, zup_k h0, t1]
        · dsimp only
          rw [zup_k (by decide), zup_s]
        · dsimp only
          rw [zup_s]
        · dsimp only
          rw [zuA_o h39, zuA_o h33, zuA_o h26, t2]
        · dsimp only
          rw [zuA_o (by decide), zuA_o (by decide), zuA_s]
        · dsimp only
          rw [zuA_o (by decide), zuA_s]
        · dsimp only
          rw [zuA_s, zuA_o (by decide), t2]
        · dsimp only
          rw [zup_R hr, zup_R hr, zup_R hr]
        · dsimp only
          rw [zuA_R hr, zuA_R hr, zuA_R hr]
      have goal : zp ((F_X12_leaves x (zup v.2.1 1 0 0, v.2.2)).bind fun r => if r.1 = 0 then F_X12_clear_83 0 0 r.2 else F_X12_clear_83 0 0 r.2) (fun u => u.1 = v.1 ∧ u.2.2 0 = S.2 0 ∧ Inv (n + 1) u.2) := by
        refine zp_bind.mpr ?_
        rw [zp_eq l12]
        exact zp_neg (by dsimp only; decide) goal0
      refine zp_neg (by omega) (zp_pos (by omega) (zp_if (fun y => zp_neg (by omega) ?_) (fun y => zp_if (fun y2 => zp_neg (by omega) ?_) (fun y2 => zp_neg (by omega) ?_))))
      · rw [if_pos y] at hx3; subst hx3; exact goal
      · rw [if_neg y, if_pos y2] at hx3; subst hx3; exact goal
      · rw [if_neg y, if_neg y2] at hx3; subst hx3; exact goal
    · rw [if_neg cl]
      dsimp only
      refine zp_bind.mpr (zp_mono (fin S.1 S.2 (fun r _ => rfl) (fun r _ => rfl)) fun v hv => zp_some.mpr ?_)
      obtain ⟨v0, v1, v2, v3, v4, v5, v6, v7, v8, v9⟩ := hv
      have t1 := v1 1 (by decide) (by decide)
      have t2 := v3 1 (by decide) (by decide) (by decide)
      refine ⟨by show v.2.2 0 = _; rw [v3 0 (by decide) (by decide) (by decide)], ?_⟩
      unfold F_X12_clear
      refine zp_lt.mpr ?_
      dsimp only
      have k29 : zup v.2.1 1 0 0 1 29 = (j : Int) := by rw [zup_k (by decide), t1]; exact hj
      simp only [k29, Int.toNat_natCast, t2, f10]
      have l12 := lp_leave12 (S := (zup v.2.1 1 0 0, v.2.2)) (x := x) (m := q) (by show zup v.2.1 1 0 0 1 26 = _; rw [zup_k (by decide), t1]; exact hq) (by omega)
      dsimp only at l12
      simp only [t2] at l12
      rw [if_neg cl] at l12
      have r83 := ref (zup v.2.1 1 0 0, v.2.2) (by show zup v.2.1 1 0 0 1 27 = _; rw [zup_k (by decide), t1]; exact hm) (by show v.2.2 1 33 = _; rw [t2])
      have goal0 : zp (F_X12_clear_83 0 0 (zup v.2.1 1 0 0, v.2.2)) (fun u => u.1 = v.1 ∧ u.2.2 0 = S.2 0 ∧ Inv (n + 1) u.2) := by
        rw [zp_eq r83]
        refine ⟨v0.symm, ?_, inv v q (S.2 1 26) v1 v3 v5 v6 v7 v8 v9 (by rw [v2, v4, ← hq]; exact hF) _ _ (fun k h0 h26 h29 => ?_) ?_ ?_ (fun k h26 h33 h39 => ?_) ?_ ?_ ?_ _ rfl rfl (fun r hr => ?_) (fun r hr => ?_)⟩
        · dsimp only
          rw [zuA_R (by decide), zuA_R (by decide)]
          exact v3 0 (by decide) (by decide) (by decide)
        · dsimp only
          rw [zup_k h29, zup_k h0, t1]
        · dsimp only
          rw [zup_k (by decide), zup_k (by decide), t1]; exact hq
        · dsimp only
          rw [zup_s]
        · dsimp only
          rw [zuA_o h39, zuA_o h33, t2]
        · dsimp only
          rw [zuA_o (by decide), zuA_o (by decide), t2]
        · dsimp only
          rw [zuA_o (by decide), zuA_s]
        · dsimp only
          rw [zuA_s, t2]
        · dsimp only
          rw [zup_R hr, zup_R hr]
        · dsimp only
          rw [zuA_R hr, zuA_R hr]
      have goal : zp ((F_X12_leaves x (zup v.2.1 1 0 0, v.2.2)).bind fun r => if r.1 = 0 then F_X12_clear_83 0 0 r.2 else F_X12_clear_83 0 0 r.2) (fun u => u.1 = v.1 ∧ u.2.2 0 = S.2 0 ∧ Inv (n + 1) u.2) := by
        refine zp_bind.mpr ?_
        rw [zp_eq l12]
        exact zp_pos (by rfl) goal0
      refine zp_neg (by omega) (zp_pos (by omega) (zp_if (fun y => zp_neg (by omega) ?_) (fun y => zp_if (fun y2 => zp_neg (by omega) ?_) (fun y2 => zp_neg (by omega) ?_))))
      · rw [if_pos y] at hx3; subst hx3; exact goal
      · rw [if_neg y, if_pos y2] at hx3; subst hx3; exact goal
      · rw [if_neg y, if_neg y2] at hx3; subst hx3; exact goal
end PCLR
