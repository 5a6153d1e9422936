/-! pairs of the stack: the reference's table, the class's table -/
section MOST
variable {S : ZS} {st : Nat → Int} {n pg many : Nat}
/-- the reference's table from row k on -/
def kTb (st : Nat → Int) (n pg many : Nat) (T : Nat → Int) (k : Nat) : Prop := ∀ i w, k ≤ i → i ≤ n → w ≤ many → T (321 * i + w) = (kms st n pg many (n - i) (many - w) : Int)
def kTr (st : Nat → Int) (n pg many : Nat) (T : Nat → Int) (i k : Nat) : Prop := ∀ w, k ≤ w → w ≤ many → T (321 * i + w) = (kms st n pg many (n - i) (many - w) : Int)
theorem lp_mostAt {T : Nat → Int} {A : ZA} {I : Nat → Nat → Int} (i w : Nat) (hi : i ≤ 60) (hw : w ≤ 320) {x y : Int} (hx : x = (i : Int)) (hy : y = (w : Int)) : F_X12_mostAt x y (I, zuA A 1 63 T) = some (T (321 * i + w)) := by
  subst hx hy
  unfold F_X12_mostAt
  rw [zmul_ok (by omega) (by omega), zadd_ok (by omega) (by omega), if_pos (by omega), show (321 * (i : Int) + (w : Int)).toNat = 321 * i + w by omega]
  show some (zuA A 1 63 T 1 63 _) = _
  rw [zuA_s]
theorem lp_140 {T : Nat → Int} {A : ZA} {I : Nat → Nat → Int} {a b v : Int} (i w : Nat) (hi : i ≤ 60) (hw : w ≤ 320) : F_X12_pairs_140 a b (i : Int) (w : Int) v (I, zuA A 1 63 T) = some (.inl ((w : Int) - 1, (I, zuA A 1 63 (zset T (321 * i + w) v)))) := by
  unfold F_X12_pairs_140
  rw [zmul_ok (by omega) (by omega), zadd_ok (x := 321 * (i : Int)) (by omega) (by omega), if_pos (by omega), show (321 * (i : Int) + (w : Int)).toNat = 321 * i + w by omega, zadd_ok (by omega) (by omega)]
  unfold zlt
  dsimp only
  rw [zuA_s, zuA_A]
  rfl
/-- a row of the table -/
theorem lp_22 (hn : n ≤ 60) (hm : many ≤ 320) (hpg : many ≠ 0 → 0 < pg) (hp8 : pg ≤ 8) {A : ZA} {I : Nat → Nat → Int} (h31 : A 1 55 31 = (pg : Int)) (hst : ∀ j, A 1 55 (33 + j) = st j) {i : Nat} (hi : i ≤ n) :
    ∀ k, k ≤ many + 1 → ∀ T, kTb st n pg many T (i + 1) → kTr st n pg many T i k →
    zp (F_X12_pairs_22 (n : Int) (many : Int) (i : Int) ((k : Int) - 1) (I, zuA A 1 63 T)) (zor2 (fun s => ∃ T, s = ((i : Int) - 1, (I, zuA A 1 63 T)) ∧ kTb st n pg many T i) (fun _ => False)) := by
  intro k0 hk0 T0 hb0 hr0
  unfold F_X12_pairs_22
  refine zp_w (fun k (s : Int × ZS) => k ≤ many + 1 ∧ s.1 = (k : Int) - 1 ∧ ∃ T, s.2 = (I, zuA A 1 63 T) ∧ kTb st n pg many T (i + 1) ∧ kTr st n pg many T i k) ?_ k0 _ ⟨hk0, rfl, T0, rfl, hb0, hr0⟩
  rintro k ⟨x, s⟩ ⟨hk, hx, T, hs, hb, hr⟩
  dsimp only at hx hs
  subst hs
  cases k with
  | zero =>
    refine zp_pos (by show x < 0; omega) ?_
    rw [zp_some, zor2_r, zor2_l]
    refine ⟨T, ?_, ?_⟩
    · rw [zadd_ok (by omega) (by omega)]; rfl
    · intro i' w h1 h2 h3
      by_cases e : i' = i
      · subst e; exact hr w (by omega) h3
      · exact hb i' w (by omega) h2 h3
  | succ w =>
    have hx' : x = (w : Int) := by omega
    subst hx'
    have e55 : zuA A 1 63 T 1 55 = A 1 55 := zuA_o (by decide)
    refine zp_neg (by show ¬(w : Int) < 0; omega) ?_
    have fin : ∀ v : Int, v = (kms st n pg many (n - i) (many - w) : Int) → zp (F_X12_pairs_140 (n : Int) (many : Int) (i : Int) (w : Int) v (I, zuA A 1 63 T)) (zor2 (fun s' => ∃ m, m < w + 1 ∧ (m ≤ many + 1 ∧ s'.1 = (m : Int) - 1 ∧ ∃ T, s'.2 = (I, zuA A 1 63 T) ∧ kTb st n pg many T (i + 1) ∧ kTr st n pg many T i m)) (zor2 (fun s => ∃ T, s = ((i : Int) - 1, (I, zuA A 1 63 T)) ∧ kTb st n pg many T i) (fun _ => False))) := by
      intro v hv
      rw [lp_140 i w (by omega) (by omega), zp_some, zor2_l]
      refine ⟨w, by omega, by omega, rfl, _, rfl, ?_, ?_⟩
      · intro i' w' h1 h2 h3
        rw [zset_n (by omega)]
        exact hb i' w' h1 h2 h3
      · intro w' h1 h2
        by_cases e : w' = w
        · subst e; rw [zset_s, hv]
        · rw [zset_n (by omega)]
          exact hr w' (by omega) h2
    dsimp only
    by_cases c1 : i < n
    · refine zp_pos (by omega) ?_
      by_cases c2 : w < many
      · refine zp_pos (by omega) ?_
        have e1 : F_X12_mostAt (zadd (i : Int) 1) (w : Int) (I, zuA A 1 63 T) = some (kms st n pg many (n - (i + 1)) (many - w) : Int) := by
          rw [lp_mostAt (i + 1) w (by omega) (by omega) (by rw [zadd_ok (by omega) (by omega)]; omega) rfl, hb (i + 1) w (by omega) (by omega) (by omega)]
        have e2 : F_X12_mostAt (i : Int) (zadd (w : Int) 1) (I, zuA A 1 63 T) = some (kms st n pg many (n - i) (many - (w + 1)) : Int) := by
          rw [lp_mostAt i (w + 1) (by omega) (by omega) rfl (by rw [zadd_ok (by omega) (by omega)]; omega), hr (w + 1) (by omega) (by omega)]
        have e3 : F_X12_mostAt (zadd (i : Int) 1) (zadd (w : Int) 1) (I, zuA A 1 63 T) = some (kms st n pg many (n - (i + 1)) (many - (w + 1)) : Int) := by
          rw [lp_mostAt (i + 1) (w + 1) (by omega) (by omega) (by rw [zadd_ok (by omega) (by omega)]; omega) (by rw [zadd_ok (by omega) (by omega)]; omega), hb (i + 1) (w + 1) (by omega) (by omega) (by omega)]
        have ks := kms_s (st := st) (n := n) (pg := pg) (many := many) (n - (i + 1)) (many - (w + 1))
        rw [show n - (i + 1) + 1 = n - i by omega, show many - (w + 1) + 1 = many - w by omega, show n - (n - i) = i by omega, show many - (many - w) = w by omega] at ks
        have hp := hpg (by omega)
        have er : zrem (w : Int) (pg : Int) = ((w % pg : Nat) : Int) := by
          rw [zrem_ok (by omega) (by omega) (by omega) (by omega), Int.natCast_emod]
        have eg : (zadd 33 (i : Int)) = ((33 + i : Nat) : Int) := by rw [zadd_ok (by omega) (by omega)]; omega
        have b1 := kms_le (st := st) (n := n) (pg := pg) (many := many) (n - (i + 1)) (many - w)
        have b2 := kms_le (st := st) (n := n) (pg := pg) (many := many) (n - i) (many - (w + 1))
        have b3 := kms_le (st := st) (n := n) (pg := pg) (many := many) (n - (i + 1)) (many - (w + 1))
        rw [zp_bind, zp_eq e1, zp_bind, zp_eq e2]
        refine zp_if (fun c3 => ?_) (fun c3 => ?_)
        · skip
          rw [zp_bind, zp_eq e1]
          simp only [e55, eg, Int.toNat_natCast, hst, h31, er]
          refine zp_pos (by omega) (zp_pos (by omega) (zp_if (fun c4 => ?_) (fun c4 => ?_)))
          · rw [if_pos c4] at ks
            rw [zp_bind, zp_eq e3]
            refine zp_if (fun c5 => ?_) (fun c5 => ?_)
            · rw [zadd_ok (by omega) (by omega)] at c5
              rw [zp_bind, zp_eq e3]
              exact fin _ (by rw [zadd_ok (by omega) (by omega)]; omega)
            · rw [zadd_ok (by omega) (by omega)] at c5
              exact fin _ (by omega)
          · rw [if_neg c4] at ks
            exact fin _ (by omega)
        · skip
          rw [zp_bind, zp_eq e2]
          simp only [e55, eg, Int.toNat_natCast, hst, h31, er]
          refine zp_pos (by omega) (zp_pos (by omega) (zp_if (fun c4 => ?_) (fun c4 => ?_)))
          · rw [if_pos c4] at ks
            rw [zp_bind, zp_eq e3]
            refine zp_if (fun c5 => ?_) (fun c5 => ?_)
            · rw [zadd_ok (by omega) (by omega)] at c5
              rw [zp_bind, zp_eq e3]
              exact fin _ (by rw [zadd_ok (by omega) (by omega)]; omega)
            · rw [zadd_ok (by omega) (by omega)] at c5
              exact fin _ (by omega)
          · rw [if_neg c4] at ks
            exact fin _ (by omega)
      · refine zp_neg (by omega) (fin 0 ?_)
        rw [show many - w = 0 by omega, kms_w0]; rfl
    · refine zp_neg (by omega) (fin 0 ?_)
      rw [show n - i = 0 by omega, kms_0]; rfl
theorem lp_240 (hn : n ≤ 60) (hm : many ≤ 320) {A : ZA} {I : Nat → Nat → Int} {T U : Nat → Int} (hT : kTb st n pg many T 0) {w k : Nat} (hw : w < many) (hk : k ≤ n) {f l : Nat} (hl : 1 ≤ l ∧ l ≤ 60) :
    F_X12_pairs_240 (n : Int) (many : Int) (f : Int) (l : Int) (w : Int) (k : Int) (I, zuA (zuA A 1 63 T) 1 64 U) =
      some (.inl (if k < n ∧ 1 + kms st n pg many (n - (k + 1)) (many - (w + 1)) = l then (((k + 1 : Nat) : Int), ((l - 1 : Nat) : Int), ((w + 1 : Nat) : Int), (I, zuA (zuA A 1 63 T) 1 64 (zset U w k))) else ((f : Int), (l : Int), ((w + 1 : Nat) : Int), (I, zuA (zuA A 1 63 T) 1 64 U)))) := by
  unfold F_X12_pairs_240
  rw [zadd_ok (x := (w : Int)) (by omega) (by omega), zadd_ok (x := (k : Int)) (by omega) (by omega)]
  by_cases c1 : k = n
  · rw [if_pos (by omega), if_neg (by omega)]; rfl
  · have hsw : zuA (zuA A 1 63 T) 1 64 U = zuA (zuA A 1 64 U) 1 63 T := by
      funext r o j
      unfold zuA
      by_cases q : r = 1 ∧ o = 64
      · rw [if_pos q, if_neg (by omega), if_pos q]
      · rw [if_neg q, if_neg (c := r = 1 ∧ o = 64) q]
    have e1 : F_X12_mostAt ((k : Int) + 1) ((w : Int) + 1) (I, zuA (zuA A 1 63 T) 1 64 U) = some (kms st n pg many (n - (k + 1)) (many - (w + 1)) : Int) := by
      rw [hsw, lp_mostAt (k + 1) (w + 1) (by omega) (by omega) (by omega) (by omega), hT (k + 1) (w + 1) (by omega) (by omega) (by omega)]
    have hb := kms_le (st := st) (n := n) (pg := pg) (many := many) (n - (k + 1)) (many - (w + 1))
    rw [if_neg (by omega), e1, Option.bind_some, zadd_ok (x := 1) (by omega) (by omega)]
    by_cases c2 : 1 + kms st n pg many (n - (k + 1)) (many - (w + 1)) = l
    · rw [if_pos (by omega), if_pos (by omega), if_pos ⟨by omega, c2⟩, zadd_ok (by omega) (by omega), Int.toNat_natCast]
      unfold zlt
      dsimp only
      rw [zuA_s, zuA_A, show (l : Int) + -1 = ((l - 1 : Nat) : Int) by omega]
      rfl
    · rw [if_neg (by omega), if_neg (by omega)]; rfl
theorem lp_205 (hn : n ≤ 60) (hpg : 0 < pg) (hp8 : pg ≤ 8) {S : ZS} (h31 : S.2 1 55 31 = (pg : Int)) (hst : ∀ j, S.2 1 55 (33 + j) = st j) {w : Nat} (hw : w < 320) {f : Nat} (hf : f ≤ n) {b l : Int} {Q : (Int × Int × Int × ZS) ⊕ ZS → Prop}
    (h : zp (F_X12_pairs_240 (n : Int) b (f : Int) l (w : Int) (kfi st n pg f w : Int) S) Q) : zp (F_X12_pairs_205 (n : Int) b (f : Int) l (w : Int) (f : Int) S) Q := by
  have hkl : kfi st n pg f w ≤ n := fnd_le _ n
  have hfk : f ≤ kfi st n pg f w := by
    rcases Nat.lt_or_ge (kfi st n pg f w) n with q | q
    · exact (kfi_spec q).1
    · omega
  unfold F_X12_pairs_205
  refine zp_w (fun m (s : Int) => ∃ j : Nat, s = (j : Int) ∧ f ≤ j ∧ j ≤ kfi st n pg f w ∧ m = kfi st n pg f w - j) ?_ (kfi st n pg f w - f) _ ⟨f, rfl, Nat.le_refl f, hfk, rfl⟩
  rintro m _ ⟨j, rfl, h1, h2, rfl⟩
  have er : zrem (w : Int) (pg : Int) = ((w % pg : Nat) : Int) := by rw [zrem_ok (by omega) (by omega) (by omega) (by omega), Int.natCast_emod]
  by_cases c1 : j < n
  · have eg : (zadd 33 (j : Int)) = ((33 + j : Nat) : Int) := by rw [zadd_ok (by omega) (by omega)]; omega
    simp only [eg, Int.toNat_natCast, hst, h31, er]
    refine zp_pos (by omega) (zp_pos (by omega) (zp_pos (by omega) (zp_if (fun c2 => ?_) (fun c2 => ?_))))
    · have : kfi st n pg f w = j := by
        rcases Nat.lt_or_ge j (kfi st n pg f w) with q | q
        · exfalso
          rcases Nat.lt_or_ge (kfi st n pg f w) n with q2 | q2
          · exact (kfi_spec q2).2.2 j h1 q c2
          · exact kfi_none (by omega) j h1 c1 c2
        · omega
      rw [zp_in, ← this]
      exact zp_mono h fun v hv => hv
    · have : j ≠ kfi st n pg f w := by
        intro z
        have := (kfi_spec (st := st) (n := n) (pg := pg) (f := f) (w := w) (by omega)).2.1
        rw [← z] at this
        exact c2 this
      rw [zp_some, zor2_l]
      exact ⟨kfi st n pg f w - (j + 1), by omega, j + 1, by rw [zadd_ok (by omega) (by omega)]; rfl, by omega, by omega, rfl⟩
  · refine zp_neg (by omega) ?_
    have : kfi st n pg f w = j := by omega
    rw [zp_in, ← this]
    exact zp_mono h fun v hv => hv
theorem lp_180 (hn : n ≤ 60) (hm : many ≤ 320) (hpg : many ≠ 0 → 0 < pg) (hp8 : pg ≤ 8) {A : ZA} {I : Nat → Nat → Int} {T : Nat → Int} (h31 : A 1 55 31 = (pg : Int)) (hst : ∀ j, A 1 55 (33 + j) = st j) (hT : kTb st n pg many T 0) {U0 : Nat → Int} :
    zp (F_X12_pairs_180 (n : Int) (many : Int) 0 (kms st n pg many n many : Int) 0 (I, zuA (zuA A 1 63 T) 1 64 U0)) (fun s => ∃ U, s = (I, zuA (zuA A 1 63 T) 1 64 U) ∧ ∀ w, w < many → U w = kpo st n pg many w) := by
  unfold F_X12_pairs_180
  refine zp_w (fun k (s : Int × Int × Int × ZS) => ∃ w : Nat, ∃ U, k = many - w ∧ w ≤ many ∧ s = (((kst st n pg many w).1 : Int), ((kst st n pg many w).2 : Int), (w : Int), (I, zuA (zuA A 1 63 T) 1 64 U)) ∧ ∀ v, v < w → U v = kpo st n pg many v) ?_ many _ ⟨0, U0, by omega, by omega, rfl, fun v hv => by omega⟩
  rintro k s ⟨w, U, rfl, hw, rfl, hU⟩
  obtain ⟨hf, hlq⟩ := kst_ok (st := st) (n := n) (pg := pg) w hw
  have hlb := kms_le (st := st) (n := n) (pg := pg) (many := many) (n - (kst st n pg many w).1) (many - w)
  have ek : kst st n pg many (w + 1) = (let q := kst st n pg many w; if q.2 = 0 then q else if kfi st n pg q.1 w < n ∧ 1 + kms st n pg many (n - (kfi st n pg q.1 w + 1)) (many - (w + 1)) = q.2 then (kfi st n pg q.1 w + 1, q.2 - 1) else q) := rfl
  have ep : kpo st n pg many w = (let q := kst st n pg many w; if q.2 = 0 then -1 else if kfi st n pg q.1 w < n ∧ 1 + kms st n pg many (n - (kfi st n pg q.1 w + 1)) (many - (w + 1)) = q.2 then (kfi st n pg q.1 w : Int) else -1) := rfl
  dsimp only at ek ep ⊢
  generalize kst st n pg many w = q at hf hlq hlb ek ep
  by_cases c1 : w < many
  · refine zp_pos (by omega) (zp_pos (by omega) ?_)
    rw [zp_lt]
    try dsimp only
    rw [zuA_s, zuA_A, Int.toNat_natCast]
    have hU1 : ∀ v, v < w → zset U w (-1) v = kpo st n pg many v := fun v hv => by rw [zset_n (by omega)]; exact hU v hv
    by_cases c2 : q.2 = 0
    · rw [if_pos c2] at ek ep
      refine zp_pos (by omega) ?_
      rw [zp_some, zor2_l]
      refine ⟨many - (w + 1), by omega, w + 1, zset U w (-1), rfl, by omega, ?_, fun v hv => ?_⟩
      · rw [ek, zadd_ok (by omega) (by omega)]; rfl
      · by_cases e : v = w
        · subst e; rw [zset_s, ep]
        · exact hU1 v (by omega)
    · rw [if_neg c2] at ek ep
      refine zp_neg (by omega) ?_
      have e55 : zuA (zuA A 1 63 T) 1 64 (zset U w (-1)) 1 55 = A 1 55 := (zuA_o (by decide)).trans (zuA_o (by decide))
      refine lp_205 hn (hpg (by omega)) hp8 (S := (I, zuA (zuA A 1 63 T) 1 64 (zset U w (-1)))) ((congrFun e55 31).trans h31) (fun j => (congrFun e55 (33 + j)).trans (hst j)) (by omega) hf ?_
      have hkl : kfi st n pg q.1 w ≤ n := fnd_le _ n
      rw [zp_eq (lp_240 hn hm hT c1 hkl (by omega)), zor2_l]
      by_cases c3 : kfi st n pg q.1 w < n ∧ 1 + kms st n pg many (n - (kfi st n pg q.1 w + 1)) (many - (w + 1)) = q.2
      · rw [if_pos c3] at ek ep
        refine ⟨many - (w + 1), by omega, w + 1, zset (zset U w (-1)) w (kfi st n pg q.1 w), rfl, by omega, ?_, fun v hv => ?_⟩
        · rw [if_pos c3, ek]
        · by_cases e : v = w
          · subst e; rw [zset_s, ep]
          · rw [zset_n e]; exact hU1 v (by omega)
      · rw [if_neg c3] at ek ep
        refine ⟨many - (w + 1), by omega, w + 1, zset U w (-1), rfl, by omega, ?_, fun v hv => ?_⟩
        · rw [if_neg c3, ek]
        · by_cases e : v = w
          · subst e; rw [zset_s, ep]
          · exact hU1 v (by omega)
  · refine zp_neg (by omega) ?_
    rw [zp_some, zor2_r]
    exact ⟨U, rfl, fun v hv => hU v (by omega)⟩
theorem zuA_sw {A : ZA} {o o' : Nat} {T U : Nat → Int} (h : o ≠ o') : zuA (zuA A 1 o T) 1 o' U = zuA (zuA A 1 o' U) 1 o T := by
  funext r p j
  unfold zuA
  by_cases q : r = 1 ∧ p = o'
  · rw [if_pos q, if_neg (by omega), if_pos q]
  · rw [if_neg q, if_neg (c := r = 1 ∧ p = o') q]
/-- the reference's pairs -/
theorem lp_pairs12 (hn : n ≤ 60) (hm : many ≤ 320) (hpg : many ≠ 0 → 0 < pg) (hp8 : pg ≤ 8) {S : ZS} (h31 : S.2 1 55 31 = (pg : Int)) (h32 : S.2 1 55 32 = (n : Int)) (hmn : S.2 1 55 30 * S.2 1 55 31 = (many : Int)) (hst : ∀ j, S.2 1 55 (33 + j) = st j) :
    zp (F_X12_pairs S) (fun s => ∃ T U, s = (S.1, zuA (zuA S.2 1 63 T) 1 64 U) ∧ ∀ w, w < many → U w = kpo st n pg many w) := by
  unfold F_X12_pairs F_X12_wanted
  rw [zp_bind, zp_some, zmul_ok (by omega) (by omega), hmn, h32]
  unfold F_X12_pairs_15
  have eS : S = (S.1, zuA S.2 1 63 (S.2 1 63)) := by rw [zuA_same]
  refine zp_w (fun k (s : Int × ZS) => k ≤ n + 1 ∧ s.1 = (k : Int) - 1 ∧ ∃ T, s.2 = (S.1, zuA S.2 1 63 T) ∧ kTb st n pg many T k) ?_ (n + 1) _ ⟨Nat.le_refl _, by omega, S.2 1 63, eS, fun i w h1 h2 => by omega⟩
  rintro k ⟨x, s⟩ ⟨hk, hx, T, hs, hb⟩
  dsimp only at hx hs
  subst hs
  cases k with
  | zero =>
    refine zp_pos (by show x < 0; omega) ?_
    have e0 : F_X12_mostAt 0 0 (S.1, zuA S.2 1 63 T) = some (kms st n pg many n many : Int) := by
      have q := lp_mostAt (T := T) (A := S.2) (I := S.1) (x := 0) (y := 0) 0 0 (by omega) (by omega) rfl rfl
      rw [q, hb 0 0 (by omega) (by omega) (by omega)]
      rfl
    rw [zp_bind, zp_eq e0, zp_in]
    have e64 : zuA S.2 1 63 T = zuA (zuA S.2 1 63 T) 1 64 (zuA S.2 1 63 T 1 64) := by rw [zuA_same]
    rw [e64]
    refine zp_mono (lp_180 hn hm hpg hp8 h31 hst hb) fun v hv => ?_
    obtain ⟨U, h1, h2⟩ := hv
    exact ⟨T, U, h1, h2⟩
  | succ i =>
    have hx' : x = (i : Int) := by omega
    subst hx'
    refine zp_neg (by show ¬(i : Int) < 0; omega) ?_
    have := lp_22 hn hm hpg hp8 (A := S.2) (I := S.1) h31 hst (i := i) (by omega) (many + 1) (Nat.le_refl _) T hb (fun w h1 h2 => by omega)
    rw [show ((many + 1 : Nat) : Int) - 1 = (many : Int) by omega] at this
    refine zp_mono this fun v hv => ?_
    cases v with
    | inl s =>
      obtain ⟨T', h1, h2⟩ := hv
      exact ⟨i, by omega, by omega, by rw [h1], T', by rw [h1], h2⟩
    | inr s => exact hv.elim
end MOST
