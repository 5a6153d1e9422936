/-! rounds of service -/
theorem zbt {m w : Nat} (hm : m < 1024) (hw : w < 31) : zand (zshr (m : Int) (w : Int)) 1 = ((m / 2 ^ w % 2 : Nat) : Int) := by
  have e : (m : Int) / ((2 ^ w : Nat) : Int) = ((m / 2 ^ w : Nat) : Int) := rfl
  have : m / 2 ^ w ≤ m := Nat.div_le_self _ _
  rw [zshr_n (k := w) (by omega) (by omega) (by omega), e]
  generalize m / 2 ^ w = k at this
  rw [zand_1 (by omega) (by omega)]
  rfl
theorem vre_none {wk ag : Int} {m : Nat} {w : Nat} (h : vre wk ag m w = none) : ∀ v, w ≤ v → vre wk ag m v = none := by
  intro v hv
  induction hv with
  | refl => exact h
  | step _ ih => unfold vre; rw [ih]; rfl
theorem vre_s {wk ag : Int} {m w : Nat} {q : Int × Int × Int} (h : vre wk ag m w = some q) : vre wk ag m (w + 1) = if (w : Int) - q.2.1 + 1 ≤ wk then some (q.1, q.2.1, if m / 2 ^ w % 2 = 1 then (w : Int) else q.2.2) else if (if m / 2 ^ w % 2 = 1 then (w : Int) else q.2.2) = -1 then none else if wk < (w : Int) - (if m / 2 ^ w % 2 = 1 then (w : Int) else q.2.2) + 1 then none else some (q.1 + 1, (if m / 2 ^ w % 2 = 1 then (w : Int) else q.2.2), -1) := by
  conv => lhs; unfold vre
  rw [h]
  rfl
theorem vre_b {wk ag : Int} {m : Nat} (ha : 0 ≤ ag) : ∀ w q, vre wk ag m w = some q → (0 ≤ q.1 ∧ q.1 ≤ w) ∧ (-ag ≤ q.2.1 ∧ q.2.1 < w + 1) ∧ (-1 ≤ q.2.2 ∧ q.2.2 < w)
  | 0, q, h => by
    cases h
    refine ⟨⟨?_, ?_⟩, ⟨?_, ?_⟩, ?_, ?_⟩ <;> dsimp only <;> omega
  | w + 1, q, h => by
    cases e : vre wk ag m w with
    | none => rw [vre_none e _ (Nat.le_succ w)] at h; cases h
    | some q' =>
      have ih := vre_b ha w q' e
      rw [vre_s e] at h
      generalize hl : (if m / 2 ^ w % 2 = 1 then (w : Int) else q'.2.2) = l at h
      have hlb : -1 ≤ l ∧ l < w + 1 := by rw [← hl]; split <;> omega
      split at h
      · cases h; dsimp only; omega
      · split at h
        · cases h
        · split at h
          · cases h
          · cases h; dsimp only; omega
def vrr (o : Option (Int × Int × Int)) : Int := match o with | none => -1 | some q => q.1
section SERV
variable {S : ZS} {wk ag : Int} {m n : Nat}
theorem lp_times (hm : m < 1024) (hn : n ≤ 10) (h1 : 1 ≤ wk ∧ wk ≤ 12) (h2 : 0 ≤ ag ∧ ag ≤ 12) : F_X7_timesNew wk ag (n : Int) (m : Int) S = some (vrr (vre wk ag m n)) := by
  unfold F_X7_timesNew F_X7_timesNew_12
  refine zp_of (zp_w (fun k s => ∃ w q lc, k + w = n ∧ vre wk ag m w = some q ∧ s = ((w : Int) - q.2.1, q.1, lc, (w : Int)) ∧ (lc = q.2.2 ∨ (q.2.2 = -1 ∧ lc = q.2.1 ∧ 0 ≤ q.2.1))) (fun k s hs => ?_) n _ ⟨0, (0, -ag, -1), -1, Nat.add_zero _, rfl, by show _ = ((0 : Int) - (-ag), _, _, _); rw [show (0 : Int) - (-ag) = ag by omega]; rfl, Or.inl rfl⟩)
  obtain ⟨w, q, lc, hk, hq, rfl, hlc⟩ := hs
  have hb := vre_b h2.1 w q hq
  have hs := vre_s hq
  dsimp only
  refine zp_if (fun c => ?_) (fun c => ?_)
  · have hwn : w < n := by omega
    rw [zbt hm (by omega)]
    have hl2 : ∀ l' lc' : Int, (if m / 2 ^ w % 2 = 1 then (w : Int) else q.2.2) = l' → (lc' = l' ∨ (l' = -1 ∧ lc' = q.2.1 ∧ 0 ≤ q.2.1)) → -1 ≤ lc' → lc' ≤ (w : Int) → zp (F_X7_timesNew_32 wk n m ((w : Int) - q.2.1) q.1 lc' w S) (zor2 (fun s' => ∃ k', k' < k ∧ ∃ w q lc, k' + w = n ∧ vre wk ag m w = some q ∧ s' = ((w : Int) - q.2.1, q.1, lc, (w : Int)) ∧ (lc = q.2.2 ∨ (q.2.2 = -1 ∧ lc = q.2.1 ∧ 0 ≤ q.2.1))) (fun r => r = vrr (vre wk ag m n))) := by
      intro l' lc' e1 e2 e3 e4
      rw [e1] at hs
      unfold F_X7_timesNew_32
      refine zp_if (fun c1 => ?_) (fun c1 => ?_)
      · rw [if_pos (by omega)] at hs
        rw [zp_some, zadd_ok (by omega) (by omega), zadd_ok (by omega) (by omega)]
        refine ⟨k - 1, by omega, w + 1, _, lc', by omega, hs, ?_, e2⟩
        dsimp only
        congr 1
        omega
      · rw [if_neg (by omega)] at hs
        by_cases c2 : l' = -1
        · rw [if_pos c2] at hs
          have hN := vre_none hs n (by omega)
          refine zp_if (fun c3 => ?_) (fun c3 => ?_)
          · rw [zp_some, hN]; rfl
          · have : lc' = q.2.1 := by omega
            rw [zsub_ok (by omega) (by omega)]
            refine zp_neg (by omega) ?_
            rw [zp_some, hN]; rfl
        · rw [if_neg c2] at hs
          have : lc' = l' := by omega
          subst this
          refine zp_neg c2 ?_
          rw [zsub_ok (by omega) (by omega)]
          refine zp_if (fun c3 => ?_) (fun c3 => ?_)
          · rw [if_neg (by omega)] at hs
            rw [zp_some, zadd_ok (by omega) (by omega), zadd_ok (by omega) (by omega), zadd_ok (by omega) (by omega)]
            refine ⟨k - 1, by omega, w + 1, _, lc', by omega, hs, ?_, Or.inr ⟨rfl, rfl, (by show 0 ≤ lc'; omega)⟩⟩
            dsimp only
            congr 1
            omega
          · rw [if_pos (by omega)] at hs
            have hN := vre_none hs n (by omega)
            rw [zp_some, hN]; rfl
    have h2x : m / 2 ^ w % 2 = 0 ∨ m / 2 ^ w % 2 = 1 := by omega
    refine zp_if (fun c1 => ?_) (fun c1 => ?_)
    · exact hl2 w w (by rw [if_pos (by omega)]) (Or.inl rfl) (by omega) (by omega)
    · exact hl2 q.2.2 lc (by rw [if_neg (by omega)]) hlc (by omega) (by omega)
  · have : w = n := by omega
    subst this
    rw [zp_some, hq]
    rfl

def vrs (o : Option (Int × Int)) : Int := match o with | none => -1 | some q => q.1
variable {al : Nat → Int}
theorem vco_none {p : Nat} (h : vco al n m p = none) : ∀ v, p ≤ v → vco al n m v = none := by
  intro v hv
  induction hv with
  | refl => exact h
  | step _ ih => unfold vco; rw [ih]; rfl
theorem vco_s {p : Nat} {q : Int × Int} (h : vco al n m p = some q) : vco al n m (p + 1) = if al (123 + p) = 0 then some q else (vre (al (103 + p)) (al (113 + p)) m n).bind fun f => some (q.1 + f.1 * al (93 + p), q.2 + f.1) := by
  conv => lhs; unfold vco
  rw [h]
  rfl
theorem mul99 {a b : Int} (h1 : 0 ≤ a ∧ a ≤ 10) (h2 : 0 ≤ b ∧ b ≤ 99) : 0 ≤ a * b ∧ a * b ≤ 990 := ⟨Int.mul_nonneg h1.1 h2.1, Int.mul_le_mul h1.2 h2.2 h2.1 (by omega)⟩
theorem vco_b (hn : n ≤ 10) (H : ∀ p : Nat, p < 10 → (0 ≤ al (93 + p) ∧ al (93 + p) ≤ 99) ∧ (1 ≤ al (103 + p) ∧ al (103 + p) ≤ 12) ∧ (0 ≤ al (113 + p) ∧ al (113 + p) ≤ 12) ∧ (al (123 + p) = 0 ∨ al (123 + p) = 1)) : ∀ p q, p ≤ 10 → vco al n m p = some q → (0 ≤ q.1 ∧ q.1 ≤ 990 * p) ∧ (0 ≤ q.2 ∧ q.2 ≤ 10 * p)
  | 0, q, _, h => by
    cases h
    refine ⟨⟨?_, ?_⟩, ?_, ?_⟩ <;> dsimp only <;> omega
  | p + 1, q, hp, h => by
    cases e : vco al n m p with
    | none => rw [vco_none e _ (Nat.le_succ p)] at h; cases h
    | some q' =>
      have ih := vco_b hn H p q' (by omega) e
      have hh := H p (by omega)
      rw [vco_s e] at h
      split at h
      · cases h; omega
      · cases e2 : vre (al (103 + p)) (al (113 + p)) m n with
        | none => rw [e2] at h; cases h
        | some f =>
          have hf := vre_b hh.2.2.1.1 n f e2
          rw [e2] at h
          cases h
          have := mul99 (a := f.1) (b := al (93 + p)) (by omega) hh.1
          dsimp only
          omega
theorem lp_cost (hm : m < 1024) (hn : n ≤ 10) (H : ∀ p : Nat, p < 10 → (0 ≤ al (93 + p) ∧ al (93 + p) ≤ 99) ∧ (1 ≤ al (103 + p) ∧ al (103 + p) ≤ 12) ∧ (0 ≤ al (113 + p) ∧ al (113 + p) ≤ 12) ∧ (al (123 + p) = 0 ∨ al (123 + p) = 1))
    (K : ∀ p : Nat, p < 10 → S.2 11 15 p = al (93 + p) ∧ (al (123 + p) = 0 ∨ S.2 11 16 p = al (103 + p)) ∧ S.2 11 17 p = al (113 + p) ∧ S.2 11 18 p = al (123 + p)) :
    zp (F_X7_costOfNewOnes 11 (n : Int) (m : Int) S) (fun v => ∃ z, v = (vrs (vco al n m 10), (zup S.1 17 5 z, S.2)) ∧ ∀ c, vco al n m 10 = some c → z = c.2) := by
  unfold F_X7_costOfNewOnes F_X7_costOfNewOnes_11
  rw [zp_lt]
  refine zp_w (fun k s => ∃ p q, k + p = 10 ∧ vco al n m p = some q ∧ s = (q.1, (p : Int), (zup S.1 17 5 q.2, S.2))) (fun k s hs => ?_) 10 _ ⟨0, (0, 0), rfl, rfl, rfl⟩
  obtain ⟨p, q, hk, hq, rfl⟩ := hs
  have hb := vco_b hn H p q (by omega) hq
  have hs := vco_s hq
  dsimp only
  refine zp_if (fun c => ?_) (fun c => ?_)
  · have hh := H p (by omega)
    obtain ⟨g1, g2, g3, g4⟩ := K p (by omega)
    rw [Int.toNat_natCast, g4]
    refine zp_pos (by omega) ?_
    refine zp_if (fun c1 => ?_) (fun c1 => ?_)
    · rw [if_pos c1] at hs
      rw [zp_some, zadd_ok (by omega) (by omega)]
      exact ⟨k - 1, by omega, p + 1, q, by omega, hs, rfl⟩
    · rw [if_neg c1] at hs
      rw [g2.resolve_left c1, g3, g1, lp_times hm hn hh.2.1 hh.2.2.1]
      rw [zp_bind, zp_some]
      cases e2 : vre (al (103 + p)) (al (113 + p)) m n with
      | none =>
        rw [e2] at hs
        have hN := vco_none hs 10 (by omega)
        show zp (if (-1 : Int) = -1 then _ else _) _
        rw [if_pos rfl, zp_some, hN]
        exact ⟨q.2, rfl, fun c hc => by cases hc⟩
      | some f =>
        rw [e2] at hs
        have hf := vre_b hh.2.2.1.1 n f e2
        have hmm := mul99 (a := f.1) (b := al (93 + p)) (by omega) hh.1
        have ev : vrr (some f) = f.1 := rfl
        rw [ev]
        refine zp_neg (by omega) ?_
        rw [zp_lt, zp_lt, zp_some, zmul_ok (by omega) (by omega), zadd_ok (by omega) (by omega), zadd_ok (x := (p : Int)) (by omega) (by omega)]
        refine ⟨k - 1, by omega, p + 1, _, by omega, hs, ?_⟩
        have e3 : zup S.1 17 5 q.2 17 5 = q.2 := rfl
        have e4 : zadd q.2 f.1 = q.2 + f.1 := zadd_ok (by omega) (by omega)
        dsimp only
        rw [e3, zup_up, e4]
        rfl
  · have : p = 10 := by omega
    subst this
    rw [zp_some, hq]
    exact ⟨q.2, rfl, fun c hc => by cases hc; rfl⟩
theorem vpc_tab : ∀ m : Nat, m < 1024 → F_J6_bitCount_0f7a4 (m : Int) (fun _ _ => 0, fun _ _ _ => 0) = some (vpc m 10 : Int) := by decide +kernel
theorem lp_bits (hm : m < 1024) : F_J6_bitCount_0f7a4 (m : Int) S = some (vpc m 10 : Int) := vpc_tab m hm
theorem vpc_n : ∀ n ≤ 10, ∀ m < 2 ^ n, vpc m 10 = vpc m n := by decide +kernel
theorem ones_tab : ∀ m < 1024, m ≠ 0 → (m &&& (m - 1)) < m ∧ vpc (m &&& (m - 1)) 10 + 1 = vpc m 10 := by decide +kernel
theorem vpc_le (m : Nat) : ∀ n, vpc m n ≤ n
  | 0 => Nat.le_refl 0
  | n + 1 => by
    have := vpc_le m n
    unfold vpc
    omega
theorem lp_ones (hm : m < 1024) : F_X12_ones (m : Int) S = some (vpc m 10 : Int) := by
  unfold F_X12_ones F_X12_ones_4
  refine zp_of (zp_w (fun k s => ∃ c : Nat, k < 1024 ∧ s = ((c : Int), (k : Int)) ∧ c + vpc k 10 = vpc m 10) (fun k s hs => ?_) m _ ⟨0, hm, rfl, Nat.zero_add _⟩)
  obtain ⟨c, hk, rfl, hc⟩ := hs
  have hv := vpc_le m 10
  dsimp only
  refine zp_if (fun c1 => ?_) (fun c1 => ?_)
  · have : k = 0 := by omega
    subst this
    have e : vpc 0 10 = 0 := by decide
    rw [zp_some, ← hc, e]
    rfl
  · obtain ⟨h1, h2⟩ := ones_tab k hk (by omega)
    have e1 : zsub (k : Int) 1 = ((k - 1 : Nat) : Int) := by rw [zsub_ok (by omega) (by omega)]; omega
    rw [zp_some, e1, zand_n (by omega) (by omega), zadd_ok (by omega) (by omega)]
    exact ⟨k &&& (k - 1), h1, c + 1, by omega, rfl, by omega⟩

theorem lp_ren (hm : m < 1024) (hn : n ≤ 10) {p : Nat} (hp : p < 10) (h1 : 1 ≤ S.2 1 55 (103 + p) ∧ S.2 1 55 (103 + p) ≤ 12) (h2 : 0 ≤ S.2 1 55 (113 + p) ∧ S.2 1 55 (113 + p) ≤ 12) : F_X12_renewals (p : Int) (n : Int) (m : Int) S = some (vrr (vre (S.2 1 55 (103 + p)) (S.2 1 55 (113 + p)) m n)) := by
  have f1 : zadd 113 (p : Int) = ((113 + p : Nat) : Int) := by rw [zadd_ok (by omega) (by omega)]; omega
  have f2 : zadd 103 (p : Int) = ((103 + p : Nat) : Int) := by rw [zadd_ok (by omega) (by omega)]; omega
  unfold F_X12_renewals
  rw [f1, if_pos (by omega), Int.toNat_natCast]
  generalize hag : S.2 1 55 (113 + p) = ag at h2
  generalize hwk : S.2 1 55 (103 + p) = wk at h1
  have f3 : zneg ag = -ag := by
    show zsub 0 ag = -ag
    rw [zsub_ok (by omega) (by omega)]; omega
  rw [f3]
  unfold F_X12_renewals_21
  refine zp_of (zp_w (fun k s => ∃ w q, k + w = n ∧ vre wk ag m w = some q ∧ s = (q.1, q.2.1, q.2.2, (w : Int))) (fun k s hs => ?_) n _ ⟨0, (0, -ag, -1), Nat.add_zero _, rfl, rfl⟩)
  obtain ⟨w, q, hk, hq, rfl⟩ := hs
  have hb := vre_b h2.1 w q hq
  have hs := vre_s hq
  dsimp only
  refine zp_if (fun c => ?_) (fun c => ?_)
  · rw [zbt hm (by omega)]
    have hl2 : ∀ l' : Int, (if m / 2 ^ w % 2 = 1 then (w : Int) else q.2.2) = l' → -1 ≤ l' → l' ≤ (w : Int) → zp (F_X12_renewals_41 (p : Int) n m q.1 q.2.1 l' w S) (zor2 (fun s' => ∃ k', k' < k ∧ ∃ w q, k' + w = n ∧ vre wk ag m w = some q ∧ s' = (q.1, q.2.1, q.2.2, (w : Int))) (fun r => r = vrr (vre wk ag m n))) := by
      intro l' e1 e3 e4
      rw [e1] at hs
      unfold F_X12_renewals_41
      rw [f2, if_pos (by omega), Int.toNat_natCast, hwk]
      have g1 : zadd (zsub (w : Int) q.2.1) 1 = (w : Int) - q.2.1 + 1 := by rw [zsub_ok (by omega) (by omega), zadd_ok (by omega) (by omega)]
      have g2 : zadd (zsub (w : Int) l') 1 = (w : Int) - l' + 1 := by rw [zsub_ok (by omega) (by omega), zadd_ok (by omega) (by omega)]
      have g3 : zadd (w : Int) 1 = ((w + 1 : Nat) : Int) := by rw [zadd_ok (by omega) (by omega)]; rfl
      have g4 : zadd q.1 1 = q.1 + 1 := by rw [zadd_ok (by omega) (by omega)]
      rw [g1, g2, g3, g4]
      refine zp_if (fun c1 => ?_) (fun c1 => ?_)
      · rw [if_neg (by omega)] at hs
        refine zp_if (fun c2 => ?_) (fun c2 => ?_)
        · rw [if_pos c2] at hs
          have hN := vre_none hs n (by omega)
          rw [zp_some, hN]; rfl
        · rw [if_neg c2] at hs
          refine zp_if (fun c3 => ?_) (fun c3 => ?_)
          · rw [if_pos c3] at hs
            have hN := vre_none hs n (by omega)
            rw [zp_some, hN]; rfl
          · rw [if_neg c3] at hs
            rw [zp_some]
            exact ⟨k - 1, by omega, w + 1, _, by omega, hs, rfl⟩
      · rw [if_pos (by omega)] at hs
        rw [zp_some]
        exact ⟨k - 1, by omega, w + 1, _, by omega, hs, rfl⟩
    have h2x : m / 2 ^ w % 2 = 0 ∨ m / 2 ^ w % 2 = 1 := by omega
    refine zp_if (fun c1 => ?_) (fun c1 => ?_)
    · exact hl2 w (by rw [if_pos (by omega)]) (by omega) (by omega)
    · exact hl2 q.2.2 (by rw [if_neg (by omega)]) (by omega) (by omega)
  · have : w = n := by omega
    subst this
    rw [zp_some, hq]
    rfl
theorem zup_2 {I : Nat → Nat → Int} {a b c d : Int} : zup (zup (zup (zup I 1 64 a) 1 65 b) 1 64 c) 1 65 d = zup (zup I 1 64 c) 1 65 d := by
  funext r k
  unfold zup
  repeat' split
  all_goals first | rfl | (exfalso; omega)
theorem zup_2a {I : Nat → Nat → Int} {a b c : Int} : zup (zup (zup I 1 64 a) 1 65 b) 1 64 c = zup (zup I 1 64 c) 1 65 b := by
  funext r k
  unfold zup
  repeat' split
  all_goals first | rfl | (exfalso; omega)
theorem vpc_s (m w : Nat) : vpc m (w + 1) = vpc m w + m / 2 ^ w % 2 := rfl
theorem lp_serves {price : Int} (hm : m < 1024) (hn : n ≤ 10) (hp : 0 ≤ price ∧ price ≤ 999) (h55 : S.2 1 55 = al) (H : ∀ p : Nat, p < 10 → (0 ≤ al (93 + p) ∧ al (93 + p) ≤ 99) ∧ (1 ≤ al (103 + p) ∧ al (103 + p) ≤ 12) ∧ (0 ≤ al (113 + p) ∧ al (113 + p) ≤ 12) ∧ (al (123 + p) = 0 ∨ al (123 + p) = 1)) :
    zp (F_X12_serves (n : Int) price (m : Int) S) (fun v => ∃ z1 z2 r, v = (r, (zup (zup S.1 1 64 z1) 1 65 z2, S.2)) ∧ (vco al n m 10 = none → r = 0) ∧ ∀ c, vco al n m 10 = some c → r = 1 ∧ z1 = (vpc m n : Int) * price + c.1 ∧ z2 = c.2) := by
  unfold F_X12_serves F_X12_serves_13
  rw [zp_lt, zp_lt]
  refine zp_w (fun k s => ∃ w, k + w = n ∧ s = ((w : Int), (zup (zup S.1 1 64 ((vpc m w : Int) * price)) 1 65 0, S.2))) (fun k s hs => ?_) n _ ⟨0, Nat.add_zero _, by show _ = (_, (zup (zup S.1 1 64 ((0 : Int) * price)) 1 65 0, S.2)); rw [Int.zero_mul]; rfl⟩
  obtain ⟨w, hk, rfl⟩ := hs
  have hvl := vpc_le m w
  have hvm : 0 ≤ (vpc m w : Int) * price ∧ (vpc m w : Int) * price ≤ 10 * 999 := ⟨Int.mul_nonneg (by omega) hp.1, Int.mul_le_mul (by omega) hp.2 hp.1 (by omega)⟩
  dsimp only
  have e1 : zup (zup S.1 1 64 ((vpc m w : Int) * price)) 1 65 0 1 64 = (vpc m w : Int) * price := rfl
  refine zp_if (fun c => ?_) (fun c => ?_)
  · have hv := vpc_s m w
    have h2x : m / 2 ^ w % 2 = 0 ∨ m / 2 ^ w % 2 = 1 := by omega
    have g3 : zadd (w : Int) 1 = ((w + 1 : Nat) : Int) := by rw [zadd_ok (by omega) (by omega)]; rfl
    rw [zbt hm (by omega), e1, g3]
    refine zp_if (fun c1 => ?_) (fun c1 => ?_)
    · rw [zp_lt, zp_some]
      refine ⟨k - 1, by omega, w + 1, by omega, ?_⟩
      have e2 : ((vpc m (w + 1) : Nat) : Int) = (vpc m w : Int) + 1 := by omega
      have e3 : zadd ((vpc m w : Int) * price) price = ((vpc m (w + 1) : Nat) : Int) * price := by
        rw [zadd_ok (by omega) (by omega), e2, Int.add_mul, Int.one_mul]
      rw [zup_2a, e3]
    · rw [zp_lt, zp_some]
      refine ⟨k - 1, by omega, w + 1, by omega, ?_⟩
      have e2 : vpc m (w + 1) = vpc m w := by omega
      have e3 : zadd ((vpc m w : Int) * price) 0 = ((vpc m w : Nat) : Int) * price := by
        rw [zadd_ok (by omega) (by omega), Int.add_zero]
      rw [zup_2a, e3, e2]
  · have : w = n := by omega
    subst this
    rw [zp_in]
    unfold F_X12_serves_52
    refine zp_w (fun k s => ∃ p q, k + p = 10 ∧ vco al w m p = some q ∧ s = ((p : Int), (zup (zup S.1 1 64 ((vpc m w : Int) * price + q.1)) 1 65 q.2, S.2))) (fun k s hs => ?_) 10 _ ⟨0, (0, 0), rfl, rfl, by dsimp only; rw [Int.add_zero]; rfl⟩
    obtain ⟨p, q, hk, hq, rfl⟩ := hs
    have hb := vco_b hn H p q (by omega) hq
    have hs := vco_s hq
    dsimp only
    have e2 : zup (zup S.1 1 64 ((vpc m w : Int) * price + q.1)) 1 65 q.2 1 64 = (vpc m w : Int) * price + q.1 := rfl
    refine zp_if (fun c => ?_) (fun c => ?_)
    · have hh := H p (by omega)
      have f1 : zadd 123 (p : Int) = ((123 + p : Nat) : Int) := by rw [zadd_ok (by omega) (by omega)]; omega
      have f2 : zadd 93 (p : Int) = ((93 + p : Nat) : Int) := by rw [zadd_ok (by omega) (by omega)]; omega
      have g3 : zadd (p : Int) 1 = ((p + 1 : Nat) : Int) := by rw [zadd_ok (by omega) (by omega)]; rfl
      have r := lp_ren (S := (zup (zup S.1 1 64 ((vpc m w : Int) * price + q.1)) 1 65 q.2, S.2)) hm hn (p := p) (by omega) (by rw [h55]; exact hh.2.1) (by rw [h55]; exact hh.2.2.1)
      dsimp only at r
      rw [h55] at r
      rw [f1, f2, g3, if_pos (by omega), Int.toNat_natCast, h55, e2, r]
      refine zp_if (fun c1 => ?_) (fun c1 => ?_)
      · rw [if_pos c1] at hs
        rw [zp_some]
        exact ⟨k - 1, by omega, p + 1, q, by omega, hs, rfl⟩
      · rw [if_neg c1] at hs
        rw [zp_bind, zp_some]
        cases e2 : vre (al (103 + p)) (al (113 + p)) m w with
        | none =>
          rw [e2] at hs
          have hN := vco_none hs 10 (by omega)
          show zp (if (-1 : Int) = -1 then _ else _) _
          rw [if_pos rfl, zp_some, hN]
          exact ⟨_, _, _, rfl, fun _ => rfl, fun c hc => by cases hc⟩
        | some f =>
          rw [e2] at hs
          have hf := vre_b hh.2.2.1.1 w f e2
          have hmm := mul99 (a := f.1) (b := al (93 + p)) (by omega) hh.1
          have ev : vrr (some f) = f.1 := rfl
          have g4 : zadd ((vpc m w : Int) * price + q.1) (zmul f.1 (al (93 + p))) = (vpc m w : Int) * price + (q.1 + f.1 * al (93 + p)) := by
            rw [zmul_ok (by omega) (by omega), zadd_ok (by omega) (by omega)]; omega
          have g5 : zadd q.2 f.1 = q.2 + f.1 := zadd_ok (by omega) (by omega)
          rw [ev, if_neg (by omega), if_pos (by omega), Int.toNat_natCast, g4]
          rw [zp_lt, zp_lt, zp_some, zup_2a]
          dsimp only
          refine ⟨k - 1, by omega, p + 1, _, by omega, hs, ?_⟩
          dsimp only
          rw [zup_up]
          show (_, (zup _ 1 65 (zadd q.2 f.1), _)) = _
          rw [g5]
    · have : p = 10 := by omega
      subst this
      rw [zp_some]
      refine ⟨_, _, _, rfl, (fun h => by rw [hq] at h; cases h), fun c hc => ?_⟩
      rw [hq] at hc
      cases hc
      exact ⟨rfl, rfl, rfl⟩
end SERV
