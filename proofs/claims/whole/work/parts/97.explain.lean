/-! explain: both sides -/
section EXPP
variable {n : Nat} {S : ZS} {W : Nat} {wy ro sp ey seen on off : Nat → Int} {len a b x x1 x2 found first second : Int} {t u e n7 c d k : Nat}
theorem cau_0 (hC : CauseIs wy ro sp ey seen on off len found first second) (h : Expl wy ro sp ey seen on off len (-1) (-1)) : found = 0 := by
  rcases hC with z | z
  · exact z.1
  · exact absurd h z.1
theorem cau_1 (hC : CauseIs wy ro sp ey seen on off len found first second) (h0 : ¬ Expl wy ro sp ey seen on off len (-1) (-1)) (hk : k < 69) (hI : cIs wy ey k) (hE : Expl wy ro sp ey seen on off len (k : Int) (-1)) (h1 : No1 wy ro sp ey seen on off len k) : found = 1 ∧ first = (k : Int) := by
  rcases hC with z | ⟨_, z | ⟨z, _⟩⟩
  · exact absurd z.2 h0
  · obtain ⟨z1, a, z2, z3, z4, z5, z6⟩ := z
    rcases Nat.lt_trichotomy a k with y | y | y
    · exact absurd z5 (h1 a y z4)
    · exact ⟨z1, by rw [z3, y]⟩
    · exact absurd hE (z6 k y hI)
  · exact absurd hE (z k hk hI)
theorem cau_2 {p q : Nat} (hC : CauseIs wy ro sp ey seen on off len found first second) (h0 : ¬ Expl wy ro sp ey seen on off len (-1) (-1)) (h1 : No1 wy ro sp ey seen on off len 69) (hpq : p < q) (hq : q < 69) (hp : cIs wy ey p) (hqI : cIs wy ey q) (hE : Expl wy ro sp ey seen on off len (p : Int) (q : Int)) (h2 : noPr wy ro sp ey seen on off len p q) :
    found = 2 ∧ first = (p : Int) ∧ second = (q : Int) := by
  rcases hC with z | ⟨_, z | ⟨_, z | z⟩⟩
  · exact absurd z.2 h0
  · obtain ⟨z1, a, z2, z3, z4, z5, z6⟩ := z
    exact absurd z5 (h1 a z2 z4)
  · obtain ⟨z1, a, b, z2, z3, z4, z5, z6, z7, z8, z9⟩ := z
    by_cases g : a = p ∧ b = q
    · exact ⟨z1, by rw [z4, g.1], by rw [z5, g.2]⟩
    · by_cases g2 : a < p ∨ (a = p ∧ b < q)
      · exact absurd z8 (h2 a b z2 z3 g2 z6 z7)
      · exact absurd hE (z9 p q hpq hq (by omega) hp hqI)
  · exact absurd hE (z.2 p q hpq hq hp hqI)
theorem cau_n (hC : CauseIs wy ro sp ey seen on off len found first second) (h0 : ¬ Expl wy ro sp ey seen on off len (-1) (-1)) (h1 : No1 wy ro sp ey seen on off len 69) (h2 : noPr wy ro sp ey seen on off len 69 0) : found = -1 := by
  rcases hC with z | ⟨_, z | ⟨_, z | z⟩⟩
  · exact absurd z.2 h0
  · obtain ⟨z1, a, z2, z3, z4, z5, z6⟩ := z
    exact absurd z5 (h1 a z2 z4)
  · obtain ⟨z1, a, b, z2, z3, z4, z5, z6, z7, z8, z9⟩ := z
    exact absurd z8 (h2 a b z2 z3 (Or.inl (by omega)) z6 z7)
  · exact z.1
/-- the answer to the k-th question -/
def cAns (found first second k : Int) : Int := if k = -1 then found else if k < 0 then -1 else if k < found then (if k = 0 then first else second) else -1
def PcR (wy ro sp ey seen on off : Nat → Int) (S : ZS) : Prop := S.2 1 4 = wy ∧ S.2 1 6 = ro ∧ S.2 1 7 = sp ∧ S.2 1 10 = ey ∧ S.2 1 38 = seen ∧ S.2 1 44 = on ∧ S.2 1 45 = off
theorem PcR_fr {V : ZS} (h : PcR wy ro sp ey seen on off S) (f : FRx S V) : PcR wy ro sp ey seen on off V := by
  obtain ⟨h1, h2, h3, h4, h5, h6, h7⟩ := h
  have k := f.2.2.2
  exact ⟨(k 4 (by decide) (by decide) (by decide) (by decide) (by decide)).trans h1, (k 6 (by decide) (by decide) (by decide) (by decide) (by decide)).trans h2, (k 7 (by decide) (by decide) (by decide) (by decide) (by decide)).trans h3, (k 10 (by decide) (by decide) (by decide) (by decide) (by decide)).trans h4,
    (k 38 (by decide) (by decide) (by decide) (by decide) (by decide)).trans h5, (k 44 (by decide) (by decide) (by decide) (by decide) (by decide)).trans h6, (k 45 (by decide) (by decide) (by decide) (by decide) (by decide)).trans h7⟩
theorem lp_expl13 (hWo : WayOK wy ro sp ey) (h6 : 0 < wy 6) (hl : 10 ≤ len ∧ len ≤ 60) (OB : ∀ e : Nat, (e : Int) < wy 7 → seen e ≠ 0 → ObsOK (on e) (off e)) (hR : PcR wy ro sp ey seen on off S) (hp : cPr a b) (ha : 50 ≤ a → a - 50 < wy 7) (hb : 50 ≤ b → b - 50 < wy 7) :
    zp (F_X12_explains a b len S) (fun v => FRx S v.2 ∧ ((v.1 = 1 ∧ Expl wy ro sp ey seen on off len a b) ∨ (v.1 = 0 ∧ ¬ Expl wy ro sp ey seen on off len a b))) := by
  obtain ⟨rfl, rfl, rfl, rfl, rfl, rfl, rfl⟩ := hR
  exact lp_expl12 hWo h6 OB hl hp ha hb
theorem lp_is12 (hWo : WayOK wy ro sp ey) (hR : PcR wy ro sp ey seen on off S) (hc : c < 70) : ∃ r, F_X12_isCause (c : Int) S = some r ∧ ((r = 1 ∧ c < 69 ∧ cIs wy ey c) ∨ (r = 0 ∧ (c < 69 → ¬ cIs wy ey c))) := by
  obtain ⟨⟨g1, g2⟩, ⟨g3, g4⟩, ⟨g5, g6⟩, g7, g8, g9, g10, g11, g12⟩ := id hWo
  obtain ⟨h1, h2, h3, h4, h5, h6, h7⟩ := hR
  have fz : zrem (c : Int) 10 = ((c % 10 : Nat) : Int) := by rw [zrem_ok (by omega) (by omega) (by omega) (by omega)]; omega
  unfold F_X12_isCause F_X12_isRoller F_X12_isEye cIs
  rw [fz, h1, h4]
  by_cases c1 : c < 30
  · rw [if_pos (show (c : Int) < 30 by omega), if_pos c1, if_neg (show ¬ ((c % 10 : Nat) : Int) < 0 by omega)]
    by_cases c2 : ((c % 10 : Nat) : Int) < wy 6
    · rw [if_pos c2, Option.bind_some, if_pos (Or.inr rfl)]
      exact ⟨1, rfl, Or.inl ⟨rfl, by omega, c2⟩⟩
    · rw [if_neg c2, Option.bind_some, if_pos (Or.inl rfl)]
      exact ⟨0, rfl, Or.inr ⟨rfl, fun _ => c2⟩⟩
  · rw [if_neg (show ¬ (c : Int) < 30 by omega), if_neg c1]
    by_cases c4 : c = 49
    · rw [if_pos (show (c : Int) = 49 by omega), if_neg (by omega)]
      exact ⟨1, rfl, Or.inl ⟨rfl, by omega, Or.inl c4⟩⟩
    · rw [if_neg (show ¬ (c : Int) = 49 by omega)]
      by_cases c3 : c < 49
      · have f1 : zsub (c : Int) 30 = ((c - 30 : Nat) : Int) := by rw [zsub_ok (by omega) (by omega)]; omega
        rw [if_pos (show (c : Int) < 49 by omega), if_pos c3, f1, if_neg (show ¬ ((c - 30 : Nat) : Int) < 0 by omega)]
        by_cases c2 : ((c - 30 : Nat) : Int) < wy 7
        · rw [if_pos c2, Option.bind_some, if_pos (Or.inr rfl)]
          exact ⟨1, rfl, Or.inl ⟨rfl, by omega, c2⟩⟩
        · rw [if_neg c2, Option.bind_some, if_pos (Or.inl rfl)]
          exact ⟨0, rfl, Or.inr ⟨rfl, fun _ => c2⟩⟩
      · have f1 : zsub (c : Int) 50 = ((c - 50 : Nat) : Int) := by rw [zsub_ok (by omega) (by omega)]; omega
        rw [if_neg (show ¬ (c : Int) < 49 by omega), if_neg c3, f1, if_neg (show ¬ ((c - 50 : Nat) : Int) < 0 by omega)]
        by_cases c2 : ((c - 50 : Nat) : Int) < wy 7
        · have q := g10 (c - 50) c2
          rw [if_pos c2, Option.bind_some, if_neg (by decide), if_pos (show 0 ≤ ((c - 50 : Nat) : Int) ∧ ((c - 50 : Nat) : Int) < 19 by omega), Int.toNat_natCast, zadd_ok (show (-2147483648 : Int) ≤ ey (c - 50) + 2 by omega) (by omega)]
          by_cases c5 : wy 0 < ey (c - 50) + 2
          · rw [if_pos c5]
            exact ⟨0, rfl, Or.inr ⟨rfl, fun _ z => by have := (z.resolve_left c4).2; omega⟩⟩
          · rw [if_neg c5]
            exact ⟨1, rfl, Or.inl ⟨rfl, by omega, Or.inr ⟨c2, by omega⟩⟩⟩
        · rw [if_neg c2, Option.bind_some, if_pos rfl]
          exact ⟨0, rfl, Or.inr ⟨rfl, fun _ z => c2 (z.resolve_left c4).1⟩⟩
theorem lp_ex120 (hWo : WayOK wy ro sp ey) (h6 : 0 < wy 6) (hl : 10 ≤ len ∧ len ≤ 60) (OB : ∀ e : Nat, (e : Int) < wy 7 → seen e ≠ 0 → ObsOK (on e) (off e)) (hR : PcR wy ro sp ey seen on off S) (hC : CauseIs wy ro sp ey seen on off len found first second) (h0 : ¬ Expl wy ro sp ey seen on off len (-1) (-1)) (h1 : No1 wy ro sp ey seen on off len 69) {x : Nat} (hx : x < 70)
    {V : ZS} (v1 : FRx S V) (v6 : noPr wy ro sp ey seen on off len x (x + 1)) :
    zp (F_X12_explain_120 len x2 (x : Int) ((x : Int) + 1) V) (fun r => (∃ U, r = .inl ((x : Int) + 1, U) ∧ FRx S U ∧ noPr wy ro sp ey seen on off len (x + 1) 0) ∨ ∃ U, r = .inr (cAns found first second x2, U) ∧ FRx S U) := by
  unfold F_X12_explain_120
  refine zp_w (fun dd (s : Int × ZS) => ∃ k : Nat, dd = 70 - k ∧ k ≤ 70 ∧ x < k ∧ s.1 = (k : Int) ∧ FRx S s.2 ∧ noPr wy ro sp ey seen on off len x k) ?_ (70 - (x + 1)) _ ⟨x + 1, rfl, by omega, by omega, rfl, v1, v6⟩
  rintro dd ⟨y, V⟩ ⟨k, rfl, hk, hxk, rfl, u1, u6⟩
  dsimp only at u1 u6 ⊢
  have fk : zadd (k : Int) 1 = ((k + 1 : Nat) : Int) := by rw [zadd_ok (by omega) (by omega)]; rfl
  have fx : zadd (x : Int) 1 = (x : Int) + 1 := zadd_ok (by omega) (by omega)
  rw [fk, fx]
  by_cases c : k = 70
  · subst c
    refine zp_neg (by omega) (zp_some.mpr (zor2_r.mpr (Or.inl ⟨V, rfl, u1, fun c d hcd hd hq hc1 hd1 => ?_⟩)))
    exact u6 c d hcd hd (by omega) hc1 hd1
  have hk' : k < 70 := by omega
  have hRV := PcR_fr hR u1
  refine zp_pos (by omega) ?_
  obtain ⟨r, hr1, hr2⟩ := lp_is12 (c := x) hWo hRV hx
  refine zp_bind.mpr ((zp_eq hr1).mpr ?_)
  rcases hr2 with ⟨rfl, hx69, hIx⟩ | ⟨rfl, hIx⟩
  rotate_left 1
  · refine zp_pos rfl (zp_some.mpr (zor2_r.mpr (Or.inl ⟨V, rfl, u1, fun c d hcd hd hq hc1 hd1 => ?_⟩)))
    by_cases g : c = x
    · rw [g] at hc1 hcd; exact absurd hc1 (hIx (by omega))
    · exact u6 c d hcd hd (Or.inl (by omega)) hc1 hd1
  refine zp_neg (by decide) ?_
  have nx : ∀ U : ZS, FRx S U → (k < 69 → cIs wy ey k → ¬ Expl wy ro sp ey seen on off len (x : Int) (k : Int)) →
      ∃ m, m < 70 - k ∧ ∃ k' : Nat, m = 70 - k' ∧ k' ≤ 70 ∧ x < k' ∧ ((k + 1 : Nat) : Int) = (k' : Int) ∧ FRx S U ∧ noPr wy ro sp ey seen on off len x k' := by
    intro U a1 a6
    refine ⟨70 - (k + 1), by omega, k + 1, rfl, by omega, by omega, rfl, a1, fun c d hcd hd hq hc1 hd1 => ?_⟩
    by_cases g : c = x ∧ d = k
    · rw [g.1, g.2]
      rw [g.2] at hd1 hd
      exact a6 hd hd1
    · exact u6 c d hcd hd (by omega) hc1 hd1
  obtain ⟨r, hr1, hr2⟩ := lp_is12 (c := k) hWo hRV hk'
  refine zp_bind.mpr ((zp_eq hr1).mpr ?_)
  rcases hr2 with ⟨rfl, hk69, hIk⟩ | ⟨rfl, hIk⟩
  rotate_left 1
  · exact zp_pos rfl (zp_some.mpr (zor2_l.mpr (nx V u1 (fun z y => absurd y (hIk z)))))
  refine zp_neg (by decide) (zp_bind.mpr (zp_mono (lp_expl13 (S := V) (a := (x : Int)) (b := (k : Int)) hWo h6 hl OB hRV (Or.inr ⟨by omega, Or.inr ⟨by omega, by omega⟩⟩) (fun z => by have := (cIs_50 hIx (by omega)).1; omega) (fun z => by have := (cIs_50 hIk (by omega)).1; omega)) (fun v hv => ?_)))
  obtain ⟨q1, q2⟩ := hv
  have qF := FRx_t u1 q1
  rcases q2 with ⟨q2, q3⟩ | ⟨q2, q3⟩
  · obtain ⟨e1, e2, e3⟩ := cau_2 hC h0 h1 hxk hk69 hIx hIk q3 u6
    refine zp_neg (by rw [q2]; decide) ?_
    have fin : ∀ z, z = cAns found first second x2 → zp (some (Sum.inr (Sum.inr (z, v.2)))) (zor2 (fun s : Int × ZS => ∃ m, m < 70 - k ∧ ∃ k' : Nat, m = 70 - k' ∧ k' ≤ 70 ∧ x < k' ∧ s.1 = (k' : Int) ∧ FRx S s.2 ∧ noPr wy ro sp ey seen on off len x k') (fun r : (Int × ZS) ⊕ (Int × ZS) => (∃ U, r = .inl ((x : Int) + 1, U) ∧ FRx S U ∧ noPr wy ro sp ey seen on off len (x + 1) 0) ∨ ∃ U, r = .inr (cAns found first second x2, U) ∧ FRx S U)) := by
      intro z hz
      exact zp_some.mpr (zor2_r.mpr (Or.inr ⟨v.2, by rw [hz], qF⟩))
    have hans : cAns found first second x2 = (if x2 = -1 then 2 else if x2 < 0 then -1 else if x2 < 2 then (if x2 = 0 then (x : Int) else (k : Int)) else -1) := by unfold cAns; rw [e1, e2, e3]
    by_cases g1 : x2 = -1
    · exact zp_pos g1 (fin _ (by rw [hans, if_pos g1]))
    · refine zp_neg g1 ?_
      by_cases g2 : x2 = 0
      · exact zp_pos g2 (fin _ (by rw [hans, if_neg g1, if_neg (by omega), if_pos (by omega), if_pos g2]))
      · refine zp_neg g2 ?_
        by_cases g3 : x2 = 1
        · exact zp_pos g3 (fin _ (by rw [hans, if_neg g1, if_neg (by omega), if_pos (by omega), if_neg g2]))
        · refine zp_neg g3 (fin _ ?_)
          rw [hans, if_neg g1]
          by_cases g4 : x2 < 0
          · rw [if_pos g4]
          · rw [if_neg g4, if_neg (by omega)]
  · exact zp_pos q2 (zp_some.mpr (zor2_l.mpr (nx v.2 qF (fun _ _ => q3))))
theorem lp_ex109 (hWo : WayOK wy ro sp ey) (h6 : 0 < wy 6) (hl : 10 ≤ len ∧ len ≤ 60) (OB : ∀ e : Nat, (e : Int) < wy 7 → seen e ≠ 0 → ObsOK (on e) (off e)) (hR : PcR wy ro sp ey seen on off S) (hC : CauseIs wy ro sp ey seen on off len found first second) (h0 : ¬ Expl wy ro sp ey seen on off len (-1) (-1)) (h1 : No1 wy ro sp ey seen on off len 69)
    {V : ZS} (v1 : FRx S V) : zp (F_X12_explain_109 len x2 0 V) (fun v => v.1 = cAns found first second x2 ∧ FRx S v.2) := by
  unfold F_X12_explain_109
  refine zp_w (fun dd (s : Int × ZS) => ∃ k : Nat, dd = 70 - k ∧ k ≤ 70 ∧ s.1 = (k : Int) ∧ FRx S s.2 ∧ noPr wy ro sp ey seen on off len k 0) ?_ 70 _ ⟨0, rfl, by omega, rfl, v1, fun c d _ _ hq _ _ => by omega⟩
  rintro dd ⟨y, V⟩ ⟨k, rfl, hk, rfl, u1, u6⟩
  dsimp only at u1 u6 ⊢
  by_cases c : k = 70
  · subst c
    refine zp_neg (by omega) (zp_some.mpr (zor2_r.mpr ⟨?_, u1⟩))
    have e := cau_n hC h0 h1 (fun c d hcd hd hq hc1 hd1 => u6 c d hcd hd (Or.inl (by omega)) hc1 hd1)
    unfold cAns
    rw [e]
    by_cases g1 : x2 = -1
    · rw [if_pos g1]
    · rw [if_neg g1]
      by_cases g2 : x2 < 0
      · rw [if_pos g2]
      · rw [if_neg g2, if_neg (by omega)]
  · refine zp_pos (by omega) ?_
    rw [zadd_ok (by omega) (by omega)]
    refine zp_mono (lp_ex120 (x := k) hWo h6 hl OB hR hC h0 h1 (by omega) u1 (fun c d hcd hd hq hc1 hd1 => u6 c d hcd hd (Or.inl (by omega)) hc1 hd1)) (fun r hr => ?_)
    rcases hr with ⟨U, rfl, a1, a2⟩ | ⟨U, rfl, a1⟩
    · exact zor2_l.mpr ⟨70 - (k + 1), by omega, k + 1, rfl, by omega, rfl, a1, a2⟩
    · exact zor2_r.mpr ⟨rfl, a1⟩
theorem lp_ex58 (hWo : WayOK wy ro sp ey) (h6 : 0 < wy 6) (hl : 10 ≤ len ∧ len ≤ 60) (OB : ∀ e : Nat, (e : Int) < wy 7 → seen e ≠ 0 → ObsOK (on e) (off e)) (hR : PcR wy ro sp ey seen on off S) (hC : CauseIs wy ro sp ey seen on off len found first second) (h0 : ¬ Expl wy ro sp ey seen on off len (-1) (-1))
    {V : ZS} (v1 : FRx S V) : zp (F_X12_explain_58 len x2 0 V) (fun v => v.1 = cAns found first second x2 ∧ FRx S v.2) := by
  unfold F_X12_explain_58
  refine zp_w (fun dd (s : Int × ZS) => ∃ k : Nat, dd = 70 - k ∧ k ≤ 70 ∧ s.1 = (k : Int) ∧ FRx S s.2 ∧ ∀ c : Nat, c < k → c < 69 → cIs wy ey c → ¬ Expl wy ro sp ey seen on off len c (-1)) ?_ 70 _ ⟨0, rfl, by omega, rfl, v1, fun c hc _ _ => absurd hc (by omega)⟩
  rintro dd ⟨y, V⟩ ⟨k, rfl, hk, rfl, u1, u6⟩
  dsimp only at u1 u6 ⊢
  by_cases c : k = 70
  · subst c
    exact zp_neg (by omega) (zp_in.mpr (zp_mono (lp_ex109 hWo h6 hl OB hR hC h0 (fun c hc hI => u6 c (by omega) hc hI) u1) (fun v hv => zor2_r.mpr hv)))
  have hk' : k < 70 := by omega
  have fk : zadd (k : Int) 1 = ((k + 1 : Nat) : Int) := by rw [zadd_ok (by omega) (by omega)]; rfl
  have hRV := PcR_fr hR u1
  have nx : ∀ U : ZS, FRx S U → (k < 69 → cIs wy ey k → ¬ Expl wy ro sp ey seen on off len (k : Int) (-1)) →
      ∃ m, m < 70 - k ∧ ∃ k' : Nat, m = 70 - k' ∧ k' ≤ 70 ∧ ((k + 1 : Nat) : Int) = (k' : Int) ∧ FRx S U ∧ ∀ c : Nat, c < k' → c < 69 → cIs wy ey c → ¬ Expl wy ro sp ey seen on off len c (-1) := by
    intro U a1 a6
    refine ⟨70 - (k + 1), by omega, k + 1, rfl, by omega, rfl, a1, fun c hc hc9 hc1 => ?_⟩
    by_cases g : c = k
    · rw [g] at hc1 hc9 ⊢; exact a6 hc9 hc1
    · exact u6 c (by omega) hc9 hc1
  refine zp_pos (by omega) ?_
  rw [fk]
  obtain ⟨r, hr1, hr2⟩ := lp_is12 (c := k) hWo hRV hk'
  refine zp_bind.mpr ((zp_eq hr1).mpr ?_)
  rcases hr2 with ⟨rfl, hk69, hIk⟩ | ⟨rfl, hIk⟩
  rotate_left 1
  · exact zp_pos rfl (zp_some.mpr (zor2_l.mpr (nx V u1 (fun z y => absurd y (hIk z)))))
  refine zp_neg (by decide) (zp_bind.mpr (zp_mono (lp_expl13 (S := V) (a := (k : Int)) (b := -1) hWo h6 hl OB hRV (Or.inr ⟨by omega, Or.inl rfl⟩) (fun z => by have := (cIs_50 hIk (by omega)).1; omega) (fun z => absurd z (by decide))) (fun v hv => ?_)))
  obtain ⟨q1, q2⟩ := hv
  have qF := FRx_t u1 q1
  rcases q2 with ⟨q2, q3⟩ | ⟨q2, q3⟩
  · obtain ⟨e1, e2⟩ := cau_1 hC h0 hk69 hIk q3 (fun c hc hI => u6 c hc (by omega) hI)
    refine zp_neg (by rw [q2]; decide) ?_
    by_cases g1 : x2 = -1
    · refine zp_pos g1 (zp_some.mpr (zor2_r.mpr ⟨?_, qF⟩))
      unfold cAns
      rw [e1, if_pos g1]
    · refine zp_neg g1 ?_
      by_cases g2 : x2 = 0
      · refine zp_pos g2 (zp_some.mpr (zor2_r.mpr ⟨?_, qF⟩))
        unfold cAns
        rw [e1, e2, if_neg g1, if_neg (by omega), if_pos (by omega), if_pos g2]
      · refine zp_neg g2 (zp_some.mpr (zor2_r.mpr ⟨?_, qF⟩))
        unfold cAns
        rw [e1, if_neg g1]
        by_cases g4 : x2 < 0
        · rw [if_pos g4]
        · rw [if_neg g4, if_neg (by omega)]
  · exact zp_pos q2 (zp_some.mpr (zor2_l.mpr (nx v.2 qF (fun _ _ => q3))))
theorem pair_explain (h : Inv n S) : Pair n S (F_X11_explain x1 x2) (F_X12_explain x1 x2) := by
  obtain ⟨hT, hW, hF, hX, hO, hC, hJ, hI, hP, hK, hR, hM⟩ := h
  have hX := InvX_up hX
  obtain ⟨hWo, hWd⟩ := id hW
  obtain ⟨⟨g1, g2⟩, ⟨g3, g4⟩, ⟨g5, g6⟩, g7, g8, g9, g10, g11, g12⟩ := id hWo
  obtain ⟨W, hw1, hw2, hWR⟩ : ∃ W : Nat, (W = 19 ∨ W = 20) ∧ (S.1 2 11).toNat = W ∧ WayR (S.1 W) (S.2 W) (S.2 1 4) (S.2 1 6) (S.2 1 7) (S.2 1 10) := by
    rcases hWd with ⟨q1, q2, q3⟩ | ⟨q1, q2, q3⟩
    · exact ⟨19, Or.inl rfl, by rw [q1]; rfl, q3⟩
    · exact ⟨20, Or.inr rfl, by rw [q1]; rfl, q3⟩
  obtain ⟨w0, w1, w2, w3, w4, w5, w6, w7, w8, w9⟩ := id hWR
  have hn1 : Inv (n + 1) S := ⟨hT, hW, hF, hX, hO, hC, hJ, hI, hP, hK, hR, hM⟩
  have ref : ∀ v : Int, (¬ (10 ≤ x1 ∧ x1 ≤ 60) ∧ v = -3 ∨ (10 ≤ x1 ∧ x1 ≤ 60) ∧ S.2 1 4 6 = 0 ∧ v = -5) → F_X12_explain x1 x2 S = some (v, (zup S.1 1 0 0, S.2)) := by
    intro v hv
    unfold F_X12_explain zlt
    dsimp only
    rw [F12_within]
    rcases hv with ⟨c, rfl⟩ | ⟨c, d, rfl⟩
    · rw [if_neg c, Option.bind_some, if_pos rfl]
    · rw [if_pos c, Option.bind_some, if_neg (by decide), if_pos d]
  have bad : ∀ v : Int, (¬ (10 ≤ x1 ∧ x1 ≤ 60) ∧ v = -3 ∨ (10 ≤ x1 ∧ x1 ≤ 60) ∧ S.2 1 4 6 = 0 ∧ v = -5) → ((v, S) : Int × ZS).2.2 0 = S.2 0 ∧ zp (F_X12_explain x1 x2 ((v, S) : Int × ZS).2) fun u => u.1 = ((v, S) : Int × ZS).1 ∧ u.2.2 0 = S.2 0 ∧ Inv (n + 1) u.2 := by
    intro v hv
    refine ⟨rfl, ?_⟩
    rw [zp_eq (ref v hv)]
    exact ⟨rfl, rfl, hn1⟩
  unfold Pair F_X11_explain F_X11_isSheetLength
  refine zp_bind.mpr ?_
  by_cases c4 : x1 < 10
  · exact zp_pos c4 (zp_some.mpr (zp_pos rfl (zp_some.mpr (bad _ (Or.inl ⟨by omega, rfl⟩)))))
  refine zp_neg c4 ?_
  by_cases c5 : 60 < x1
  · exact zp_pos c5 (zp_some.mpr (zp_pos rfl (zp_some.mpr (bad _ (Or.inl ⟨by omega, rfl⟩)))))
  refine zp_neg c5 (zp_some.mpr (zp_neg (by decide) ?_))
  rw [hw2]
  refine zp_pos hw1 ?_
  rw [w1]
  by_cases c6 : S.2 1 4 6 = 0
  · exact zp_pos c6 (zp_some.mpr (bad _ (Or.inr ⟨by omega, c6, rfl⟩)))
  refine zp_neg c6 (zp_bind.mpr ?_)
  have hl : 10 ≤ x1 ∧ x1 ≤ 60 := by omega
  have h6 : 0 < S.2 1 4 6 := by omega
  have OB : ∀ e : Nat, (e : Int) < S.2 1 4 7 → S.2 1 38 e ≠ 0 → ObsOK (S.2 1 44 e) (S.2 1 45 e) := by
    intro e he hs
    exact ((hO.2 e (by omega)).2.resolve_left hs).2.2.2.2
  refine zp_mono (lp_seek11 (S := S) (W := W) (len := x1) hw1 hWo h6 hl OB ⟨hWR, hO.2⟩ hC) (fun V hV => ?_)
  obtain ⟨f1, f2, f3⟩ := hV
  have v1 : V.1 1 = S.1 1 := (f1.1 1 (by decide) (by decide) (by decide) (by decide)).1
  have v2 : V.2 1 = S.2 1 := (f1.1 1 (by decide) (by decide) (by decide) (by decide)).2
  have v0 : V.2 0 = S.2 0 := (f1.1 0 (by decide) (by decide) (by decide) (by decide)).2
  have fin : ∀ z, z = cAns (V.1 10 1) (V.1 10 2) (V.1 10 3) x2 → ((z, V) : Int × ZS).2.2 0 = S.2 0 ∧ zp (F_X12_explain x1 x2 ((z, V) : Int × ZS).2) fun u => u.1 = ((z, V) : Int × ZS).1 ∧ u.2.2 0 = S.2 0 ∧ Inv (n + 1) u.2 := by
    intro z hz
    refine ⟨v0, ?_⟩
    dsimp only
    have hR : PcR (S.2 1 4) (S.2 1 6) (S.2 1 7) (S.2 1 10) (S.2 1 38) (S.2 1 44) (S.2 1 45) (zup V.1 1 0 0, V.2) := by
      unfold PcR
      dsimp only
      rw [v2]
      exact ⟨rfl, rfl, rfl, rfl, rfl, rfl, rfl⟩
    have last : ∀ u : Int × ZS, u.1 = cAns (V.1 10 1) (V.1 10 2) (V.1 10 3) x2 → FRx (zup V.1 1 0 0, V.2) u.2 → u.1 = z ∧ u.2.2 0 = S.2 0 ∧ Inv (n + 1) u.2 := by
      intro u hu hF
      obtain ⟨q1, q2, q3, q4⟩ := hF
      dsimp only at q1 q2 q3 q4
      refine ⟨by rw [hu, hz], by rw [q3 0 (by decide)]; exact v0, Inv_fr hn1 (fun r h1 h5 h8 h9 h10 => ?_) (fun r h1 h5 h8 h9 h10 => ?_) (fun k hk1 hk2 => ?_) (fun o h1 h2 h3 h4 h5 => ?_) ?_ ?_⟩
      · rw [q1 r h1, zup_R h1]; exact (f1.1 r h5 h8 h9 h10).1
      · rw [q3 r h1]; exact (f1.1 r h5 h8 h9 h10).2
      · rw [q2 k (by omega) (by omega) (by omega), zup_k (by omega), v1]
      · rw [q4 o h1 h2 h3 h4 h5, v2]
      · rw [q1 10 (by decide), zup_R (by decide), q3 10 (by decide)]
        refine ⟨by rw [f1.2.1 0 (by decide) (by decide) (by decide) (by decide)]; exact hO.1, fun e he => ?_⟩
        rw [f1.2.2 5 (by decide), f1.2.2 6 (by decide), f1.2.2 7 (by decide)]
        exact hO.2 e he
      · rw [q1 10 (by decide), zup_R (by decide)]
        refine Or.inr ⟨by rw [f2]; exact hl, h6, ?_⟩
        rw [f2]
        exact f3
    unfold F_X12_explain
    refine zp_lt.mpr ?_
    dsimp only
    rw [F12_within, if_pos hl, Option.bind_some, if_neg (by decide), v2, if_neg c6]
    refine zp_bind.mpr (zp_mono (lp_expl13 (S := (zup V.1 1 0 0, V.2)) (len := x1) (a := -1) (b := -1) hWo h6 hl OB hR (Or.inl ⟨rfl, rfl⟩) (fun z => absurd z (by decide)) (fun z => absurd z (by decide))) (fun u hu => ?_))
    obtain ⟨q1, q2⟩ := hu
    rcases q2 with ⟨q2, q3⟩ | ⟨q2, q3⟩
    · refine zp_neg (by rw [q2]; decide) ?_
      have e := cau_0 f3 q3
      by_cases g1 : x2 = -1
      · refine zp_pos g1 (zp_some.mpr (last _ ?_ q1))
        unfold cAns
        rw [if_pos g1, e]
      · refine zp_neg g1 (zp_some.mpr (last _ ?_ q1))
        unfold cAns
        rw [if_neg g1, e]
        by_cases g2 : x2 < 0
        · rw [if_pos g2]
        · rw [if_neg g2, if_neg g2]
    · exact zp_pos q2 (zp_mono (lp_ex58 (S := (zup V.1 1 0 0, V.2)) (len := x1) (x2 := x2) hWo h6 hl OB hR f3 q3 q1) (fun u hu => last u hu.1 hu.2))
  unfold cAns at fin
  by_cases g1 : x2 = -1
  · exact zp_pos g1 (zp_some.mpr (fin _ (by rw [if_pos g1])))
  · refine zp_neg g1 ?_
    rw [if_neg g1] at fin
    by_cases g2 : x2 < 0
    · exact zp_pos g2 (zp_some.mpr (fin _ (by rw [if_pos g2])))
    · refine zp_neg g2 ?_
      rw [if_neg g2] at fin
      by_cases g3 : x2 < V.1 10 1
      · refine zp_pos g3 ?_
        rw [if_pos g3] at fin
        by_cases g4 : x2 = 0
        · exact zp_pos g4 (zp_some.mpr (fin _ (by rw [if_pos g4])))
        · exact zp_neg g4 (zp_some.mpr (fin _ (by rw [if_neg g4])))
      · exact zp_neg g3 (zp_some.mpr (fin _ (by rw [if_neg g3])))
end EXPP
