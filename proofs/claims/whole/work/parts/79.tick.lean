/-! ticks: both sides -/
section TICK
variable {V S : ZS} {m n k W many : Nat} {now now0 x1 : Int} {X : TS} {wy ro sp ey wear beat cor : Nat → Int}
theorem DrOK_of {I4 : Nat → Int} {A4 : Nat → Nat → Int} (hW : WayOK wy ro sp ey) (hF : InvF I4 A4 (wy 0) wear beat cor (many : Int)) : DrOK wy ro sp wear beat ∧ CoOK cor many := by
  obtain ⟨⟨g1, g2⟩, g3, _, _, g8, g9, _⟩ := hW
  obtain ⟨f1, f2, ⟨f3, f4⟩, f5⟩ := hF
  refine ⟨⟨g3, g8, fun r hr => ?_⟩, by omega, fun c hc => ?_⟩
  · obtain ⟨a1, a2, a3, a4⟩ := g9 r hr
    obtain ⟨_, b2, _, b4⟩ := f1 r (by omega)
    exact ⟨by omega, by omega, b2, b4⟩
  · have := (f5 c (by omega)).2
    omega
theorem lp_once (hW1 : W = 19 ∨ W = 20) (hWo : WayOK (X.1 4) (X.1 6) (X.1 7) (X.1 10)) (hWR : WayR (V.1 W) (V.2 W) (X.1 4) (X.1 6) (X.1 7) (X.1 10)) (hF : InvF (V.1 4) (V.2 4) (X.1 4 0) (X.1 24) (X.1 25) (X.1 26) (many : Int))
    (hK : TrafOK (X.1 4) (X.1 6) (m : Int) now0 (-1) (X.1 31) (X.1 32) (X.1 33) (X.1 34) (X.1 35) (X.1 36) (X.1 37) X.2.1 X.2.2.1 n) (hn : now = now0 + 1) (hn2 : now ≤ 300 * (n : Int)) (bn : 0 ≤ now ∧ now < 2147483648) (hk : X.1 4 7 = (k : Int)) (hw : WOK k X.1)
    (hR : CRt 6 W 4 m V now0 (-1) X.1 X.2.1 X.2.2.1) (hWa : WatR (V.2 7) (X.1 4 7) (X.1 39) (X.1 40) (X.1 41) (X.1 42) (X.1 43)) :
    zp (F_X8_goOnce 6 V) (fun U => (∀ r, r ≠ 6 → U.1 r = V.1 r) ∧ (∀ r, r ≠ 6 → r ≠ 7 → U.2 r = V.2 r) ∧ CRt 6 W 4 m U now (tkF k many now X).2.2.2 (tkF k many now X).1 (tkF k many now X).2.1 (tkF k many now X).2.2.1 ∧ WatR (U.2 7) (X.1 4 7) ((tkF k many now X).1 39) ((tkF k many now X).1 40) ((tkF k many now X).1 41) ((tkF k many now X).1 42) ((tkF k many now X).1 43)) := by
  obtain ⟨H, C⟩ := DrOK_of hWo hF
  obtain ⟨hok, hwk⟩ := tkF_ok (many := many) (k := k) hWo H hK hn hn2 hw
  have hTk := (TkOK_of hWo hK).1
  have hcf := hWo
  obtain ⟨⟨g1, g2⟩, ⟨g3, g4⟩, ⟨g5, g6⟩, g7, g8, g9, g10, g11, g12⟩ := hWo
  obtain ⟨w0, w1, w2, w3, w4, w5, w6, w7, w8, w9⟩ := hWR
  obtain ⟨f1, f2, ⟨f3, f4⟩, f5⟩ := hF
  have hn3 := hK.2.1.1
  obtain ⟨p, L, P, jam⟩ := X
  dsimp only at *
  have hc := lp_carry8 (S := V) (T := 6) (W := W) (F := 4) (wy := p 4) (ro := p 6) (sp := p 7) (wear := p 24) (beat := p 25) (cor := p 26) (many := many) (now := now) (now0 := now0) (p := p) (L := L) (P := P) (m := m) (Or.inl rfl) hW1 (Or.inl rfl) bn w0 w3 w4 w5 w6 ⟨g1, g2⟩ (by omega) H w1 w7
    (fun r hr => by
      obtain ⟨a1, a2⟩ := w8 r hr
      obtain ⟨b1, _, b3, _⟩ := f1 r (by omega)
      exact ⟨a1, a2, b1, b3⟩) C f2 (fun c hc => (f5 c (by omega)).1) hn hn3 hTk hR (p1 := (tkQ many now p L P).1) (N := (tkQ many now p L P).2.1) (P1 := (tkQ many now p L P).2.2.1) (lim := (tkQ many now p L P).2.2.2) rfl
  unfold F_X8_goOnce
  rw [zp_bind]
  refine zp_mono hc fun V1 hV1 => ?_
  obtain ⟨u1, u2, u3⟩ := hV1
  unfold tkF at hok ⊢
  dsimp only at hok ⊢
  obtain ⟨r3, hr3⟩ : ∃ r3, tkB (p 4) now (tkJ (tkQ many now p L P).1 (tkQ many now p L P).2.1) (tkQ many now p L P).2.1 (tkQ many now p L P).2.2.1 = r3 := ⟨_, rfl⟩
  have hro : ∀ o, o < 32 ∨ 36 < o → r3.1 o = p o := fun o ho => by rw [← hr3, tkB_o (by omega), tkJ_of (by omega), tkQ_o (by omega) (by omega) (by omega) (by omega)]
  rw [hr3] at hok u3 ⊢
  obtain ⟨c1, c2, c3, c4, c5, c6, c7, c8, c9, c10⟩ := u3
  obtain ⟨⟨d1, d2⟩, ⟨d3, d4⟩, d5, ds, dL, dLp, dP, dPp, dPl, d6, d7, d8⟩ := hok
  have hNb : ∀ a, a ∈ r3.2.1 → a < m ∧ a < 40 ∧ (0 ≤ r3.1 32 a ∧ r3.1 32 a ≤ 10000) ∧ (10 ≤ r3.1 31 a ∧ r3.1 31 a ≤ 70) := fun a ha => by
    have hm := (dL a).mp ha
    obtain ⟨b1, b2, b3, b4, b5, _⟩ := ds a hm.1
    rw [wtN_o (by omega)] at b2 b5
    omega
  have hlen : r3.2.1.length ≤ m := nodup_le m _ (sort_nodup (ten := fun a => 10 * wtN (p 10) now r3.2.1 r3.1 k 31 a) dLp (fun a ha => by have := (ds a ((dL a).mp ha).1).2.1; (try dsimp only); omega)) (fun a ha => (hNb a ha).1)
  have hgo := lp_go6 (S := V1) (T := 6) (W := W) (k := k) (m := m) (now := now) (eyes := p 4 7) (ey := p 10) (p := r3.1) (N := r3.2.1) (Or.inl rfl) hW1 c6 c2 (by rw [u1 W (by omega), w2, hk]) (by omega) (fun e he => by
      rw [u2 W (by omega), w9 e (by omega)]
      have := g10 e (by omega)
      exact ⟨rfl, by omega⟩) hk c5 (by omega) c9 c8 hNb (by rw [u2 7 (by decide), hro 39 (by omega), hro 40 (by omega), hro 41 (by omega), hro 42 (by omega), hro 43 (by omega)]; exact hWa)
  refine zp_mono hgo fun U hU => ?_
  obtain ⟨z1, z2, z3⟩ := hU
  have zT : U.2 6 = V1.2 6 := z2 6 (by decide)
  refine ⟨fun r hr => by rw [z1, u1 r hr], fun r h6 h7 => by rw [z2 r h7, u2 r h6], ⟨by rw [z1]; exact c1, by rw [z1]; exact c2, by rw [z1]; exact c3, by rw [z1]; exact c4, by rw [z1]; exact c5, by rw [z1]; exact c6, by rw [z1]; exact c7, ?_, fun i h => by rw [zT]; exact c9 i h, fun i h => by rw [zT]; exact c10 i h⟩, z3⟩
  unfold CRel at c8 ⊢
  rw [zT, wtN_o (o := 31) (by omega), wtN_o (o := 32) (by omega), wtN_o (o := 33) (by omega), wtN_o (o := 34) (by omega), wtN_o (o := 35) (by omega), wtN_o (o := 36) (by omega), wtN_o (o := 37) (by omega)]
  exact c8
/-- so many ticks -/
def tkI (k many : Nat) (now0 : Int) (X : TS) : Nat → TS
  | 0 => X
  | i + 1 => tkF k many (now0 + ((i + 1 : Nat) : Int)) (tkI k many now0 X i)
def tkE (k many : Nat) (now0 : Int) (X : TS) (q : Nat) : Nat := fnd (fun i => decide ((tkI k many now0 X i).2.2.2 ≠ -1)) q
theorem tkI_ok (hWo : WayOK (X.1 4) (X.1 6) (X.1 7) (X.1 10)) (H : DrOK (X.1 4) (X.1 6) (X.1 7) (X.1 24) (X.1 25)) (hK : TrafOK (X.1 4) (X.1 6) (m : Int) now0 X.2.2.2 (X.1 31) (X.1 32) (X.1 33) (X.1 34) (X.1 35) (X.1 36) (X.1 37) X.2.1 X.2.2.1 n) {q : Nat} (hn : now0 + (q : Int) ≤ 300 * (n : Int)) (hw : WOK k X.1) :
    ∀ i, i ≤ tkE k many now0 X q → TrafOK (X.1 4) (X.1 6) (m : Int) (now0 + (i : Int)) (tkI k many now0 X i).2.2.2 ((tkI k many now0 X i).1 31) ((tkI k many now0 X i).1 32) ((tkI k many now0 X i).1 33) ((tkI k many now0 X i).1 34) ((tkI k many now0 X i).1 35) ((tkI k many now0 X i).1 36) ((tkI k many now0 X i).1 37) (tkI k many now0 X i).2.1 (tkI k many now0 X i).2.2.1 n ∧ WOK k (tkI k many now0 X i).1 ∧ (∀ o, o < 32 ∨ (36 < o ∧ o < 39) ∨ 43 < o → (tkI k many now0 X i).1 o = X.1 o)
  | 0, _ => ⟨by rw [show now0 + ((0 : Nat) : Int) = now0 by omega]; exact hK, hw, fun o _ => rfl⟩
  | i + 1, hi => by
    have hq := fnd_le (fun i => decide ((tkI k many now0 X i).2.2.2 ≠ -1)) q
    have hj : (tkI k many now0 X i).2.2.2 = -1 := by
      have := of_decide_eq_false (fnd_no (p := fun i => decide ((tkI k many now0 X i).2.2.2 ≠ -1)) (n := q) (k := i) (by unfold tkE at hi; omega))
      omega
    obtain ⟨h1, h2, h3⟩ := tkI_ok hWo H hK hn hw i (by omega)
    rw [hj] at h1
    have e4 := h3 4 (by omega)
    have e6 := h3 6 (by omega)
    have e7 := h3 7 (by omega)
    have e10 := h3 10 (by omega)
    have e24 := h3 24 (by omega)
    have e25 := h3 25 (by omega)
    have hh := tkF_ok (X := tkI k many now0 X i) (many := many) (k := k) (m := m) (n := n) (now0 := now0 + (i : Int)) (now := now0 + ((i + 1 : Nat) : Int)) (by rw [e4, e6, e7, e10]; exact hWo) (by rw [e4, e6, e7, e24, e25]; exact H) (by rw [e4, e6]; exact h1) (by omega) (by unfold tkE at hi; omega) h2
    rw [e4, e6] at hh
    exact ⟨hh.1, hh.2, fun o ho => (tkF_o ho).trans (h3 o ho)⟩
theorem lp_tick8 (hW1 : W = 19 ∨ W = 20) (hWo : WayOK (X.1 4) (X.1 6) (X.1 7) (X.1 10)) (hWR : WayR (S.1 W) (S.2 W) (X.1 4) (X.1 6) (X.1 7) (X.1 10)) (hF : InvF (S.1 4) (S.2 4) (X.1 4 0) (X.1 24) (X.1 25) (X.1 26) (many : Int))
    (hK : TrafOK (X.1 4) (X.1 6) (m : Int) now0 X.2.2.2 (X.1 31) (X.1 32) (X.1 33) (X.1 34) (X.1 35) (X.1 36) (X.1 37) X.2.1 X.2.2.1 n) {q : Nat} (hq3 : q ≤ 300) (hn : now0 + (q : Int) ≤ 300 * (n : Int)) (bn : 300 * (n : Int) < 2147483648) (hk : X.1 4 7 = (k : Int)) (hw : WOK k X.1)
    (hR : CRt 6 W 4 m S now0 X.2.2.2 X.1 X.2.1 X.2.2.1) (hWa : WatR (S.2 7) (X.1 4 7) (X.1 39) (X.1 40) (X.1 41) (X.1 42) (X.1 43)) :
    zp (F_X11_tick_16 (q : Int) 0 S) (fun v => v.1 = (tkE k many now0 X q : Int) ∧ (∀ r, r ≠ 6 → v.2.1 r = S.1 r) ∧ (∀ r, r ≠ 6 → r ≠ 7 → v.2.2 r = S.2 r) ∧
      CRt 6 W 4 m v.2 (now0 + (tkE k many now0 X q : Int)) (tkI k many now0 X (tkE k many now0 X q)).2.2.2 (tkI k many now0 X (tkE k many now0 X q)).1 (tkI k many now0 X (tkE k many now0 X q)).2.1 (tkI k many now0 X (tkE k many now0 X q)).2.2.1 ∧ WatR (v.2.2 7) (X.1 4 7) ((tkI k many now0 X (tkE k many now0 X q)).1 39) ((tkI k many now0 X (tkE k many now0 X q)).1 40) ((tkI k many now0 X (tkE k many now0 X q)).1 41) ((tkI k many now0 X (tkE k many now0 X q)).1 42) ((tkI k many now0 X (tkE k many now0 X q)).1 43)) := by
  have H := (DrOK_of hWo hF).1
  have hok := tkI_ok (k := k) (many := many) hWo H hK hn hw
  have hqe := fnd_le (fun i => decide ((tkI k many now0 X i).2.2.2 ≠ -1)) q
  have hn3 := hK.2.1.1
  have hjn : ∀ i, i < tkE k many now0 X q → (tkI k many now0 X i).2.2.2 = -1 := fun i hi => by
    have := of_decide_eq_false (fnd_no (p := fun i => decide ((tkI k many now0 X i).2.2.2 ≠ -1)) (n := q) (k := i) hi)
    omega
  have hjy : tkE k many now0 X q < q → (tkI k many now0 X (tkE k many now0 X q)).2.2.2 ≠ -1 := fun hi => of_decide_eq_true (fnd_yes (p := fun i => decide ((tkI k many now0 X i).2.2.2 ≠ -1)) hi)
  change tkE k many now0 X q ≤ q at hqe
  unfold F_X11_tick_16
  refine zp_w (fun d st => ∃ i V, d + i = tkE k many now0 X q ∧ st = ((i : Int), V) ∧ (∀ r, r ≠ 6 → V.1 r = S.1 r) ∧ (∀ r, r ≠ 6 → r ≠ 7 → V.2 r = S.2 r) ∧ CRt 6 W 4 m V (now0 + (i : Int)) (tkI k many now0 X i).2.2.2 (tkI k many now0 X i).1 (tkI k many now0 X i).2.1 (tkI k many now0 X i).2.2.1 ∧ WatR (V.2 7) (X.1 4 7) ((tkI k many now0 X i).1 39) ((tkI k many now0 X i).1 40) ((tkI k many now0 X i).1 41) ((tkI k many now0 X i).1 42) ((tkI k many now0 X i).1 43)) (fun d st hst => ?_) (tkE k many now0 X q) _
    ⟨0, S, by omega, rfl, fun r _ => rfl, fun r _ _ => rfl, by rw [show now0 + ((0 : Nat) : Int) = now0 by omega]; exact hR, hWa⟩
  obtain ⟨i, V, hd, rfl, v1, v2, v3, v4⟩ := hst
  have k3 : V.1 6 3 = (tkI k many now0 X i).2.2.2 := v3.2.2.1
  dsimp only
  simp only [k3]
  rcases Nat.lt_or_ge i (tkE k many now0 X q) with hi | hi
  · obtain ⟨h1, h2, h3⟩ := hok i (by omega)
    have hj := hjn i hi
    have e4 := h3 4 (by omega)
    have e6 := h3 6 (by omega)
    have e7 := h3 7 (by omega)
    have e10 := h3 10 (by omega)
    have e24 := h3 24 (by omega)
    have e25 := h3 25 (by omega)
    have e26 := h3 26 (by omega)
    rw [hj] at h1 v3 ⊢
    have hon := lp_once (V := V) (X := tkI k many now0 X i) (many := many) (k := k) (m := m) (n := n) (W := W) (now0 := now0 + (i : Int)) (now := now0 + ((i + 1 : Nat) : Int)) hW1 (by rw [e4, e6, e7, e10]; exact hWo) (by rw [v1 W (by omega), v2 W (by omega) (by omega), e4, e6, e7, e10]; exact hWR) (by rw [v1 4 (by decide), v2 4 (by decide) (by decide), e4, e24, e25, e26]; exact hF)
      (by rw [e4, e6]; exact h1) (by omega) (by omega) (by omega) (by rw [e4]; exact hk) h2 v3 (by rw [e4]; exact v4)
    refine zp_pos (by omega) (zp_pos (by trivial) (zp_bind.mpr (zp_mono hon fun U hU => zp_some.mpr (zor2_l.mpr ⟨d - 1, by omega, i + 1, U, by omega, ?_, fun r hr => (hU.1 r hr).trans (v1 r hr), fun r h6 h7 => (hU.2.1 r h6 h7).trans (v2 r h6 h7), hU.2.2.1, ?_⟩))))
    · rw [zadd_ok (by omega) (by omega)]
      rfl
    · have := hU.2.2.2
      rw [e4] at this
      exact this
  · have hie : i = tkE k many now0 X q := by omega
    rw [hie] at v3 v4 ⊢
    refine zp_if (fun c => zp_neg (hjy (by omega)) (zp_some.mpr (zor2_r.mpr ⟨rfl, v1, v2, v3, v4⟩))) (fun c => zp_some.mpr (zor2_r.mpr ⟨rfl, v1, v2, v3, v4⟩))
theorem lp_tick12 (hm : S.1 1 27 = (m : Int)) (h28 : S.1 1 28 = now0) (h29 : S.1 1 29 = X.2.2.2) (hp : ∀ o, o ≠ 46 → S.2 1 o = X.1 o) (hWo : WayOK (X.1 4) (X.1 6) (X.1 7) (X.1 10)) (H : DrOK (X.1 4) (X.1 6) (X.1 7) (X.1 24) (X.1 25)) (C : CoOK (X.1 26) many) (k3 : S.1 1 26 = (many : Int))
    (hK : TrafOK (X.1 4) (X.1 6) (m : Int) now0 X.2.2.2 (X.1 31) (X.1 32) (X.1 33) (X.1 34) (X.1 35) (X.1 36) (X.1 37) X.2.1 X.2.2.1 n) {q : Nat} (hq3 : q ≤ 300) (hn : now0 + (q : Int) ≤ 300 * (n : Int)) (bn : 300 * (n : Int) < 2147483648) (hk : X.1 4 7 = (k : Int)) (hw : WOK k X.1) :
    zp (F_X12_tick_22 (q : Int) 0 S) (fun v => v.1 = (tkE k many now0 X q : Int) ∧ (∀ r, r ≠ 1 → v.2.1 r = S.1 r) ∧ (∀ r, r ≠ 1 → v.2.2 r = S.2 r) ∧ (∀ c, c ≠ 28 → c ≠ 29 → v.2.1 1 c = S.1 1 c) ∧
      v.2.1 1 28 = now0 + (tkE k many now0 X q : Int) ∧ v.2.1 1 29 = (tkI k many now0 X (tkE k many now0 X q)).2.2.2 ∧ ∀ o, o ≠ 46 → v.2.2 1 o = (tkI k many now0 X (tkE k many now0 X q)).1 o) := by
  have hok := tkI_ok (k := k) (many := many) hWo H hK hn hw
  have hqe := fnd_le (fun i => decide ((tkI k many now0 X i).2.2.2 ≠ -1)) q
  have hn3 := hK.2.1.1
  have hjn : ∀ i, i < tkE k many now0 X q → (tkI k many now0 X i).2.2.2 = -1 := fun i hi => by
    have := of_decide_eq_false (fnd_no (p := fun i => decide ((tkI k many now0 X i).2.2.2 ≠ -1)) (n := q) (k := i) hi)
    omega
  have hjy : tkE k many now0 X q < q → (tkI k many now0 X (tkE k many now0 X q)).2.2.2 ≠ -1 := fun hi => of_decide_eq_true (fnd_yes (p := fun i => decide ((tkI k many now0 X i).2.2.2 ≠ -1)) hi)
  change tkE k many now0 X q ≤ q at hqe
  unfold F_X12_tick_22
  refine zp_w (fun d st => ∃ i V, d + i = tkE k many now0 X q ∧ st = ((i : Int), V) ∧ (∀ r, r ≠ 1 → V.1 r = S.1 r) ∧ (∀ r, r ≠ 1 → V.2 r = S.2 r) ∧ (∀ c, c ≠ 28 → c ≠ 29 → V.1 1 c = S.1 1 c) ∧ V.1 1 28 = now0 + (i : Int) ∧ V.1 1 29 = (tkI k many now0 X i).2.2.2 ∧ ∀ o, o ≠ 46 → V.2 1 o = (tkI k many now0 X i).1 o) (fun d st hst => ?_) (tkE k many now0 X q) _
    ⟨0, S, by omega, rfl, fun r _ => rfl, fun r _ => rfl, fun c _ _ => rfl, by rw [h28]; omega, h29, hp⟩
  obtain ⟨i, V, hd, rfl, v1, v2, v3, v4, v5, v6⟩ := hst
  dsimp only
  simp only [v5]
  rcases Nat.lt_or_ge i (tkE k many now0 X q) with hi | hi
  · obtain ⟨h1, h2, h3⟩ := hok i (by omega)
    have hj := hjn i hi
    have e4 := h3 4 (by omega)
    have e6 := h3 6 (by omega)
    have e7 := h3 7 (by omega)
    have e10 := h3 10 (by omega)
    have e24 := h3 24 (by omega)
    have e25 := h3 25 (by omega)
    have e26 := h3 26 (by omega)
    rw [hj] at h1 v5 ⊢
    have htk := lp_ticks12 (S := V) (p := (tkI k many now0 X i).1) (L := (tkI k many now0 X i).2.1) (P := (tkI k many now0 X i).2.2.1) (jam := (tkI k many now0 X i).2.2.2) (many := many) (k := k) (m := m) (n := n) (now0 := now0 + (i : Int)) (now := now0 + ((i + 1 : Nat) : Int)) (by rw [v3 27 (by decide) (by decide)]; exact hm) v4 v5 (by omega) (by omega) v6 (by rw [e4, e6, e7, e10]; exact hWo) (by rw [e4, e6, e7, e24, e25]; exact H) (by rw [e26]; exact C) (by rw [v3 26 (by decide) (by decide)]; exact k3)
      (by rw [e4, e6]; exact h1) (by omega) (by rw [e4]; exact hk) h2
    refine zp_pos (by omega) (zp_pos (by trivial) (zp_bind.mpr (zp_mono htk fun U hU => zp_some.mpr (zor2_l.mpr ⟨d - 1, by omega, i + 1, U, by omega, ?_, fun r hr => ?_, fun r hr => (hU.2.1 r hr).trans (v2 r hr), fun c h1 h2 => ?_, ?_, ?_, hU.2.2⟩))))
    · rw [zadd_ok (by omega) (by omega)]
      rfl
    · rw [hU.1, zup_R hr, zup_R hr]
      exact v1 r hr
    · rw [hU.1, zup_k h2, zup_k h1]
      exact v3 c h1 h2
    · rw [hU.1, zup_k (by decide), zup_s]
    · rw [hU.1, zup_s]
      rfl
  · have hie : i = tkE k many now0 X q := by omega
    rw [hie] at v4 v5 v6 ⊢
    refine zp_if (fun c => zp_neg (hjy (by omega)) (zp_some.mpr (zor2_r.mpr ⟨rfl, v1, v2, v3, v4, v5, v6⟩))) (fun c => zp_some.mpr (zor2_r.mpr ⟨rfl, v1, v2, v3, v4, v5, v6⟩))
theorem pair_tick (h : Inv n S) (hn512 : n < 512) : Pair n S (F_X11_tick x1) (F_X12_tick x1) := by
  have hX0 := h.2.2.2.1
  obtain ⟨hT, hW, hF, hX, hO, hC, hJ, hI, hP, hK, hR, hM⟩ := h
  have hX := InvX_up hX
  obtain ⟨hWo, hWd⟩ := id hW
  obtain ⟨⟨g1, g2⟩, ⟨g3, g4⟩, ⟨g5, g6⟩, g7, g8, g9, g10, g11, g12⟩ := id hWo
  obtain ⟨W, hw1, hw2, hWR⟩ : ∃ W : Nat, (W = 19 ∨ W = 20) ∧ (S.1 2 11).toNat = W ∧ WayR (S.1 W) (S.2 W) (S.2 1 4) (S.2 1 6) (S.2 1 7) (S.2 1 10) := by
    rcases hWd with ⟨q1, q2, q3⟩ | ⟨q1, q2, q3⟩
    · exact ⟨19, Or.inl rfl, by rw [q1]; rfl, q3⟩
    · exact ⟨20, Or.inr rfl, by rw [q1]; rfl, q3⟩
  obtain ⟨w0, w1, w2, w3, w4, w5, w6, w7, w8, w9⟩ := id hWR
  by_cases c0 : 0 ≤ x1 ∧ x1 ≤ 300
  rotate_left 1
  · unfold Pair F_X11_tick
    repeat' first
      | (with_reducible refine zp_some.mpr ?_; try dsimp only)
      | (with_reducible refine zp_wi.mpr ⟨fun c => ?_, fun c => ?_⟩ <;> (try simp (disch := omega) only [zadd_ok, zsub_ok, zmul_ok, zup_ap, zuA_ap, zset_ap, zuA_s, zuA_A, zup_up, and_true, true_and, and_false, false_and, reduceIte, Nat.reduceEqDiff, not_true_eq_false, not_false_eq_true, or_true, true_or, or_false, false_or, hw2] at c) <;> (try (exfalso; omega)) <;> (try dsimp only))
      | with_reducible refine zp_bind.mpr ?_
      | (with_reducible refine zp_if (fun c => ?_) (fun c => ?_) <;> (try simp (disch := omega) only [zadd_ok, zsub_ok, zmul_ok, zup_ap, zuA_ap, zset_ap, zuA_s, zuA_A, zup_up, and_true, true_and, and_false, false_and, reduceIte, Nat.reduceEqDiff, not_true_eq_false, not_false_eq_true, or_true, true_or, or_false, false_or, hw2] at c) <;> (try (exfalso; omega)))
      | (with_reducible refine zp_lt.mpr ?_; try dsimp only)
      | fail
    all_goals refine ⟨rfl, zp_gen S rfl rfl rfl (fun T hE t0 t1 t2 => ?_)⟩
    all_goals unfold F_X12_tick
    all_goals repeat' first
      | (with_reducible refine zp_some.mpr ?_; try dsimp only)
      | (with_reducible refine zp_wi.mpr ⟨fun c => ?_, fun c => ?_⟩ <;> (try simp (disch := omega) only [zadd_ok, zsub_ok, zmul_ok, zup_ap, zuA_ap, zset_ap, zuA_s, zuA_A, zup_up, and_true, true_and, and_false, false_and, reduceIte, Nat.reduceEqDiff, not_true_eq_false, not_false_eq_true, or_true, true_or, or_false, false_or, t1, t2] at c) <;> (try (exfalso; omega)) <;> (try dsimp only))
      | with_reducible refine zp_bind.mpr ?_
      | (with_reducible refine zp_if (fun c => ?_) (fun c => ?_) <;> (try simp (disch := omega) only [zadd_ok, zsub_ok, zmul_ok, zup_ap, zuA_ap, zset_ap, zuA_s, zuA_A, zup_up, and_true, true_and, and_false, false_and, reduceIte, Nat.reduceEqDiff, not_true_eq_false, not_false_eq_true, or_true, true_or, or_false, false_or, t1, t2] at c) <;> (try (exfalso; omega)))
      | (with_reducible refine zp_lt.mpr ?_; try dsimp only)
      | fail
    all_goals replace hE := hE.symm
    all_goals subst hE
    all_goals exact ⟨rfl, rfl, hT, hW, hF, hX, hO, hC, hJ, hI, hP, hK, hR, hM⟩
  obtain ⟨q, rfl⟩ : ∃ q : Nat, x1 = (q : Int) := ⟨_, (Int.toNat_of_nonneg c0.1).symm⟩
  obtain ⟨⟨L, P, R, K0⟩, _⟩ := hX0
  obtain ⟨_, hWa⟩ := id hX
  have K : TrafOK (S.2 1 4) (S.2 1 6) (S.1 1 27) (S.1 1 28) (S.1 1 29) (S.2 1 31) (S.2 1 32) (S.2 1 33) (S.2 1 34) (S.2 1 35) (S.2 1 36) (S.2 1 37) L P (n + 1) := ⟨K0.1, ⟨K0.2.1.1, by have := K0.2.1.2; omega⟩, K0.2.2⟩
  have hnow := K0.2.1
  obtain ⟨m, hm⟩ : ∃ m : Nat, S.1 1 27 = (m : Int) := ⟨_, (Int.toNat_of_nonneg K.1.1).symm⟩
  obtain ⟨k, hk⟩ : ∃ k : Nat, S.2 1 4 7 = (k : Int) := ⟨_, (Int.toNat_of_nonneg g5).symm⟩
  obtain ⟨many, hmany⟩ : ∃ many : Nat, S.1 1 26 = (many : Int) := ⟨_, (Int.toNat_of_nonneg hF.2.2.1.1).symm⟩
  have hF0 := hF
  rw [hmany] at hF0
  rw [hm] at K R
  obtain ⟨r1, r2, r3, r4, r5, r6, r7, rs, rL, rP⟩ := R
  have hwp : S.1 2 11 = (W : Int) := by rw [← hw2]; rcases hWd with z | z <;> omega
  obtain ⟨X, hX1, hX2⟩ : ∃ X : TS, X = (S.2 1, L, P, S.1 1 29) ∧ X.1 = S.2 1 := ⟨_, rfl, rfl⟩
  have e2 : X.2.1 = L := by rw [hX1]
  have e3 : X.2.2.1 = P := by rw [hX1]
  have e4 : X.2.2.2 = S.1 1 29 := by rw [hX1]
  have hCR : CRt 6 W 4 m S (S.1 1 28) X.2.2.2 X.1 X.2.1 X.2.2.1 := by
    rw [hX2, e2, e3, e4]
    exact ⟨r1, r2, r3, r4, r5, r6.trans hwp, r7, fun s hs => rs s (by omega), rL, rP⟩
  have hWK : WOK k X.1 := fun e he => by
    rw [hX2]
    obtain ⟨_, a2, a3, _, a5, _, a7, _⟩ := hWa e (by omega)
    exact ⟨a2, a3, a5, fun z => (a7 z).1⟩
  have hKX : TrafOK (X.1 4) (X.1 6) (m : Int) (S.1 1 28) X.2.2.2 (X.1 31) (X.1 32) (X.1 33) (X.1 34) (X.1 35) (X.1 36) (X.1 37) X.2.1 X.2.2.1 (n + 1) := by
    rw [hX2, e2, e3, e4]
    exact K
  have hWoX : WayOK (X.1 4) (X.1 6) (X.1 7) (X.1 10) := by rw [hX2]; exact hWo
  have hFX : InvF (S.1 4) (S.2 4) (X.1 4 0) (X.1 24) (X.1 25) (X.1 26) (many : Int) := by rw [hX2]; exact hF0
  obtain ⟨HX, CX⟩ := DrOK_of hWoX hFX
  have h8 := lp_tick8 (S := S) (X := X) (W := W) (many := many) (k := k) (m := m) (n := n + 1) (now0 := S.1 1 28) (q := q) hw1 hWoX (by rw [hX2]; exact hWR) hFX hKX (by omega) (by omega) (by omega) (by rw [hX2]; exact hk) hWK hCR (by rw [hX2]; exact hWa)
  have hend := tkI_ok (k := k) (many := many) hWoX HX hKX (q := q) (by omega) hWK (tkE k many (S.1 1 28) X q) (Nat.le_refl _)
  unfold Pair F_X11_tick
  refine zp_neg (by omega) (zp_neg (by omega) (zp_mono h8 fun v hv => ?_))
  obtain ⟨v0, v1, v2, v3, v4⟩ := hv
  have t1 := v1 1 (by decide)
  have t2 := v2 1 (by decide) (by decide)
  refine ⟨by rw [v2 0 (by decide) (by decide)], ?_⟩
  unfold F_X12_tick
  refine zp_lt.mpr ?_
  (try dsimp only)
  refine zp_bind.mpr (zp_wi.mpr ⟨fun _ => ?_, fun z => absurd (by omega) z⟩)
  refine zp_neg (by decide) ?_
  have h12 := lp_tick12 (S := (zup v.2.1 1 0 0, v.2.2)) (X := X) (many := many) (k := k) (m := m) (n := n + 1) (now0 := S.1 1 28) (q := q) (by dsimp only; rw [zup_k (by decide), t1]; exact hm) (by dsimp only; rw [zup_k (by decide), t1]) (by dsimp only; rw [zup_k (by decide), t1]; exact e4.symm) (fun o _ => by dsimp only; rw [t2, hX2]) hWoX HX CX (by dsimp only; rw [zup_k (by decide), t1]; exact hmany) hKX (by omega) (by omega) (by omega) (by rw [hX2]; exact hk) hWK
  refine zp_mono h12 fun u hu => ?_
  obtain ⟨u0, u1, u2, u3, u4, u5, u6⟩ := hu
  dsimp only at u1 u2 u3
  refine ⟨u0.trans v0.symm, by rw [u2 0 (by decide), v2 0 (by decide) (by decide)], ?_⟩
  generalize tkI k many (S.1 1 28) X (tkE k many (S.1 1 28) X q) = Y at *
  obtain ⟨q1, q2, q3⟩ := hend
  have i1 : ∀ r, r ≠ 1 → r ≠ 6 → u.2.1 r = S.1 r := fun r h1 h6 => by rw [u1 r h1, zup_R h1, v1 r h6]
  have i2 : ∀ r, r ≠ 1 → r ≠ 6 → r ≠ 7 → u.2.2 r = S.2 r := fun r h1 h6 h7 => by rw [u2 r h1, v2 r h6 h7]
  have j1 : ∀ c, c ≠ 0 → c ≠ 28 → c ≠ 29 → u.2.1 1 c = S.1 1 c := fun c h0 h1 h2 => by rw [u3 c h1 h2, zup_k h0, t1]
  have j2 : ∀ o, o ≠ 46 → (o < 32 ∨ (36 < o ∧ o < 39) ∨ 43 < o) → u.2.2 1 o = S.2 1 o := fun o h1 h2 => by rw [u6 o h1, q3 o h2, hX2]
  have u61 : u.2.1 6 = v.2.1 6 := by rw [u1 6 (by decide), zup_R (by decide)]
  have u62 : u.2.2 6 = v.2.2 6 := u2 6 (by decide)
  have u72 : u.2.2 7 = v.2.2 7 := u2 7 (by decide)
  unfold Inv
  rw [i1 2 (by decide) (by decide), i1 3 (by decide) (by decide), i1 4 (by decide) (by decide), i1 10 (by decide) (by decide), i1 11 (by decide) (by decide), i1 12 (by decide) (by decide), i1 13 (by decide) (by decide), i1 14 (by decide) (by decide), i1 16 (by decide) (by decide), i1 17 (by decide) (by decide), i1 19 (by decide) (by decide), i1 20 (by decide) (by decide), u61, u62, u72]
  rw [i2 2 (by decide) (by decide) (by decide), i2 3 (by decide) (by decide) (by decide), i2 4 (by decide) (by decide) (by decide), i2 10 (by decide) (by decide) (by decide), i2 11 (by decide) (by decide) (by decide), i2 12 (by decide) (by decide) (by decide), i2 13 (by decide) (by decide) (by decide), i2 14 (by decide) (by decide) (by decide), i2 16 (by decide) (by decide) (by decide), i2 18 (by decide) (by decide) (by decide), i2 19 (by decide) (by decide) (by decide), i2 20 (by decide) (by decide) (by decide)]
  rw [j1 2 (by decide) (by decide) (by decide), j1 21 (by decide) (by decide) (by decide), j1 22 (by decide) (by decide) (by decide), j1 26 (by decide) (by decide) (by decide), j1 27 (by decide) (by decide) (by decide)]
  rw [j2 2 (by decide) (by omega), j2 4 (by decide) (by omega), j2 6 (by decide) (by omega), j2 7 (by decide) (by omega), j2 10 (by decide) (by omega), j2 24 (by decide) (by omega), j2 25 (by decide) (by omega), j2 26 (by decide) (by omega), j2 31 (by decide) (by omega), j2 37 (by decide) (by omega), j2 38 (by decide) (by omega), j2 44 (by decide) (by omega), j2 45 (by decide) (by omega), j2 55 (by decide) (by omega), j2 56 (by decide) (by omega), j2 67 (by decide) (by omega), j2 68 (by decide) (by omega), j2 69 (by decide) (by omega)]
  refine ⟨hT, hW, hF, ⟨⟨Y.2.1, Y.2.2.1, ?_, ?_⟩, ?_⟩, hO, hC, hJ, hI, hP, hK, hR, hM⟩
  · obtain ⟨c1, c2, c3, c4, c5, c6, c7, c8, c9, c10⟩ := v3
    refine ⟨by rw [c1, hm], by rw [c2, u4], by rw [c3, u5], c4, c5, by rw [c6, hwp], c7, fun s hs => ?_, c9, c10⟩
    have := c8 s (by omega)
    rw [u6 32 (by decide), u6 33 (by decide), u6 34 (by decide), u6 35 (by decide), u6 36 (by decide)]
    rw [q3 31 (by omega), q3 37 (by omega), hX2] at this
    exact this
  · rw [u4, u5, u6 32 (by decide), u6 33 (by decide), u6 34 (by decide), u6 35 (by decide), u6 36 (by decide), hm]
    rw [q3 31 (by omega), q3 37 (by omega), hX2] at q1
    exact q1
  · rw [u6 39 (by decide), u6 40 (by decide), u6 41 (by decide), u6 42 (by decide), u6 43 (by decide)]
    rw [hX2] at v4
    exact v4
end TICK
