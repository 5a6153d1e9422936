/-! text: both sides -/
section TEXTB
variable {S R : ZS} {q W nn : Nat} {x1 : Int}
theorem WayOK_cong {wy ro sp ey wy' ro' sp' ey' : Nat → Int} (h : WayOK wy ro sp ey) (h0 : ∀ k, k < 8 → wy' k = wy k) (h1 : ∀ r, r < 10 → ro' r = ro r ∧ sp' r = sp r) (h2 : ∀ e, e < 19 → ey' e = ey e) : WayOK wy' ro' sp' ey' := by
  obtain ⟨g1, g2, g3, g4, g5, g6, g7, g8, g9⟩ := h
  unfold WayOK
  rw [h0 0 (by omega), h0 1 (by omega), h0 2 (by omega), h0 3 (by omega), h0 4 (by omega), h0 5 (by omega), h0 6 (by omega), h0 7 (by omega)]
  refine ⟨g1, g2, g3, g4, g5, fun r hr => ?_, fun e he => ?_, fun r hr => ?_, fun e he => ?_, g9.2⟩
  · rw [(h1 r (by omega)).1, (h1 r (by omega)).2]; exact g6 r hr
  · rw [h2 e (by omega)]; exact g7 e he
  · rw [(h1 r (by omega)).1, (h1 (r + 1) (by omega)).1]; exact g8 r hr
  · rw [h2 e (by omega), h2 (e + 1) (by omega)]; exact g9.1 e he
theorem WayR_cong {Iw : Nat → Int} {Aw : Nat → Nat → Int} {wy ro sp ey wy' ro' sp' ey' : Nat → Int} (W : WayOK wy ro sp ey) (h : WayR Iw Aw wy ro sp ey) (h0 : ∀ k, k < 8 → wy' k = wy k) (h1 : ∀ r, r < 10 → ro' r = ro r ∧ sp' r = sp r) (h2 : ∀ e, e < 19 → ey' e = ey e) : WayR Iw Aw wy' ro' sp' ey' := by
  obtain ⟨g1, g2, g3, _⟩ := W
  obtain ⟨w0, w1, w2, w3, w4, w5, w6, w7, w8, w9⟩ := h
  unfold WayR
  rw [h0 0 (by omega), h0 1 (by omega), h0 2 (by omega), h0 3 (by omega), h0 4 (by omega), h0 5 (by omega), h0 6 (by omega), h0 7 (by omega)]
  refine ⟨w0, w1, w2, w3, w4, w5, w6, w7, fun r hr => ?_, fun e he => ?_⟩
  · rw [(h1 r (by omega)).1, (h1 r (by omega)).2]; exact w8 r hr
  · rw [h2 e (by omega)]; exact w9 e he
/-- the class's state behind the reset of the spare way -/
def SRes (S : ZS) (q : Nat) : ZS := (zup (zup (zup (zup (zup (zup (zup (zup (zup S.1 q 0 100) q 1 0) q 4 0) q 6 0) q 7 0) q 8 0) q 9 0) q 10 0) q 11 0, S.2)
theorem SRes_r {r : Nat} (h : r ≠ q) : (SRes S q).1 r = S.1 r := by
  unfold SRes
  dsimp only
  rw [zup_R h, zup_R h, zup_R h, zup_R h, zup_R h, zup_R h, zup_R h, zup_R h, zup_R h]
theorem SRes_q {k : Nat} : (SRes S q).1 q k = if k = 0 then 100 else if k = 1 ∨ k = 4 ∨ (6 ≤ k ∧ k ≤ 11) then 0 else S.1 q k := by
  unfold SRes
  simp only [zup_ap, true_and]
  (repeat' split) <;> first | rfl | (exfalso; omega)
/-- what is read, side by side -/
theorem text_lock (hq : q = 19 ∨ q = 20) (hT : InvT (S.1 3) (S.2 3) (S.1 1 2) (S.2 1 2) (S.1 1 21) (S.1 1 22)) (hn : (nn : Int) ≤ S.1 1 2) (h1 : R.1 1 = S.1 1) (h2 : R.2 1 = S.2 1) :
    ∃ (L' : Nat) (S2 R2 : ZS), F_X6_readWay q (nn : Int) (SRes S q) = some ((L' : Int), S2) ∧ (∀ u, F_X12_text_221 R2 = some u → F_X12_text (nn : Int) R = some u) ∧
      ((∀ r, r ≠ 3 → r ≠ q → S2.1 r = S.1 r) ∧ (∀ r, r ≠ 3 → r ≠ q → S2.2 r = S.2 r)) ∧
      ((∀ r, r ≠ 1 → R2.1 r = R.1 r) ∧ (∀ r, r ≠ 1 → R2.2 r = R.2 r) ∧ (∀ c, c = 13 ∨ 20 < c → c ≠ 13 → R2.1 1 c = R.1 1 c) ∧ R2.1 1 2 = 0 ∧ ∀ o, o ≠ 5 → o ≠ 8 → o ≠ 9 → o ≠ 11 → R2.2 1 o = R.2 1 o) ∧
      FlR S2 R2 ∧ Told S2 R2 q ∧ (R2.1 1 16 = 0 → 0 < R2.2 1 5 6) ∧ R2.1 1 18 = (L' : Int) := by
  obtain ⟨a1, a2, a3, a4, a5⟩ := hT
  have hq3 : q ≠ 3 := by omega
  have hq1 : (3 : Nat) ≠ q := by omega
  have hn4 : nn ≤ 400 := by omega
  obtain ⟨b, hb⟩ : ∃ b, S.2 1 2 = b := ⟨_, rfl⟩
  rw [hb] at a3
  -- the class's tokens
  obtain ⟨X, hX⟩ : ∃ X : ZS, X = (zup (zup (zup (SRes S q).1 3 9 (nn : Int)) 3 10 0) 3 7 0, (SRes S q).2) := ⟨_, rfl⟩
  have xI : ∀ r, r ≠ 3 → X.1 r = (SRes S q).1 r := fun r hr => by rw [hX]; dsimp only; rw [zup_R hr, zup_R hr, zup_R hr]
  have xA : X.2 = S.2 := by rw [hX]; rfl
  have hXC : CTape X b nn := by
    refine ⟨hn4, by rw [hX]; dsimp only; rw [zup_k (by decide), zup_k (by decide), zup_s], fun k hk => ?_⟩
    obtain ⟨c1, c2, c3⟩ := a3 k (by omega)
    rw [xA]
    exact ⟨⟨c1, c2⟩, c3⟩
  obtain ⟨V, hV, v1, v2, v3⟩ := lp_split hXC (by rw [hX]; dsimp only; rw [zup_s]) (by rw [hX]; dsimp only; rw [zup_k (by decide), zup_s])
  obtain ⟨f1, f2, f3, f4⟩ := v1
  obtain ⟨S0, hS0⟩ : ∃ S0 : ZS, S0 = (zup (zup (zup V.1 3 8 0) 3 2 0) 3 3 (-1), V.2) := ⟨_, rfl⟩
  have s0r : ∀ r, r ≠ 3 → S0.1 r = (SRes S q).1 r := fun r hr => by rw [hS0]; dsimp only; rw [zup_R hr, zup_R hr, zup_R hr, f1 r hr, xI r hr]
  have s0A : S0.2 = V.2 := by rw [hS0]
  have hrw : F_X6_readWay q (nn : Int) (SRes S q) = F_X6_readWay_29 q 0 S0 := by
    unfold F_X6_readWay F_X6_splitTokens
    have hsz : zmin (nn : Int) ((SRes S q).1 3 1) = (nn : Int) := by rw [SRes_r hq1, a1]; exact zmin_le hn
    rw [hsz]
    unfold zlt
    dsimp only
    rw [← hX, hV, Option.bind_some, ← hS0]
  -- the reference's start
  obtain ⟨R0, hR0⟩ : ∃ R0 : ZS, R0 = (zup (zup (zup (zup (zup (zup R.1 1 0 0) 1 13 (nn : Int)) 1 2 0) 1 12 0) 1 16 0) 1 18 0, R.2) := ⟨_, rfl⟩
  obtain ⟨R1, hR1, p1, p2, p3, p4⟩ := lp_begins (R := R0)
  have r0c : ∀ c, c ≠ 0 → c ≠ 13 → c ≠ 2 → c ≠ 12 → c ≠ 16 → c ≠ 18 → R0.1 1 c = R.1 1 c := fun c c1 c2 c3 c4 c5 c6 => by rw [hR0]; dsimp only; rw [zup_k c6, zup_k c5, zup_k c4, zup_k c3, zup_k c2, zup_k c1]
  have r0r : ∀ r, r ≠ 1 → R0.1 r = R.1 r := fun r hr => by rw [hR0]; dsimp only; rw [zup_R hr, zup_R hr, zup_R hr, zup_R hr, zup_R hr, zup_R hr]
  have r0A : R0.2 = R.2 := by rw [hR0]
  have r1c : ∀ c, c ≠ 19 → c ≠ 20 → R1.1 1 c = R0.1 1 c := fun c c1 c2 => by rw [p1, zup_k c2, zup_k c1]
  have r1r : ∀ r, r ≠ 1 → R1.1 r = R.1 r := fun r hr => by rw [p1, zup_R hr, zup_R hr, r0r r hr]
  have hRt : RTape R1 b nn := by
    refine ⟨hn4, by rw [r1c 13 (by decide) (by decide), hR0]; dsimp only; rw [zup_k (by decide), zup_k (by decide), zup_k (by decide), zup_k (by decide), zup_s], fun k hk => ?_⟩
    obtain ⟨c1, c2, _⟩ := a3 k (by omega)
    rw [p3 2 (by decide), r0A, h2, hb]
    exact ⟨⟨c1, c2⟩, rfl⟩
  obtain ⟨R3, hR3, hT3⟩ := lp_next12 (B := 0) hRt (by rw [r1c 12 (by decide) (by decide), hR0]; dsimp only; rw [zup_k (by decide), zup_k (by decide), zup_s]; rfl) (by omega)
  have hfr := RTok_fr hT3
  have r3c : ∀ c, c ≠ 11 → c ≠ 12 → c ≠ 14 → c ≠ 15 → R3.1 1 c = R1.1 1 c := hT3.2.2.1
  have w16 : R3.1 1 16 = 0 := by rw [r3c 16 (by decide) (by decide) (by decide) (by decide), r1c 16 (by decide) (by decide), hR0]; dsimp only; rw [zup_k (by decide), zup_s]
  have w18 : R3.1 1 18 = 0 := by rw [r3c 18 (by decide) (by decide) (by decide) (by decide), r1c 18 (by decide) (by decide), hR0]; dsimp only; rw [zup_s]
  have w19 : R3.1 1 19 = 0 := by rw [r3c 19 (by decide) (by decide) (by decide) (by decide), p1, zup_k (by decide), zup_s]
  have w20 : R3.1 1 20 = 0 := by rw [r3c 20 (by decide) (by decide) (by decide) (by decide), p1, zup_s]
  have w2 : R3.1 1 2 = 0 := by rw [r3c 2 (by decide) (by decide) (by decide) (by decide), r1c 2 (by decide) (by decide), hR0]; dsimp only; rw [zup_k (by decide), zup_k (by decide), zup_k (by decide), zup_s]
  have t5 : ∀ k, k < 8 → R3.2 1 5 k = if k = 0 then 100 else 0 := fun k hk => by rw [hfr.1, p4, zrg_ap, if_pos (by omega)]; rfl
  have hA : AtA S0 R3 b nn 0 := by
    refine ⟨⟨⟨by rw [hS0]; dsimp only; rw [zup_k (by decide), zup_k (by decide), zup_k (by decide)]; exact v2, by unfold TRow; rw [s0A]; exact v3⟩, RTape_fr hRt hfr, ⟨?_, fun z => absurd w16 z, by omega, fun _ => ?_⟩, 0, ?_, by omega⟩, fun _ => ⟨?_, by omega, hT3.2.2.2⟩⟩
    · rw [hS0, w16]; dsimp only; rw [zup_k (by decide), zup_s]
    · rw [hS0]; dsimp only; rw [zup_s]
    · rw [hS0]; dsimp only; rw [zup_k (by decide), zup_k (by decide), zup_s]; rfl
    · rw [hS0]; dsimp only; rw [zup_k (by decide), zup_k (by decide), zup_s]; rfl
  have hTd : Told S0 R3 q := by
    have e : ∀ k, S0.1 q k = (SRes S q).1 q k := fun k => by rw [s0r q hq3]
    refine ⟨fun _ => ⟨⟨?_, ?_, ?_, ?_, ?_, fun r hr => ?_, fun e he => ?_, fun r hr => ?_, fun e he => ?_, ?_⟩, ⟨?_, ?_, ?_, ?_, ?_, ?_, ?_, ?_, fun r hr => ?_, fun e he => ?_⟩, ?_, ?_, ?_⟩, ?_, ?_⟩
    · rw [t5 0 (by omega)]; decide
    · rw [t5 6 (by omega)]; decide
    · rw [t5 7 (by omega)]; decide
    · exact Or.inl (by rw [t5 1 (by omega)]; decide)
    · rw [t5 5 (by omega)]; decide
    · rw [t5 6 (by omega), if_neg (by decide)] at hr; omega
    · rw [t5 7 (by omega), if_neg (by decide)] at he; omega
    · rw [t5 6 (by omega), if_neg (by decide)] at hr; omega
    · rw [t5 7 (by omega), if_neg (by decide)] at he; omega
    · rw [t5 3 (by omega)]; decide
    · rw [e, SRes_q, t5 0 (by omega)]; rfl
    · rw [e, SRes_q, t5 6 (by omega)]; rfl
    · rw [e, SRes_q, t5 7 (by omega)]; rfl
    · rw [e, SRes_q, t5 1 (by omega)]; rfl
    · rw [e, SRes_q, t5 2 (by omega)]; rfl
    · rw [e, SRes_q, t5 3 (by omega)]; rfl
    · rw [e, SRes_q, t5 4 (by omega)]; rfl
    · rw [e, SRes_q, t5 5 (by omega)]; rfl
    · rw [t5 6 (by omega), if_neg (by decide)] at hr; omega
    · rw [t5 7 (by omega), if_neg (by decide)] at he; omega
    · rw [w19, t5 1 (by omega)]; rfl
    · rw [w20, e, SRes_q]; rfl
    · rw [e, SRes_q]; exact Or.inl rfl
    · rw [e, SRes_q]; simp
    · rw [e, SRes_q]; simp
  have hk0 := (hA.2 w16).2.2.2.2.1
  have hRR : RLg R3 R3 := ⟨fun _ _ => rfl, fun _ _ => rfl, fun _ _ => rfl, fun _ _ _ _ _ => rfl⟩
  have hins : F_X12_is 0 R3 = some (if tkd b nn (tat b nn 0) = 0 then 1 else 0) := lp_is (k := 0) w16 hk0
  have hstart : ∀ u, (F_X12_is 0 R3).bind (fun r39 => if r39 = 0 then F_X12_text_98 R3 else (F_X12_next R3).bind fun S41 => (F_X12_reads 40 300 S41).bind fun r42 => zlt (r42.2.1, zuA r42.2.2 1 5 (zset (r42.2.2 1 5) 0 r42.1)) fun S43 => (F_X12_needs 11 S43).bind fun S44 => zlt (zup S44.1 1 18 (zadd (S44.1 1 18) 1), S44.2) fun S45 => F_X12_text_98 S45) = some u → F_X12_text (nn : Int) R = some u := by
    intro u hu
    unfold F_X12_text
    unfold zlt at hu ⊢
    dsimp only
    have e2 : zup R.1 1 0 0 1 2 = S.1 1 2 := by rw [zup_k (by decide), h1]
    rw [e2, F12_within, if_pos ⟨by omega, hn⟩, Option.bind_some, if_neg (by decide), ← hR0, hR1, Option.bind_some, hR3, Option.bind_some]
    exact hu
  -- both sets of lines
  have hall : ∃ (L' : Nat) (S2 R2 : ZS), F_X6_readWay_29 q 0 S0 = some ((L' : Int), S2) ∧ (∀ u, F_X12_text_221 R2 = some u → F_X12_text (nn : Int) R = some u) ∧ EndQ S0 R3 q L' S2 R2 := by
    by_cases c : tkd b nn (tat b nn 0) = 0
    · obtain ⟨S', r, b1, b2, R', rfl, b3, b4, b5, b6, j', b7, b8⟩ := lp_wayL hq hA w16 c hTd (by rw [t5 6 (by omega)]; rfl) (by rw [t5 7 (by omega)]; rfl) (by rw [t5 1 (by omega)]; rfl) w18
      obtain ⟨L', S2, R2, e1, e2, e3⟩ := lp_lines (b := b) (n := nn) hq (tlast b nn + 1) S' R' j' 1 (by omega) b8 b5 b6 (by omega) (by omega) (fun z => by omega) (fun z => (b8.2 z).2.1)
      obtain ⟨k1, k2, k3⟩ := AtA_kind hA w16
      have c7 := hA.1.1.1
      refine ⟨L', S2, R2, ?_, fun u hu => hstart u ?_, SLf_t b3 e3.1, RLg_t b4 e3.2.1, e3.2.2⟩
      · unfold F_X6_readWay_29 at e1 ⊢
        rw [← e1]
        refine zw_inl ?_
        dsimp only
        have s02 : S0.1 3 2 = 0 := by rw [hA.1.2.2.1.1]; exact w16
        rw [if_pos (by omega), if_pos s02, if_pos ⟨k1, k2⟩, k3, c, if_neg (show ¬ (tck 0 : Int) = 0 by decide), if_pos rfl]
        have : F_X6_readLine q 1 S0 = some S' := by
          unfold F_X6_readLine
          rw [if_pos ⟨k1, k2⟩, k3, c, if_pos (show (tck 0 : Int) = 5 from rfl), if_neg (by decide)]
          exact b1
        rw [this, Option.bind_some]
        rfl
      · rw [hins, if_pos c, Option.bind_some, if_neg (by decide)]
        have h98 := e2 u hu
        unfold zlt at b2 ⊢
        dsimp only at b2 ⊢
        cases hx : F_X12_next R3 with
        | none => rw [hx] at b2; cases b2
        | some A1 =>
          rw [hx, Option.bind_some] at b2
          rw [Option.bind_some]
          cases hy : F_X12_reads 40 300 A1 with
          | none => rw [hy] at b2; cases b2
          | some A2 =>
            rw [hy, Option.bind_some] at b2
            rw [Option.bind_some]
            unfold F_X12_text_180 at b2
            (try dsimp only at b2)
            (try dsimp only)
            cases hz : F_X12_needs 11 (A2.2.1, zuA A2.2.2 1 5 (zset (A2.2.2 1 5) 0 A2.1)) with
            | none => rw [hz] at b2; cases b2
            | some A3 =>
              rw [hz, Option.bind_some] at b2
              rw [Option.bind_some]
              unfold zlt at b2
              have hb2 : (zup A3.1 1 18 (zadd (A3.1 1 18) 1), A3.2) = R' := by
                injection b2 with b2
                injection b2
              rw [hb2]
              exact h98
    · obtain ⟨L', S2, R2, e1, e2, e3⟩ := lp_lines (b := b) (n := nn) hq (tlast b nn + 1) S0 R3 0 0 (by omega) hA hTd w18 (by omega) (by omega) (fun _ _ => c) (fun _ => by omega)
      refine ⟨L', S2, R2, e1, fun u hu => hstart u ?_, e3⟩
      rw [hins, if_neg c, Option.bind_some, if_pos rfl]
      exact e2 u hu
  obtain ⟨L', S2, R2, e1, e2, e3, e4, e5, e6, e7, e8⟩ := hall
  refine ⟨L', S2, R2, hrw.trans e1, e2, ⟨fun r h3 hr => ?_, fun r h3 hr => ?_⟩, ⟨fun r hr => ?_, fun r hr => ?_, fun c hc h13 => ?_, ?_, fun o h1 h2 h3 h4 => ?_⟩, e5, e6, e7, e8⟩
  · rw [e3.1 r h3 hr, s0r r h3, SRes_r hr]
  · rw [e3.2.1 r hr, s0A, f2 r h3, xA]
  · rw [e4.1 r hr, hfr.2.1 r hr, r1r r hr]
  · rw [e4.2.1 r hr, hfr.1, p2 r hr, r0A]
  · rw [e4.2.2.1 c (by omega), hfr.2.2 c (by omega) (by omega) (by omega) (by omega) (by omega) (by omega), r1c c (by omega) (by omega), r0c c (by omega) (by omega) (by omega) (by omega) (by omega) (by omega)]
  · rw [e4.2.2.1 2 (by omega)]; exact w2
  · rw [e4.2.2.2 o h1 h2 h3 h4, hfr.1, p3 o h1, r0A]
end TEXTB
section PTEXT
theorem qne {q r : Nat} (h : q = 19 ∨ q = 20) (hr : r < 19) : r ≠ q := by omega
theorem zlo {k n : Nat} (h : k < n) : 0 ≤ k ∧ k < n := ⟨Nat.zero_le _, h⟩
theorem znn (k : Nat) : ¬ (k : Int) < 0 := by omega
theorem znow (n : Nat) : (0 : Int) ≤ 300 * ((n + 1 : Nat) : Int) := by omega
theorem zbg {o k : Nat} (h : 44 < o) (hk : k ≤ 44) : o ≠ k := by omega
theorem z19 {w : Int} {e : Nat} (h : w ≤ 19) (he : (e : Int) < w) : e < 19 := by omega
theorem text_good {n q W L' : Nat} {S S2 T R2 V : ZS} (hq1 : q = 19 ∨ q = 20) (hq19 : q = 19 → W = 20) (hq20 : q = 20 → W = 19) (e3 : ∀ r, r ≠ 3 → r ≠ q → S2.1 r = S.1 r) (e4 : ∀ r, r ≠ 3 → r ≠ q → S2.2 r = S.2 r)
    (hJ : JobR (S.1 11) (S.2 11) (S.2 1 55)) (hI : InvI (S.2 2) (S.1 12) (S.1 13) (S.2 12) (S.2 13) (S.2 1 55) (S.2 1 56)) (hP : InvP (S.1 14) (S.2 14) (S.2 1 55)) (hK : InvK (S.1 16) (S.2 16) (S.2 1 55)) (hR : InvR (S.1 17) (S.2 1 55)) (hM : InvM (S.2 18) (S.2 1 67) (S.2 1 68) (S.2 1 69))
    (hw : S2.1 3 2 = 0) (a1 : (∀ r, r ≠ 2 → r ≠ 3 → r ≠ 4 → r ≠ 6 → r ≠ 10 → T.1 r = S2.1 r)) (a2 : (∀ r, r ≠ 4 → r ≠ 7 → r ≠ 10 → T.2 r = S2.2 r)) (b3 : (∀ c, c ≠ 1 → T.1 3 c = S2.1 3 c)) (b31 : T.1 3 1 = 0) (b211 : T.1 2 11 = (q : Int)) (b212 : T.1 2 12 = (W : Int)) (b43 : T.1 4 3 = 0) (b6 : (∀ k, T.1 6 k = if k = 13 then 0 else if k = 4 then 0 else if k = 3 then -1 else if k = 2 then 0 else if k = 1 then 0 else if k = 16 then 4 else if k = 15 then (q : Int) else S2.1 6 k)) (b100 : T.1 10 0 = 0) (b1010 : T.1 10 10 = -1) (c41 : (∀ r, r < 10 → T.2 4 1 r = 0 ∧ T.2 4 2 r = 0)) (c7 : (∀ e, e < 19 → T.2 7 1 e = 0 ∧ T.2 7 2 e = 0 ∧ T.2 7 5 e = -1)) (c105 : (∀ e, e < 19 → T.2 10 5 e = 0))
    (y3 : ∀ r, r ≠ 1 → R2.1 r = T.1 r) (y4 : ∀ r, r ≠ 1 → R2.2 r = T.2 r) (y6 : R2.1 1 2 = 0) (y7 : ∀ o, o ≠ 5 → o ≠ 8 → o ≠ 9 → o ≠ 11 → R2.2 1 o = S.2 1 o) (w16 : R2.1 1 16 = 0) (y8 : FlR S2 R2) (y9 : Told S2 R2 q) (y11 : R2.1 1 18 = (L' : Int))
    (v1 : V.1 = zup (zup (zup (zup (zup (zup R2.1 1 21 0) 1 22 (-1)) 1 26 0) 1 27 0) 1 28 0) 1 29 (-1)) (v2 : ∀ r, r ≠ 1 → V.2 r = R2.2 r) (v3 : ∀ o, o ≠ 4 → o ≠ 6 → o ≠ 7 → o ≠ 24 → o ≠ 25 → o ≠ 10 → o ≠ 38 → o ≠ 39 → o ≠ 41 → V.2 1 o = R2.2 1 o)
    (v4 : V.2 1 4 = zrg 0 8 (R2.2 1 5) (R2.2 1 4)) (v5 : V.2 1 6 = zrg 0 10 (R2.2 1 8) (R2.2 1 6)) (v6 : V.2 1 7 = zrg 0 10 (R2.2 1 9) (R2.2 1 7)) (v7 : V.2 1 24 = zrg 0 10 (fun _ => 0) (R2.2 1 24)) (v8 : V.2 1 25 = zrg 0 10 (fun _ => 0) (R2.2 1 25))
    (v9 : V.2 1 10 = zrg 0 19 (R2.2 1 11) (R2.2 1 10)) (v10 : V.2 1 38 = zrg 0 19 (fun _ => 0) (R2.2 1 38)) (v11 : V.2 1 39 = zrg 0 19 (fun _ => 0) (R2.2 1 39)) (v12 : V.2 1 41 = zrg 0 19 (fun _ => 0) (R2.2 1 41)) :
    V.1 1 18 = (L' : Int) ∧ V.2 0 = S.2 0 ∧ Inv (n + 1) V := by
  have vI : ∀ c, c ≠ 21 → c ≠ 22 → c ≠ 26 → c ≠ 27 → c ≠ 28 → c ≠ 29 → V.1 1 c = R2.1 1 c := fun c h1 h2 h3 h4 h5 h6 => by rw [v1, zup_k h6, zup_k h5, zup_k h4, zup_k h3, zup_k h2, zup_k h1]
  have vR : ∀ r, r ≠ 1 → V.1 r = T.1 r := fun r hr => by rw [v1, zup_R hr, zup_R hr, zup_R hr, zup_R hr, zup_R hr, zup_R hr, y3 r hr]
  have vA : ∀ r, r ≠ 1 → V.2 r = T.2 r := fun r hr => by rw [v2 r hr]; exact y4 r hr
  obtain ⟨u1, u2, u3⟩ := y9
  obtain ⟨o1, o2, o3, o4, o5⟩ := u1 w16
  have hvo : ∀ o, o ≠ 4 → o ≠ 6 → o ≠ 7 → o ≠ 24 → o ≠ 25 → o ≠ 10 → o ≠ 38 → o ≠ 39 → o ≠ 41 → o ≠ 5 → o ≠ 8 → o ≠ 9 → o ≠ 11 → V.2 1 o = S.2 1 o := fun o h1 h2 h3 h4 h5 h6 h7 h8 h9 h10 h11 h12 h13 => by rw [v3 o h1 h2 h3 h4 h5 h6 h7 h8 h9]; exact y7 o h10 h11 h12 h13
  have z4 : ∀ k, k < 8 → V.2 1 4 k = R2.2 1 5 k := fun k hk => by rw [v4, zrg_ap, if_pos (zlo hk)]; rfl
  have z67 : ∀ r, r < 10 → V.2 1 6 r = R2.2 1 8 r ∧ V.2 1 7 r = R2.2 1 9 r := fun r hr => by rw [v5, v6, zrg_ap, zrg_ap, if_pos (zlo hr), if_pos (zlo hr)]; exact ⟨rfl, rfl⟩
  have z10 : ∀ e, e < 19 → V.2 1 10 e = R2.2 1 11 e := fun e he => by rw [v9, zrg_ap, if_pos (zlo he)]; rfl
  have hWn : WayOK (V.2 1 4) (V.2 1 6) (V.2 1 7) (V.2 1 10) := WayOK_cong o1 z4 z67 z10
  have hRn : WayR (V.1 q) (V.2 q) (V.2 1 4) (V.2 1 6) (V.2 1 7) (V.2 1 10) := by
    rw [vR q (qne hq1 (by decide)).symm, vA q (qne hq1 (by decide)).symm, a1 q (qne hq1 (by decide)).symm (qne hq1 (by decide)).symm (qne hq1 (by decide)).symm (qne hq1 (by decide)).symm (qne hq1 (by decide)).symm, a2 q (qne hq1 (by decide)).symm (qne hq1 (by decide)).symm (qne hq1 (by decide)).symm]
    exact WayR_cong o1 o2 z4 z67 z10
  refine ⟨by rw [vI 18 (by decide) (by decide) (by decide) (by decide) (by decide) (by decide)]; exact y11, by rw [vA 0 (by decide), a2 0 (by decide) (by decide) (by decide), e4 0 (by decide) (qne hq1 (by decide))], ?_, ⟨hWn, ?_⟩, ?_, ⟨⟨[], [], ?_, ?_⟩, ?_⟩, ?_, Or.inl ?_, ?_⟩
  · refine ⟨?_, ?_, fun k hk => ?_, ?_, ?_⟩
    · rw [vR 3 (by decide), b31, vI 2 (by decide) (by decide) (by decide) (by decide) (by decide) (by decide), y6]
    · rw [vI 2 (by decide) (by decide) (by decide) (by decide) (by decide) (by decide), y6]; decide
    · rw [vI 2 (by decide) (by decide) (by decide) (by decide) (by decide) (by decide), y6] at hk; exact absurd hk (znn k)
    · rw [vR 3 (by decide), b3 2 (by decide), hw, v1, zup_k (by decide), zup_k (by decide), zup_k (by decide), zup_k (by decide)]
      rw [zup_k (by decide), zup_s]
    · rw [vR 3 (by decide), b3 3 (by decide), y8.2.2.2 w16, v1, zup_k (by decide), zup_k (by decide), zup_k (by decide), zup_k (by decide)]
      rw [zup_s]
  · rw [vR 2 (by decide), b211, b212]
    rcases hq1 with z | z
    · refine Or.inl ⟨by rw [z]; rfl, by rw [hq19 z]; rfl, ?_⟩
      rw [z] at hRn
      exact hRn
    · refine Or.inr ⟨by rw [z]; rfl, by rw [hq20 z]; rfl, ?_⟩
      rw [z] at hRn
      exact hRn
  · refine ⟨fun r hr => ?_, ?_, ?_, fun c hc => ?_⟩
    · obtain ⟨d1, d2⟩ := c41 r hr
      rw [vA 4 (by decide), d1, d2, v7, v8, zrg_ap, zrg_ap, if_pos (zlo hr), if_pos (zlo hr)]
      exact ⟨rfl, by decide, rfl, Or.inl rfl⟩
    · rw [vR 4 (by decide), b43, v1, zup_k (by decide), zup_k (by decide), zup_k (by decide), zup_s]
    · rw [v1, zup_k (by decide), zup_k (by decide), zup_k (by decide), zup_s]; decide
    · rw [v1, zup_k (by decide), zup_k (by decide), zup_k (by decide), zup_s] at hc; exact absurd hc (znn c)
  · have hq0 : V.1 2 11 = (q : Int) := by rw [vR 2 (by decide)]; exact b211
    have s27 : V.1 1 27 = 0 := by rw [v1, zup_k (by decide), zup_k (by decide), zup_s]
    refine ⟨?_, ?_, ?_, ?_, ?_, ?_, ?_, fun s hs => by rw [s27] at hs; exact absurd hs (znn s), fun i h => absurd h (by simp), fun i h => absurd h (by simp)⟩
    · rw [vR 6 (by decide), b6, s27]; rfl
    · rw [vR 6 (by decide), b6, v1, zup_k (by decide), zup_s]; rfl
    · rw [vR 6 (by decide), b6, v1, zup_s]; rfl
    · rw [vR 6 (by decide), b6]; rfl
    · rw [vR 6 (by decide), b6]; rfl
    · rw [vR 6 (by decide), b6, hq0]; rfl
    · rw [vR 6 (by decide), b6]; rfl
  · have s27 : V.1 1 27 = 0 := by rw [v1, zup_k (by decide), zup_k (by decide), zup_s]
    have s28 : V.1 1 28 = 0 := by rw [v1, zup_k (by decide), zup_s]
    have s29 : V.1 1 29 = -1 := by rw [v1, zup_s]
    rw [s27, s28, s29]
    have hmn : ∀ s : Nat, ¬ (s : Int) < 0 := znn
    refine ⟨by decide, ⟨by decide, znow n⟩, Or.inl rfl, fun s hs => absurd hs (hmn s), fun s => ⟨fun z => (nomatch z), fun z => absurd z.1 (hmn s)⟩, List.Pairwise.nil, fun s => ⟨fun z => (nomatch z), fun z => absurd z.1 (hmn s)⟩, List.Pairwise.nil, ?_, fun z => absurd z (by decide), fun s hs => absurd hs (hmn s), fun s hs => absurd hs (hmn s)⟩
    have h3w := hWn.2.2.2.2.2.2.2.2.2
    exact h3w
  · intro e he
    have he19 : e < 19 := z19 hWn.2.2.1.2 he
    obtain ⟨d1, d2, d3⟩ := c7 e he19
    rw [vA 7 (by decide), d1, d2, d3, v11, v12, zrg_ap, zrg_ap, if_pos (zlo he19), if_pos (zlo he19)]
    exact ⟨rfl, Or.inl rfl, fun z => absurd z (by decide), rfl, by decide, fun i hi => absurd hi (znn i), fun z => absurd z.1 (by decide), fun _ => rfl⟩
  · refine O_none ?_ (fun j hj => ?_) (fun j hj => ?_)
    · rw [vR 10 (by decide)]; exact b100
    · rw [vA 10 (by decide)]; exact c105 j hj
    · rw [v10, zrg_ap, if_pos (zlo hj)]
  · rw [vR 10 (by decide)]; exact b1010
  · have i1 : ∀ r, r ≠ 1 → r ≠ 2 → r ≠ 3 → r ≠ 4 → r ≠ 6 → r ≠ 10 → r ≠ q → V.1 r = S.1 r := fun r h1 h2 h3 h4 h6 h10 hr => by rw [vR r h1, a1 r h2 h3 h4 h6 h10, e3 r h3 hr]
    have i2 : ∀ r, r ≠ 1 → r ≠ 3 → r ≠ 4 → r ≠ 7 → r ≠ 10 → r ≠ q → V.2 r = S.2 r := fun r h1 h3 h4 h7 h10 hr => by rw [vA r h1, a2 r h4 h7 h10, e4 r h3 hr]
    have j2 : ∀ o, 44 < o → V.2 1 o = S.2 1 o := fun o ho => hvo o (zbg ho (by decide)) (zbg ho (by decide)) (zbg ho (by decide)) (zbg ho (by decide)) (zbg ho (by decide)) (zbg ho (by decide)) (zbg ho (by decide)) (zbg ho (by decide)) (zbg ho (by decide)) (zbg ho (by decide)) (zbg ho (by decide)) (zbg ho (by decide)) (zbg ho (by decide))
    rw [i1 11 (by decide) (by decide) (by decide) (by decide) (by decide) (by decide) (qne hq1 (by decide)), i1 12 (by decide) (by decide) (by decide) (by decide) (by decide) (by decide) (qne hq1 (by decide)), i1 13 (by decide) (by decide) (by decide) (by decide) (by decide) (by decide) (qne hq1 (by decide)), i1 14 (by decide) (by decide) (by decide) (by decide) (by decide) (by decide) (qne hq1 (by decide)), i1 16 (by decide) (by decide) (by decide) (by decide) (by decide) (by decide) (qne hq1 (by decide)), i1 17 (by decide) (by decide) (by decide) (by decide) (by decide) (by decide) (qne hq1 (by decide))]
    rw [i2 2 (by decide) (by decide) (by decide) (by decide) (by decide) (qne hq1 (by decide)), i2 11 (by decide) (by decide) (by decide) (by decide) (by decide) (qne hq1 (by decide)), i2 12 (by decide) (by decide) (by decide) (by decide) (by decide) (qne hq1 (by decide)), i2 13 (by decide) (by decide) (by decide) (by decide) (by decide) (qne hq1 (by decide)), i2 14 (by decide) (by decide) (by decide) (by decide) (by decide) (qne hq1 (by decide)), i2 16 (by decide) (by decide) (by decide) (by decide) (by decide) (qne hq1 (by decide)), i2 18 (by decide) (by decide) (by decide) (by decide) (by decide) (qne hq1 (by decide))]
    rw [j2 55 (by decide), j2 56 (by decide), j2 67 (by decide), j2 68 (by decide), j2 69 (by decide)]
    exact ⟨hJ, hI, hP, hK, hR, hM⟩
variable {n : Nat} {S : ZS} {x1 : Int}
theorem pair_text (h : Inv n S) : Pair n S (F_X11_text x1) (F_X12_text x1) := by
  obtain ⟨hT, hW, hF, hX, hO, hC, hJ, hI, hP, hK, hR, hM⟩ := h
  have hX := InvX_up hX
  obtain ⟨hWo, hWd⟩ := id hW
  obtain ⟨⟨g1, g2⟩, ⟨g3, g4⟩, ⟨g5, g6⟩, g7, g8, g9, g10, g11, g12⟩ := id hWo
  obtain ⟨W, hw1, hw2, hWR⟩ : ∃ W : Nat, (W = 19 ∨ W = 20) ∧ (S.1 2 11).toNat = W ∧ WayR (S.1 W) (S.2 W) (S.2 1 4) (S.2 1 6) (S.2 1 7) (S.2 1 10) := by
    rcases hWd with ⟨q1, q2, q3⟩ | ⟨q1, q2, q3⟩
    · exact ⟨19, Or.inl rfl, by rw [q1]; rfl, q3⟩
    · exact ⟨20, Or.inr rfl, by rw [q1]; rfl, q3⟩
  obtain ⟨w0, w1, w2, w3, w4, w5, w6, w7, w8, w9⟩ := id hWR
  obtain ⟨q, hq1, hq2, hqW, hqI, hWI⟩ : ∃ q : Nat, (q = 19 ∨ q = 20) ∧ (S.1 2 12).toNat = q ∧ q ≠ W ∧ S.1 2 12 = (q : Int) ∧ S.1 2 11 = (W : Int) := by
    rcases hWd with ⟨q1, q2, q3⟩ | ⟨q1, q2, q3⟩
    · exact ⟨20, Or.inr rfl, by rw [q2]; rfl, by rw [q1] at hw2; rw [← hw2]; decide, q2, by rw [q1] at hw2 ⊢; rw [← hw2]; rfl⟩
    · exact ⟨19, Or.inl rfl, by rw [q2]; rfl, by rw [q1] at hw2; rw [← hw2]; decide, q2, by rw [q1] at hw2 ⊢; rw [← hw2]; rfl⟩
  obtain ⟨ht1, ht2, ht3, ht4, ht5⟩ := id hT
  by_cases c0 : 0 ≤ x1 ∧ x1 ≤ S.1 1 2
  rotate_left 1
  · have ref : ∀ T : ZS, T.1 1 = S.1 1 → F_X12_text x1 T = some (-2, (zup T.1 1 0 0, T.2)) := by
      intro T t1
      unfold F_X12_text zlt
      dsimp only
      have e2 : zup T.1 1 0 0 1 2 = S.1 1 2 := by rw [zup_k (by decide), t1]
      rw [e2, F12_within, if_neg c0, Option.bind_some, if_pos rfl]
    unfold Pair F_X11_text
    by_cases c1 : x1 < 0
    · refine zp_pos c1 (zp_some.mpr ⟨rfl, ?_⟩)
      rw [zp_eq (ref _ rfl)]
      exact ⟨rfl, rfl, hT, hW, hF, hX, hO, hC, hJ, hI, hP, hK, hR, hM⟩
    · refine zp_neg c1 (zp_pos (by omega) (zp_some.mpr ⟨rfl, ?_⟩))
      rw [zp_eq (ref _ rfl)]
      exact ⟨rfl, rfl, hT, hW, hF, hX, hO, hC, hJ, hI, hP, hK, hR, hM⟩
  obtain ⟨nn, rfl⟩ : ∃ nn : Nat, x1 = (nn : Int) := ⟨_, (Int.toNat_of_nonneg c0.1).symm⟩
  obtain ⟨L', S2, _, e1, _, ⟨e3, e4⟩, _, e6, e7, e8, _⟩ := text_lock (R := S) hq1 hT c0.2 rfl rfl
  have hq1a : q = 19 → W = 20 := by omega
  have hq1b : q = 20 → W = 19 := by omega
  have hq3 : q ≠ 3 := by omega
  have hW3 : W ≠ 3 := by omega
  have res : (SRes S q).1 2 12 = (q : Int) := by rw [SRes_r (by omega)]; exact hqI
  have hlock : ∀ T : ZS, T.1 1 = S.1 1 → T.2 1 = S.2 1 → ∃ R2, (∀ u, F_X12_text_221 R2 = some u → F_X12_text (nn : Int) T = some u) ∧
      ((∀ r, r ≠ 1 → R2.1 r = T.1 r) ∧ (∀ r, r ≠ 1 → R2.2 r = T.2 r) ∧ (∀ c, 20 < c → R2.1 1 c = S.1 1 c) ∧ R2.1 1 2 = 0 ∧ ∀ o, o ≠ 5 → o ≠ 8 → o ≠ 9 → o ≠ 11 → R2.2 1 o = S.2 1 o) ∧
      FlR S2 R2 ∧ Told S2 R2 q ∧ (R2.1 1 16 = 0 → 0 < R2.2 1 5 6) ∧ R2.1 1 18 = (L' : Int) := by
    intro T t1 t2
    obtain ⟨L'', S2', R2, y1, y2, _, ⟨y3, y4, y5, y6, y7⟩, y8, y9, y10, y11⟩ := text_lock (R := T) hq1 hT c0.2 t1 t2
    rw [e1] at y1
    injection y1 with y1
    have hL : (L' : Int) = (L'' : Int) := congrArg Prod.fst y1
    have hS : S2 = S2' := congrArg Prod.snd y1
    rw [← hS] at y8 y9
    exact ⟨R2, y2, ⟨y3, y4, fun c hc => by rw [y5 c (Or.inr hc) (by omega), t1], y6, fun o h1 h2 h3 h4 => by rw [y7 o h1 h2 h3 h4, t2]⟩, y8, y9, y10, by rw [y11, hL]⟩
  have s211 : S2.1 2 11 = (W : Int) := by rw [e3 2 (by decide) (by omega)]; exact hWI
  have s212 : S2.1 2 12 = (q : Int) := by rw [e3 2 (by decide) (by omega)]; exact hqI
  unfold Pair F_X11_text
  refine zp_neg (by omega) (zp_neg (by rw [ht1]; omega) ?_)
  rw [hq2]
  refine zp_pos hq1 (zp_bind.mpr ?_)
  rw [zp_eq lp_resetW]
  change zp (if ((SRes S q).1 2 12).toNat = 19 ∨ ((SRes S q).1 2 12).toNat = 20 then (F_X6_readWay (((SRes S q).1 2 12).toNat) (nn : Int) (SRes S q)).bind _ else none) _
  rw [res, Int.toNat_natCast]
  refine zp_pos hq1 (zp_bind.mpr ?_)
  rw [zp_eq e1]
  refine zp_lt.mpr ?_
  have k32 : zup S2.1 3 1 0 3 2 = S2.1 3 2 := zup_k (by decide)
  have k11 : zup S2.1 3 1 0 2 11 = (W : Int) := by rw [zup_r (by decide)]; exact s211
  have k12 : zup S2.1 3 1 0 2 12 = (q : Int) := by rw [zup_r (by decide)]; exact s212
  dsimp only
  simp only [k32, k11, k12, Int.toNat_natCast]
  by_cases hw : S2.1 3 2 = 0
  · refine zp_pos hw (zp_pos hw1 (zp_pos hq1 (zp_lt.mpr (zp_lt.mpr (zp_bind.mpr ?_)))))
    rw [zp_eq lp_reset1]
    dsimp only
    have k211 : zup (zup (zup (zup S2.1 3 1 0) 2 11 (q : Int)) 2 12 (W : Int)) 4 3 0 2 11 = (q : Int) := by rw [zup_r (by decide), zup_k (by decide), zup_s]
    simp only [k211, Int.toNat_natCast]
    refine zp_pos hq1 (zp_bind.mpr ?_)
    rw [zp_eq lp_start8, zp_bind, zp_eq lp_drop]
    dsimp only
    have key : ∀ T : ZS, (∀ r, r ≠ 2 → r ≠ 3 → r ≠ 4 → r ≠ 6 → r ≠ 10 → T.1 r = S2.1 r) → (∀ r, r ≠ 4 → r ≠ 7 → r ≠ 10 → T.2 r = S2.2 r) → (∀ c, c ≠ 1 → T.1 3 c = S2.1 3 c) → T.1 3 1 = 0 → T.1 2 11 = (q : Int) → T.1 2 12 = (W : Int) → T.1 4 3 = 0 →
        (∀ k, T.1 6 k = if k = 13 then 0 else if k = 4 then 0 else if k = 3 then -1 else if k = 2 then 0 else if k = 1 then 0 else if k = 16 then 4 else if k = 15 then (q : Int) else S2.1 6 k) → T.1 10 0 = 0 → T.1 10 10 = -1 → (∀ r, r < 10 → T.2 4 1 r = 0 ∧ T.2 4 2 r = 0) → (∀ e, e < 19 → T.2 7 1 e = 0 ∧ T.2 7 2 e = 0 ∧ T.2 7 5 e = -1) → (∀ e, e < 19 → T.2 10 5 e = 0) →
        (T.2 0 = S.2 0 ∧ zp (F_X12_text (nn : Int) T) (fun u => u.1 = (L' : Int) ∧ u.2.2 0 = S.2 0 ∧ Inv (n + 1) u.2)) := by
      intro T a1 a2 b3 b31 b211 b212 b43 b6 b100 b1010 c41 c7 c105
      have t1 : T.1 1 = S.1 1 := by rw [a1 1 (by decide) (by decide) (by decide) (by decide) (by decide), e3 1 (by decide) (qne hq1 (by decide))]
      have t2 : T.2 1 = S.2 1 := by rw [a2 1 (by decide) (by decide) (by decide), e4 1 (by decide) (qne hq1 (by decide))]
      obtain ⟨R2, y2, ⟨y3, y4, y5, y6, y7⟩, y8, y9, y10, y11⟩ := hlock T t1 t2
      have w16 : R2.1 1 16 = 0 := by rw [← y8.1]; exact hw
      obtain ⟨V, hV, v1, v2, v3, ⟨v4, v5, v6, v7, v8⟩, v9, v10, v11, v12⟩ := lp_becomes (R := (zup (zup R2.1 1 21 0) 1 22 (-1), R2.2))
      have h221 : F_X12_text_221 R2 = some (V.1 1 18, V) := by
        unfold F_X12_text_221 zlt
        dsimp only
        simp only [w16, zup_k (show (16 : Nat) ≠ 21 by decide), zup_k (show (16 : Nat) ≠ 22 by decide), if_true, hV, Option.bind_some]
      refine ⟨by rw [a2 0 (by decide) (by decide) (by decide), e4 0 (by decide) (qne hq1 (by decide))], ?_⟩
      rw [zp_eq (y2 _ h221)]
      exact text_good hq1 (fun z => hq1a z) (fun z => hq1b z) (fun r a b => e3 r a b) (fun r a b => e4 r a b) hJ hI hP hK hR hM hw a1 a2 b3 b31 b211 b212 b43 b6 b100 b1010 c41 c7 c105 y3 y4 y6 y7 w16 y8 y9 y11 v1 v2 v3 v4 v5 v6 v7 v8 v9 v10 v11 v12
    refine zp_some.mpr (key _ (fun r h2 h3 h4 h6 h10 => ?_) (fun r h4 h7 h10 => ?_) (fun c hc => ?_) ?_ ?_ ?_ ?_ (fun k => ?_) ?_ ?_ (fun r hr => ?_) (fun e he => ?_) (fun e he => ?_))
    · dsimp only
      rw [zup_R h10, zup_R h10, zup_R h6, zup_R h6, zup_R h6, zup_R h6, zup_R h6, zup_R h6, zup_R h6, zup_R h4, zup_R h2, zup_R h2, zup_R h3]
    · dsimp only
      rw [zuA_R h10, zuA_R h7, zuA_R h7, zuA_R h7, zuA_R h4, zuA_R h4]
    · dsimp only
      rw [zup_r (by decide), zup_r (by decide), zup_r (by decide), zup_r (by decide), zup_r (by decide), zup_r (by decide), zup_r (by decide), zup_r (by decide), zup_r (by decide), zup_r (by decide), zup_r (by decide), zup_r (by decide), zup_k hc]
    · dsimp only
      rw [zup_r (by decide), zup_r (by decide), zup_r (by decide), zup_r (by decide), zup_r (by decide), zup_r (by decide), zup_r (by decide), zup_r (by decide), zup_r (by decide), zup_r (by decide), zup_r (by decide), zup_r (by decide), zup_s]
    · dsimp only
      rw [zup_r (by decide), zup_r (by decide), zup_r (by decide), zup_r (by decide), zup_r (by decide), zup_r (by decide), zup_r (by decide), zup_r (by decide), zup_r (by decide), zup_r (by decide), zup_k (by decide), zup_s]
    · dsimp only
      rw [zup_r (by decide), zup_r (by decide), zup_r (by decide), zup_r (by decide), zup_r (by decide), zup_r (by decide), zup_r (by decide), zup_r (by decide), zup_r (by decide), zup_r (by decide), zup_s]
    · dsimp only
      rw [zup_r (by decide), zup_r (by decide), zup_r (by decide), zup_r (by decide), zup_r (by decide), zup_r (by decide), zup_r (by decide), zup_r (by decide), zup_r (by decide), zup_s]
    · dsimp only
      rw [zup_r (by decide), zup_r (by decide)]
      simp only [zup_ap, true_and, Nat.reduceEqDiff, false_and, if_false]
      rfl
    · dsimp only; rw [zup_k (by decide), zup_s]
    · dsimp only; rw [zup_s]
    · dsimp only
      rw [zuA_R (by decide), zuA_R (by decide), zuA_R (by decide), zuA_R (by decide), zuA_o (by decide), zuA_s, zuA_s, zfl_ap, zfl_ap, if_pos hr, if_pos hr]
      exact ⟨rfl, rfl⟩
    · dsimp only
      rw [zuA_R (by decide)]
      refine ⟨?_, ?_, ?_⟩
      · rw [zuA_o (by decide), zuA_s, zrg_ap, if_pos (zlo he)]
      · rw [zuA_o (by decide), zuA_o (by decide), zuA_s, zfl_ap, if_pos he]
      · rw [zuA_s, zrg_ap, if_pos (zlo he)]
    · dsimp only
      rw [zuA_s, zrg_ap, if_pos (zlo he)]
  · refine zp_neg hw (zp_some.mpr ⟨?_, ?_⟩)
    · dsimp only; rw [e4 0 (by decide) (qne hq1 (by decide))]
    · obtain ⟨R2, y2, ⟨y3, y4, y5, y6, y7⟩, y8, y9, y10, y11⟩ := hlock (zup S2.1 3 1 0, S2.2) (by dsimp only; rw [zup_R (by decide), e3 1 (by decide) (qne hq1 (by decide))]) (by dsimp only; rw [e4 1 (by decide) (qne hq1 (by decide))])
      have w16 : R2.1 1 16 ≠ 0 := by rw [← y8.1]; exact hw
      have h221 : F_X12_text_221 R2 = some (zsub (-10) (R2.1 1 16), (zup (zup R2.1 1 21 (R2.1 1 16)) 1 22 (R2.1 1 17), R2.2)) := by
        unfold F_X12_text_221 zlt
        dsimp only
        simp only [zup_k (show (16 : Nat) ≠ 21 by decide), zup_k (show (16 : Nat) ≠ 22 by decide), zup_k (show (17 : Nat) ≠ 21 by decide), if_neg w16]
      rw [zp_eq (y2 _ h221)]
      refine ⟨by rw [y8.1], by dsimp only; rw [y4 0 (by decide)]; dsimp only; rw [e4 0 (by decide) (qne hq1 (by decide))], ?_⟩
      have i1 : ∀ r, r ≠ 1 → r ≠ 3 → r ≠ q → (zup (zup R2.1 1 21 (R2.1 1 16)) 1 22 (R2.1 1 17)) r = S.1 r := fun r h1 h3 hr => by rw [zup_R h1, zup_R h1, y3 r h1]; dsimp only; rw [zup_R h3, e3 r h3 hr]
      have i2 : ∀ r, r ≠ 1 → r ≠ 3 → r ≠ q → R2.2 r = S.2 r := fun r h1 h3 hr => by rw [y4 r h1]; dsimp only; rw [e4 r h3 hr]
      have j1 : ∀ c, 22 < c → (zup (zup R2.1 1 21 (R2.1 1 16)) 1 22 (R2.1 1 17)) 1 c = S.1 1 c := fun c hc => by rw [zup_k (by omega), zup_k (by omega), y5 c (by omega)]
      have i3 : (zup (zup R2.1 1 21 (R2.1 1 16)) 1 22 (R2.1 1 17)) 3 = (zup S2.1 3 1 0) 3 := by rw [zup_R (by decide), zup_R (by decide), y3 3 (by decide)]
      unfold Inv
      dsimp only
      have hWnew : InvW (S.1 2) ((zup (zup R2.1 1 21 (R2.1 1 16)) 1 22 (R2.1 1 17)) 19) ((zup (zup R2.1 1 21 (R2.1 1 16)) 1 22 (R2.1 1 17)) 20) (R2.2 19) (R2.2 20) (S.2 1 4) (S.2 1 6) (S.2 1 7) (S.2 1 10) := by
        refine ⟨hWo, ?_⟩
        rcases hWd with ⟨q1, q2, q3⟩ | ⟨q1, q2, q3⟩
        · refine Or.inl ⟨q1, q2, ?_⟩
          rw [i1 19 (by decide) (by decide) (by omega), i2 19 (by decide) (by decide) (by omega)]
          exact q3
        · refine Or.inr ⟨q1, q2, ?_⟩
          rw [i1 20 (by decide) (by decide) (by omega), i2 20 (by decide) (by decide) (by omega)]
          exact q3
      rw [i1 2 (by decide) (by decide) (qne hq1 (by decide))]
      rw [i1 4 (by decide) (by decide) (qne hq1 (by decide)), i1 6 (by decide) (by decide) (qne hq1 (by decide)), i1 10 (by decide) (by decide) (qne hq1 (by decide)), i1 11 (by decide) (by decide) (qne hq1 (by decide)), i1 12 (by decide) (by decide) (qne hq1 (by decide)), i1 13 (by decide) (by decide) (qne hq1 (by decide)), i1 14 (by decide) (by decide) (qne hq1 (by decide)), i1 16 (by decide) (by decide) (qne hq1 (by decide)), i1 17 (by decide) (by decide) (qne hq1 (by decide))]
      rw [i2 2 (by decide) (by decide) (qne hq1 (by decide)), i2 4 (by decide) (by decide) (qne hq1 (by decide)), i2 6 (by decide) (by decide) (qne hq1 (by decide)), i2 7 (by decide) (by decide) (qne hq1 (by decide)), i2 10 (by decide) (by decide) (qne hq1 (by decide)), i2 11 (by decide) (by decide) (qne hq1 (by decide)), i2 12 (by decide) (by decide) (qne hq1 (by decide)), i2 13 (by decide) (by decide) (qne hq1 (by decide)), i2 14 (by decide) (by decide) (qne hq1 (by decide)), i2 16 (by decide) (by decide) (qne hq1 (by decide)), i2 18 (by decide) (by decide) (qne hq1 (by decide))]
      rw [j1 26 (by decide), j1 27 (by decide), j1 28 (by decide), j1 29 (by decide)]
      rw [y7 2 (by decide) (by decide) (by decide) (by decide), y7 4 (by decide) (by decide) (by decide) (by decide), y7 6 (by decide) (by decide) (by decide) (by decide), y7 7 (by decide) (by decide) (by decide) (by decide), y7 10 (by decide) (by decide) (by decide) (by decide), y7 24 (by decide) (by decide) (by decide) (by decide), y7 25 (by decide) (by decide) (by decide) (by decide), y7 26 (by decide) (by decide) (by decide) (by decide), y7 31 (by decide) (by decide) (by decide) (by decide), y7 32 (by decide) (by decide) (by decide) (by decide), y7 33 (by decide) (by decide) (by decide) (by decide), y7 34 (by decide) (by decide) (by decide) (by decide), y7 35 (by decide) (by decide) (by decide) (by decide), y7 36 (by decide) (by decide) (by decide) (by decide), y7 37 (by decide) (by decide) (by decide) (by decide), y7 38 (by decide) (by decide) (by decide) (by decide), y7 39 (by decide) (by decide) (by decide) (by decide), y7 40 (by decide) (by decide) (by decide) (by decide), y7 41 (by decide) (by decide) (by decide) (by decide), y7 42 (by decide) (by decide) (by decide) (by decide), y7 43 (by decide) (by decide) (by decide) (by decide), y7 44 (by decide) (by decide) (by decide) (by decide), y7 45 (by decide) (by decide) (by decide) (by decide), y7 55 (by decide) (by decide) (by decide) (by decide), y7 56 (by decide) (by decide) (by decide) (by decide), y7 67 (by decide) (by decide) (by decide) (by decide), y7 68 (by decide) (by decide) (by decide) (by decide), y7 69 (by decide) (by decide) (by decide) (by decide)]
      refine ⟨⟨?_, ?_, fun k hk => ?_, ?_, ?_⟩, hWnew, hF, hX, hO, hC, hJ, hI, hP, hK, hR, hM⟩
      · rw [i3, zup_s, zup_k (by decide), zup_k (by decide), y6]
      · rw [zup_k (by decide), zup_k (by decide), y6]; decide
      · rw [zup_k (by decide), zup_k (by decide), y6] at hk; omega
      · rw [i3, zup_k (by decide), y8.1, zup_k (show 21 ≠ 22 by decide), zup_s]
      · rw [i3, zup_k (by decide), y8.2.1 w16, zup_s]
end PTEXT
