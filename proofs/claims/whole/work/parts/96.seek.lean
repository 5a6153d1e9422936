/-! explain: the class's search -/
section SEEK
variable {n : Nat} {S : ZS} {W : Nat} {wy ro sp ey seen on off : Nat → Int} {len a b x x1 x2 : Int} {t u e n7 c d : Nat}
def cWo (wy ey seen on : Nat → Int) (c : Nat) : Prop := cIs wy ey c ∧ (30 ≤ c → c < 49 → seen (c - 30) ≠ 0 ∧ on (c - 30) = -1)
theorem cIs_50 (h : cIs wy ey c) (hc : 50 ≤ c) : ((c - 50 : Nat) : Int) < wy 7 ∧ ey (c - 50) + 2 ≤ wy 0 := by
  unfold cIs at h
  rw [if_neg (by omega), if_neg (by omega)] at h
  exact h.resolve_left (by omega)
theorem lp_worth (hWo : WayOK wy ro sp ey) (hH : CH W wy ro sp ey seen on off S) (hc : c < 69) : ∃ r, F_X0_isWorthTrying W (c : Int) S = some r ∧ ((r = 1 ∧ cWo wy ey seen on c) ∨ (r = 0 ∧ ¬ cWo wy ey seen on c)) := by
  obtain ⟨⟨g1, g2⟩, ⟨g3, g4⟩, ⟨g5, g6⟩, g7, g8, g9, g10, g11, g12⟩ := id hWo
  obtain ⟨⟨w0, w1, w2, w3, w4, w5, w6, w7, w8, w9⟩, HO⟩ := hH
  have fz : zrem (c : Int) 10 = ((c % 10 : Nat) : Int) := by rw [zrem_ok (by omega) (by omega) (by omega) (by omega)]; omega
  unfold F_X0_isWorthTrying F_X10_hasRoller F_X10_hasEye cWo cIs
  rw [fz, w1, w2]
  by_cases c1 : c < 30
  · rw [if_pos (show (c : Int) < 30 by omega), if_pos c1, if_neg (show ¬ ((c % 10 : Nat) : Int) < 0 by omega)]
    by_cases c2 : ((c % 10 : Nat) : Int) < wy 6
    · rw [if_pos c2, Option.bind_some, if_pos (Or.inr rfl)]
      exact ⟨1, rfl, Or.inl ⟨rfl, c2, fun z => absurd z (by omega)⟩⟩
    · rw [if_neg c2, Option.bind_some, if_pos (Or.inl rfl)]
      exact ⟨0, rfl, Or.inr ⟨rfl, fun z => c2 z.1⟩⟩
  · rw [if_neg (show ¬ (c : Int) < 30 by omega), if_neg c1]
    by_cases c3 : c < 49
    · have f1 : zsub (c : Int) 30 = ((c - 30 : Nat) : Int) := by rw [zsub_ok (by omega) (by omega)]; omega
      rw [if_pos (show (c : Int) < 49 by omega), if_pos c3, f1, if_neg (show ¬ ((c - 30 : Nat) : Int) < 0 by omega)]
      by_cases c2 : ((c - 30 : Nat) : Int) < wy 7
      · obtain ⟨o1, o2⟩ := HO (c - 30) (by omega)
        rw [if_pos c2, Option.bind_some, if_neg (by decide), if_pos (show 0 ≤ ((c - 30 : Nat) : Int) ∧ ((c - 30 : Nat) : Int) < 19 by omega), Int.toNat_natCast, o1]
        by_cases c4 : seen (c - 30) = 0
        · rw [if_pos c4]
          exact ⟨0, rfl, Or.inr ⟨rfl, fun z => (z.2 (by omega) c3).1 c4⟩⟩
        · obtain ⟨_, o3, o4, o5, o6⟩ := o2.resolve_left c4
          rw [if_neg c4, o4]
          by_cases c5 : on (c - 30) = -1
          · rw [if_pos c5]
            exact ⟨1, rfl, Or.inl ⟨rfl, c2, fun _ _ => ⟨c4, c5⟩⟩⟩
          · rw [if_neg c5]
            exact ⟨0, rfl, Or.inr ⟨rfl, fun z => c5 (z.2 (by omega) c3).2⟩⟩
      · rw [if_neg c2, Option.bind_some, if_pos rfl]
        exact ⟨0, rfl, Or.inr ⟨rfl, fun z => c2 z.1⟩⟩
    · rw [if_neg (show ¬ (c : Int) < 49 by omega), if_neg c3]
      by_cases c4 : c = 49
      · rw [if_pos (show (c : Int) = 49 by omega)]
        exact ⟨1, rfl, Or.inl ⟨rfl, Or.inl c4, fun _ z => absurd z c3⟩⟩
      · have f1 : zsub (c : Int) 50 = ((c - 50 : Nat) : Int) := by rw [zsub_ok (by omega) (by omega)]; omega
        rw [if_neg (show ¬ (c : Int) = 49 by omega), f1, if_neg (show ¬ ((c - 50 : Nat) : Int) < 0 by omega)]
        by_cases c2 : ((c - 50 : Nat) : Int) < wy 7
        · have q := g10 (c - 50) c2
          rw [if_pos c2, Option.bind_some, if_neg (by decide), if_pos (show 0 ≤ ((c - 50 : Nat) : Int) ∧ ((c - 50 : Nat) : Int) < 19 by omega), Int.toNat_natCast, w9 _ c2, w0, zadd_ok (show (-2147483648 : Int) ≤ ey (c - 50) + 2 by omega) (by omega)]
          by_cases c5 : wy 0 < ey (c - 50) + 2
          · rw [if_pos c5]
            exact ⟨0, rfl, Or.inr ⟨rfl, fun z => by have := (z.1.resolve_left c4).2; omega⟩⟩
          · rw [if_neg c5]
            exact ⟨1, rfl, Or.inl ⟨rfl, Or.inr ⟨c2, by omega⟩, fun _ z => absurd z c3⟩⟩
        · rw [if_neg c2, Option.bind_some, if_pos rfl]
          exact ⟨0, rfl, Or.inr ⟨rfl, fun z => c2 (z.1.resolve_left c4).1⟩⟩
theorem lp_matter {h : Int} (hWo : WayOK wy ro sp ey) (hH : CH W wy ro sp ey seen on off S) (hc : c < 69) (hw : cWo wy ey seen on c) : ∃ r, F_X0_canMatter W (c : Int) h S = some r ∧ (r = 0 → cCant ro ey (c : Int) h) := by
  obtain ⟨⟨g1, g2⟩, ⟨g3, g4⟩, ⟨g5, g6⟩, g7, g8, g9, g10, g11, g12⟩ := id hWo
  obtain ⟨⟨w0, w1, w2, w3, w4, w5, w6, w7, w8, w9⟩, HO⟩ := hH
  have fz : zrem (c : Int) 10 = ((c % 10 : Nat) : Int) := by rw [zrem_ok (by omega) (by omega) (by omega) (by omega)]; omega
  have hI := hw.1
  unfold cIs at hI
  unfold F_X0_canMatter cCant
  rw [fz]
  by_cases c1 : c < 30
  · rw [if_pos c1] at hI
    have q := g9 (c % 10) hI
    rw [if_pos (show (c : Int) < 30 by omega), if_pos (show 0 ≤ ((c % 10 : Nat) : Int) ∧ ((c % 10 : Nat) : Int) < 10 by omega), Int.toNat_natCast, (w8 _ hI).1, zmul_ok (by omega) (by omega)]
    by_cases c2 : h < ro (c % 10) * 10
    · rw [if_pos c2]
      refine ⟨0, rfl, fun _ => Or.inl ⟨by omega, by omega, ?_⟩⟩
      rw [show ((c : Int) % 10).toNat = c % 10 by omega]
      omega
    · rw [if_neg c2]
      exact ⟨1, rfl, fun z => absurd z (by decide)⟩
  · rw [if_neg c1] at hI
    rw [if_neg (show ¬ (c : Int) < 30 by omega)]
    by_cases c3 : c < 49
    · rw [if_pos c3] at hI
      have q := g10 _ hI
      have f1 : zsub (c : Int) 30 = ((c - 30 : Nat) : Int) := by rw [zsub_ok (by omega) (by omega)]; omega
      rw [if_pos (show (c : Int) < 49 by omega), f1, if_pos (show 0 ≤ ((c - 30 : Nat) : Int) ∧ ((c - 30 : Nat) : Int) < 19 by omega), Int.toNat_natCast, w9 _ hI, zmul_ok (by omega) (by omega)]
      by_cases c2 : h < ey (c - 30) * 10
      · rw [if_pos c2]
        refine ⟨0, rfl, fun _ => Or.inr (Or.inl ⟨by omega, by omega, ?_⟩)⟩
        rw [show ((c : Int) - 30).toNat = c - 30 by omega]
        omega
      · rw [if_neg c2]
        exact ⟨1, rfl, fun z => absurd z (by decide)⟩
    · rw [if_neg c3] at hI
      rw [if_neg (show ¬ (c : Int) < 49 by omega)]
      by_cases c4 : c = 49
      · rw [if_pos (show (c : Int) = 49 by omega)]
        exact ⟨1, rfl, fun z => absurd z (by decide)⟩
      · have hI := (hI.resolve_left c4).1
        have q := g10 _ hI
        have f1 : zsub (c : Int) 50 = ((c - 50 : Nat) : Int) := by rw [zsub_ok (by omega) (by omega)]; omega
        rw [if_neg (show ¬ (c : Int) = 49 by omega), f1, if_pos (show 0 ≤ ((c - 50 : Nat) : Int) ∧ ((c - 50 : Nat) : Int) < 19 by omega), Int.toNat_natCast, w9 _ hI, zadd_ok (show (-2147483648 : Int) ≤ ey (c - 50) + 2 by omega) (by omega), zmul_ok (by omega) (by omega)]
        by_cases c2 : (ey (c - 50) + 2) * 10 < h
        · rw [if_pos c2]
          exact ⟨1, rfl, fun z => absurd z (by decide)⟩
        · rw [if_neg c2]
          refine ⟨0, rfl, fun _ => Or.inr (Or.inr ⟨by omega, ?_⟩)⟩
          rw [show ((c : Int) - 50).toNat = c - 50 by omega]
          omega
theorem DrOK_0 (hWo : WayOK wy ro sp ey) (a b : Int) : DrOK wy ro sp (cwe a b) (cbe a b) := by
  obtain ⟨⟨g1, g2⟩, ⟨g3, g4⟩, ⟨g5, g6⟩, g7, g8, g9, _⟩ := hWo
  have H0 : DrOK wy ro sp (fun _ => 0) (fun _ => 0) := ⟨⟨g3, g4⟩, g8, fun r hr => by have := g9 r hr; exact ⟨by omega, by omega, (show (0 : Int) ≤ 0 ∧ (0 : Int) ≤ 1000 from ⟨by decide, by decide⟩), Or.inl rfl⟩⟩
  exact DrOK_c H0
/-- a cause that isn't worth trying brings nothing more -/
theorem unw_all (hWo : WayOK wy ro sp ey) (OB : ∀ e : Nat, (e : Int) < wy 7 → seen e ≠ 0 → ObsOK (on e) (off e)) (hc : c < 69) (hI : cIs wy ey c) (hn : ¬ cWo wy ey seen on c) :
    (¬ Expl wy ro sp ey seen on off len a (-1) → ¬ Expl wy ro sp ey seen on off len a (c : Int)) ∧ (¬ Expl wy ro sp ey seen on off len b (-1) → ¬ Expl wy ro sp ey seen on off len (c : Int) b) := by
  have hb : 30 ≤ c ∧ c < 49 := by
    refine ⟨?_, ?_⟩
    · rcases Nat.lt_or_ge c 30 with z | z
      · exact absurd ⟨hI, fun y => absurd y (by omega)⟩ hn
      · exact z
    · rcases Nat.lt_or_ge c 49 with z | z
      · exact z
      · exact absurd ⟨hI, fun _ y => absurd y (by omega)⟩ hn
  have hI' := hI
  unfold cIs at hI'
  rw [if_neg (by omega), if_pos hb.2] at hI'
  have hx : (c : Int) = 30 + ((c - 30 : Nat) : Int) := by omega
  by_cases h0 : seen (c - 30) = 0
  · exact ⟨fun z y => z ((unw_R (DrOK_0 hWo a (-1)) hx (by omega) h0).mp y), fun z y => z ((unw_L (DrOK_0 hWo b (-1)) hx (by omega) h0).mp y)⟩
  · have hon : on (c - 30) ≠ -1 := fun z => hn ⟨hI, fun _ _ => ⟨h0, z⟩⟩
    exact ⟨fun _ => unw_no hI' h0 hon (OB _ hI' h0) (Or.inr hx), fun _ => unw_no hI' h0 hon (OB _ hI' h0) (Or.inl hx)⟩
def noPr (wy ro sp ey seen on off : Nat → Int) (len : Int) (a b : Nat) : Prop := ∀ c d : Nat, c < d → d < 69 → (c < a ∨ (c = a ∧ d < b)) → cIs wy ey c → cIs wy ey d → ¬ Expl wy ro sp ey seen on off len c d
/-- the search has found what it should, or ended -/
def SkQ (wy ro sp ey seen on off : Nat → Int) (len : Int) (S V : ZS) : Prop := FR5 S V ∧ V.1 10 10 = len ∧ CauseIs wy ro sp ey seen on off len (V.1 10 1) (V.1 10 2) (V.1 10 3)
def SkH (wy ro sp ey seen on off : Nat → Int) (len : Int) (V : ZS) : Prop := ∀ c, c < 69 → cWo wy ey seen on c → ∃ t, RefAt wy ro sp ey seen on off len (c : Int) (-1) t ∧ V.2 10 8 c = (cSg wy ro sp ey (c : Int) (-1) len t).1
def No1 (wy ro sp ey seen on off : Nat → Int) (len : Int) (k : Nat) : Prop := ∀ c : Nat, c < k → cIs wy ey c → ¬ Expl wy ro sp ey seen on off len c (-1)
theorem lp_sk167 (hW : W = 19 ∨ W = 20) (hWo : WayOK wy ro sp ey) (h6 : 0 < wy 6) (hl : 10 ≤ len ∧ len ≤ 60) (OB : ∀ e : Nat, (e : Int) < wy 7 → seen e ≠ 0 → ObsOK (on e) (off e)) (hH : CH W wy ro sp ey seen on off S) {x : Nat} (hx : x < 69) (hwx : cWo wy ey seen on x) (h0 : ¬ Expl wy ro sp ey seen on off len (-1) (-1)) (h1 : No1 wy ro sp ey seen on off len 69)
    {V : ZS} (v1 : FR5 S V) (v2 : V.1 10 10 = len) (v3 : V.1 10 1 = 2) (v4 : V.1 10 2 = (x : Int)) (v5 : SkH wy ro sp ey seen on off len V) (v6 : noPr wy ro sp ey seen on off len x (x + 1)) :
    zp (F_X0_seek_167 W len (x : Int) ((x : Int) + 1) V) (fun r => (∃ U, r = .inl ((x : Int) + 1, U) ∧ FR5 S U ∧ U.1 10 10 = len ∧ U.1 10 1 = 2 ∧ SkH wy ro sp ey seen on off len U ∧ noPr wy ro sp ey seen on off len (x + 1) 0) ∨ ∃ U, r = .inr U ∧ SkQ wy ro sp ey seen on off len S U) := by
  unfold F_X0_seek_167
  refine zp_w (fun dd (s : Int × ZS) => ∃ k : Nat, dd = 69 - k ∧ k ≤ 69 ∧ x < k ∧ s.1 = (k : Int) ∧ FR5 S s.2 ∧ s.2.1 10 10 = len ∧ s.2.1 10 1 = 2 ∧ s.2.1 10 2 = (x : Int) ∧ SkH wy ro sp ey seen on off len s.2 ∧ noPr wy ro sp ey seen on off len x k) ?_ (69 - (x + 1)) _ ⟨x + 1, rfl, by omega, by omega, rfl, v1, v2, v3, v4, v5, v6⟩
  rintro dd ⟨y, I, A⟩ ⟨k, rfl, hk, hxk, rfl, u1, u2, u3, u4, u5, u6⟩
  dsimp only at u1 u2 u3 u4 u5 u6 ⊢
  have fk : zadd (k : Int) 1 = ((k + 1 : Nat) : Int) := by rw [zadd_ok (by omega) (by omega)]; rfl
  have fx : zadd (x : Int) 1 = (x : Int) + 1 := zadd_ok (by omega) (by omega)
  by_cases c : k = 69
  · subst c
    refine zp_neg (by omega) (zp_some.mpr (zor2_r.mpr (Or.inl ⟨(I, A), by rw [fx], u1, u2, u3, u5, fun c d hcd hd hq hc1 hd1 => ?_⟩)))
    refine u6 c d hcd hd ?_ hc1 hd1
    omega
  have hk' : k < 69 := by omega
  refine zp_pos (by omega) (zp_lt.mpr ?_)
  obtain ⟨Y, hY⟩ : ∃ Y : ZS, Y = (zup I 10 3 (k : Int), A) := ⟨_, rfl⟩
  rw [← hY]
  have y1 : FR5 S Y := FR5_t u1 (by rw [hY]; exact ⟨fun r _ _ _ h10 => ⟨zup_R h10, rfl⟩, fun c _ _ h3 _ => zup_k h3, fun _ _ => rfl⟩)
  have y2 : Y.1 10 10 = len := by rw [hY]; dsimp only; rw [zup_k (by decide)]; exact u2
  have y3 : Y.1 10 1 = 2 := by rw [hY]; dsimp only; rw [zup_k (by decide)]; exact u3
  have y4 : Y.1 10 2 = (x : Int) := by rw [hY]; dsimp only; rw [zup_k (by decide)]; exact u4
  have y5 : Y.1 10 3 = (k : Int) := by rw [hY]; dsimp only; rw [zup_s]
  have y6 : SkH wy ro sp ey seen on off len Y := by rw [hY]; exact u5
  have hHY := CH_fr hW hH y1
  have hIx := hwx.1
  have nx : ∀ U : ZS, FR5 S U → U.1 10 10 = len → U.1 10 1 = 2 → U.1 10 2 = (x : Int) → SkH wy ro sp ey seen on off len U → (cIs wy ey k → ¬ Expl wy ro sp ey seen on off len (x : Int) (k : Int)) →
      ∃ m, m < 69 - k ∧ ∃ k' : Nat, m = 69 - k' ∧ k' ≤ 69 ∧ x < k' ∧ ((k + 1 : Nat) : Int) = (k' : Int) ∧ FR5 S U ∧ U.1 10 10 = len ∧ U.1 10 1 = 2 ∧ U.1 10 2 = (x : Int) ∧ SkH wy ro sp ey seen on off len U ∧ noPr wy ro sp ey seen on off len x k' := by
    intro U a1 a2 a3 a4 a5 a6
    refine ⟨69 - (k + 1), by omega, k + 1, rfl, by omega, by omega, rfl, a1, a2, a3, a4, a5, fun c d hcd hd hq hc1 hd1 => ?_⟩
    by_cases g : c = x ∧ d = k
    · rw [g.1, g.2]
      rw [g.2] at hd1
      exact a6 hd1
    · refine u6 c d hcd hd ?_ hc1 hd1
      omega
  unfold F_X0_seek_226
  rw [fk]
  obtain ⟨r, hr1, hr2⟩ := lp_worth (c := k) hWo hHY hk'
  refine zp_bind.mpr ((zp_eq hr1).mpr ?_)
  rcases hr2 with ⟨rfl, hwk⟩ | ⟨rfl, hwk⟩
  rotate_left 1
  · exact zp_pos rfl (zp_some.mpr (zor2_l.mpr (nx Y y1 y2 y3 y4 y6 (fun hI => (unw_all (a := (x : Int)) (b := (x : Int)) hWo OB hk' hI hwk).1 (h1 x hx hIx)))))
  refine zp_neg (by decide) (zp_pos (by omega) ?_)
  obtain ⟨t1, ht1, ht2⟩ := y6 x hx hwx
  obtain ⟨t2, hs1, hs2⟩ := y6 k hk' hwk
  obtain ⟨r, hr1, hr2⟩ := lp_matter (c := k) (h := Y.2 10 8 x) hWo hHY hk' hwk
  rw [Int.toNat_natCast]
  refine zp_bind.mpr ((zp_eq hr1).mpr ?_)
  have h7 := hWo.2.2.1.2
  by_cases g1 : r = 0
  · refine zp_pos g1 (zp_some.mpr (zor2_l.mpr (nx Y y1 y2 y3 y4 y6 (fun hI => ?_))))
    have hc := hr2 g1
    rw [ht2] at hc
    exact Ref_no (DrOK_0 hWo _ _) OB (add_R h7 (DrOK_0 hWo _ _) hc ht1).1
  refine zp_neg g1 (zp_pos (by omega) ?_)
  obtain ⟨r', hr1', hr2'⟩ := lp_matter (c := x) (h := Y.2 10 8 k) hWo hHY hx hwx
  rw [Int.toNat_natCast]
  refine zp_bind.mpr ((zp_eq hr1').mpr ?_)
  by_cases g2 : r' = 0
  · refine zp_pos g2 (zp_some.mpr (zor2_l.mpr (nx Y y1 y2 y3 y4 y6 (fun hI => ?_))))
    have hc := hr2' g2
    rw [hs2] at hc
    exact Ref_no (DrOK_0 hWo _ _) OB (add_L h7 (DrOK_0 hWo _ _) hc hs1).1
  refine zp_neg g2 (zp_bind.mpr (zp_mono (lp_expl11 (S := Y) (W := W) (a := (x : Int)) (b := (k : Int)) hW hWo h6 hHY hl (Or.inr ⟨by omega, Or.inr ⟨by omega, by omega⟩⟩) (fun z => by have := (cIs_50 hIx (by omega)).1; omega) (fun z => by have := (cIs_50 hwk.1 (by omega)).1; omega)) (fun v hv => ?_)))
  obtain ⟨q1, q2⟩ := hv
  have qF : FR5 S v.2 := FR5_t y1 (FR5_of q1)
  have q10 := (q1 10 (by decide) (by decide) (by decide))
  rcases q2 with ⟨q2, q3⟩ | ⟨q2, t3, q3, _⟩
  · refine zp_neg (by rw [q2]; decide) (zp_some.mpr (zor2_r.mpr (Or.inr ⟨v.2, rfl, qF, by rw [q10.1]; exact y2, ?_⟩)))
    rw [q10.1, y3, y4, y5]
    refine Or.inr ⟨h0, Or.inr ⟨fun c hc hc1 => h1 c hc hc1, Or.inl ⟨rfl, x, k, hxk, hk', rfl, rfl, hIx, hwk.1, Acc_yes (DrOK_0 hWo _ _) q3, fun c d hcd hd hq hc1 hd1 => u6 c d hcd hd hq hc1 hd1⟩⟩⟩
  · refine zp_pos q2 (zp_some.mpr (zor2_l.mpr (nx v.2 qF (by rw [q10.1]; exact y2) (by rw [q10.1]; exact y3) (by rw [q10.1]; exact y4) (fun c hc hw => by rw [q10.2]; exact y6 c hc hw) (fun _ => Ref_no (DrOK_0 hWo _ _) OB q3))))
theorem lp_sk133 (hW : W = 19 ∨ W = 20) (hWo : WayOK wy ro sp ey) (h6 : 0 < wy 6) (hl : 10 ≤ len ∧ len ≤ 60) (OB : ∀ e : Nat, (e : Int) < wy 7 → seen e ≠ 0 → ObsOK (on e) (off e)) (hH : CH W wy ro sp ey seen on off S) (h0 : ¬ Expl wy ro sp ey seen on off len (-1) (-1)) (h1 : No1 wy ro sp ey seen on off len 69)
    {V : ZS} (v1 : FR5 S V) (v2 : V.1 10 10 = len) (v3 : V.1 10 1 = 2) (v5 : SkH wy ro sp ey seen on off len V) :
    zp (F_X0_seek_133 W len 0 V) (fun U => SkQ wy ro sp ey seen on off len S U) := by
  unfold F_X0_seek_133
  refine zp_w (fun dd (s : Int × ZS) => ∃ k : Nat, dd = 69 - k ∧ k ≤ 69 ∧ s.1 = (k : Int) ∧ FR5 S s.2 ∧ s.2.1 10 10 = len ∧ s.2.1 10 1 = 2 ∧ SkH wy ro sp ey seen on off len s.2 ∧ noPr wy ro sp ey seen on off len k 0) ?_ 69 _ ⟨0, rfl, by omega, rfl, v1, v2, v3, v5, fun c d _ _ hq _ _ => by omega⟩
  rintro dd ⟨y, I, A⟩ ⟨k, rfl, hk, rfl, u1, u2, u3, u5, u6⟩
  dsimp only at u1 u2 u3 u5 u6 ⊢
  by_cases c : k = 69
  · subst c
    refine zp_neg (by omega) (zp_lt.mpr (zp_some.mpr (zor2_r.mpr ⟨FR5_t u1 ⟨fun r _ _ _ h10 => ⟨zup_R h10, rfl⟩, fun c h1 _ _ _ => zup_k h1, fun _ _ => rfl⟩, ?_, ?_⟩)))
    · dsimp only; rw [zup_k (by decide)]; exact u2
    · dsimp only
      rw [zup_s]
      refine Or.inr ⟨h0, Or.inr ⟨fun c hc hc1 => h1 c hc hc1, Or.inr ⟨rfl, fun c d hcd hd hc1 hd1 => u6 c d hcd hd (Or.inl (by omega)) hc1 hd1⟩⟩⟩
  have hk' : k < 69 := by omega
  refine zp_pos (by omega) (zp_lt.mpr ?_)
  obtain ⟨Y, hY⟩ : ∃ Y : ZS, Y = (zup I 10 2 (k : Int), A) := ⟨_, rfl⟩
  rw [← hY]
  have y1 : FR5 S Y := FR5_t u1 (by rw [hY]; exact ⟨fun r _ _ _ h10 => ⟨zup_R h10, rfl⟩, fun c _ h2 _ _ => zup_k h2, fun _ _ => rfl⟩)
  have y2 : Y.1 10 10 = len := by rw [hY]; dsimp only; rw [zup_k (by decide)]; exact u2
  have y3 : Y.1 10 1 = 2 := by rw [hY]; dsimp only; rw [zup_k (by decide)]; exact u3
  have y4 : Y.1 10 2 = (k : Int) := by rw [hY]; dsimp only; rw [zup_s]
  have y6 : SkH wy ro sp ey seen on off len Y := by rw [hY]; exact u5
  have hHY := CH_fr hW hH y1
  have fk : zadd (k : Int) 1 = (k : Int) + 1 := zadd_ok (by omega) (by omega)
  obtain ⟨r, hr1, hr2⟩ := lp_worth (c := k) hWo hHY hk'
  refine zp_bind.mpr ((zp_eq hr1).mpr ?_)
  rcases hr2 with ⟨rfl, hwk⟩ | ⟨rfl, hwk⟩
  · refine zp_neg (by decide) ?_
    rw [fk]
    refine zp_mono (lp_sk167 (S := S) (V := Y) (x := k) hW hWo h6 hl OB hH hk' hwk h0 h1 y1 y2 y3 y4 y6 (fun c d hcd hd hq hc1 hd1 => u6 c d hcd hd (Or.inl (by omega)) hc1 hd1)) (fun r hr => ?_)
    rcases hr with ⟨U, rfl, a1, a2, a3, a4, a5⟩ | ⟨U, rfl, a1⟩
    · exact zor2_l.mpr ⟨69 - (k + 1), by omega, k + 1, rfl, by omega, rfl, a1, a2, a3, a4, a5⟩
    · exact zor2_r.mpr a1
  · refine zp_pos rfl ?_
    have hz : F_X0_seek_167 W len (k : Int) 69 Y = some (.inl ((k : Int) + 1, Y)) := by
      unfold F_X0_seek_167
      refine zw_inr ?_
      dsimp only
      rw [if_neg (by decide), fk]
    refine (zp_eq hz).mpr (zor2_l.mpr ⟨69 - (k + 1), by omega, k + 1, by omega, by omega, rfl, y1, y2, y3, y6, fun c d hcd hd hq hc1 hd1 => ?_⟩)
    by_cases g : c = k
    · rw [g] at hc1 ⊢
      exact (unw_all (a := (d : Int)) (b := (d : Int)) hWo OB hk' hc1 hwk).2 (h1 d hd hd1)
    · exact u6 c d hcd hd (Or.inl (by omega)) hc1 hd1
theorem lp_sk49 (hW : W = 19 ∨ W = 20) (hWo : WayOK wy ro sp ey) (h6 : 0 < wy 6) (hl : 10 ≤ len ∧ len ≤ 60) (OB : ∀ e : Nat, (e : Int) < wy 7 → seen e ≠ 0 → ObsOK (on e) (off e)) (hH : CH W wy ro sp ey seen on off S) {t0 : Nat} (hr0 : RefAt wy ro sp ey seen on off len (-1) (-1) t0)
    {V : ZS} (v1 : FR5 S V) (v2 : V.1 10 10 = len) (v3 : V.1 10 1 = 1) :
    zp (F_X0_seek_49 W len (cSg wy ro sp ey (-1) (-1) len t0).1 0 V) (fun U => SkQ wy ro sp ey seen on off len S U) := by
  have h0 : ¬ Expl wy ro sp ey seen on off len (-1) (-1) := Ref_no (DrOK_0 hWo _ _) OB hr0
  have h7 := hWo.2.2.1.2
  unfold F_X0_seek_49
  refine zp_w (fun dd (s : Int × ZS) => ∃ k : Nat, dd = 69 - k ∧ k ≤ 69 ∧ s.1 = (k : Int) ∧ FR5 S s.2 ∧ s.2.1 10 10 = len ∧ s.2.1 10 1 = 1 ∧ No1 wy ro sp ey seen on off len k ∧ ∀ c, c < k → cWo wy ey seen on c → ∃ t, RefAt wy ro sp ey seen on off len (c : Int) (-1) t ∧ s.2.2 10 8 c = (cSg wy ro sp ey (c : Int) (-1) len t).1) ?_ 69 _ ⟨0, rfl, by omega, rfl, v1, v2, v3, fun c hc _ => absurd hc (by omega), fun c hc _ => absurd hc (by omega)⟩
  rintro dd ⟨y, I, A⟩ ⟨k, rfl, hk, rfl, u1, u2, u3, u4, u5⟩
  dsimp only at u1 u2 u3 u4 u5 ⊢
  by_cases c : k = 69
  · subst c
    refine zp_neg (by omega) (zp_lt.mpr (zp_in.mpr (zp_mono (lp_sk133 (S := S) (V := (zup I 10 1 2, A)) hW hWo h6 hl OB hH h0 u4 (FR5_t u1 ⟨fun r _ _ _ h10 => ⟨zup_R h10, rfl⟩, fun c h1 _ _ _ => zup_k h1, fun _ _ => rfl⟩) (by dsimp only; rw [zup_k (by decide)]; exact u2) (by dsimp only; rw [zup_s]) u5) (fun U hU => zor2_r.mpr hU))))
  have hk' : k < 69 := by omega
  refine zp_pos (by omega) (zp_pos (by omega) (zp_lt.mpr ?_))
  rw [Int.toNat_natCast]
  obtain ⟨Y, hY⟩ : ∃ Y : ZS, Y = (I, zuA A 10 8 (zset (A 10 8) k (cSg wy ro sp ey (-1) (-1) len t0).1)) := ⟨_, rfl⟩
  rw [← hY]
  have y1 : FR5 S Y := FR5_t u1 (by rw [hY]; exact ⟨fun r _ _ _ h10 => ⟨rfl, zuA_R h10⟩, fun c _ _ _ _ => rfl, fun o ho => zuA_o ho⟩)
  have y2 : Y.1 10 10 = len := by rw [hY]; exact u2
  have y3 : Y.1 10 1 = 1 := by rw [hY]; exact u3
  have y8 : ∀ c, Y.2 10 8 c = if c = k then (cSg wy ro sp ey (-1) (-1) len t0).1 else A 10 8 c := fun c => by rw [hY]; dsimp only; rw [zuA_s, zset_ap]
  have y5 : ∀ c, c < k → cWo wy ey seen on c → ∃ t, RefAt wy ro sp ey seen on off len (c : Int) (-1) t ∧ Y.2 10 8 c = (cSg wy ro sp ey (c : Int) (-1) len t).1 := fun c hc hw => by rw [y8, if_neg (by omega)]; exact u5 c hc hw
  have hHY := CH_fr hW hH y1
  have fk : zadd (k : Int) 1 = ((k + 1 : Nat) : Int) := by rw [zadd_ok (by omega) (by omega)]; rfl
  have nx : ∀ U : ZS, FR5 S U → U.1 10 10 = len → U.1 10 1 = 1 → (cIs wy ey k → ¬ Expl wy ro sp ey seen on off len (k : Int) (-1)) → (∀ c, c < k + 1 → cWo wy ey seen on c → ∃ t, RefAt wy ro sp ey seen on off len (c : Int) (-1) t ∧ U.2 10 8 c = (cSg wy ro sp ey (c : Int) (-1) len t).1) →
      ∃ m, m < 69 - k ∧ ∃ k' : Nat, m = 69 - k' ∧ k' ≤ 69 ∧ ((k + 1 : Nat) : Int) = (k' : Int) ∧ FR5 S U ∧ U.1 10 10 = len ∧ U.1 10 1 = 1 ∧ No1 wy ro sp ey seen on off len k' ∧ ∀ c, c < k' → cWo wy ey seen on c → ∃ t, RefAt wy ro sp ey seen on off len (c : Int) (-1) t ∧ U.2 10 8 c = (cSg wy ro sp ey (c : Int) (-1) len t).1 := by
    intro U a1 a2 a3 a4 a5
    refine ⟨69 - (k + 1), by omega, k + 1, rfl, by omega, rfl, a1, a2, a3, fun c hc hc1 => ?_, a5⟩
    by_cases g : c = k
    · rw [g] at hc1 ⊢; exact a4 hc1
    · exact u4 c (by omega) hc1
  rw [fk]
  obtain ⟨r, hr1, hr2⟩ := lp_worth (c := k) hWo hHY hk'
  refine zp_bind.mpr ((zp_eq hr1).mpr ?_)
  rcases hr2 with ⟨rfl, hwk⟩ | ⟨rfl, hwk⟩
  rotate_left 1
  · refine zp_pos rfl (zp_some.mpr (zor2_l.mpr (nx Y y1 y2 y3 (fun hI => (unw_all (a := -1) (b := -1) hWo OB hk' hI hwk).2 h0) (fun c hc hw => ?_))))
    by_cases g : c = k
    · rw [g] at hw; exact absurd hw hwk
    · exact y5 c (by omega) hw
  refine zp_neg (by decide) ?_
  obtain ⟨r, hr1, hr2⟩ := lp_matter (c := k) (h := (cSg wy ro sp ey (-1) (-1) len t0).1) hWo hHY hk' hwk
  refine zp_bind.mpr ((zp_eq hr1).mpr ?_)
  by_cases g1 : r = 0
  · have hadd := add_L h7 (DrOK_0 hWo _ _) (hr2 g1) hr0
    refine zp_pos g1 (zp_some.mpr (zor2_l.mpr (nx Y y1 y2 y3 (fun hI => Ref_no (DrOK_0 hWo _ _) OB hadd.1) (fun c hc hw => ?_))))
    by_cases g : c = k
    · rw [g]; exact ⟨t0, hadd.1, by rw [y8, if_pos rfl, hadd.2]⟩
    · exact y5 c (by omega) hw
  refine zp_neg g1 (zp_lt.mpr ?_)
  obtain ⟨X, hX⟩ : ∃ X : ZS, X = (zup Y.1 10 2 (k : Int), Y.2) := ⟨_, rfl⟩
  rw [← hX]
  have x1 : FR5 S X := FR5_t y1 (by rw [hX]; exact ⟨fun r _ _ _ h10 => ⟨zup_R h10, rfl⟩, fun c _ h2 _ _ => zup_k h2, fun _ _ => rfl⟩)
  have x2 : X.1 10 10 = len := by rw [hX]; dsimp only; rw [zup_k (by decide)]; exact y2
  have x3 : X.1 10 1 = 1 := by rw [hX]; dsimp only; rw [zup_k (by decide)]; exact y3
  have x4 : X.1 10 2 = (k : Int) := by rw [hX]; dsimp only; rw [zup_s]
  have x5 : X.2 = Y.2 := by rw [hX]
  refine zp_bind.mpr (zp_mono (lp_expl11 (S := X) (W := W) (a := (k : Int)) (b := -1) hW hWo h6 (CH_fr hW hH x1) hl (Or.inr ⟨by omega, Or.inl rfl⟩) (fun z => by have := (cIs_50 hwk.1 (by omega)).1; omega) (fun z => absurd z (by decide))) (fun v hv => ?_))
  obtain ⟨q1, q2⟩ := hv
  have qF : FR5 S v.2 := FR5_t x1 (FR5_of q1)
  have q10 := (q1 10 (by decide) (by decide) (by decide))
  rcases q2 with ⟨q2, q3⟩ | ⟨q2, t3, q3, q4⟩
  · refine zp_neg (by rw [q2]; decide) (zp_some.mpr (zor2_r.mpr ⟨qF, by rw [q10.1]; exact x2, ?_⟩))
    rw [q10.1, x3, x4]
    exact Or.inr ⟨h0, Or.inl ⟨rfl, k, hk', rfl, hwk.1, Acc_yes (DrOK_0 hWo _ _) q3, fun c hc hc1 => u4 c hc hc1⟩⟩
  · refine zp_pos q2 (zp_lt.mpr (zp_some.mpr (zor2_l.mpr (nx _ (FR5_t qF ⟨fun r _ _ _ h10 => ⟨rfl, zuA_R h10⟩, fun c _ _ _ _ => rfl, fun o ho => zuA_o ho⟩) (by dsimp only; rw [q10.1]; exact x2) (by dsimp only; rw [q10.1]; exact x3) (fun _ => Ref_no (DrOK_0 hWo _ _) OB q3) (fun c hc hw => ?_)))))
    dsimp only
    rw [zuA_s, zset_ap, q4]
    by_cases g : c = k
    · rw [if_pos g, g]; exact ⟨t3, q3, rfl⟩
    · rw [if_neg g, q10.2, x5]; exact y5 c (by omega) hw
theorem lp_seek11 (hW : W = 19 ∨ W = 20) (hWo : WayOK wy ro sp ey) (h6 : 0 < wy 6) (hl : 10 ≤ len ∧ len ≤ 60) (OB : ∀ e : Nat, (e : Int) < wy 7 → seen e ≠ 0 → ObsOK (on e) (off e)) (hH : CH W wy ro sp ey seen on off S) (hC : InvC (S.1 10) wy ro sp ey seen on off) :
    zp (F_X0_seek W len S) (fun V => SkQ wy ro sp ey seen on off len S V) := by
  unfold F_X0_seek
  by_cases c : S.1 10 10 = len
  · refine zp_pos c (zp_some.mpr ⟨FR5_r S, c, ?_⟩)
    rcases hC with z | z
    · omega
    · rw [c] at z
      exact z.2.2
  · refine zp_neg c (zp_lt.mpr (zp_lt.mpr ?_))
    obtain ⟨X, hX⟩ : ∃ X : ZS, X = (zup (zup S.1 10 10 len) 10 1 0, S.2) := ⟨_, rfl⟩
    dsimp only
    rw [← hX]
    have x1 : FR5 S X := by rw [hX]; exact ⟨fun r _ _ _ h10 => ⟨by dsimp only; rw [zup_R h10, zup_R h10], rfl⟩, fun c h1 _ _ h10 => by dsimp only; rw [zup_k h1, zup_k h10], fun _ _ => rfl⟩
    have x2 : X.1 10 10 = len := by rw [hX]; dsimp only; rw [zup_k (by decide), zup_s]
    have x3 : X.1 10 1 = 0 := by rw [hX]; dsimp only; rw [zup_s]
    refine zp_bind.mpr (zp_mono (lp_expl11 (S := X) (W := W) (a := -1) (b := -1) hW hWo h6 (CH_fr hW hH x1) hl (Or.inl ⟨rfl, rfl⟩) (fun z => absurd z (by decide)) (fun z => absurd z (by decide))) (fun v hv => ?_))
    obtain ⟨q1, q2⟩ := hv
    have qF : FR5 S v.2 := FR5_t x1 (FR5_of q1)
    have q10 := (q1 10 (by decide) (by decide) (by decide))
    rcases q2 with ⟨q2, q3⟩ | ⟨q2, t3, q3, q4⟩
    · refine zp_neg (by rw [q2]; decide) (zp_some.mpr ⟨qF, by rw [q10.1]; exact x2, ?_⟩)
      rw [q10.1, x3]
      exact Or.inl ⟨rfl, Acc_yes (DrOK_0 hWo _ _) q3⟩
    · refine zp_pos q2 (zp_lt.mpr ?_)
      rw [q4]
      exact lp_sk49 (S := S) (V := (zup v.2.1 10 1 1, v.2.2)) hW hWo h6 hl OB hH q3 (FR5_t qF ⟨fun r _ _ _ h10 => ⟨zup_R h10, rfl⟩, fun c h1 _ _ _ => zup_k h1, fun _ _ => rfl⟩) (by dsimp only; rw [zup_k (by decide), q10.1]; exact x2) (by dsimp only; rw [zup_s])
end SEEK
