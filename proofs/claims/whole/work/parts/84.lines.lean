/-! lines side by side -/
section WAYU
variable {Iw Iw' : Nat → Int} {Aw Aw' : Nat → Nat → Int} {wy ro sp ey : Nat → Int} {m : Nat} {x v a b c d : Int}
theorem WO_ro (W : WayOK wy ro sp ey) (R : WayR Iw Aw wy ro sp ey) (hm : wy 6 = (m : Int)) (h10 : m < 10) (hx : 1 ≤ x ∧ x ≤ wy 0 - 1) (hs : ∀ r, r + 1 = m → ro r < x) (hv : 1 ≤ v ∧ v ≤ 9)
    (hI : ∀ k, Iw' k = if k = 1 then ((m + 1 : Nat) : Int) else Iw k) (hA : ∀ o j, Aw' o j = if o = 4 ∧ j = m then v else if o = 3 ∧ j = m then x else Aw o j) :
    WayOK (zset wy 6 ((m + 1 : Nat) : Int)) (zset ro m x) (zset sp m v) ey ∧ WayR Iw' Aw' (zset wy 6 ((m + 1 : Nat) : Int)) (zset ro m x) (zset sp m v) ey := by
  obtain ⟨g1, g2, g3, g4, g5, g6, g7, g8, g9⟩ := W
  obtain ⟨w0, w1, w2, w3, w4, w5, w6, w7, w8, w9⟩ := R
  have z : ∀ k, k ≠ 6 → zset wy 6 ((m + 1 : Nat) : Int) k = wy k := fun k hk => zset_n hk
  have z6 : zset wy 6 ((m + 1 : Nat) : Int) 6 = ((m + 1 : Nat) : Int) := zset_s
  refine ⟨⟨?_, ?_, ?_, ?_, ?_, fun r hr => ?_, fun e he => ?_, fun r hr => ?_, fun e he => ?_, ?_⟩, ⟨?_, ?_, ?_, ?_, ?_, ?_, ?_, ?_, fun r hr => ?_, fun e he => ?_⟩⟩
  · rw [z 0 (by decide)]; exact g1
  · rw [z6]; omega
  · rw [z 7 (by decide)]; exact g3
  · rw [z 1 (by decide), z 0 (by decide), z 2 (by decide), z 3 (by decide), z 4 (by decide)]; exact g4
  · rw [z 5 (by decide)]; exact g5
  · rw [z 0 (by decide), zset_ap, zset_ap]
    rw [z6] at hr
    by_cases e : r = m
    · rw [if_pos e, if_pos e]; omega
    · rw [if_neg e, if_neg e]; exact g6 r (by omega)
  · rw [z 0 (by decide)]
    rw [z 7 (by decide)] at he
    exact g7 e he
  · rw [z6] at hr
    rw [zset_ap, zset_ap]
    by_cases e : r + 1 = m
    · rw [if_neg (by omega), if_pos e]; exact hs r e
    · rw [if_neg (by omega), if_neg e]; exact g8 r (by omega)
  · rw [z 7 (by decide)] at he
    exact g9.1 e he
  · rw [z 3 (by decide)]; exact g9.2
  · rw [hI, z 0 (by decide)]; exact w0
  · rw [hI, z6]; rfl
  · rw [hI, z 7 (by decide)]; exact w2
  · rw [hI, z 1 (by decide)]; exact w3
  · rw [hI, z 2 (by decide)]; exact w4
  · rw [hI, z 3 (by decide)]; exact w5
  · rw [hI, z 4 (by decide)]; exact w6
  · rw [hI, z 5 (by decide)]; exact w7
  · rw [hA, hA, zset_ap, zset_ap]
    rw [z6] at hr
    simp only [true_and, Nat.reduceEqDiff, false_and, if_false]
    by_cases e : r = m
    · simp only [if_pos e]; exact ⟨by trivial, by trivial⟩
    · simp only [if_neg e]; exact w8 r (by omega)
  · rw [hA]
    rw [z 7 (by decide)] at he
    simp only [Nat.reduceEqDiff, false_and, if_false]
    exact w9 e he
theorem WO_ey (W : WayOK wy ro sp ey) (R : WayR Iw Aw wy ro sp ey) (hm : wy 7 = (m : Int)) (h10 : m < 19) (hx : 1 ≤ x ∧ x ≤ wy 0) (hs : ∀ r, r + 1 = m → ey r < x)
    (hI : ∀ k, Iw' k = if k = 4 then ((m + 1 : Nat) : Int) else Iw k) (hA : ∀ o j, Aw' o j = if o = 6 ∧ j = m then x else Aw o j) :
    WayOK (zset wy 7 ((m + 1 : Nat) : Int)) ro sp (zset ey m x) ∧ WayR Iw' Aw' (zset wy 7 ((m + 1 : Nat) : Int)) ro sp (zset ey m x) := by
  obtain ⟨g1, g2, g3, g4, g5, g6, g7, g8, g9⟩ := W
  obtain ⟨w0, w1, w2, w3, w4, w5, w6, w7, w8, w9⟩ := R
  have z : ∀ k, k ≠ 7 → zset wy 7 ((m + 1 : Nat) : Int) k = wy k := fun k hk => zset_n hk
  have z6 : zset wy 7 ((m + 1 : Nat) : Int) 7 = ((m + 1 : Nat) : Int) := zset_s
  refine ⟨⟨?_, ?_, ?_, ?_, ?_, fun r hr => ?_, fun e he => ?_, fun r hr => ?_, fun e he => ?_, ?_⟩, ⟨?_, ?_, ?_, ?_, ?_, ?_, ?_, ?_, fun r hr => ?_, fun e he => ?_⟩⟩
  · rw [z 0 (by decide)]; exact g1
  · rw [z 6 (by decide)]; exact g2
  · rw [z6]; omega
  · rw [z 1 (by decide), z 0 (by decide), z 2 (by decide), z 3 (by decide), z 4 (by decide)]; exact g4
  · rw [z 5 (by decide)]; exact g5
  · rw [z 6 (by decide)] at hr
    rw [z 0 (by decide)]
    exact g6 r hr
  · rw [z 0 (by decide), zset_ap]
    rw [z6] at he
    by_cases q : e = m
    · rw [if_pos q]; omega
    · rw [if_neg q]; exact g7 e (by omega)
  · rw [z 6 (by decide)] at hr
    exact g8 r hr
  · rw [z6] at he
    rw [zset_ap, zset_ap]
    by_cases q : e + 1 = m
    · rw [if_neg (by omega), if_pos q]; exact hs e q
    · rw [if_neg (by omega), if_neg q]; exact g9.1 e (by omega)
  · rw [z 3 (by decide)]; exact g9.2
  · rw [hI, z 0 (by decide)]; exact w0
  · rw [hI, z 6 (by decide)]; exact w1
  · rw [hI, z6]; rfl
  · rw [hI, z 1 (by decide)]; exact w3
  · rw [hI, z 2 (by decide)]; exact w4
  · rw [hI, z 3 (by decide)]; exact w5
  · rw [hI, z 4 (by decide)]; exact w6
  · rw [hI, z 5 (by decide)]; exact w7
  · rw [z 6 (by decide)] at hr
    rw [hA, hA]
    simp only [Nat.reduceEqDiff, false_and, if_false]
    exact w8 r hr
  · rw [hA, zset_ap]
    rw [z6] at he
    simp only [true_and]
    by_cases q : e = m
    · rw [if_pos q, if_pos q]
    · rw [if_neg q, if_neg q]; exact w9 e (by omega)
theorem WO_cells {wy' : Nat → Int} (W : WayOK wy ro sp ey) (R : WayR Iw Aw wy ro sp ey) (h0 : wy' 0 = wy 0 ∨ (wy 6 = 0 ∧ wy 7 = 0 ∧ 40 ≤ wy' 0 ∧ wy' 0 ≤ 300)) (h6 : wy' 6 = wy 6) (h7 : wy' 7 = wy 7)
    (ht : wy' 1 = 0 ∨ (2 ≤ wy' 1 ∧ wy' 1 ≤ wy' 0 - 1 ∧ 1 ≤ wy' 2 ∧ wy' 2 ≤ wy' 1 - 1 ∧ 1 ≤ wy' 3 ∧ wy' 3 ≤ 3 ∧ 1 ≤ wy' 4 ∧ wy' 4 ≤ 20)) (h5 : 0 ≤ wy' 5 ∧ wy' 5 ≤ 90) (h3 : 0 ≤ wy' 3)
    (i0 : Iw' 0 = wy' 0) (i1 : Iw' 1 = Iw 1) (i4 : Iw' 4 = Iw 4) (i6 : Iw' 6 = wy' 1) (i7 : Iw' 7 = wy' 2) (i8 : Iw' 8 = wy' 3) (i9 : Iw' 9 = wy' 4) (i10 : Iw' 10 = wy' 5) :
    WayOK wy' ro sp ey ∧ WayR Iw' Aw wy' ro sp ey := by
  obtain ⟨g1, g2, g3, g4, g5, g6, g7, g8, g9⟩ := W
  obtain ⟨w0, w1, w2, w3, w4, w5, w6, w7, w8, w9⟩ := R
  refine ⟨⟨by omega, by omega, by omega, ht, h5, fun r hr => ?_, fun e he => ?_, fun r hr => g8 r (by omega), fun e he => g9.1 e (by omega), h3⟩, ⟨i0, by omega, by omega, i6, i7, i8, i9, i10, fun r hr => w8 r (by omega), fun e he => w9 e (by omega)⟩⟩
  · have := g6 r (by omega)
    omega
  · have := g7 e (by omega)
    omega
end WAYU
section LINES
variable {S R S' R' : ZS} {b : Nat → Int} {n j q : Nat} {lo hi lo' hi' : Int}
theorem RdC_up (h : RdC S R b n) (s1 : S'.1 3 = S.1 3) (s2 : S'.2 3 = S.2 3) (r1 : ∀ c, 11 ≤ c → c ≤ 17 → R'.1 1 c = R.1 1 c) (r2 : R'.2 1 2 = R.2 1 2) : RdC S' R' b n := by
  obtain ⟨⟨a1, a2⟩, ⟨a3, a4, a5⟩, ⟨a6, a7, a8⟩, k, a9, a10⟩ := h
  refine ⟨⟨by rw [s1]; exact a1, ?_⟩, ⟨a3, by rw [r1 13 (by omega) (by omega)]; exact a4, by rw [r2]; exact a5⟩, ⟨by rw [s1, r1 16 (by omega) (by omega)]; exact a6, by rw [s1, r1 16 (by omega) (by omega), r1 17 (by omega) (by omega)]; exact a7, by rw [r1 16 (by omega) (by omega), s1]; exact a8⟩, k, by rw [s1]; exact a9, a10⟩
  unfold TRow at a2 ⊢
  rw [s2]
  exact a2
theorem TkS_up (h : TkS R b n j) (r1 : ∀ c, 11 ≤ c → c ≤ 17 → R'.1 1 c = R.1 1 c) : TkS R' b n j := by
  unfold TkS at h ⊢
  rw [r1 11 (by omega) (by omega), r1 12 (by omega) (by omega), r1 14 (by omega) (by omega), r1 15 (by omega) (by omega)]
  exact h
theorem AtB_up (h : AtB S R b n j) (s1 : S'.1 3 = S.1 3) (s2 : S'.2 3 = S.2 3) (r1 : ∀ c, 11 ≤ c → c ≤ 17 → R'.1 1 c = R.1 1 c) (r2 : R'.2 1 2 = R.2 1 2) : AtB S' R' b n j := by
  refine ⟨RdC_up h.1 s1 s2 r1 r2, fun z => ?_⟩
  rw [r1 16 (by omega) (by omega)] at z
  obtain ⟨a, c, d⟩ := h.2 z
  exact ⟨by rw [s1]; exact a, c, TkS_up d r1⟩
theorem lp_readF (h : RdC S R b n) (hw : R.1 1 16 ≠ 0) : F_X6_readNumber lo hi S = some (0, S) ∧ F_X12_reads lo' hi' R = some (R.1 1 15, R) := by
  have hg := lp_goOn h
  obtain ⟨c1, c2, ⟨c3, c4, c5⟩, k, c6, c7⟩ := h
  have hl := (tlast_b (b := b) (n := n)).1
  have hn := c2.1
  have hw3 : S.1 3 2 ≠ 0 := by rw [c3]; exact hw
  rw [if_neg (fun z => hw3 z.1)] at hg
  have hwant : (if S.2 3 5 (S.1 3 8).toNat = 2 then some S else (F_X6_blame 2 S).bind fun S4 => some S4) = some S := by
    rw [lp_blameN hw3]
    split <;> rfl
  constructor
  · unfold F_X6_readNumber F_X6_want
    rw [hg, Option.bind_some, if_pos (by omega), hwant, Option.bind_some, if_neg hw3]
    unfold F_X6_readNumber_43
    rw [if_neg hw3]
  · unfold F_X12_reads F_X12_is
    rw [if_neg hw, Option.bind_some, if_pos rfl, lp_failsN hw, Option.bind_some]
    unfold F_X12_reads_37
    rw [if_neg hw]
theorem lp_readG (h : AtB S R b n j) (he : R.1 1 16 = 0 → lo = lo' ∧ hi = hi') : zq (F_X6_readNumber lo hi S) (F_X12_reads lo' hi' R) (fun v u => SFr S v.2 ∧ RFr R u.2 ∧ AtB v.2 u.2 b n (j + 1) ∧ (R.1 1 16 ≠ 0 → u.2.1 1 16 ≠ 0) ∧ (u.2.1 1 16 = 0 → v.1 = u.1 ∧ lo ≤ u.1 ∧ u.1 ≤ hi)) := by
  by_cases hw : R.1 1 16 = 0
  · obtain ⟨rfl, rfl⟩ := he hw
    exact zq_mono (lp_readN h) fun v u hp => ⟨hp.1, hp.2.1, hp.2.2.1, fun z => absurd hw z, hp.2.2.2⟩
  · obtain ⟨h1, h2⟩ := lp_readF (lo := lo) (hi := hi) (lo' := lo') (hi' := hi') h.1 hw
    exact ⟨_, _, h1, h2, SFr_r, RFr_r, AtB_fault h.1 hw, fun _ => hw, fun z => absurd z hw⟩
theorem lp_wantG (h : AtB S R b n j) {kr kc : Nat} (hk : kr ≤ 11) (hc : kc = tck kr) : zq (F_X6_want (kc : Int) S) (F_X12_needs (kr : Int) R) (fun S' R' => SFr S S' ∧ RFr R R' ∧ AtB S' R' b n (j + 1) ∧ (R.1 1 16 ≠ 0 → R'.1 1 16 ≠ 0)) := by
  by_cases hw : R.1 1 16 = 0
  · exact zq_mono (lp_want h hk hc) fun v u hp => ⟨hp.1, hp.2.1, hp.2.2, fun z => absurd hw z⟩
  · have hg := lp_goOn h.1
    obtain ⟨c1, c2, ⟨c3, c4, c5⟩, k, c6, c7⟩ := id h.1
    have hl := (tlast_b (b := b) (n := n)).1
    have hn := c2.1
    have hw3 : S.1 3 2 ≠ 0 := by rw [c3]; exact hw
    rw [if_neg (fun z => hw3 z.1)] at hg
    refine ⟨S, R, ?_, ?_, SFr_r, RFr_r, AtB_fault h.1 hw, fun _ => hw⟩
    · unfold F_X6_want
      rw [hg, Option.bind_some, if_pos (by omega), lp_blameN hw3]
      split <;> rfl
    · unfold F_X12_needs F_X12_is
      rw [if_neg hw, Option.bind_some, if_pos rfl, lp_failsN hw]
      rfl
/-- what is told so far -/
def Told (S R : ZS) (q : Nat) : Prop :=
  (R.1 1 16 = 0 → WayOK (R.2 1 5) (R.2 1 8) (R.2 1 9) (R.2 1 11) ∧ WayR (S.1 q) (S.2 q) (R.2 1 5) (R.2 1 8) (R.2 1 9) (R.2 1 11) ∧ R.1 1 19 = (if R.2 1 5 1 = 0 then 0 else 1) ∧ R.1 1 20 = S.1 q 11 ∧ (S.1 q 11 = 0 ∨ S.1 q 11 = 1)) ∧ (0 ≤ S.1 q 1 ∧ S.1 q 1 ≤ 10) ∧ (0 ≤ S.1 q 4 ∧ S.1 q 4 ≤ 19)
def SLf (q : Nat) (S S' : ZS) : Prop := (∀ r, r ≠ 3 → r ≠ q → S'.1 r = S.1 r) ∧ (∀ r, r ≠ q → S'.2 r = S.2 r) ∧ ∀ c, c ≠ 2 → c ≠ 3 → c ≠ 8 → S'.1 3 c = S.1 3 c
def RLf (R R' : ZS) : Prop := (∀ r, r ≠ 1 → R'.1 r = R.1 r) ∧ (∀ r, r ≠ 1 → R'.2 r = R.2 r) ∧ (∀ c, c < 11 ∨ c = 13 ∨ c = 18 ∨ 20 < c → R'.1 1 c = R.1 1 c) ∧ ∀ o, o ≠ 5 → o ≠ 8 → o ≠ 9 → o ≠ 11 → R'.2 1 o = R.2 1 o
theorem SLf_t {S1 S2 S3 : ZS} (h : SLf q S1 S2) (h2 : SLf q S2 S3) : SLf q S1 S3 := ⟨fun r a b => (h2.1 r a b).trans (h.1 r a b), fun r a => (h2.2.1 r a).trans (h.2.1 r a), fun c a1 a2 a3 => (h2.2.2 c a1 a2 a3).trans (h.2.2 c a1 a2 a3)⟩
theorem RLf_t {S1 S2 S3 : ZS} (h : RLf S1 S2) (h2 : RLf S2 S3) : RLf S1 S3 := ⟨fun r a => (h2.1 r a).trans (h.1 r a), fun r a => (h2.2.1 r a).trans (h.2.1 r a), fun c a => (h2.2.2.1 c a).trans (h.2.2.1 c a), fun o a1 a2 a3 a4 => (h2.2.2.2 o a1 a2 a3 a4).trans (h.2.2.2 o a1 a2 a3 a4)⟩
theorem SLf_of (h : SFr S S') : SLf q S S' := ⟨fun r a _ => h.2.1 r a, fun r _ => by rw [h.1], h.2.2⟩
theorem RLf_of (h : RFr R R') : RLf R R' := ⟨fun r a => h.2.1 r a, fun r _ => by rw [h.1], fun c a => h.2.2 c (by omega) (by omega) (by omega) (by omega) (by omega) (by omega), fun o _ _ _ _ => by rw [h.1]⟩
/-- the reference goes on to the token behind the keyword -/
theorem AtA_next (h : AtA S R b n j) (hw : R.1 1 16 = 0) (hk : tkd b n (tat b n j) ≠ 12 ∧ tkd b n (tat b n j) ≠ 13) : ∃ R', F_X12_next R = some R' ∧ RFr R R' ∧ R'.1 1 16 = 0 ∧ AtB S R' b n j := by
  obtain ⟨⟨c1, c2, ⟨c3, c4, c5⟩, c6⟩, h2⟩ := h
  obtain ⟨a1, a2, a3⟩ := h2 hw
  obtain ⟨R', r1, r2, r3, r4, r5⟩ := lp_nxt c2 a3
  have hjt : j < tlast b n := by
    rcases Nat.lt_or_ge j (tlast b n) with z | z
    · exact z
    · have : j = tlast b n := by omega
      have h3 := (tlast_b (b := b) (n := n)).2.1
      rw [← this] at h3
      exact absurd h3 (fun z => z.elim hk.1 hk.2)
  exact ⟨R', r1, r2, r3.trans hw, ⟨c1, RTape_fr c2 r2, FlR_nx ⟨c3, c4, c5⟩ r3 hw, c6⟩, fun _ => ⟨a1, hjt, r5⟩⟩
def LnQ (S R : ZS) (q : Nat) (b : Nat → Int) (n j : Nat) (S' R' : ZS) : Prop := SLf q S S' ∧ RLf R R' ∧ Told S' R' q ∧ ∃ j', j ≤ j' ∧ AtB S' R' b n j'
theorem LnQ_fault (hq : q ≠ 3) (hT : Told S R q) (h1 : SFr S S') (h2 : RFr R R') (hw : R'.1 1 16 ≠ 0) (hc : RdC S' R' b n) : LnQ S R q b n j S' R' := by
  refine ⟨SLf_of h1, RLf_of h2, ⟨fun z => absurd z hw, ?_, ?_⟩, j, Nat.le_refl j, AtB_fault hc hw⟩
  · rw [h1.2.1 q hq]; exact hT.2.1
  · rw [h1.2.1 q hq]; exact hT.2.2
theorem lp_line8 (hq : q = 19 ∨ q = 20) (hA : AtA S R b n j) (hw : R.1 1 16 = 0) (hk : tkd b n (tat b n j) = 3) (hT : Told S R q) : zq (F_X6_readEye q S) (F_X12_readsEye R) (LnQ S R q b n j) := by
  obtain ⟨t1, t2, t3⟩ := id hT
  obtain ⟨o1, o2, o3, o4, o5⟩ := t1 hw
  obtain ⟨g1, g2, g3, g4, g5, g6, g7, g8, g9⟩ := id o1
  obtain ⟨w0, w1, w2, w3, w4, w5, w6, w7, w8, w9⟩ := id o2
  have hq3 : q ≠ 3 := by omega
  obtain ⟨m, hm⟩ : ∃ m : Nat, R.2 1 5 7 = (m : Int) := ⟨_, (Int.toNat_of_nonneg g3.1).symm⟩
  unfold F_X6_readEye F_X12_readsEye
  by_cases c : m = 19
  · rw [if_neg (by omega), if_pos (by omega)]
    obtain ⟨S', R', s1, s2, s3, s4, s5, s6⟩ := lp_fault (f := 5) hA hw (by omega)
    have s1' : F_X6_blame 5 S = some S' := s1
    have s2' : F_X12_fails 5 R = some R' := s2
    rw [s1', s2', Option.bind_some, Option.bind_some]
    unfold F_X12_readsEye_17
    rw [if_neg s5]
    exact zq_some (LnQ_fault hq3 hT s3 s4 s5 s6)
  · rw [if_pos (by omega), if_neg (by omega)]
    unfold F_X12_readsEye_17
    obtain ⟨R2, r1, r2, r3, r4⟩ := AtA_next hA hw (by omega)
    rw [if_pos hw, r1, Option.bind_some]
    have e5 : R2.2 = R.2 := r2.1
    have f1 : zadd (m : Int) 1 = ((m + 1 : Nat) : Int) := by rw [zadd_ok (by omega) (by omega)]; rfl
    -- behind the number
    have tail : ∀ (lo : Int) (v u : Int × ZS), 1 ≤ lo → (∀ r, r + 1 = m → R.2 1 11 r < lo) → SFr S v.2 → RFr R2 u.2 → AtB v.2 u.2 b n (j + 1) → (u.2.1 1 16 = 0 → v.1 = u.1 ∧ lo ≤ u.1 ∧ u.1 ≤ R.2 1 5 0) →
        zq (if 0 ≤ (S.1 q 4) ∧ (S.1 q 4) < 19 then zlt (v.2.1, zuA v.2.2 q 6 (zset (v.2.2 q 6) (S.1 q 4).toNat v.1)) fun S5 => zlt (zup S5.1 q 4 (zadd (S5.1 q 4) 1), S5.2) fun S6 => some S6 else none)
          (if (u.2.1 1 16) = 0 then if 0 ≤ (u.2.2 1 5 7) ∧ (u.2.2 1 5 7) < 19 then zlt (u.2.1, zuA u.2.2 1 11 (zset (u.2.2 1 11) (u.2.2 1 5 7).toNat u.1)) fun S13 => zlt (S13.1, zuA S13.2 1 5 (zset (S13.2 1 5) 7 (zadd (S13.2 1 5 7) 1))) fun S14 => some S14 else none else some u.2) (LnQ S R q b n j) := by
      intro lo v u hlo hlo2 hv hu hB hx
      have v4 : v.2.1 q 4 = (m : Int) := by rw [hv.2.1 q hq3, w2]; exact hm
      have u5 : u.2.2 = R.2 := hu.1.trans e5
      have vl : SLf q S (zup v.2.1 q 4 ((m + 1 : Nat) : Int), zuA v.2.2 q 6 (zset (v.2.2 q 6) m v.1)) := by
        refine ⟨fun r h3 hr => by dsimp only; rw [zup_R hr]; exact hv.2.1 r h3, fun r hr => by dsimp only; rw [zuA_R hr, hv.1], fun c h1 h2 h3 => by dsimp only; rw [zup_r (fun z => hq3 z.symm)]; exact hv.2.2 c h1 h2 h3⟩
      rw [w2, hm, if_pos (by omega), Int.toNat_natCast]
      unfold zlt
      dsimp only
      rw [v4, f1]
      by_cases hw2 : u.2.1 1 16 = 0
      · obtain ⟨x1, x2, x3⟩ := hx hw2
        rw [if_pos hw2, u5, hm, if_pos (by omega), Int.toNat_natCast, zuA_o (show 5 ≠ 11 by decide), hm, f1]
        refine zq_some ⟨vl, ⟨fun r hr => ?_, fun r hr => ?_, fun c hc => ?_, fun o h1 h2 h3 h4 => ?_⟩, ⟨fun _ => ?_, ?_, ?_⟩, j + 1, by omega, AtB_up hB ?_ ?_ ?_ ?_⟩
        · dsimp only; rw [hu.2.1 r hr, r2.2.1 r hr]
        · dsimp only; rw [zuA_R hr, zuA_R hr]
        · dsimp only; rw [hu.2.2 c (by omega) (by omega) (by omega) (by omega) (by omega) (by omega), r2.2.2 c (by omega) (by omega) (by omega) (by omega) (by omega) (by omega)]
        · dsimp only; rw [zuA_o h1, zuA_o h4]
        · have hWW := WO_ey (m := m) (x := u.1) (Iw' := zup v.2.1 q 4 ((m + 1 : Nat) : Int) q) (Aw' := zuA v.2.2 q 6 (zset (v.2.2 q 6) m v.1) q) o1 o2 hm (by omega) (by omega) (fun r hr => by have := hlo2 r hr; omega) (fun k => by rw [zup_ap, hv.2.1 q hq3]; simp only [true_and]) (fun o i => by rw [hv.1, x1]; simp only [zuA_ap, zset_ap, true_and]; (repeat' split) <;> first | rfl | (exfalso; omega) | (subst_vars; rfl))
          dsimp only
          simp only [zuA_s, zuA_o (show (8 : Nat) ≠ 5 by decide), zuA_o (show (8 : Nat) ≠ 11 by decide), zuA_o (show (9 : Nat) ≠ 5 by decide), zuA_o (show (9 : Nat) ≠ 11 by decide), zuA_o (show (11 : Nat) ≠ 5 by decide), zset_n (show (1 : Nat) ≠ 7 by decide), zup_k (show (11 : Nat) ≠ 4 by decide)]
          rw [hv.2.1 q hq3, hu.2.2 19 (by decide) (by decide) (by decide) (by decide) (by decide) (by decide), hu.2.2 20 (by decide) (by decide) (by decide) (by decide) (by decide) (by decide), r2.2.2 19 (by decide) (by decide) (by decide) (by decide) (by decide) (by decide), r2.2.2 20 (by decide) (by decide) (by decide) (by decide) (by decide) (by decide)]
          exact ⟨hWW.1, hWW.2, o3, o4, o5⟩
        · dsimp only; rw [zup_k (by decide), hv.2.1 q hq3]; exact t2
        · dsimp only; rw [zup_s]; omega
        · dsimp only; rw [zup_R (fun z => hq3 z.symm)]
        · dsimp only; rw [zuA_R (fun z => hq3 z.symm)]
        · intro c _ _; rfl
        · dsimp only; rw [zuA_o (by decide), zuA_o (by decide), u5]
      · rw [if_neg hw2]
        refine zq_some ⟨vl, RLf_t (RLf_of r2) (RLf_of hu), ⟨fun z => absurd z hw2, ?_, ?_⟩, j + 1, by omega, AtB_up hB ?_ ?_ (fun c _ _ => rfl) rfl⟩
        · dsimp only; rw [zup_k (by decide), hv.2.1 q hq3]; exact t2
        · dsimp only; rw [zup_s]; omega
        · dsimp only; rw [zup_R (fun z => hq3 z.symm)]
        · dsimp only; rw [zuA_R (fun z => hq3 z.symm)]
    unfold F_X10_lastEyePlace
    rw [e5, hm]
    by_cases c0 : m = 0
    · rw [if_pos (by omega), if_pos (by omega), Option.bind_some, zadd_ok (x := 0) (by omega) (by omega), w0]
      exact zq_bind (lp_readN r4) fun v u hp => tail 1 v u (by omega) (fun r hr => by omega) hp.1 hp.2.1 hp.2.2.1 hp.2.2.2
    · have f2 : zsub (m : Int) 1 = ((m - 1 : Nat) : Int) := by rw [zsub_ok (by omega) (by omega)]; omega
      have hp1 := g7 (m - 1) (by omega)
      have hp9 := w9 (m - 1) (by omega)
      rw [if_neg (by omega), w2, hm, f2, if_pos (by omega), if_neg (by omega), if_pos (by omega), Int.toNat_natCast, Option.bind_some, hp9, zadd_ok (by omega) (by omega), w0]
      exact zq_bind (lp_readN r4) fun v u hp => by
        have ht := tail (R.2 1 11 (m - 1) + 1) v u (by omega) (fun r hr => by rw [show r = m - 1 by omega]; omega) hp.1 hp.2.1 hp.2.2.1 hp.2.2.2
        rw [w2, hm] at ht
        exact ht
theorem lp_line6 (hq : q = 19 ∨ q = 20) (hA : AtA S R b n j) (hw : R.1 1 16 = 0) (hk : tkd b n (tat b n j) = 1) (hT : Told S R q) : zq (F_X6_readRoller q S) (F_X12_readsRoller R) (LnQ S R q b n j) := by
  obtain ⟨t1, t2, t3⟩ := id hT
  obtain ⟨o1, o2, o3, o4, o5⟩ := t1 hw
  obtain ⟨g1, g2, g3, g4, g5, g6, g7, g8, g9⟩ := id o1
  obtain ⟨w0, w1, w2, w3, w4, w5, w6, w7, w8, w9⟩ := id o2
  have hq3 : q ≠ 3 := by omega
  obtain ⟨m, hm⟩ : ∃ m : Nat, R.2 1 5 6 = (m : Int) := ⟨_, (Int.toNat_of_nonneg g2.1).symm⟩
  unfold F_X6_readRoller F_X12_readsRoller
  by_cases c : m = 10
  · rw [if_neg (by omega), if_pos (by omega)]
    obtain ⟨S', R', s1, s2, s3, s4, s5, s6⟩ := lp_fault (f := 5) hA hw (by omega)
    have s1' : F_X6_blame 5 S = some S' := s1
    have s2' : F_X12_fails 5 R = some R' := s2
    rw [s1', s2', Option.bind_some, Option.bind_some]
    unfold F_X12_readsRoller_17
    rw [if_neg s5]
    exact zq_some (LnQ_fault hq3 hT s3 s4 s5 s6)
  · rw [if_pos (by omega), if_neg (by omega)]
    unfold F_X12_readsRoller_17
    obtain ⟨R2, r1, r2, r3, r4⟩ := AtA_next hA hw (by omega)
    rw [if_pos hw, r1, Option.bind_some]
    have e5 : R2.2 = R.2 := r2.1
    have f1 : zadd (m : Int) 1 = ((m + 1 : Nat) : Int) := by rw [zadd_ok (by omega) (by omega)]; rfl
    have fl : zsub (R.2 1 5 0) 1 = R.2 1 5 0 - 1 := zsub_ok (by omega) (by omega)
    have tail : ∀ (lo : Int) (v u : Int × ZS), 1 ≤ lo → (∀ r, r + 1 = m → R.2 1 8 r < lo) → SFr S v.2 → RFr R2 u.2 → AtB v.2 u.2 b n (j + 1) → (u.2.1 1 16 = 0 → v.1 = u.1 ∧ lo ≤ u.1 ∧ u.1 ≤ R.2 1 5 0 - 1) →
        zq (if 0 ≤ (S.1 q 1) ∧ (S.1 q 1) < 10 then zlt (v.2.1, zuA v.2.2 q 3 (zset (v.2.2 q 3) (S.1 q 1).toNat v.1)) fun S5 => (F_X6_want 7 S5).bind fun S6 => (F_X6_readNumber 1 9 S6).bind fun r7 => if 0 ≤ (S6.1 q 1) ∧ (S6.1 q 1) < 10 then zlt (r7.2.1, zuA r7.2.2 q 4 (zset (r7.2.2 q 4) (S6.1 q 1).toNat r7.1)) fun S9 => zlt (zup S9.1 q 1 (zadd (S9.1 q 1) 1), S9.2) fun S10 => some S10 else none else none)
          ((F_X12_needs 2 u.2).bind fun S15 => (F_X12_reads 1 9 S15).bind fun r16 => if (r16.2.1 1 16) = 0 then if 0 ≤ (r16.2.2 1 5 6) ∧ (r16.2.2 1 5 6) < 10 then zlt (r16.2.1, zuA r16.2.2 1 8 (zset (r16.2.2 1 8) (r16.2.2 1 5 6).toNat u.1)) fun S19 => if 0 ≤ (S19.2 1 5 6) ∧ (S19.2 1 5 6) < 10 then zlt (S19.1, zuA S19.2 1 9 (zset (S19.2 1 9) (S19.2 1 5 6).toNat r16.1)) fun S21 => zlt (S21.1, zuA S21.2 1 5 (zset (S21.2 1 5) 6 (zadd (S21.2 1 5 6) 1))) fun S22 => some S22 else none else none else some r16.2) (LnQ S R q b n j) := by
      intro lo v u hlo hlo2 hv hu hB hx
      have v1 : v.2.1 q 1 = (m : Int) := by rw [hv.2.1 q hq3, w1]; exact hm
      rw [w1, hm, if_pos (by omega), Int.toNat_natCast]
      unfold zlt
      dsimp only
      have hB1 : AtB (v.2.1, zuA v.2.2 q 3 (zset (v.2.2 q 3) m v.1)) u.2 b n (j + 1) := AtB_up hB rfl (by dsimp only; rw [zuA_R (fun z => hq3 z.symm)]) (fun c _ _ => rfl) rfl
      refine zq_bind (lp_wantG (kr := 2) (kc := 7) hB1 (by omega) rfl) fun S6 R6 hp6 => ?_
      obtain ⟨p1, p2, p3, p4⟩ := hp6
      refine zq_bind (lp_readG (lo := 1) (hi := 9) (lo' := 1) (hi' := 9) p3 (fun _ => ⟨rfl, rfl⟩)) fun v7 u7 hp7 => ?_
      obtain ⟨q1, q2, q3, q4, q5⟩ := hp7
      have s61 : S6.1 q 1 = (m : Int) := by rw [p1.2.1 q hq3]; exact v1
      have v71 : v7.2.1 q 1 = (m : Int) := by rw [q1.2.1 q hq3]; exact s61
      have v7A : v7.2.2 = zuA S.2 q 3 (zset (S.2 q 3) m v.1) := by rw [q1.1, p1.1]; dsimp only; rw [hv.1]
      have u7A : u7.2.2 = R.2 := by rw [q2.1, p2.1, hu.1]; exact e5
      have v7I : ∀ k, v7.2.1 q k = S.1 q k := fun k => by rw [q1.2.1 q hq3, p1.2.1 q hq3]; dsimp only; rw [hv.2.1 q hq3]
      have hSF : ∀ r, r ≠ 3 → v7.2.1 r = S.1 r := fun r hr => by rw [q1.2.1 r hr, p1.2.1 r hr]; exact hv.2.1 r hr
      have vl : SLf q S (zup v7.2.1 q 1 ((m + 1 : Nat) : Int), zuA v7.2.2 q 4 (zset (v7.2.2 q 4) m v7.1)) := by
        refine ⟨fun r h3 hr => by dsimp only; rw [zup_R hr]; exact hSF r h3, fun r hr => by dsimp only; rw [zuA_R hr, v7A, zuA_R hr], fun c h1 h2 h3 => by dsimp only; rw [zup_r (fun z => hq3 z.symm), q1.2.2 c h1 h2 h3, p1.2.2 c h1 h2 h3]; exact hv.2.2 c h1 h2 h3⟩
      have hRl : RLf R u7.2 := RLf_t (RLf_of r2) (RLf_t (RLf_of hu) (RLf_t (RLf_of p2) (RLf_of q2)))
      rw [s61, if_pos (by omega), Int.toNat_natCast, v71, f1]
      by_cases hw2 : u7.2.1 1 16 = 0
      · have hwu6 : R6.1 1 16 = 0 := Decidable.byContradiction fun z => q4 z hw2
        have hwu : u.2.1 1 16 = 0 := Decidable.byContradiction fun z => p4 z hwu6
        obtain ⟨x1, x2, x3⟩ := hx hwu
        obtain ⟨y1, y2, y3⟩ := q5 hw2
        have e56 : ∀ g, zuA R.2 1 8 g 1 5 6 = (m : Int) := fun g => by rw [zuA_o (by decide)]; exact hm
        have e59 : ∀ g g', zuA (zuA R.2 1 8 g) 1 9 g' 1 5 6 = (m : Int) := fun g g' => by rw [zuA_o (by decide), zuA_o (by decide)]; exact hm
        rw [if_pos hw2]
        simp only [u7A, hm, e56, e59, Int.toNat_natCast, f1]
        rw [if_pos (by omega), if_pos (by omega)]
        refine zq_some ⟨vl, ⟨hRl.1, fun r hr => ?_, hRl.2.2.1, fun o h1 h2 h3 h4 => ?_⟩, ⟨fun _ => ?_, ?_, ?_⟩, j + 1 + 1 + 1, by omega, AtB_up q3 ?_ ?_ (fun c _ _ => rfl) ?_⟩
        · dsimp only; rw [zuA_R hr, zuA_R hr, zuA_R hr]
        · dsimp only; rw [zuA_o h1, zuA_o h3, zuA_o h2]
        · have hWW := WO_ro (m := m) (x := u.1) (v := u7.1) (Iw' := zup v7.2.1 q 1 ((m + 1 : Nat) : Int) q) (Aw' := zuA v7.2.2 q 4 (zset (v7.2.2 q 4) m v7.1) q) o1 o2 hm (by omega) (by omega) (fun r hr => by have := hlo2 r hr; omega) ⟨y2, y3⟩ (fun k => by rw [zup_ap, v7I]; simp only [true_and])
            (fun o i => by
              rw [v7A, x1, y1]
              simp only [zuA_ap, zset_ap, true_and, Nat.reduceEqDiff, reduceIte]
              (repeat' split) <;> first | rfl | (exfalso; omega) | (subst_vars; rfl))
          have c19 : u7.2.1 1 19 = R.1 1 19 := by rw [q2.2.2 19 (by decide) (by decide) (by decide) (by decide) (by decide) (by decide), p2.2.2 19 (by decide) (by decide) (by decide) (by decide) (by decide) (by decide), hu.2.2 19 (by decide) (by decide) (by decide) (by decide) (by decide) (by decide), r2.2.2 19 (by decide) (by decide) (by decide) (by decide) (by decide) (by decide)]
          have c20 : u7.2.1 1 20 = R.1 1 20 := by rw [q2.2.2 20 (by decide) (by decide) (by decide) (by decide) (by decide) (by decide), p2.2.2 20 (by decide) (by decide) (by decide) (by decide) (by decide) (by decide), hu.2.2 20 (by decide) (by decide) (by decide) (by decide) (by decide) (by decide), r2.2.2 20 (by decide) (by decide) (by decide) (by decide) (by decide) (by decide)]
          dsimp only
          have z5 : zuA (zuA R.2 1 8 (zset (R.2 1 8) m u.1)) 1 9 (zset (zuA R.2 1 8 (zset (R.2 1 8) m u.1) 1 9) m u7.1) 1 5 = R.2 1 5 := by rw [zuA_o (by decide), zuA_o (by decide)]
          simp only [z5, zuA_s, zuA_o (show (8 : Nat) ≠ 5 by decide), zuA_o (show (8 : Nat) ≠ 9 by decide), zuA_o (show (9 : Nat) ≠ 5 by decide), zuA_o (show (9 : Nat) ≠ 8 by decide), zuA_o (show (11 : Nat) ≠ 5 by decide), zuA_o (show (11 : Nat) ≠ 9 by decide), zuA_o (show (11 : Nat) ≠ 8 by decide), zset_n (show (1 : Nat) ≠ 6 by decide), zup_k (show (11 : Nat) ≠ 1 by decide)]
          rw [v7I, c19, c20]
          exact ⟨hWW.1, hWW.2, o3, o4, o5⟩
        · dsimp only; rw [zup_s]; omega
        · dsimp only; rw [zup_k (by decide), v7I]; exact t3
        · dsimp only; rw [zup_R (fun z => hq3 z.symm)]
        · dsimp only; rw [zuA_R (fun z => hq3 z.symm)]
        · dsimp only; rw [zuA_o (by decide), zuA_o (by decide), zuA_o (by decide), u7A]
      · rw [if_neg hw2]
        refine zq_some ⟨vl, hRl, ⟨fun z => absurd z hw2, ?_, ?_⟩, j + 1 + 1 + 1, by omega, AtB_up q3 ?_ ?_ (fun c _ _ => rfl) rfl⟩
        · dsimp only; rw [zup_s]; omega
        · dsimp only; rw [zup_k (by decide), v7I]; exact t3
        · dsimp only; rw [zup_R (fun z => hq3 z.symm)]
        · dsimp only; rw [zuA_R (fun z => hq3 z.symm)]
    unfold F_X10_lastRollerPlace
    rw [e5, hm]
    by_cases c0 : m = 0
    · rw [if_pos (by omega), if_pos (by omega), Option.bind_some, zadd_ok (x := 0) (by omega) (by omega), w0, fl]
      exact zq_bind (lp_readN r4) fun v u hp => tail 1 v u (by omega) (fun r hr => by omega) hp.1 hp.2.1 hp.2.2.1 hp.2.2.2
    · have f2 : zsub (m : Int) 1 = ((m - 1 : Nat) : Int) := by rw [zsub_ok (by omega) (by omega)]; omega
      have hp1 := g6 (m - 1) (by omega)
      have hp9 := (w8 (m - 1) (by omega)).1
      rw [if_neg (by omega), w1, hm, f2, if_pos (by omega), if_neg (by omega), if_pos (by omega), Int.toNat_natCast, Option.bind_some, hp9, zadd_ok (by omega) (by omega), w0, fl]
      exact zq_bind (lp_readN r4) fun v u hp => by
        have ht := tail (R.2 1 8 (m - 1) + 1) v u (by omega) (fun r hr => by rw [show r = m - 1 by omega]; omega) hp.1 hp.2.1 hp.2.2.1 hp.2.2.2
        rw [w1, hm] at ht
        exact ht
end LINES
