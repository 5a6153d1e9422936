/-! reading side by side: a number, a word -/
def zq {α β : Type} (F : Option α) (G : Option β) (Q : α → β → Prop) : Prop := ∃ a b, F = some a ∧ G = some b ∧ Q a b
section ZQ
variable {α β γ δ : Type} {F : Option α} {G : Option β} {P : α → β → Prop} {k : α → Option γ} {l : β → Option δ} {Q : γ → δ → Prop}
theorem zq_bind (h : zq F G P) (hk : ∀ a b, P a b → zq (k a) (l b) Q) : zq (F.bind k) (G.bind l) Q := by
  obtain ⟨a, b, rfl, rfl, hp⟩ := h
  exact hk a b hp
theorem zq_mono {P' : α → β → Prop} (h : zq F G P) (hk : ∀ a b, P a b → P' a b) : zq F G P' := by
  obtain ⟨a, b, h1, h2, h3⟩ := h
  exact ⟨a, b, h1, h2, hk a b h3⟩
theorem zq_bindl {Q : γ → β → Prop} (h : zq F G P) (hk : ∀ a b, P a b → zq (k a) (some b) Q) : zq (F.bind k) G Q := by
  obtain ⟨a, b, rfl, rfl, hp⟩ := h
  exact hk a b hp
theorem zq_bindr {Q : α → δ → Prop} (h : zq F G P) (hk : ∀ a b, P a b → zq (some a) (l b) Q) : zq F (G.bind l) Q := by
  obtain ⟨a, b, rfl, rfl, hp⟩ := h
  exact hk a b hp
theorem zq_some {a : α} {b : β} (h : P a b) : zq (some a) (some b) P := ⟨a, b, rfl, rfl, h⟩
end ZQ
section READ
variable {S R : ZS} {b : Nat → Int} {n j kr kc f : Nat} {lo hi : Int}
def CTok (S : ZS) (b : Nat → Int) (n : Nat) : Prop := S.1 3 7 = ((tlast b n + 1 : Nat) : Int) ∧ TRow S b n (tlast b n + 1)
def TkS (R : ZS) (b : Nat → Int) (n j : Nat) : Prop := R.1 1 11 = (tat b n j : Int) ∧ R.1 1 12 = (tbh b n (tat b n j) : Int) ∧ R.1 1 14 = (tkd b n (tat b n j) : Int) ∧ (tkd b n (tat b n j) = 10 → R.1 1 15 = tnm b n j)
def SFr (S S' : ZS) : Prop := S'.2 = S.2 ∧ (∀ r, r ≠ 3 → S'.1 r = S.1 r) ∧ ∀ c, c ≠ 2 → c ≠ 3 → c ≠ 8 → S'.1 3 c = S.1 3 c
def RFr (R R' : ZS) : Prop := R'.2 = R.2 ∧ (∀ r, r ≠ 1 → R'.1 r = R.1 r) ∧ ∀ c, c ≠ 11 → c ≠ 12 → c ≠ 14 → c ≠ 15 → c ≠ 16 → c ≠ 17 → R'.1 1 c = R.1 1 c
theorem SFr_r : SFr S S := ⟨rfl, fun _ _ => rfl, fun _ _ _ _ => rfl⟩
theorem RFr_r : RFr R R := ⟨rfl, fun _ _ => rfl, fun _ _ _ _ _ _ _ => rfl⟩
theorem SFr_t {S1 S2 S3 : ZS} (h : SFr S1 S2) (h2 : SFr S2 S3) : SFr S1 S3 := ⟨h2.1.trans h.1, fun r hr => (h2.2.1 r hr).trans (h.2.1 r hr), fun c a1 a2 a3 => (h2.2.2 c a1 a2 a3).trans (h.2.2 c a1 a2 a3)⟩
theorem RFr_t {S1 S2 S3 : ZS} (h : RFr S1 S2) (h2 : RFr S2 S3) : RFr S1 S3 := ⟨h2.1.trans h.1, fun r hr => (h2.2.1 r hr).trans (h.2.1 r hr), fun c a1 a2 a3 a4 a5 a6 => (h2.2.2 c a1 a2 a3 a4 a5 a6).trans (h.2.2 c a1 a2 a3 a4 a5 a6)⟩
/-- the fault, the same on both sides -/
def FlR (S R : ZS) : Prop := S.1 3 2 = R.1 1 16 ∧ (R.1 1 16 ≠ 0 → S.1 3 3 = R.1 1 17) ∧ (0 ≤ R.1 1 16 ∧ R.1 1 16 ≤ 5) ∧ (R.1 1 16 = 0 → S.1 3 3 = -1)
theorem FlR_nx {S R R' : ZS} (h : FlR S R) (r3 : R'.1 1 16 = R.1 1 16) (hw : R.1 1 16 = 0) : FlR S R' := ⟨by rw [r3]; exact h.1, fun z => absurd (r3.trans hw) z, by rw [r3]; exact h.2.2.1, fun _ => h.2.2.2 hw⟩
/-- what holds in any case -/
def RdC (S R : ZS) (b : Nat → Int) (n : Nat) : Prop := CTok S b n ∧ RTape R b n ∧ FlR S R ∧ ∃ k : Nat, S.1 3 8 = (k : Int) ∧ k ≤ tlast b n
/-- token j is behind the class, the reference is at the next one -/
def AtB (S R : ZS) (b : Nat → Int) (n j : Nat) : Prop := RdC S R b n ∧ (R.1 1 16 = 0 → S.1 3 8 = (j : Int) ∧ j < tlast b n ∧ TkS R b n (j + 1))
def AtA (S R : ZS) (b : Nat → Int) (n j : Nat) : Prop := RdC S R b n ∧ (R.1 1 16 = 0 → S.1 3 8 = (j : Int) ∧ j ≤ tlast b n ∧ TkS R b n j)
theorem tck_inj : ∀ a, a < 14 → ∀ b, b < 14 → tck a = tck b → a = b := by decide +kernel
theorem lp_goOn (h : RdC S R b n) : F_X6_goOn S = some (if S.1 3 2 = 0 ∧ S.1 3 8 < (tlast b n : Int) then (zup S.1 3 8 (S.1 3 8 + 1), S.2) else S) := by
  obtain ⟨⟨c1, _⟩, ⟨h0, _⟩, _, k, hk, hkt⟩ := h
  have hl := (tlast_b (b := b) (n := n)).1
  unfold F_X6_goOn
  rw [c1, hk, zsub_ok (by omega) (by omega), zadd_ok (by omega) (by omega)]
  by_cases c : S.1 3 2 = 0
  · rw [if_pos c]
    by_cases d : k < tlast b n
    · rw [if_pos (by omega), if_pos ⟨c, by omega⟩]; rfl
    · rw [if_neg (by omega), if_neg (by omega)]
  · rw [if_neg c, if_neg (fun z => c z.1)]
theorem CTok_fr {S' : ZS} (h : CTok S b n) (hs : SFr S S') : CTok S' b n := by
  obtain ⟨a, d⟩ := h
  refine ⟨by rw [hs.2.2 7 (by decide) (by decide) (by decide)]; exact a, ?_⟩
  unfold TRow at d ⊢
  rw [hs.1]
  exact d
theorem RTape_fr {R' : ZS} (h : RTape R b n) (hs : RFr R R') : RTape R' b n := by
  obtain ⟨a, c, d⟩ := h
  refine ⟨a, by rw [hs.2.2 13 (by decide) (by decide) (by decide) (by decide) (by decide) (by decide)]; exact c, ?_⟩
  rw [hs.1]
  exact d
theorem RTok_fr {A : Nat} {R' : ZS} (h : RTok R R' b n A) : RFr R R' := ⟨h.1, h.2.1, fun c a1 a2 a3 a4 _ _ => h.2.2.1 c a1 a2 a3 a4⟩
/-- the reference's next token behind token j -/
theorem lp_nxt (h : RTape R b n) (ht : TkS R b n j) : zp (F_X12_next R) (fun V => RFr R V ∧ V.1 1 16 = R.1 1 16 ∧ V.1 1 17 = R.1 1 17 ∧ TkS V b n (j + 1)) := by
  refine zp_mono (lp_next12 h ht.2.1 (tbh_b (tat_b j).1).2.1) fun V hV => ⟨RTok_fr hV, hV.2.2.1 16 (by decide) (by decide) (by decide) (by decide), hV.2.2.1 17 (by decide) (by decide) (by decide) (by decide), hV.2.2.2⟩
theorem lp_fails (hw : R.1 1 16 = 0) (hk : R.1 1 14 = (kr : Int)) : F_X12_fails (f : Int) R = some (zup (zup R.1 1 16 (if kr = 13 then 1 else (f : Int))) 1 17 (R.1 1 11), R.2) := by
  unfold F_X12_fails
  rw [if_pos hw, hk]
  by_cases c : kr = 13
  · rw [if_pos (by omega), if_pos c]
    unfold zlt
    dsimp only
    rw [zup_k (by decide)]
  · rw [if_neg (by omega), if_neg c]
    unfold zlt
    dsimp only
    rw [zup_k (by decide)]
theorem lp_failsN (hw : R.1 1 16 ≠ 0) {x : Int} : F_X12_fails x R = some R := by
  unfold F_X12_fails
  rw [if_neg hw]
theorem lp_blameN (hw : S.1 3 2 ≠ 0) {x : Int} : F_X6_blame x S = some S := by
  unfold F_X6_blame
  rw [if_neg hw]
theorem lp_blame (hw : S.1 3 2 = 0) (hc : CTok S b n) (h8 : S.1 3 8 = (j : Int)) (hj : j ≤ tlast b n) (hn : n ≤ 400) : F_X6_blame (f : Int) S = some (zup (zup S.1 3 2 (if tkd b n (tat b n j) = 13 then 1 else (f : Int))) 3 3 (tat b n j : Int), S.2) := by
  obtain ⟨c1, c2⟩ := hc
  obtain ⟨d1, d2, d3⟩ := c2 j (by omega)
  have hl := (tlast_b (b := b) (n := n)).1
  have h13 := tkd_13 (b := b) (n := n) (tat b n j)
  have e8 : ∀ x, zup S.1 3 2 x 3 8 = (j : Int) := fun x => by rw [zup_k (by decide)]; exact h8
  unfold F_X6_blame
  rw [if_pos hw, h8, if_pos (by omega), Int.toNat_natCast, d1]
  by_cases c : tkd b n (tat b n j) = 13
  · rw [if_pos (by rw [c]; rfl), if_pos c]
    unfold zlt
    dsimp only
    simp only [e8, Int.toNat_natCast, d2]
    rw [if_pos (by omega)]
  · rw [if_neg (fun z => c (tck_1 (by omega))), if_neg c]
    unfold zlt
    dsimp only
    simp only [e8, Int.toNat_natCast, d2]
    rw [if_pos (by omega)]
/-- both are faulty at token j -/
theorem lp_fault (hA : AtA S R b n j) (hw : R.1 1 16 = 0) (hf : 2 ≤ f ∧ f ≤ 5) : zq (F_X6_blame (f : Int) S) (F_X12_fails (f : Int) R) (fun S' R' => SFr S S' ∧ RFr R R' ∧ R'.1 1 16 ≠ 0 ∧ RdC S' R' b n) := by
  obtain ⟨⟨c1, c2, ⟨c3, c4, c5⟩, c6⟩, hA2⟩ := hA
  obtain ⟨a1, a2, a3⟩ := hA2 hw
  have hn := c2.1
  refine ⟨_, _, lp_blame (by rw [c3]; exact hw) c1 a1 a2 hn, lp_fails hw a3.2.2.1, ⟨rfl, fun r hr => by dsimp only; rw [zup_R hr, zup_R hr], fun c h1 h2 h3 => by dsimp only; rw [zup_k h2, zup_k h1]⟩, ⟨rfl, fun r hr => by dsimp only; rw [zup_R hr, zup_R hr], fun c h1 h2 h3 h4 h5 h6 => by dsimp only; rw [zup_k h6, zup_k h5]⟩, ?_, ?_⟩
  · dsimp only
    rw [zup_k (by decide), zup_s]
    split <;> omega
  · refine ⟨⟨by dsimp only; rw [zup_k (by decide), zup_k (by decide)]; exact c1.1, c1.2⟩, ⟨hn, by dsimp only; rw [zup_k (by decide), zup_k (by decide)]; exact c2.2.1, c2.2.2⟩, ⟨?_, fun _ => ?_, ?_, fun z => ?_⟩, j, ?_, a2⟩
    · dsimp only
      rw [zup_k (by decide), zup_s, zup_k (by decide), zup_s]
    · dsimp only
      rw [zup_s, zup_s, a3.1]
    · dsimp only
      rw [zup_k (by decide), zup_s]
      split <;> omega
    · dsimp only at z
      rw [zup_k (by decide), zup_s] at z
      split at z <;> omega
    · dsimp only
      rw [zup_k (by decide), zup_k (by decide)]
      exact a1
theorem AtB_fault (h : RdC S R b n) (hw : R.1 1 16 ≠ 0) : AtB S R b n j := ⟨h, fun z => absurd z hw⟩
/-- the class goes on to the token that the reference is at -/
theorem AtB_go (h : AtB S R b n j) (hw : R.1 1 16 = 0) : ∃ S', F_X6_goOn S = some S' ∧ SFr S S' ∧ S'.1 3 2 = 0 ∧ AtA S' R b n (j + 1) := by
  obtain ⟨c, h2⟩ := h
  obtain ⟨a1, a2, a3⟩ := h2 hw
  have hg := lp_goOn c
  obtain ⟨c1, c2, ⟨c3, c4, c5⟩, c6⟩ := c
  rw [if_pos ⟨by rw [c3]; exact hw, by omega⟩] at hg
  have hfr : SFr S (zup S.1 3 8 (S.1 3 8 + 1), S.2) := ⟨rfl, fun r hr => zup_R hr, fun c _ _ h3 => zup_k h3⟩
  refine ⟨_, hg, hfr, by dsimp only; rw [zup_k (by decide), c3]; exact hw, ⟨CTok_fr c1 hfr, c2, ⟨by dsimp only; rw [zup_k (by decide)]; exact c3, fun z => absurd hw z, c5.1, fun z => by dsimp only; rw [zup_k (by decide)]; exact c5.2 z⟩, j + 1, by dsimp only; rw [zup_s, a1]; rfl, a2⟩, fun _ => ⟨by dsimp only; rw [zup_s, a1]; rfl, a2, a3⟩⟩
theorem AtA_kind (h : AtA S R b n j) (hw : R.1 1 16 = 0) : 0 ≤ S.1 3 8 ∧ S.1 3 8 < 401 ∧ S.2 3 5 (S.1 3 8).toNat = (tck (tkd b n (tat b n j)) : Int) := by
  obtain ⟨⟨c1, c2, c3, c4⟩, h2⟩ := h
  obtain ⟨a1, a2, a3⟩ := h2 hw
  have hl := (tlast_b (b := b) (n := n)).1
  have := c2.1
  rw [a1, Int.toNat_natCast]
  exact ⟨by omega, by omega, (c1.2 j (by omega)).1⟩
theorem lp_want (h : AtB S R b n j) (hk : kr ≤ 11) (hc : kc = tck kr) : zq (F_X6_want (kc : Int) S) (F_X12_needs (kr : Int) R) (fun S' R' => SFr S S' ∧ RFr R R' ∧ AtB S' R' b n (j + 1)) := by
  have h0 := h
  obtain ⟨c, h2⟩ := h
  have hg := lp_goOn c
  obtain ⟨c1, c2, ⟨c3, c4, c5⟩, k, c6, c7⟩ := id c
  have hl := (tlast_b (b := b) (n := n)).1
  have hn := c2.1
  unfold F_X6_want F_X12_needs F_X12_is
  by_cases hw : R.1 1 16 = 0
  · obtain ⟨S', g1, g2, g3, g4⟩ := AtB_go h0 hw
    obtain ⟨a1, a2, a3⟩ := h2 hw
    obtain ⟨k1, k2, k3⟩ := AtA_kind g4 hw
    rw [g1, Option.bind_some, if_pos ⟨k1, k2⟩, k3, if_pos hw, a3.2.2.1]
    by_cases e : tkd b n (tat b n (j + 1)) = kr
    · rw [e, hc, if_pos rfl, if_pos rfl]
      obtain ⟨R', r1, r2, r3, r4, r5⟩ := lp_nxt c2 a3
      have hjt : j + 1 < tlast b n := by
        rcases Nat.lt_or_ge (j + 1) (tlast b n) with z | z
        · exact z
        · have : j + 1 = tlast b n := by omega
          have h3 := (tlast_b (b := b) (n := n)).2.1
          rw [← this, e] at h3
          omega
      refine ⟨_, _, rfl, ?_, g2, r2, ⟨⟨g4.1.1, RTape_fr c2 r2, FlR_nx g4.1.2.2.1 r3 hw, g4.1.2.2.2⟩, fun _ => ⟨(g4.2 hw).1, hjt, r5⟩⟩⟩
      rw [Option.bind_some, if_neg (by decide), r1]
      rfl
    · have h13 := tkd_13 (b := b) (n := n) (tat b n (j + 1))
      have e2 : ¬ (tck (tkd b n (tat b n (j + 1))) : Int) = (kc : Int) := fun z => e (tck_inj _ (by omega) _ (by omega) (by omega))
      rw [if_neg e2, if_neg (by omega), Option.bind_some, if_pos rfl]
      obtain ⟨S'', R', s1, s2, s3, s4, s5, s6⟩ := lp_fault (f := 2) g4 hw (by omega)
      refine ⟨S'', R', ?_, ?_, SFr_t g2 s3, s4, AtB_fault s6 s5⟩
      · show (F_X6_blame ((2 : Nat) : Int) S').bind _ = _
        rw [s1]
        rfl
      · show (F_X12_fails ((2 : Nat) : Int) R).bind _ = _
        rw [s2]
        rfl
  · have hw3 : S.1 3 2 ≠ 0 := by rw [c3]; exact hw
    rw [if_neg (fun z => hw3 z.1)] at hg
    rw [hg, Option.bind_some, if_pos (by omega), if_neg hw, Option.bind_some, if_pos rfl, lp_failsN hw, lp_blameN hw3]
    refine ⟨S, R, ?_, rfl, SFr_r, RFr_r, AtB_fault c hw⟩
    split <;> rfl
theorem lp_readN (h : AtB S R b n j) : zq (F_X6_readNumber lo hi S) (F_X12_reads lo hi R) (fun v u => SFr S v.2 ∧ RFr R u.2 ∧ AtB v.2 u.2 b n (j + 1) ∧ (u.2.1 1 16 = 0 → v.1 = u.1 ∧ lo ≤ u.1 ∧ u.1 ≤ hi)) := by
  have h0 := h
  obtain ⟨c, h2⟩ := h
  have hg := lp_goOn c
  obtain ⟨c1, c2, ⟨c3, c4, c5⟩, k, c6, c7⟩ := id c
  have hl := (tlast_b (b := b) (n := n)).1
  have hn := c2.1
  unfold F_X6_readNumber F_X6_want F_X12_reads F_X12_is
  by_cases hw : R.1 1 16 = 0
  · obtain ⟨S', g1, g2, g3, g4⟩ := AtB_go h0 hw
    obtain ⟨a1, a2, a3⟩ := h2 hw
    obtain ⟨k1, k2, k3⟩ := AtA_kind g4 hw
    rw [g1, Option.bind_some, if_pos ⟨k1, k2⟩, k3, if_pos hw, a3.2.2.1]
    by_cases e : tkd b n (tat b n (j + 1)) = 10
    · have hjt : j + 1 < tlast b n := by
        rcases Nat.lt_or_ge (j + 1) (tlast b n) with z | z
        · exact z
        · have : j + 1 = tlast b n := by omega
          have h3 := (tlast_b (b := b) (n := n)).2.1
          rw [← this, e] at h3
          omega
      have hval : S'.2 3 7 (S'.1 3 8).toNat = tnm b n (j + 1) := by
        rw [(g4.2 hw).1, Int.toNat_natCast]
        exact (g4.1.1.2 (j + 1) (by omega)).2.2 e
      rw [e, if_pos (show (tck 10 : Int) = 2 from rfl), if_pos (show ((10 : Nat) : Int) = 10 from rfl), Option.bind_some, Option.bind_some, if_pos g3, if_pos ⟨k1, k2⟩, hval, if_neg (show ¬((1 : Int) = 0) by decide), a3.2.2.2 e, F12_within, Option.bind_some]
      have hout : ¬(lo ≤ tnm b n (j + 1) ∧ tnm b n (j + 1) ≤ hi) → zq (F_X6_readNumber_38 S') ((F_X12_fails 3 R).bind fun S7 => F_X12_reads_37 S7) (fun v u => SFr S v.2 ∧ RFr R u.2 ∧ AtB v.2 u.2 b n (j + 1) ∧ (u.2.1 1 16 = 0 → v.1 = u.1 ∧ lo ≤ u.1 ∧ u.1 ≤ hi)) := by
        intro _
        obtain ⟨S'', R', s1, s2, s3, s4, s5, s6⟩ := lp_fault (f := 3) g4 hw (by omega)
        have s7 : S''.1 3 2 ≠ 0 := by rw [s6.2.2.1.1]; exact s5
        refine ⟨(0, S''), (R'.1 1 15, R'), ?_, ?_, SFr_t g2 s3, s4, AtB_fault s6 s5, fun z => absurd z s5⟩
        · unfold F_X6_readNumber_38
          show (F_X6_blame ((3 : Nat) : Int) S').bind _ = _
          rw [s1, Option.bind_some]
          unfold F_X6_readNumber_43
          rw [if_neg s7]
        · show (F_X12_fails ((3 : Nat) : Int) R).bind _ = _
          rw [s2, Option.bind_some]
          unfold F_X12_reads_37
          rw [if_neg s5]
      by_cases d : lo ≤ tnm b n (j + 1) ∧ tnm b n (j + 1) ≤ hi
      · rw [if_neg (by omega), if_neg (by omega), if_pos d, if_neg (by decide)]
        obtain ⟨R', r1, r2, r3, r4, r5⟩ := lp_nxt c2 a3
        refine ⟨(tnm b n (j + 1), S'), (tnm b n (j + 1), R'), ?_, ?_, g2, r2, ⟨⟨g4.1.1, RTape_fr c2 r2, FlR_nx g4.1.2.2.1 r3 hw, g4.1.2.2.2⟩, fun _ => ⟨(g4.2 hw).1, hjt, r5⟩⟩, fun _ => ⟨rfl, d.1, d.2⟩⟩
        · unfold F_X6_readNumber_43
          rw [if_pos g3, if_pos ⟨k1, k2⟩, hval]
        · unfold F_X12_reads_37
          rw [if_pos hw, r1, Option.bind_some, a3.2.2.2 e]
      · rw [if_neg d, if_pos rfl]
        by_cases d1 : tnm b n (j + 1) < lo
        · rw [if_pos d1]; exact hout d
        · rw [if_neg d1, if_pos (by omega)]; exact hout d
    · have h13 := tkd_13 (b := b) (n := n) (tat b n (j + 1))
      have e2 : ¬ (tck (tkd b n (tat b n (j + 1))) : Int) = 2 := fun z => e (tck_inj _ (by omega) 10 (by omega) (by show _ = 2; omega))
      obtain ⟨S'', R', s1, s2, s3, s4, s5, s6⟩ := lp_fault (f := 2) g4 hw (by omega)
      have s7 : S''.1 3 2 ≠ 0 := by rw [s6.2.2.1.1]; exact s5
      have s1' : F_X6_blame 2 S' = some S'' := s1
      have s2' : F_X12_fails 2 R = some R' := s2
      rw [if_neg e2, if_neg (by omega), Option.bind_some, if_pos rfl, s1', s2', Option.bind_some, Option.bind_some, Option.bind_some, if_neg s7]
      refine ⟨(0, S''), (R'.1 1 15, R'), ?_, ?_, SFr_t g2 s3, s4, AtB_fault s6 s5, fun z => absurd z s5⟩
      · unfold F_X6_readNumber_43
        rw [if_neg s7]
      · unfold F_X12_reads_37
        rw [if_neg s5]
  · have hw3 : S.1 3 2 ≠ 0 := by rw [c3]; exact hw
    rw [if_neg (fun z => hw3 z.1)] at hg
    have hwant : (if S.2 3 5 (S.1 3 8).toNat = 2 then some S else (F_X6_blame 2 S).bind fun S4 => some S4) = some S := by
      rw [lp_blameN hw3]
      split <;> rfl
    rw [hg, Option.bind_some, if_pos (by omega), hwant, Option.bind_some, if_neg hw3, if_neg hw, Option.bind_some, if_pos rfl, lp_failsN hw, Option.bind_some]
    refine ⟨(0, S), (R.1 1 15, R), ?_, ?_, SFr_r, RFr_r, AtB_fault c hw, fun z => absurd z hw⟩
    · unfold F_X6_readNumber_43
      rw [if_neg hw3]
    · unfold F_X12_reads_37
      rw [if_neg hw]
/-- the end of a line -/
theorem lp_eol (h : AtB S R b n j) : zq ((F_X6_want 3 S).bind fun S2 => (F_X6_goOn S2).bind fun S3 => some S3) (F_X12_needs 11 R) (fun S' R' => SFr S S' ∧ RFr R R' ∧ AtA S' R' b n (j + 2)) := by
  refine zq_bindl (lp_want (kr := 11) (kc := 3) h (by omega) rfl) fun S' R' hp => ?_
  obtain ⟨s1, s2, s3⟩ := hp
  by_cases hw : R'.1 1 16 = 0
  · obtain ⟨S'', g1, g2, g3, g4⟩ := AtB_go s3 hw
    rw [g1, Option.bind_some]
    exact zq_some ⟨SFr_t s1 g2, s2, g4⟩
  · have hg := lp_goOn s3.1
    have hw3 : S'.1 3 2 ≠ 0 := by rw [s3.1.2.2.1.1]; exact hw
    rw [if_neg (fun z => hw3 z.1)] at hg
    rw [hg, Option.bind_some]
    exact zq_some ⟨s1, s2, s3.1, fun z => absurd z hw⟩
end READ
