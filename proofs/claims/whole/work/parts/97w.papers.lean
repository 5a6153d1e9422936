/-! plan: whether there is paper for every page; the class's search -/
section PAP
variable {S : ZS} {al : Nat → Int}
theorem lp_papers17 (hJ : JobOK al) (hj : PlJ al S) {q : Nat} (hq : (q : Int) < al 31) : zp (F_X5_hasPaperForAll_17 (q : Int) 0 0 S) (fun r => (Gvs al q ∧ r = .inl ((q + 1 : Nat) : Int)) ∨ (¬ Gvs al q ∧ r = .inr 0)) := by
  have j2 := hJ.1.2
  unfold F_X5_hasPaperForAll_17
  refine zp_w (fun dd (u : Int × Int) => ∃ i : Nat, dd = 4 - i ∧ i ≤ 4 ∧ u.2 = (i : Int) ∧ ((u.1 = 1 ∧ Gvs al q) ∨ (u.1 = 0 ∧ ∀ j, j < i → ¬ (al (20 + j) ≠ 0 ∧ al (16 + j) = al q)))) ?_ 4 _ ⟨0, rfl, by omega, rfl, Or.inr ⟨rfl, fun j hj => absurd hj (by omega)⟩⟩
  rintro dd ⟨y, z⟩ ⟨i, rfl, hi, rfl, hy⟩
  dsimp only at hy ⊢
  by_cases c : i = 4
  · subst c
    refine zp_neg (by decide) ?_
    rcases hy with ⟨hy, hg⟩ | ⟨hy, hg⟩
    · subst hy
      exact zp_neg (by decide) (zp_some.mpr (zor2_r.mpr (Or.inl ⟨hg, by rw [zadd_ok (by omega) (by omega)]; rfl⟩)))
    · subst hy
      exact zp_pos rfl (zp_some.mpr (zor2_r.mpr (Or.inr ⟨fun ⟨j, hj, g1, g2⟩ => hg j hj ⟨g1, g2⟩, rfl⟩)))
  · have fi : zadd (i : Int) 1 = ((i + 1 : Nat) : Int) := by rw [zadd_ok (by omega) (by omega)]; rfl
    refine zp_pos (by omega) ?_
    rcases hy with ⟨hy, hg⟩ | ⟨hy, hg⟩
    · subst hy
      exact zp_neg (by decide) (zp_some.mpr (zor2_l.mpr ⟨4 - (i + 1), by omega, i + 1, rfl, by omega, fi, Or.inl ⟨rfl, hg⟩⟩))
    · subst hy
      refine zp_pos rfl (zp_bind.mpr ((zp_eq (lp_gives hj.1 (by omega) (by omega) (hj.2.2.1 i (by omega)).1 (hj.2.2.1 i (by omega)).2 (hj.2.2.2 q hq).1)).mpr ?_))
      by_cases g : al (20 + i) ≠ 0 ∧ al (16 + i) = al q
      · rw [if_pos g]
        exact zp_neg (by decide) (zp_some.mpr (zor2_l.mpr ⟨4 - (i + 1), by omega, i + 1, rfl, by omega, fi, Or.inl ⟨rfl, i, by omega, g⟩⟩))
      · rw [if_neg g]
        refine zp_pos rfl (zp_some.mpr (zor2_l.mpr ⟨4 - (i + 1), by omega, i + 1, rfl, by omega, fi, Or.inr ⟨rfl, fun j hj' => ?_⟩⟩))
        by_cases d : j = i
        · rw [d]; exact g
        · exact hg j (by omega)
theorem lp_papers (hJ : JobOK al) (hj : PlJ al S) : zp (F_X5_hasPaperForAll S) (fun r => (r = 1 ∧ ∀ q : Nat, (q : Int) < al 31 → Gvs al q) ∨ (r = 0 ∧ ∃ q : Nat, (q : Int) < al 31 ∧ ¬ Gvs al q)) := by
  have j2 := hJ.1.2
  have j1 := hJ.1.1
  unfold F_X5_hasPaperForAll F_X5_hasPaperForAll_2
  refine zp_w (fun dd (u : Int) => ∃ q : Nat, dd = 8 - q ∧ (q : Int) ≤ al 31 ∧ u = (q : Int) ∧ ∀ j, j < q → Gvs al j) ?_ 8 _ ⟨0, rfl, by omega, rfl, fun j hj => absurd hj (by omega)⟩
  rintro dd y ⟨q, rfl, hq, rfl, hg⟩
  have e0 : S.1 (S.1 14 7).toNat 0 = al 31 := by rw [hj.1]; exact hj.2.1
  refine zp_pos (by rw [hj.1]; exact Or.inl rfl) ?_
  by_cases c : (q : Int) < al 31
  · refine zp_pos (by rw [e0]; exact c) (zp_mono (lp_papers17 hJ hj c) (fun r hr => ?_))
    rcases hr with ⟨h1, h2⟩ | ⟨h1, h2⟩
    · rw [h2]
      refine zor2_l.mpr ⟨8 - (q + 1), by omega, q + 1, rfl, by omega, rfl, fun j hj' => ?_⟩
      by_cases d : j = q
      · rw [d]; exact h1
      · exact hg j (by omega)
    · rw [h2]
      exact zor2_r.mpr (Or.inr ⟨rfl, q, c, h1⟩)
  · refine zp_neg (by rw [e0]; exact c) (zp_some.mpr (zor2_r.mpr (Or.inl ⟨rfl, fun j hj' => hg j (by omega)⟩)))
end PAP
section PSK
variable {S : ZS} {al : Nat → Int}
/-- no goal so far, the first k states are left -/
def CE (al : Nat → Int) (S : ZS) (k : Nat) : Prop :=
  ∃ N st par ach wd, Bfs (cst al) (csf al (p0 al)) N st par ach wd k 0 ∧ k ≤ N ∧ (∀ j, j < N → CVal al (st j)) ∧ (∀ i j, i < j → j < N → st i ≠ st j) ∧ (∀ j, j < N → cac al (st j) = false) ∧ CQ S N st par ach ∧ S.1 14 6 = -1
/-- what the search comes to -/
def PSk (al : Nat → Int) (S V : ZS) : Prop := (∀ r, r ≠ 14 → V.1 r = S.1 r) ∧ (∀ r, r ≠ 14 → V.2 r = S.2 r) ∧ V.1 14 0 = 1 ∧ PlanIs al (V.1 14 1) (V.2 14 3)
theorem lp_s114 (hJ : JobOK al) (hp : ∀ q : Nat, (q : Int) < al 31 → Gvs al q) (h0 : S.1 14 0 = 1) (hG : CG al S) : zp (F_X5_seek_114 S) (PSk al S) := by
  have h6 : S.1 14 6 ≠ -1 := by
    obtain ⟨N, st, par, ach, wd, k, a, g, _, _, _, _, _, _, _, _, _, h9⟩ := hG
    rw [h9]
    omega
  unfold F_X5_seek_114
  refine zp_neg h6 (zp_bind.mpr (zp_mono (lp_back hJ hp hG) (fun V hV => zp_some.mpr ⟨hV.1, hV.2.2.1, hV.2.1.trans h0, hV.2.2.2⟩)))
theorem lp_s81 (hJ : JobOK al) (hp : ∀ q : Nat, (q : Int) < al 31 → Gvs al q) (hj : PlK al S) (h0 : S.1 14 0 = 1) (h1 : S.1 14 1 = -1) (hE : CE al S 0 ∨ CG al S) : zp (F_X5_seek_81 0 S) (PSk al S) := by
  unfold F_X5_seek_81
  refine zp_w (fun dd (u : Int × ZS) => ∃ k : Nat, dd = 65537 - k ∧ k ≤ 65536 ∧ u.1 = (k : Int) ∧ FRv S u.2 ∧ (CE al u.2 k ∨ CG al u.2)) ?_ 65537 _ ⟨0, rfl, by omega, rfl, FRv_r S, hE⟩
  rintro dd ⟨y, U⟩ ⟨k, rfl, hk, rfl, u1, hX⟩
  dsimp only at u1 hX ⊢
  have u0 : U.1 14 0 = 1 := u1.2.1.2.1.trans h0
  have lift : ∀ V, PSk al U V → PSk al S V := fun V hV => ⟨fun r hr => (hV.1 r hr).trans (u1.1 r hr), fun r hr => (hV.2.1 r hr).trans (u1.2.2 r hr), hV.2.2⟩
  rcases hX with hX | hX
  · obtain ⟨N, st, par, ach, wd, b1, b2, b3, b4, b5, bQ, b6⟩ := id hX
    have hN := CI_b hJ.1.2 b3 b4
    by_cases c : k < N
    · refine zp_pos (by rw [bQ.1]; omega) (zp_pos (by omega) (zp_pos b6 (zp_bind.mpr (zp_mono (lp_leave (x := st k) hJ (PlK_fv hj u1) ⟨N, st, par, ach, wd, b1, c, rfl, b3, b4, b5, bQ, b6⟩) (fun V hV => zp_some.mpr ?_)))))
      refine zor2_l.mpr ⟨65537 - (k + 1), by omega, k + 1, rfl, by omega, ?_, FRv_t u1 hV.1, ?_⟩
      · dsimp only
        rw [zadd_ok (by omega) (by omega)]
        rfl
      · refine hV.2.imp (fun z => ?_) (fun z => z)
        obtain ⟨N', st', par', ach', wd', d1, d2, d3, d4, d5, d6, dQ, d7⟩ := z
        exact ⟨N', st', par', ach', wd', Bfs_next d1 (fun c hc => cst_6 _ hc), by omega, d4, d5, d6, dQ, d7⟩
    · have e : k = N := by omega
      refine zp_neg (by rw [bQ.1]; omega) (zp_in.mpr ?_)
      unfold F_X5_seek_114
      refine zp_pos b6 (zp_some.mpr (zor2_r.mpr (lift U ⟨fun _ _ => rfl, fun _ _ => rfl, u0, Or.inl ⟨u1.2.1.2.2.trans h1, fun w hw => ?_⟩⟩)))
      rw [e] at b1
      exact Bfs_none b1 b5 w ((csf_acc hJ w).mpr hw)
  · have h6 : U.1 14 6 ≠ -1 := by
      obtain ⟨N, st, par, ach, wd, k', a, g, _, _, _, _, _, _, _, _, _, h9⟩ := hX
      rw [h9]
      omega
    have go : zp (zjn (F_X5_seek_114 U)) (zor2 (fun s' : Int × ZS => ∃ m, m < 65537 - k ∧ ∃ k' : Nat, m = 65537 - k' ∧ k' ≤ 65536 ∧ s'.1 = (k' : Int) ∧ FRv S s'.2 ∧ (CE al s'.2 k' ∨ CG al s'.2)) (PSk al S)) :=
      zp_in.mpr (zp_mono (lp_s114 hJ hp u0 hX) (fun V hV => zor2_r.mpr (lift V hV)))
    exact zp_if (fun _ => zp_if (fun _ => zp_neg h6 go) (fun _ => go)) (fun _ => go)
theorem lp_first {h : Nat} (hJ : JobOK al) (hj : PlK al S) (e0 : csf al (p0 al) = (0, 0, h, 4, 0)) (hh : h ≤ 30) (h5 : S.1 14 5 = 0) (h6 : S.1 14 6 = -1) (hz : ∀ s, s < 178560 → mbit (S.2 14 5) s = false) :
    zp (F_X5_meet 0 0 (h : Int) 4 0 0 S) (fun V => FRc S V ∧ (CE al V 0 ∨ CG al V)) := by
  have h31 := hJ.1.2
  have hv : CVal al (0, 0, h, 4, 0) := ⟨hJ.1.1, by decide, by decide, hh, by decide, by decide, fun _ => ⟨rfl, rfl⟩, fun z => absurd z (by decide)⟩
  have hlt := ccode_lt h31 _ hv
  rw [zp_eq (show F_X5_meet 0 0 (h : Int) 4 0 0 S = some _ from lp_meet (f := 0) (p := 0) (t := 4) (s := 0) (P := 0) (N := 0) hv h31 ⟨0, by decide⟩ (by decide) h5 (by decide) h6 hj.1.1 hj.1.2.1)]
  rw [if_neg (by rw [hz _ hlt]; decide)]
  generalize (0, 0, h, 4, 0) = x at e0 hv hlt ⊢
  have hB : Bfs (cst al) (csf al (p0 al)) 1 (fun _ => x) (fun _ => 0) (fun _ => 0) (fun _ => []) 0 0 := Bfs_0 e0.symm rfl
  have hFR : ∀ I : Nat → Nat → Int, I = zup S.1 14 6 ((0 : Nat) : Int) ∨ I = S.1 → FRc S (zup I 14 5 ((0 + 1 : Nat) : Int), zuA (zuA S.2 14 5 (zset (S.2 14 5) (ccode x / 64) (zlor (S.2 14 5 (ccode x / 64)) (zlshl 1 ((ccode x % 64 : Nat) : Int))))) 14 4 (zset (S.2 14 4) 0 ((0 + ccode x : Nat) : Int))) := by
    intro I hI
    refine ⟨fun r hr => ?_, fun c h5 h6 => ?_, fun r hr => ?_, fun o h4 h5 => ?_⟩
    · dsimp only; rw [zup_R hr]; rcases hI with z | z <;> rw [z]; exact zup_R hr
    · dsimp only; rw [zup_k h5]; rcases hI with z | z <;> rw [z]; exact zup_k h6
    · dsimp only; rw [zuA_R hr, zuA_R hr]
    · dsimp only; rw [zuA_o h4, zuA_o h5]
  have hQ : ∀ I : Nat → Nat → Int, CQ (zup I 14 5 ((0 + 1 : Nat) : Int), zuA (zuA S.2 14 5 (zset (S.2 14 5) (ccode x / 64) (zlor (S.2 14 5 (ccode x / 64)) (zlshl 1 ((ccode x % 64 : Nat) : Int))))) 14 4 (zset (S.2 14 4) 0 ((0 + ccode x : Nat) : Int))) 1 (fun _ => x) (fun _ => 0) (fun _ => 0) := by
    intro I
    refine ⟨by dsimp only; rw [zup_s], fun j hj => ?_, fun s hs => ?_⟩
    · have : j = 0 := by omega
      subst this
      dsimp only
      rw [zuA_s, zset_ap, if_pos rfl]
      rfl
    · dsimp only
      rw [zuA_o (show (5 : Nat) ≠ 4 by decide), zuA_s, mbit_set, hz s hs, Bool.false_or, decide_eq_true_eq]
      exact ⟨fun z => ⟨0, by decide, z.symm⟩, fun ⟨_, _, z⟩ => z.symm⟩
  by_cases c2 : cac al x = true
  · rw [if_pos c2]
    exact ⟨hFR _ (Or.inl rfl), Or.inr ⟨1, _, _, _, _, 0, 0, 0, hB, rfl, by decide, fun j hj => absurd hj (by omega), c2, Or.inl rfl, fun j _ => hv, fun j h1 h2 => absurd h2 (by omega), hQ _, by dsimp only; rw [zup_k (by decide), zup_s]⟩⟩
  · rw [if_neg c2]
    exact ⟨hFR _ (Or.inr rfl), Or.inl ⟨1, _, _, _, _, hB, by decide, fun j _ => hv, fun i j h1 h2 => by omega, fun j _ => by simpa using c2, hQ _, by dsimp only; rw [zup_k (by decide)]; exact h6⟩⟩
end PSK
