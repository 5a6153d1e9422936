/-! plan: the class leaves a state -/
section LEV
variable {S V : ZS} {al : Nat → Int} {k : Nat} {f p h t s : Nat}
/-- what the leaving of states keeps -/
def FRv (S V : ZS) : Prop := (∀ r, r ≠ 14 → V.1 r = S.1 r) ∧ (V.1 14 7 = S.1 14 7 ∧ V.1 14 0 = S.1 14 0 ∧ V.1 14 1 = S.1 14 1) ∧ (∀ r, r ≠ 14 → V.2 r = S.2 r)
theorem FRv_r (S : ZS) : FRv S S := ⟨fun _ _ => rfl, ⟨rfl, rfl, rfl⟩, fun _ _ => rfl⟩
theorem FRv_t {U : ZS} (h : FRv S V) (k : FRv V U) : FRv S U := ⟨fun r hr => (k.1 r hr).trans (h.1 r hr), ⟨k.2.1.1.trans h.2.1.1, k.2.1.2.1.trans h.2.1.2.1, k.2.1.2.2.trans h.2.1.2.2⟩, fun r hr => (k.2.2 r hr).trans (h.2.2 r hr)⟩
theorem FRv_c (h : FRc S V) : FRv S V := ⟨h.1, ⟨h.2.1 7 (by decide) (by decide), h.2.1 0 (by decide) (by decide), h.2.1 1 (by decide) (by decide)⟩, h.2.2.1⟩
theorem PlK_fv (h : PlK al S) (f : FRv S V) : PlK al V := by
  obtain ⟨⟨h1, h2⟩, h3⟩ := h
  refine ⟨⟨f.2.1.1.trans h1, ?_⟩, ?_⟩
  · rw [f.1 11 (by decide), f.2.2 11 (by decide)]; exact h2
  · rw [f.1 11 (by decide)]; exact h3
theorem ent_at {N : Nat} {st : Nat → CS} {par ach : Nat → Nat} {j : Nat} (h31 : al 31 ≤ 8) (hN : N ≤ 65536) (hj : j < N) (hp : 0 < j → par j < 65536 ∧ ach j < 8) (hv : CVal al (st j)) (hQ : CQ S N st par ach) : zl2i (zland (S.2 14 4 j) 16777215) = (ccode (st j) : Int) := by
  rw [hQ.2.1 j hj]
  unfold cent
  by_cases c : j = 0
  · rw [if_pos c]
    exact ent_code ⟨0, by omega⟩ (by omega) (ccode_lt h31 _ hv)
  · obtain ⟨p1, p2⟩ := hp (by omega)
    rw [if_neg c]
    exact ent_code ⟨par j * 2 ^ 8 + ach j, by omega⟩ (by omega) (ccode_lt h31 _ hv)
theorem CI_ent {a : Nat} {x : CS} (h31 : al 31 ≤ 8) (h : CI al S k a x) : k < 65536 ∧ CVal al x ∧ zl2i (zland (S.2 14 4 k) 16777215) = (ccode x : Int) := by
  obtain ⟨N, st, par, ach, wd, h1, h2, h3, h4, h5, h6, hQ, hg⟩ := h
  have hN := CI_b h31 h4 h5
  have hv := h4 k h2
  rw [h3] at hv
  refine ⟨by omega, hv, ?_⟩
  rw [← h3]
  refine ent_at h31 (by omega) h2 (fun hk0 => ⟨?_, Bfs_ach h1 (fun s c hc => cst_6 s (by omega)) hk0 h2⟩) (h4 k h2) hQ
  have := (h1.2.2.2.1 k hk0 h2).1
  omega
theorem lp_leaveB {r12 v : Int} (hJ : JobOK al) (hx : CVal al (f, p, h, t, s)) (hk : k < 65536) (c8 : S.1 14 8 = (f : Int)) (c9 : S.1 14 9 = ((p % 16 : Nat) : Int)) (c10 : S.1 14 10 = ((p / 16 : Nat) : Int)) (c11 : S.1 14 11 = (h : Int)) (c12 : S.1 14 12 = (t : Int)) (c13 : S.1 14 13 = (s : Int)) (hj : PlK al S)
    (hr : r12 = (agd (al 25).toNat (p / 16) (p % 16) 0 : Int)) (hv : v = ((if al 27 = 0 then 0 else min 30 (h + (al 29).toNat) : Nat) : Int)) (hX : CX al S k 0 (f, p, h, t, s)) :
    zp ((F_X5_meet (S.1 14 8) r12 v (S.1 14 12) 1 (zlor (zlshl (k : Int) 32) 0) S).bind fun S16 => if (S16.1 14 7).toNat = 11 ∨ (S16.1 14 7).toNat = 12 ∨ (S16.1 14 7).toNat = 13 then if (S16.1 14 11) < (S16.1 ((S16.1 14 7).toNat) 8) then some S16 else zlt (zmax 0 (zsub (S16.1 14 11) (S16.1 ((S16.1 14 7).toNat) 9))) fun v19 => if 0 < (S16.1 14 10) then (F_X5_agedPocket (zsub (S16.1 14 10) 1) 0 S16).bind fun r21 => (F_X5_meet (S16.1 14 8) r21 v19 (S16.1 14 12) 0 (zlor (zlshl (k : Int) 32) 16777216) S16).bind fun S22 => F_X5_leave_160 (zlshl (k : Int) 32) r12 v19 S22 else F_X5_leave_160 (zlshl (k : Int) 32) r12 v19 S16 else none)
      (fun V => FRc S V ∧ CX al V k 6 (f, p, h, t, s)) := by
  obtain ⟨_, _, _, _, ⟨j25a, j25b⟩, _, ⟨j27a, j27b⟩, ⟨j28a, j28b⟩, ⟨j29a, j29b⟩, _⟩ := id hJ
  obtain ⟨_, hp, hpop, hh, _⟩ := id hx
  have es : zlshl (k : Int) 32 = ((k * 2 ^ 32 : Nat) : Int) := zlshl_n (k := 32) (by decide) (by omega)
  have e0 : zlor (zlshl (k : Int) 32) 0 = ((k * 2 ^ 32 + 0 * 2 ^ 24 : Nat) : Int) := by rw [es]; exact ahd (i := 0) hk (by decide)
  have e1 : zlor (zlshl (k : Int) 32) 16777216 = ((k * 2 ^ 32 + 1 * 2 ^ 24 : Nat) : Int) := by rw [es]; exact ahd (i := 1) hk (by decide)
  rw [c8, c12, e0, hr, hv]
  refine zp_bind.mpr (zp_mono (CX_put (s := 1) hJ hX hx cst_0 rfl hj.1) (fun U hU => ?_))
  obtain ⟨u1, u2⟩ := hU
  have hjU := PlK_fr hj u1
  obtain ⟨⟨h7, _⟩, _, d6, _, d8, d9, _⟩ := id hjU
  have g8 : U.1 14 8 = (f : Int) := (u1.2.1 8 (by decide) (by decide)).trans c8
  have g9 : U.1 14 9 = ((p % 16 : Nat) : Int) := (u1.2.1 9 (by decide) (by decide)).trans c9
  have g10 : U.1 14 10 = ((p / 16 : Nat) : Int) := (u1.2.1 10 (by decide) (by decide)).trans c10
  have g11 : U.1 14 11 = (h : Int) := (u1.2.1 11 (by decide) (by decide)).trans c11
  have g12 : U.1 14 12 = (t : Int) := (u1.2.1 12 (by decide) (by decide)).trans c12
  have g13 : U.1 14 13 = (s : Int) := (u1.2.1 13 (by decide) (by decide)).trans c13
  have n8 : U.1 (U.1 14 7).toNat 8 = al 27 := by rw [h7]; exact d8
  have n9 : U.1 (U.1 14 7).toNat 9 = al 28 := by rw [h7]; exact d9
  refine zp_pos (by rw [h7]; exact Or.inl rfl) ?_
  by_cases cc : (h : Int) < al 27
  · exact zp_pos (by rw [n8, g11]; exact cc) (zp_some.mpr ⟨u1, CX_to 5 rfl (fun c hc => cst_cold cc (by omega)) u2⟩)
  refine zp_neg (by rw [n8, g11]; exact cc) (zp_lt.mpr ?_)
  have ev : zmax 0 (zsub (U.1 14 11) (U.1 (U.1 14 7).toNat 9)) = ((h - (al 28).toNat : Nat) : Int) := by
    rw [g11, n9, zsub_ok (by omega) (by omega), zmax_d]
    omega
  rw [ev]
  by_cases c0 : 0 < p / 16
  · have e10 : zsub (U.1 14 10) 1 = ((p / 16 - 1 : Nat) : Int) := by rw [g10, zsub_ok (by omega) (by omega)]; omega
    refine zp_pos (by rw [g10]; omega) (zp_bind.mpr ((zp_eq (show F_X5_agedPocket (zsub (U.1 14 10) 1) 0 U = some _ from lp_aged (en := 0) h7 d6 ⟨j25a, j25b⟩ g9 (Nat.mod_lt p (by decide)) e10 (by omega) (by decide))).mpr ?_))
    rw [g8, g12, e1]
    refine zp_bind.mpr (zp_mono (CX_put (s := 0) hJ u2 hx ((cst_1 cc).trans (if_pos c0)) rfl hjU.1) (fun W hW => ?_))
    obtain ⟨w1, w2⟩ := hW
    refine zp_mono (lp_leave160 hJ hx hk cc ((w1.2.1 8 (by decide) (by decide)).trans g8) ((w1.2.1 9 (by decide) (by decide)).trans g9) ((w1.2.1 10 (by decide) (by decide)).trans g10) ((w1.2.1 12 (by decide) (by decide)).trans g12) ((w1.2.1 13 (by decide) (by decide)).trans g13) (PlK_fr hjU w1) es rfl rfl w2) (fun Y hY => ⟨FRc_t (FRc_t u1 w1) hY.1, hY.2⟩)
  · refine zp_neg (by rw [g10]; omega) (zp_mono (lp_leave160 hJ hx hk cc g8 g9 g10 g12 g13 hjU es rfl rfl (CX_skip u2 ((cst_1 cc).trans (if_neg c0)))) (fun Y hY => ⟨FRc_t u1 hY.1, hY.2⟩))
theorem lp_leave {x : CS} (hJ : JobOK al) (hj : PlK al S) (hX : CI al S k 0 x) : zp (F_X5_leave (k : Int) S) (fun V => FRv S V ∧ CX al V k 6 x) := by
  obtain ⟨hk, hx, hent⟩ := CI_ent hJ.1.2 hX
  obtain ⟨f, p, h, t, s⟩ := x
  obtain ⟨_, _, _, _, ⟨j25a, j25b⟩, _, ⟨j27a, j27b⟩, ⟨j28a, j28b⟩, ⟨j29a, j29b⟩, _⟩ := id hJ
  obtain ⟨hf, hp, hpop, hh, ht, hs, _⟩ := id hx
  have j2 := hJ.1.2
  unfold F_X5_leave
  refine zp_pos (by omega) ?_
  rw [Int.toNat_natCast, hent]
  refine zp_bind.mpr ((zp_eq (lp_unpack (S := S) (v := ccode (f, p, h, t, s)) rfl (by omega) hp hh ht hs)).mpr ?_)
  obtain ⟨U, hU⟩ : ∃ U : ZS, U = unpS S f p h t s := ⟨_, rfl⟩
  have g13 : U.1 14 13 = (s : Int) := by rw [hU]; unfold unpS; dsimp only; simp only [zup_ap, Nat.reduceEqDiff, and_false, and_true, reduceIte]
  have g12 : U.1 14 12 = (t : Int) := by rw [hU]; unfold unpS; dsimp only; simp only [zup_ap, Nat.reduceEqDiff, and_false, and_true, reduceIte]
  have g11 : U.1 14 11 = (h : Int) := by rw [hU]; unfold unpS; dsimp only; simp only [zup_ap, Nat.reduceEqDiff, and_false, and_true, reduceIte]
  have g9 : U.1 14 9 = ((p % 16 : Nat) : Int) := by rw [hU]; unfold unpS; dsimp only; simp only [zup_ap, Nat.reduceEqDiff, and_false, and_true, reduceIte]
  have g10 : U.1 14 10 = ((p / 16 : Nat) : Int) := by rw [hU]; unfold unpS; dsimp only; simp only [zup_ap, Nat.reduceEqDiff, and_false, and_true, reduceIte]
  have g8 : U.1 14 8 = (f : Int) := by rw [hU]; unfold unpS; dsimp only; simp only [zup_ap, and_true, reduceIte]
  have hoth : ∀ c, c < 8 → U.1 14 c = S.1 14 c := by
    intro c hc
    rw [hU]; unfold unpS; dsimp only
    rw [zup_k (by omega), zup_k (by omega), zup_k (by omega), zup_k (by omega), zup_k (by omega), zup_k (by omega)]
  have hreg : ∀ r, r ≠ 14 → U.1 r = S.1 r := by
    intro r hr
    rw [hU]; unfold unpS; dsimp only
    rw [zup_R hr, zup_R hr, zup_R hr, zup_R hr, zup_R hr, zup_R hr]
  have hA : U.2 = S.2 := by rw [hU]; rfl
  rw [← hU]
  clear hU
  have uv : FRv S U := ⟨hreg, ⟨hoth 7 (by decide), hoth 0 (by decide), hoth 1 (by decide)⟩, fun r _ => by rw [hA]⟩
  have hjU := PlK_fv hj uv
  obtain ⟨⟨h7, _⟩, _, d6, _, d8, d9, d10⟩ := id hjU
  have hXU : CX al U k 0 (f, p, h, t, s) := Or.inl (CI_fr hX (hoth 5 (by decide)) (hoth 6 (by decide)) (by rw [hA]))
  refine zp_bind.mpr ((zp_eq (show F_X5_agedPocket (U.1 14 10) 0 U = some _ from lp_aged (en := 0) h7 d6 ⟨j25a, j25b⟩ g9 (Nat.mod_lt p (by decide)) g10 (by omega) (by decide))).mpr ?_)
  have n8 : U.1 (U.1 14 7).toNat 8 = al 27 := by rw [h7]; exact d8
  have n10 : U.1 (U.1 14 7).toNat 10 = al 29 := by rw [h7]; exact d10
  refine zp_pos (by rw [h7]; exact Or.inl rfl) (zp_lt.mpr ?_)
  have ev : zmin 30 (zadd (U.1 14 11) (U.1 (U.1 14 7).toNat 10)) = ((min 30 (h + (al 29).toNat) : Nat) : Int) := by
    rw [g11, n10, zadd_ok (by omega) (by omega), zmin_d]
    omega
  rw [ev]
  have fin : ∀ V, FRc U V ∧ CX al V k 6 (f, p, h, t, s) → FRv S V ∧ CX al V k 6 (f, p, h, t, s) := fun V hV => ⟨FRv_t uv (FRv_c hV.1), hV.2⟩
  by_cases c : al 27 = 0
  · exact zp_pos (by rw [n8]; exact c) (zp_mono (lp_leaveB hJ hx hk g8 g9 g10 g11 g12 g13 hjU rfl (by rw [if_pos c]; rfl) hXU) fin)
  · exact zp_neg (by rw [n8]; exact c) (zp_mono (lp_leaveB hJ hx hk g8 g9 g10 g11 g12 g13 hjU rfl (by rw [if_neg c]) hXU) fin)
end LEV
