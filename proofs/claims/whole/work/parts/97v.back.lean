/-! plan: the class traces back -/
section TRB
variable {S : ZS} {al : Nat → Int} {N k a g : Nat} {st : Nat → CS} {par ach : Nat → Nat} {wd : Nat → List Nat}
theorem cent_32 {j : Nat} (h31 : al 31 ≤ 8) (hj0 : 0 < j) (hp : par j < 65536) (ha : ach j < 8) (hv : CVal al (st j)) : zl2i (zlshr ((cent par ach j + ccode (st j) : Nat) : Int) 32) = (par j : Int) := by
  have hc := ccode_lt h31 _ hv
  have e : cent par ach j + ccode (st j) = par j * 4294967296 + (ach j * 16777216 + ccode (st j)) := by
    unfold cent
    rw [if_neg (by omega)]
    omega
  rw [e]
  generalize ccode (st j) = c at hc
  generalize par j = p at hp
  generalize ach j = y at ha
  have h2 : (p * 4294967296 + (y * 16777216 + c)) / 2 ^ 32 = p := by omega
  have hb : p * 4294967296 + (y * 16777216 + c) < 9223372036854775808 := by omega
  generalize p * 4294967296 + (y * 16777216 + c) = A at h2 hb
  have e3 : zlshr (A : Int) 32 = (A : Int) / ((2 ^ 32 : Nat) : Int) := zlshr_n (k := 32) (by decide) (by omega) (by omega)
  have e4 : (A : Int) / ((2 ^ 32 : Nat) : Int) = ((A / 2 ^ 32 : Nat) : Int) := (Int.natCast_ediv _ _).symm
  rw [e3, e4, h2, zl2i_ok (by omega) (by omega)]
theorem sh24 {u c : Nat} (hu : u < 16777216) (hc : c < 178560) : zand (zl2i (zlshr ((u * 16777216 + c : Nat) : Int) 24)) 7 = ((u % 8 : Nat) : Int) := by
  have h2 : (u * 16777216 + c) / 2 ^ 24 = u := by omega
  have hb : u * 16777216 + c < 9223372036854775808 := by omega
  generalize u * 16777216 + c = A at h2 hb
  have e3 : zlshr (A : Int) 24 = (A : Int) / ((2 ^ 24 : Nat) : Int) := zlshr_n (k := 24) (by decide) (by omega) (by omega)
  have e4 : (A : Int) / ((2 ^ 24 : Nat) : Int) = ((A / 2 ^ 24 : Nat) : Int) := (Int.natCast_ediv _ _).symm
  have e5 : zand ((u : Nat) : Int) 7 = ((u % 2 ^ 3 : Nat) : Int) := zand_mod 3 (by decide) (by omega)
  rw [e3, e4, h2, zl2i_ok (by omega) (by omega), e5]
theorem cent_24 {j : Nat} (h31 : al 31 ≤ 8) (hj0 : 0 < j) (hp : par j < 65536) (ha : ach j < 8) (hv : CVal al (st j)) : zand (zl2i (zlshr ((cent par ach j + ccode (st j) : Nat) : Int) 24)) 7 = (ach j : Int) := by
  have hc := ccode_lt h31 _ hv
  have e : cent par ach j + ccode (st j) = (par j * 256 + ach j) * 16777216 + ccode (st j) := by
    unfold cent
    rw [if_neg (by omega)]
    omega
  rw [e, sh24 (by omega) hc]
  omega
theorem lp_parent {V : ZS} {j : Nat} (h31 : al 31 ≤ 8) (hN : N ≤ 65536) (hj : j < N) (hj0 : 0 < j) (hp : par j < 65536) (ha : ach j < 8) (hv : CVal al (st j)) (hQ : V.2 14 4 j = ((cent par ach j + ccode (st j) : Nat) : Int)) : F_X5_parentOf (j : Int) V = some (par j : Int) := by
  refine zp_of ?_
  unfold F_X5_parentOf
  refine zp_pos (by omega) (zp_some.mpr ?_)
  rw [Int.toNat_natCast, hQ]
  exact cent_32 h31 hj0 hp ha hv
/-- the line of states as it stands -/
def TL (al : Nat → Int) (N : Nat) (st : Nat → CS) (par ach : Nat → Nat) (wd : Nat → List Nat) : Prop :=
  al 31 ≤ 8 ∧ N ≤ 65536 ∧ wd 0 = [] ∧ ∀ j, 0 < j → j < N → par j < j ∧ ach j < 8 ∧ CVal al (st j) ∧ wd j = wd (par j) ++ [ach j]
theorem lp_trace44 (hT : TL al N st par ach wd) (hg : g < N) (hl : (wd g).length ≤ 206) (hQ : ∀ j, j < N → S.2 14 4 j = ((cent par ach j + ccode (st j) : Nat) : Int)) {y : Int} (hy : y = ((wd g).length : Int) - 1) :
    zp (F_X5_traceBack_44 (g : Int) y S) (fun V => V.1 = S.1 ∧ (∀ r, r ≠ 14 → V.2 r = S.2 r) ∧ ∀ q (h : q < (wd g).length), V.2 14 3 q = ((wd g)[q] : Int)) := by
  obtain ⟨h31, hN, w0, hW⟩ := hT
  unfold F_X5_traceBack_44
  refine zp_w (fun dd (u : Int × Int × ZS) => ∃ i : Nat, dd = (wd i).length ∧ i < N ∧ u.1 = (i : Int) ∧ u.2.1 = ((wd i).length : Int) - 1 ∧ (wd i).length ≤ (wd g).length ∧ u.2.2.1 = S.1 ∧ (∀ r, r ≠ 14 → u.2.2.2 r = S.2 r) ∧ u.2.2.2 14 4 = S.2 14 4 ∧ (∀ q, q < (wd i).length → (wd i)[q]? = (wd g)[q]?) ∧
    ∀ q (h : q < (wd g).length), (wd i).length ≤ q → u.2.2.2 14 3 q = ((wd g)[q] : Int)) ?_ (wd g).length _ ⟨g, rfl, hg, rfl, hy, Nat.le_refl _, rfl, fun _ _ => rfl, rfl, fun _ _ => rfl, fun q h h2 => absurd h (by omega)⟩
  rintro dd ⟨y1, y2, I, A⟩ ⟨i, rfl, hi, e1, e2, hle, e3, e4, e5, e6, e7⟩
  dsimp only at e1 e2 e3 e4 e5 e7 ⊢
  subst e1 e2 e3
  by_cases c : (wd i).length = 0
  · exact zp_pos (by omega) (zp_some.mpr (zor2_r.mpr ⟨rfl, e4, fun q h => e7 q h (by omega)⟩))
  · have hi0 : 0 < i := by
      rcases Nat.eq_zero_or_pos i with z | z
      · rw [z, w0] at c; exact absurd rfl c
      · exact z
    obtain ⟨p1, p2, p3, p4⟩ := hW i hi0 hi
    have hlp : (wd i).length = (wd (par i)).length + 1 := by rw [p4]; simp
    have hti : (((wd i).length : Int) - 1).toNat = (wd (par i)).length := by omega
    refine zp_neg (by omega) (zp_pos (by omega) (zp_pos (by omega) (zp_lt.mpr (zp_bind.mpr ((zp_eq (lp_parent h31 hN hi hi0 (by omega) p2 p3 ?_)).mpr (zp_some.mpr (zor2_l.mpr ⟨(wd (par i)).length, by omega, par i, rfl, by omega, rfl, ?_, by omega, rfl, fun r hr => ?_, ?_, fun q hq => ?_, fun q h hq => ?_⟩)))))))
    · dsimp only
      rw [zuA_o (show (4 : Nat) ≠ 3 by decide), e5]
      exact hQ i hi
    · dsimp only
      rw [zadd_ok (by omega) (by omega)]
      omega
    · dsimp only
      rw [zuA_R hr]
      exact e4 r hr
    · dsimp only
      rw [zuA_o (show (4 : Nat) ≠ 3 by decide), e5]
    · rw [← e6 q (by omega), p4, List.getElem?_append_left hq]
    · dsimp only
      rw [zuA_s, zset_ap, hti]
      by_cases d : q = (wd (par i)).length
      · rw [if_pos d, Int.toNat_natCast, e5, hQ i hi, cent_24 h31 hi0 (by omega) p2 p3]
        have hh := e6 q (by omega)
        have hr : (wd i)[q]? = some (ach i) := by rw [p4, d, List.getElem?_concat_length]
        rw [hr, List.getElem?_eq_getElem h] at hh
        rw [Option.some.inj hh]
      · rw [if_neg d]
        exact e7 q h (by omega)
theorem lp_trace7 (hT : TL al N st par ach wd) (hg : g < N) (hl : (wd g).length ≤ 206) (hQ : ∀ j, j < N → S.2 14 4 j = ((cent par ach j + ccode (st j) : Nat) : Int)) (h6 : S.1 14 6 = (g : Int)) :
    zp (F_X5_traceBack S) (fun V => V.1 = zup S.1 14 1 ((wd g).length : Int) ∧ (∀ r, r ≠ 14 → V.2 r = S.2 r) ∧ ∀ q (h : q < (wd g).length), V.2 14 3 q = ((wd g)[q] : Int)) := by
  have hT' := hT
  obtain ⟨h31, hN, w0, hW⟩ := hT'
  unfold F_X5_traceBack F_X5_traceBack_7
  rw [h6]
  refine zp_w (fun dd (u : Int × Int) => ∃ i n : Nat, dd = i ∧ u = ((n : Int), (i : Int)) ∧ i < N ∧ n + (wd i).length = (wd g).length) ?_ g _ ⟨g, 0, rfl, rfl, hg, by omega⟩
  rintro dd u ⟨i, n, rfl, rfl, hi, hlen⟩
  dsimp only
  by_cases c0 : dd = 0
  · subst c0
    rw [w0, List.length_nil, Nat.add_zero] at hlen
    subst hlen
    refine zp_neg (by decide) (zp_in.mpr ?_)
    unfold F_X5_traceBack_30
    refine zp_lt.mpr ?_
    have e6 : (zup S.1 14 1 ((wd g).length : Int), S.2).1 14 6 = (g : Int) := by dsimp only; rw [zup_k (by decide)]; exact h6
    rw [e6]
    have ez : zsub ((wd g).length : Int) 1 = ((wd g).length : Int) - 1 := by rw [zsub_ok (by omega) (by omega)]
    exact zp_mono (lp_trace44 (S := (zup S.1 14 1 ((wd g).length : Int), S.2)) hT hg hl hQ ez) (fun V hV => zor2_r.mpr ⟨hV.1, hV.2.1, hV.2.2⟩)
  · obtain ⟨p1, p2, p3, p4⟩ := hW dd (by omega) hi
    have hlp : (wd dd).length = (wd (par dd)).length + 1 := by rw [p4]; simp
    refine zp_pos (by omega) (zp_pos (by omega) (zp_bind.mpr ((zp_eq (lp_parent h31 hN hi (by omega) (by omega) p2 p3 (hQ dd hi))).mpr (zp_some.mpr (zor2_l.mpr ⟨par dd, p1, par dd, n + 1, rfl, ?_, by omega, by omega⟩)))))
    rw [zadd_ok (by omega) (by omega)]
    rfl
theorem lp_back (hJ : JobOK al) (hp : ∀ q : Nat, (q : Int) < al 31 → Gvs al q) (hG : CG al S) : zp (F_X5_traceBack S) (fun V => (∀ r, r ≠ 14 → V.1 r = S.1 r) ∧ V.1 14 0 = S.1 14 0 ∧ (∀ r, r ≠ 14 → V.2 r = S.2 r) ∧ PlanIs al (V.1 14 1) (V.2 14 3)) := by
  obtain ⟨N, st, par, ach, wd, k, a, g, h1, h2, h3, h4, h5, h6, h7, h8, ⟨q1, q2, q3⟩, h9⟩ := hG
  obtain ⟨hb, hm⟩ := Bfs_put h1 h2 h4 h5 h6
  obtain ⟨w, hw1, hw2⟩ := acc_short hJ hp
  have hl : (wd g).length ≤ 206 := by
    rcases hm w hw1 with z | z
    · omega
    · omega
  have hT : TL al N st par ach wd := ⟨hJ.1.2, h3, h1.2.2.1, fun j hj0 hj => ⟨(h1.2.2.2.1 j hj0 hj).1, h8 j hj0 hj, h7 j hj, (h1.2.2.2.1 j hj0 hj).2.2.2⟩⟩
  refine zp_mono (lp_trace7 hT (by omega) hl q2 h9) (fun V hV => ?_)
  obtain ⟨v1, v2, v3⟩ := hV
  refine ⟨fun r hr => by rw [v1]; exact zup_R hr, by rw [v1, zup_k (by decide)], v2, Or.inr ⟨wd g, (csf_acc hJ _).mp hb, fun v hv => hm v ((csf_acc hJ _).mpr hv), by rw [v1, zup_s], v3⟩⟩
end TRB
