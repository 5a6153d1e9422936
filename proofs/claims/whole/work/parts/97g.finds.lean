/-! plan: the reference finds -/
section FND
variable {S : ZS} {al : Nat → Int} {k : Nat} {x1 : Int}
theorem pac_isOut (hJ : JobOK al) (e55 : S.2 1 55 = al) : ∀ x : PS, PVal al x → F_X12_isOut (pcode x : Int) S = some (if pac al x = true then 1 else 0)
  | (pg, a, b, c, h, t, s), hv => by
    dsimp only [PVal] at hv
    obtain ⟨v1, v2, v3, v4, v5, v6⟩ := hv
    have j2 := hJ.1.2
    have hb : pcode (pg, a, b, c, h, t, s) < 602640 := pcode_lt (al := al) j2 _ ⟨v1, v2, v3, v4, v5, v6⟩
    have e : pcode (pg, a, b, c, h, t, s) = (((((pg * 6 + a) * 6 + b) * 6 + c) * 31 + h) * 10 + 2 * t) + s := rfl
    have d0 : zdiv (pcode (pg, a, b, c, h, t, s) : Int) 310 = (((pg * 6 + a) * 6 + b) * 6 + c : Nat) := by
      rw [zdiv_ok (by omega) (by omega) (by omega) (by omega)]
      omega
    have d1 : zdiv ((((pg * 6 + a) * 6 + b) * 6 + c : Nat) : Int) 216 = (pg : Int) := by
      rw [zdiv_ok (by omega) (by omega) (by omega) (by omega)]
      omega
    have d2 : zrem ((((pg * 6 + a) * 6 + b) * 6 + c : Nat) : Int) 216 = (((a * 6 + b) * 6 + c : Nat) : Int) := by
      rw [zrem_ok (by omega) (by omega) (by omega) (by omega)]
      omega
    unfold F_X12_isOut
    rw [d0, d1, d2, e55]
    have hp : pac al (pg, a, b, c, h, t, s) = true ↔ ((pg : Int) = al 31 ∧ a = 5 ∧ b = 5 ∧ c = 5) := decide_eq_true_iff
    by_cases c1 : (pg : Int) = al 31
    · rw [if_pos c1]
      by_cases c2 : (((a * 6 + b) * 6 + c : Nat) : Int) = 215
      · rw [if_pos c2, if_pos (hp.mpr ⟨c1, by omega, by omega, by omega⟩)]
      · rw [if_neg c2, if_neg (fun z => c2 (by have := hp.mp z; omega))]
    · rw [if_neg c1, if_neg (fun z => c1 (hp.mp z).1)]
/-- the line before its k-th state is opened -/
def RJ (al : Nat → Int) (S : ZS) (k N : Nat) (st : Nat → PS) (par ach : Nat → Nat) (wd : Nat → List Nat) : Prop :=
  Bfs (pst al) (p0 al) N st par ach wd k 0 ∧ k ≤ N ∧ (∀ j, j < N → PVal al (st j)) ∧ (∀ i j, i < j → j < N → st i ≠ st j) ∧ (∀ j, j < k → pac al (st j) = false) ∧ RQ S N st par ach
theorem RJ_b (h31 : al 31 ≤ 8) (h25 : 0 ≤ al 25 ∧ al 25 ≤ 4) {N : Nat} {st : Nat → PS} {par ach : Nat → Nat} {wd : Nat → List Nat} (h : RJ al S k N st par ach wd) : N ≤ 89280 :=
  pig (f := fun j => prank al (st j)) (fun i hi => prank_lt h31 h25 _ (h.2.2.1 i hi)) (fun i j hij hj z => h.2.2.2.1 i j hij hj (prank_inj h25 _ _ (h.2.2.1 i (by omega)) (h.2.2.1 j hj) z))
/-- found, or not -/
def RFd (al : Nat → Int) (v : Int × ZS) : Prop :=
  (v.1 = 0 ∧ ∀ w, ¬ wacc (pst al) (pac al) (p0 al) w) ∨ (v.1 = 1 ∧ ∃ g N st par ach wd, RJ al v.2 g N st par ach wd ∧ g < N ∧ v.2.1 1 61 = (g : Int) ∧ wacc (pst al) (pac al) (p0 al) (wd g) ∧ ∀ w, wacc (pst al) (pac al) (p0 al) w → wle (wd g) w)
theorem lp_finds51 (hJ : JobOK al) (e55 : S.2 1 55 = al) {N0 : Nat} {st0 : Nat → PS} {par0 ach0 : Nat → Nat} {wd0 : Nat → List Nat} (h0 : RJ al S 0 N0 st0 par0 ach0 wd0) :
    zp (F_X12_finds_51 0 S) (fun v => FRp S v.2 ∧ RFd al v) := by
  obtain ⟨h31, h25⟩ := JobOK_s hJ
  unfold F_X12_finds_51
  refine zp_w (fun dd (u : Int × ZS) => ∃ k N st par ach wd, dd = 90000 - k ∧ u.1 = (k : Int) ∧ FRp S u.2 ∧ RJ al u.2 k N st par ach wd) ?_ 90000 _ ⟨0, N0, st0, par0, ach0, wd0, rfl, rfl, FRp_r S, h0⟩
  rintro dd ⟨y, V⟩ ⟨k, N, st, par, ach, wd, rfl, rfl, u1, u2⟩
  dsimp only at u1 u2 ⊢
  have hNb := RJ_b h31 h25 u2
  obtain ⟨r1, r2, r3, r4, r5, r6⟩ := id u2
  obtain ⟨q1, q2, q3, q4, q5⟩ := id r6
  by_cases c : k = N
  · subst c
    exact zp_neg (by omega) (zp_some.mpr (zor2_r.mpr ⟨u1, Or.inl ⟨rfl, Bfs_none r1 r5⟩⟩))
  have hk : k < N := by omega
  refine zp_pos (by omega) (zp_lt.mpr (zp_pos (by omega) ?_))
  obtain ⟨X, hX⟩ : ∃ X : ZS, X = (zup V.1 1 61 (k : Int), V.2) := ⟨_, rfl⟩
  rw [← hX]
  have x1 : FRp S X := FRp_t u1 (by rw [hX]; exact ⟨fun r hr => zup_R hr, fun c _ h2 => zup_k h2, fun _ _ => rfl, fun _ _ _ _ _ => rfl⟩)
  have x61 : X.1 1 61 = (k : Int) := by rw [hX]; dsimp only; rw [zup_s]
  have xQ : RQ X N st par ach := by rw [hX]; exact ⟨by dsimp only; rw [zup_k (by decide)]; exact q1, q2, q3, q4, q5⟩
  have e55' := FRp_55 x1 e55
  have e58 : X.2 1 58 k = (pcode (st k) : Int) := xQ.2.1 k hk
  refine zp_bind.mpr ((zp_eq (by rw [Int.toNat_natCast, e58]; exact pac_isOut hJ e55' (st k) (r3 k hk))).mpr ?_)
  by_cases c2 : pac al (st k) = true
  · rw [if_pos c2]
    exact zp_neg (by decide) (zp_some.mpr (zor2_r.mpr ⟨x1, Or.inr ⟨rfl, k, N, st, par, ach, wd, ⟨r1, r2, r3, r4, r5, xQ⟩, hk, x61, (Bfs_first r1 hk r5 c2).1, (Bfs_first r1 hk r5 c2).2⟩⟩))
  · rw [if_neg c2]
    obtain ⟨x, hx⟩ : ∃ x, st k = x := ⟨_, rfl⟩
    obtain ⟨pg, a, b, c', h, t, s⟩ := x
    have hI : RI al X k 0 (pg, a, b, c', h, t, s) := ⟨N, st, par, ach, wd, r1, hk, hx, r3, r4, r5, xQ⟩
    refine zp_pos rfl (zp_bind.mpr (zp_mono (opens12 hJ (by rw [← hx]; exact r3 k hk) e55' (by omega) (by rw [← hx]; exact e58) hI) (fun U hU => ?_)))
    obtain ⟨w1, N', st', par', ach', wd', i1, i2, i3, i4, i5, i6, i7⟩ := hU
    refine zp_some.mpr (zor2_l.mpr ⟨90000 - (k + 1), by omega, k + 1, N', st', par', ach', wd', rfl, ?_, FRp_t x1 w1, Bfs_next i1 (fun c hc => pst_6 _ hc), by omega, i4, i5, fun j hj => ?_, i7⟩)
    · dsimp only
      rw [zadd_ok (by omega) (by omega)]
      rfl
    · by_cases g : j = k
      · rw [g, i3, ← hx]
        simpa using c2
      · exact i6 j (by omega)
end FND
