/-! plan: the class's line grows -/
section CLN
variable {S : ZS} {al : Nat → Int} {N k a : Nat} {st : Nat → CS} {par ach : Nat → Nat} {wd : Nat → List Nat}
def FRc (S V : ZS) : Prop := (∀ r, r ≠ 14 → V.1 r = S.1 r) ∧ (∀ c, c ≠ 5 → c ≠ 6 → V.1 14 c = S.1 14 c) ∧ (∀ r, r ≠ 14 → V.2 r = S.2 r) ∧ (∀ o, o ≠ 4 → o ≠ 5 → V.2 14 o = S.2 14 o)
theorem FRc_r (S : ZS) : FRc S S := ⟨fun _ _ => rfl, fun _ _ _ => rfl, fun _ _ => rfl, fun _ _ _ => rfl⟩
theorem FRc_t {S V U : ZS} (h : FRc S V) (k : FRc V U) : FRc S U := ⟨fun r hr => (k.1 r hr).trans (h.1 r hr), fun c h1 h2 => (k.2.1 c h1 h2).trans (h.2.1 c h1 h2), fun r hr => (k.2.2.1 r hr).trans (h.2.2.1 r hr), fun o h1 h2 => (k.2.2.2 o h1 h2).trans (h.2.2.2 o h1 h2)⟩
def cent (par ach : Nat → Nat) (j : Nat) : Nat := if j = 0 then 0 else par j * 2 ^ 32 + ach j * 2 ^ 24
def CQ (S : ZS) (N : Nat) (st : Nat → CS) (par ach : Nat → Nat) : Prop :=
  S.1 14 5 = (N : Int) ∧ (∀ j, j < N → S.2 14 4 j = ((cent par ach j + ccode (st j) : Nat) : Int)) ∧ (∀ s, s < 178560 → (mbit (S.2 14 5) s = true ↔ ∃ j, j < N ∧ ccode (st j) = s))
/-- no goal so far, the k-th state x is being left, acts before a done -/
def CI (al : Nat → Int) (S : ZS) (k a : Nat) (x : CS) : Prop :=
  ∃ N st par ach wd, Bfs (cst al) (csf al (p0 al)) N st par ach wd k a ∧ k < N ∧ st k = x ∧ (∀ j, j < N → CVal al (st j)) ∧ (∀ i j, i < j → j < N → st i ≠ st j) ∧ (∀ j, j < N → cac al (st j) = false) ∧ CQ S N st par ach ∧ S.1 14 6 = -1
/-- a goal is in the line -/
def CG (al : Nat → Int) (S : ZS) : Prop :=
  ∃ N st par ach wd k a g, Bfs (cst al) (csf al (p0 al)) N st par ach wd k a ∧ g + 1 = N ∧ N ≤ 65536 ∧ (∀ j, j < g → cac al (st j) = false) ∧ cac al (st g) = true ∧ (g = 0 ∨ (par g = k ∧ ach g + 1 = a)) ∧ (∀ j, j < N → CVal al (st j)) ∧ (∀ j, 0 < j → j < N → ach j < 8) ∧ CQ S N st par ach ∧ S.1 14 6 = (g : Int)
theorem CI_b (h31 : al 31 ≤ 8) (h4 : ∀ j, j < N → CVal al (st j)) (h5 : ∀ i j, i < j → j < N → st i ≠ st j) : N ≤ 63550 :=
  pig (f := fun j => crank (st j)) (fun i hi => crank_lt h31 _ (h4 i hi)) (fun i j hij hj z => h5 i j hij hj (crank_inj (al := al) _ _ (h4 i (by omega)) (h4 j hj) z))
theorem CI_skip {x : CS} (h : CI al S k a x) (hn : cst al x a = none) : CI al S k (a + 1) x := by
  obtain ⟨N, st, par, ach, wd, h1, h2, h3, h4⟩ := h
  exact ⟨N, st, par, ach, wd, Bfs_skip h1 (fun _ => Or.inl (by rw [h3]; exact hn)), h2, h3, h4⟩
theorem Bfs_ach {σ : Type} {step : σ → Nat → Option σ} {s0 : σ} {st : Nat → σ} (h : Bfs step s0 N st par ach wd k a) (h8 : ∀ s c, 8 ≤ c → step s c = none) {j : Nat} (hj0 : 0 < j) (hj : j < N) : ach j < 8 := by
  rcases Nat.lt_or_ge (ach j) 8 with z | z
  · exact z
  · have := (h.2.2.2.1 j hj0 hj).2.1
    rw [h8 _ _ z] at this
    cases this
theorem cst_6 (x : CS) {act : Nat} (h : 6 ≤ act) : cst al x act = none := by
  obtain ⟨f, p, hh, t, s⟩ := x
  dsimp only [cst]
  rw [if_neg (by omega)]
  split
  · rfl
  · rw [if_neg (by omega), if_neg (fun z => by omega)]
theorem CI_put {x : CS} {f p h t s P : Nat} (hJ : JobOK al) (hI : CI al S k a x) (hx : CVal al x) (ht : cst al x a = some (f, p, h, t, s)) (hP : P = k * 2 ^ 32 + a * 2 ^ 24) (h7 : S.1 14 7 = 11) (e0 : S.1 11 0 = al 31) :
    zp (F_X5_meet (f : Int) (p : Int) (h : Int) (t : Int) (s : Int) (P : Int) S) (fun V => FRc S V ∧ (CI al V k (a + 1) x ∨ CG al V)) := by
  obtain ⟨N, st, par, ach, wd, h1, h2, h3, h4, h5, h6, ⟨q1, q2, q3⟩, hg⟩ := hI
  have h31 := hJ.1.2
  have hN := CI_b h31 h4 h5
  have hv : CVal al (f, p, h, t, s) := cst_val hJ x a _ hx ht
  have hlt := ccode_lt h31 _ hv
  have ha6 : a < 6 := by
    rcases Nat.lt_or_ge a 6 with z | z
    · exact z
    · rw [cst_6 x z] at ht; cases ht
  rw [zp_eq (lp_meet hv h31 ⟨k * 2 ^ 8 + a, by rw [hP]; omega⟩ (by rw [hP]; omega) q1 (by omega) hg h7 e0)]
  generalize hy : (f, p, h, t, s) = y at *
  by_cases c : mbit (S.2 14 5) (ccode y) = true
  · rw [if_pos c]
    obtain ⟨j, hj1, hj2⟩ := (q3 _ hlt).mp c
    have ej : st j = y := ccode_inj (al := al) _ _ (h4 j hj1) hv hj2
    exact ⟨FRc_r S, Or.inl ⟨N, st, par, ach, wd, Bfs_skip h1 (fun _ => Or.inr ⟨j, hj1, by rw [h3, ej]; exact ht⟩), h2, h3, h4, h5, h6, ⟨q1, q2, q3⟩, hg⟩⟩
  · rw [if_neg c]
    have hnew : ∀ j, j < N → st j ≠ y := fun j hj z => c ((q3 _ hlt).mpr ⟨j, hj, by rw [z]⟩)
    have hB := Bfs_add (st' := fun j => if j = N then y else st j) (par' := fun j => if j = N then k else par j) (ach' := fun j => if j = N then a else ach j) (wd' := fun j => if j = N then wd k ++ [a] else wd j) h1 h2 (by rw [h3]; exact ht) (fun j hj => if_neg (by omega)) (fun j hj => if_neg (by omega)) (fun j hj => if_neg (by omega)) (fun j hj => if_neg (by omega)) (if_pos rfl) (if_pos rfl) (if_pos rfl) (if_pos rfl)
    have hV : ∀ j, j < N + 1 → CVal al (if j = N then y else st j) := by
      intro j hj
      by_cases e : j = N
      · rw [if_pos e]; exact hv
      · rw [if_neg e]; exact h4 j (by omega)
    have hFR : ∀ I : Nat → Nat → Int, I = zup S.1 14 6 (N : Int) ∨ I = S.1 → FRc S (zup I 14 5 ((N + 1 : Nat) : Int), zuA (zuA S.2 14 5 (zset (S.2 14 5) (ccode y / 64) (zlor (S.2 14 5 (ccode y / 64)) (zlshl 1 ((ccode y % 64 : Nat) : Int))))) 14 4 (zset (S.2 14 4) N ((P + ccode y : Nat) : Int))) := by
      intro I hI
      refine ⟨fun r hr => ?_, fun c h5 h6 => ?_, fun r hr => ?_, fun o h4 h5 => ?_⟩
      · dsimp only; rw [zup_R hr]; rcases hI with z | z <;> rw [z]; exact zup_R hr
      · dsimp only; rw [zup_k h5]; rcases hI with z | z <;> rw [z]; exact zup_k h6
      · dsimp only; rw [zuA_R hr, zuA_R hr]
      · dsimp only; rw [zuA_o h4, zuA_o h5]
    have hQ : ∀ I : Nat → Nat → Int, CQ (zup I 14 5 ((N + 1 : Nat) : Int), zuA (zuA S.2 14 5 (zset (S.2 14 5) (ccode y / 64) (zlor (S.2 14 5 (ccode y / 64)) (zlshl 1 ((ccode y % 64 : Nat) : Int))))) 14 4 (zset (S.2 14 4) N ((P + ccode y : Nat) : Int))) (N + 1) (fun j => if j = N then y else st j) (fun j => if j = N then k else par j) (fun j => if j = N then a else ach j) := by
      intro I
      refine ⟨by dsimp only; rw [zup_s], fun j hj => ?_, fun s hs => ?_⟩
      · dsimp only
        rw [zuA_s, zset_ap]
        unfold cent
        dsimp only
        by_cases e : j = N
        · rw [if_pos e, if_pos e, if_neg (show ¬ j = 0 by omega), if_pos e, if_pos e, hP]
        · rw [if_neg e, if_neg e, if_neg e, if_neg e]
          exact q2 j (by omega)
      · dsimp only
        rw [zuA_o (show (5 : Nat) ≠ 4 by decide), zuA_s, mbit_set, Bool.or_eq_true, q3 s hs, decide_eq_true_eq]
        constructor
        · rintro (⟨j, hj1, hj2⟩ | z)
          · exact ⟨j, by omega, by rw [if_neg (by omega)]; exact hj2⟩
          · exact ⟨N, by omega, by rw [if_pos rfl]; exact z.symm⟩
        · rintro ⟨j, hj1, hj2⟩
          by_cases e : j = N
          · rw [if_pos e] at hj2; exact Or.inr hj2.symm
          · rw [if_neg e] at hj2; exact Or.inl ⟨j, by omega, hj2⟩
    by_cases c2 : cac al y = true
    · rw [if_pos c2]
      refine ⟨hFR _ (Or.inl rfl), Or.inr ⟨N + 1, _, _, _, _, k, a + 1, N, hB, rfl, by omega, fun j hj => ?_, ?_, Or.inr ⟨if_pos rfl, by rw [if_pos rfl]⟩, hV, fun j hj0 hj => ?_, hQ _, ?_⟩⟩
      · rw [if_neg (by omega)]; exact h6 j hj
      · rw [if_pos rfl]; exact c2
      · by_cases e : j = N
        · rw [if_pos e]; omega
        · rw [if_neg e]
          exact Bfs_ach h1 (fun s c hc => cst_6 s (by omega)) hj0 (by omega)
      · dsimp only; rw [zup_k (by decide), zup_s]
    · rw [if_neg c2]
      refine ⟨hFR _ (Or.inr rfl), Or.inl ⟨N + 1, _, _, _, _, hB, by omega, ?_, hV, fun i j hij hj => ?_, fun j hj => ?_, hQ _, ?_⟩⟩
      · rw [if_neg (by omega)]; exact h3
      · rw [if_neg (show ¬ i = N by omega)]
        by_cases e : j = N
        · rw [if_pos e]; exact hnew i (by omega)
        · rw [if_neg e]; exact h5 i j hij (by omega)
      · by_cases e : j = N
        · rw [if_pos e]; simpa using c2
        · rw [if_neg e]; exact h6 j (by omega)
      · dsimp only; rw [zup_k (by decide)]; exact hg
end CLN
