/-! a tick, the reference: whole -/
section REFT
variable {S : ZS} {m n k s e : Nat} {wy ro sp wear beat cor ey : Nat → Int} {many : Nat} {now now0 : Int} {p p' p1 : Nat → Nat → Int} {L P N P1 : List Nat} {lim : Int} {b : Bool}
theorem wt1_cong (h : ∀ o, o ≠ 46 → p o = p' o) : ∀ o, o ≠ 46 → wt1 now b p e o = wt1 now b p' e o := by
  intro o ho
  funext j
  unfold wt1
  rw [h 39 (by decide), h 40 (by decide), h 41 (by decide), h 42 (by decide), h 43 (by decide), h o ho]
theorem wtN_ge {j : Nat} : ∀ {e : Nat}, e ≤ j → ∀ o, (o = 39 ∨ o = 40 ∨ o = 41) → wtN ey now N p e o j = p o j
  | 0, _, _, _ => rfl
  | e + 1, hj, o, ho => by
    rw [← wtN_ge (show e ≤ j by omega) o ho]
    show wt1 now _ (wtN ey now N p e) e o j = _
    have hne : j ≠ e := by omega
    unfold wt1
    rcases ho with rfl | rfl | rfl <;> simp [hne]
theorem lp_looks12 (hm : S.1 1 27 = (m : Int)) (hm40 : m ≤ 40) (h28 : S.1 1 28 = now) (hk : p 4 7 = (k : Int)) (hk19 : k ≤ 19) (hp : ∀ o, o ≠ 46 → S.2 1 o = p o) (hNm : ∀ a, a ∈ N ↔ a < m ∧ (p 33 a = 0 ∨ p 33 a = 3))
    (hb : ∀ a, a < m → (0 ≤ p 32 a ∧ p 32 a ≤ 10000) ∧ (10 ≤ p 31 a ∧ p 31 a ≤ 70)) (hey : ∀ e, e < k → 1 ≤ p 10 e ∧ p 10 e ≤ 300)
    (hw : ∀ e, e < k → (p 39 e = 0 ∨ p 39 e = 1) ∧ (p 39 e = 1 → p 40 e = 0 ∨ p 40 e = 1) ∧ (0 ≤ p 41 e ∧ p 41 e ≤ 12) ∧ (p 39 e = 1 ∧ p 40 e = 1 → 1 ≤ p 41 e)) :
    zp (F_X12_looks S) (fun V => V.1 = S.1 ∧ (∀ r, r ≠ 1 → V.2 r = S.2 r) ∧ ∀ o, o ≠ 46 → V.2 1 o = wtN (p 10) now N p k o) := by
  unfold F_X12_looks F_X12_looks_2
  refine zp_w (fun d st => ∃ e V, d + e = k ∧ st = ((e : Int), V) ∧ V.1 = S.1 ∧ (∀ r, r ≠ 1 → V.2 r = S.2 r) ∧ ∀ o, o ≠ 46 → V.2 1 o = wtN (p 10) now N p e o) (fun d st hst => ?_) k _ ⟨0, S, by omega, rfl, rfl, fun r _ => rfl, hp⟩
  obtain ⟨e, V, hd, rfl, v1, v2, v3⟩ := hst
  have v4 : V.2 1 4 = p 4 := by rw [v3 4 (by decide), wtN_o (by omega)]
  have v31 : V.2 1 31 = p 31 := by rw [v3 31 (by decide), wtN_o (by omega)]
  have v32 : V.2 1 32 = p 32 := by rw [v3 32 (by decide), wtN_o (by omega)]
  have v33 : V.2 1 33 = p 33 := by rw [v3 33 (by decide), wtN_o (by omega)]
  have v10 : V.2 1 10 = p 10 := by rw [v3 10 (by decide), wtN_o (by omega)]
  dsimp only
  simp only [v4, hk]
  refine zp_if (fun c => ?_) (fun c => ?_)
  · have he : e < k := by omega
    have v39 : V.2 1 39 e = p 39 e := by rw [v3 39 (by decide)]; exact wtN_ge (Nat.le_refl e) 39 (by omega)
    have v40 : V.2 1 40 e = p 40 e := by rw [v3 40 (by decide)]; exact wtN_ge (Nat.le_refl e) 40 (by omega)
    have v41 : V.2 1 41 e = p 41 e := by rw [v3 41 (by decide)]; exact wtN_ge (Nat.le_refl e) 41 (by omega)
    obtain ⟨z1, z2, z3, z4⟩ := hw e he
    have hl := lp_look12 (S := V) (m := m) (now := now) (e := e) (b := vis (p 10) p N e) (by rw [v1]; exact hm) hm40 (by rw [v1]; exact h28) (by omega) (fun a ha => by rw [v31, v32]; exact hb a ha) (by rw [v10]; exact hey e he) ?_
      (by rw [v39]; exact z1) (by rw [v39, v40]; exact z2) (by rw [v41]; exact z3) (by rw [v39, v40, v41]; exact z4)
    · refine zp_mono hl fun r hr => ?_
      obtain ⟨X, rfl, x1, x2, x3⟩ := hr
      refine zor2_l.mpr ⟨d - 1, by omega, e + 1, X, by omega, rfl, x1.trans v1, fun r hr => (x2 r hr).trans (v2 r hr), fun o ho => ?_⟩
      rw [x3 o]
      exact wt1_cong v3 o ho
    · unfold vis eyq
      rw [List.any_eq_true, v31, v32, v33, v10]
      constructor
      · rintro ⟨a, ha, h⟩
        obtain ⟨y1, y2⟩ := (hNm a).mp ha
        have h := of_decide_eq_true h
        exact ⟨a, y1, decide_eq_true ⟨y2, h⟩⟩
      · rintro ⟨a, ha, h⟩
        have h := of_decide_eq_true h
        exact ⟨a, (hNm a).mpr ⟨ha, h.1⟩, decide_eq_true h.2⟩
  · have : e = k := by omega
    subst this
    exact zp_some.mpr (zor2_r.mpr ⟨v1, v2, v3⟩)
theorem mvN_cong (h : ∀ o, o ≠ 46 → p o = p' o) : ∀ i, (∀ o, o ≠ 46 → (mvN wy ro sp wear beat cor many now L p P i).1 o = (mvN wy ro sp wear beat cor many now L p' P i).1 o) ∧ (mvN wy ro sp wear beat cor many now L p P i).2 = (mvN wy ro sp wear beat cor many now L p' P i).2
  | 0 => ⟨h, rfl⟩
  | i + 1 => by
    obtain ⟨h1, h2⟩ := mvN_cong h i
    show (∀ o, o ≠ 46 → (mv1 wy ro sp wear beat cor many now (mvN wy ro sp wear beat cor many now L p P i) (L.getD i 0)).1 o = (mv1 wy ro sp wear beat cor many now (mvN wy ro sp wear beat cor many now L p' P i) (L.getD i 0)).1 o) ∧ (mv1 wy ro sp wear beat cor many now (mvN wy ro sp wear beat cor many now L p P i) (L.getD i 0)).2 = (mv1 wy ro sp wear beat cor many now (mvN wy ro sp wear beat cor many now L p' P i) (L.getD i 0)).2
    generalize mvN wy ro sp wear beat cor many now L p P i = q at *
    generalize mvN wy ro sp wear beat cor many now L p' P i = q' at *
    obtain ⟨a, b⟩ := q
    obtain ⟨a', b'⟩ := q'
    dsimp only at h1 h2
    subst h2
    have hm : ∀ s lim, mvq wy ro sp wear beat cor many now a s lim = mvq wy ro sp wear beat cor many now a' s lim := fun s lim => by
      unfold mvq
      rw [h1 31 (by decide), h1 32 (by decide), h1 34 (by decide), h1 35 (by decide), h1 37 (by decide)]
    have hp : ∀ o, o ≠ 46 → ∀ P s lim, mvp wy ro sp wear beat cor many now a P s lim o = mvp wy ro sp wear beat cor many now a' P s lim o := fun o ho P s lim => by
      unfold mvp
      rw [hm, h1 31 (by decide), h1 34 (by decide), h1 37 (by decide), h1 36 (by decide)]
      funext j
      unfold pmv
      rw [h1 o ho]
    unfold mv1
    dsimp only
    refine ⟨fun o ho => hp o ho _ _ _, ?_⟩
    rw [hp 33 (by decide), hp 32 (by decide), h1 31 (by decide)]
theorem TkOK_cong (h : ∀ o, o ≠ 46 → p o = p' o) (K : TkOK wy ro m now p L P) : TkOK wy ro m now p' L P := by
  unfold TkOK LBd at K ⊢
  rw [h 31 (by decide), h 32 (by decide), h 33 (by decide), h 34 (by decide), h 35 (by decide), h 36 (by decide), h 37 (by decide)] at K
  exact K
theorem TkR_cong (h : ∀ o, o ≠ 46 → p o = p' o) (K : TkR m p L P) : TkR m p' L P := by
  unfold TkR at K ⊢
  rw [h 31 (by decide), h 32 (by decide), h 33 (by decide), h 36 (by decide)] at K
  exact K
theorem tkB_o {o : Nat} (h : o < 32 ∨ 35 < o) : (tkB wy now p N P).1 o = p o := by
  unfold tkB
  split
  · funext a
    unfold pcb
    dsimp only
    rw [if_neg (show ¬ o = 35 by omega), if_neg (show ¬ o = 34 by omega), if_neg (show ¬ o = 32 by omega), if_neg (show ¬ o = 33 by omega)]
    split <;> rfl
  · rfl
/-- what a tick makes of the picture -/
abbrev TS : Type := (Nat → Nat → Int) × List Nat × List Nat × Int
def tkQ (many : Nat) (now : Int) (p : Nat → Nat → Int) (L P : List Nat) : MS := mvN (p 4) (p 6) (p 7) (p 24) (p 25) (p 26) many now L p P L.length
def tkF (k many : Nat) (now : Int) (X : TS) : TS :=
  (wtN (X.1 10) now (tkB (X.1 4) now (tkJ (tkQ many now X.1 X.2.1 X.2.2.1).1 (tkQ many now X.1 X.2.1 X.2.2.1).2.1) (tkQ many now X.1 X.2.1 X.2.2.1).2.1 (tkQ many now X.1 X.2.1 X.2.2.1).2.2.1).2.1
      (tkB (X.1 4) now (tkJ (tkQ many now X.1 X.2.1 X.2.2.1).1 (tkQ many now X.1 X.2.1 X.2.2.1).2.1) (tkQ many now X.1 X.2.1 X.2.2.1).2.1 (tkQ many now X.1 X.2.1 X.2.2.1).2.2.1).1 k,
    (tkB (X.1 4) now (tkJ (tkQ many now X.1 X.2.1 X.2.2.1).1 (tkQ many now X.1 X.2.1 X.2.2.1).2.1) (tkQ many now X.1 X.2.1 X.2.2.1).2.1 (tkQ many now X.1 X.2.1 X.2.2.1).2.2.1).2.1,
    (tkB (X.1 4) now (tkJ (tkQ many now X.1 X.2.1 X.2.2.1).1 (tkQ many now X.1 X.2.1 X.2.2.1).2.1) (tkQ many now X.1 X.2.1 X.2.2.1).2.1 (tkQ many now X.1 X.2.1 X.2.2.1).2.2.1).2.2,
    tkj (tkQ many now X.1 X.2.1 X.2.2.1).1 (tkQ many now X.1 X.2.1 X.2.2.1).2.1)
def WOK (k : Nat) (p : Nat → Nat → Int) : Prop := ∀ e, e < k → (p 39 e = 0 ∨ p 39 e = 1) ∧ (p 39 e = 1 → p 40 e = 0 ∨ p 40 e = 1) ∧ (0 ≤ p 41 e ∧ p 41 e ≤ 12) ∧ (p 39 e = 1 ∧ p 40 e = 1 → 1 ≤ p 41 e)
theorem WOK_1 (h : WOK k p) : WOK k (wt1 now b p e) := by
  intro j hj
  have h1 := h j hj
  by_cases c : j = e
  · subst c
    unfold wt1
    simp only [Nat.reduceEqDiff, reduceIte, true_and]
    cases b
    · simp only [Bool.false_eq_true, if_false, false_and]
      exact ⟨Or.inl (by trivial), fun z => absurd z (by decide), h1.2.2.1, fun z => absurd z.1 (by decide)⟩
    · simp only [if_true, true_and]
      by_cases c1 : p 39 j = 0
      · by_cases c2 : p 41 j < 12
        · simp only [c1, c2, if_true, true_and, reduceIte]
          exact ⟨Or.inr (by trivial), fun _ => Or.inr (by trivial), by omega, fun _ => by omega⟩
        · simp only [c1, c2, if_true, if_false, and_false, reduceIte]
          exact ⟨Or.inr (by trivial), fun _ => Or.inl (by trivial), h1.2.2.1, fun z => by omega⟩
      · simp only [c1, if_false, false_and]
        exact ⟨Or.inr (by trivial), fun _ => h1.2.1 (h1.1.resolve_left c1), h1.2.2.1, fun z => h1.2.2.2 ⟨h1.1.resolve_left c1, by omega⟩⟩
  · unfold wt1
    simp only [Nat.reduceEqDiff, reduceIte, c, false_and, if_false]
    exact h1
theorem WOK_N (h : WOK k p) : ∀ e, WOK k (wtN ey now N p e)
  | 0 => h
  | e + 1 => WOK_1 (WOK_N h e)
theorem WOK_o (h : WOK k p) (h1 : p' 39 = p 39) (h2 : p' 40 = p 40) (h3 : p' 41 = p 41) : WOK k p' := by
  unfold WOK
  rw [h1, h2, h3]
  exact h
/-- what is the same behind a tick -/
theorem tkQ_o {o : Nat} (h1 : o ≠ 32) (h2 : o ≠ 35) (h3 : o ≠ 33) (h4 : o ≠ 36) : (tkQ many now p L P).1 o = p o := funext fun _ => mvN_o h1 h2 h3 h4 _
theorem tkF_o {X : TS} {o : Nat} (h : o < 32 ∨ (36 < o ∧ o < 39) ∨ 43 < o) : (tkF k many now X).1 o = X.1 o := by
  unfold tkF
  dsimp only
  rw [wtN_o (by omega), tkB_o (by omega), tkJ_of (by omega), tkQ_o (by omega) (by omega) (by omega) (by omega)]
theorem tkF_ok {X : TS} (hW : WayOK (X.1 4) (X.1 6) (X.1 7) (X.1 10)) (H : DrOK (X.1 4) (X.1 6) (X.1 7) (X.1 24) (X.1 25)) (K : TrafOK (X.1 4) (X.1 6) (m : Int) now0 (-1) (X.1 31) (X.1 32) (X.1 33) (X.1 34) (X.1 35) (X.1 36) (X.1 37) X.2.1 X.2.2.1 n) (hn : now = now0 + 1) (hn2 : now ≤ 300 * (n : Int)) (hw : WOK k X.1) :
    TrafOK (X.1 4) (X.1 6) (m : Int) now (tkF k many now X).2.2.2 ((tkF k many now X).1 31) ((tkF k many now X).1 32) ((tkF k many now X).1 33) ((tkF k many now X).1 34) ((tkF k many now X).1 35) ((tkF k many now X).1 36) ((tkF k many now X).1 37) (tkF k many now X).2.1 (tkF k many now X).2.2.1 n ∧ WOK k (tkF k many now X).1 := by
  obtain ⟨p, L, P, jam⟩ := X
  dsimp only at *
  obtain ⟨q1, q2, q3⟩ := T_mid (cor := p 26) (many := many) hW H K hn hn2 (p1 := (tkQ many now p L P).1) (N := (tkQ many now p L P).2.1) (P1 := (tkQ many now p L P).2.2.1) (lim := (tkQ many now p L P).2.2.2) rfl
  have e31 : tkJ (tkQ many now p L P).1 (tkQ many now p L P).2.1 31 = p 31 := by rw [tkJ_of (by decide), tkQ_o (by decide) (by decide) (by decide) (by decide)]
  have e34 : tkJ (tkQ many now p L P).1 (tkQ many now p L P).2.1 34 = p 34 := by rw [tkJ_of (by decide), tkQ_o (by decide) (by decide) (by decide) (by decide)]
  have e37 : tkJ (tkQ many now p L P).1 (tkQ many now p L P).2.1 37 = p 37 := by rw [tkJ_of (by decide), tkQ_o (by decide) (by decide) (by decide) (by decide)]
  have e32 : tkJ (tkQ many now p L P).1 (tkQ many now p L P).2.1 32 = (tkQ many now p L P).1 32 := tkJ_of (by decide)
  have hb := T_back hW q1 (by rw [e31, e34, e37, e32]; exact q2)
  unfold tkF
  dsimp only
  constructor
  · rw [wtN_o (o := 31) (by omega), wtN_o (o := 32) (by omega), wtN_o (o := 33) (by omega), wtN_o (o := 34) (by omega), wtN_o (o := 35) (by omega), wtN_o (o := 36) (by omega), wtN_o (o := 37) (by omega)]
    exact hb
  · refine WOK_N (WOK_o hw ?_ ?_ ?_) k
    · rw [tkB_o (by omega), tkJ_of (by decide), tkQ_o (by decide) (by decide) (by decide) (by decide)]
    · rw [tkB_o (by omega), tkJ_of (by decide), tkQ_o (by decide) (by decide) (by decide) (by decide)]
    · rw [tkB_o (by omega), tkJ_of (by decide), tkQ_o (by decide) (by decide) (by decide) (by decide)]
theorem lp_ticks12 {jam : Int} (hm : S.1 1 27 = (m : Int)) (h28 : S.1 1 28 = now0) (h29 : S.1 1 29 = -1) (hn : now = now0 + 1) (bn : 0 ≤ now ∧ now < 2147483648) (hp : ∀ o, o ≠ 46 → S.2 1 o = p o) (hW : WayOK (p 4) (p 6) (p 7) (p 10)) (H : DrOK (p 4) (p 6) (p 7) (p 24) (p 25)) (C : CoOK (p 26) many) (k3 : S.1 1 26 = (many : Int))
    (K : TrafOK (p 4) (p 6) (m : Int) now0 (-1) (p 31) (p 32) (p 33) (p 34) (p 35) (p 36) (p 37) L P n) (hn2 : now ≤ 300 * (n : Int)) (hk : p 4 7 = (k : Int)) (hw : WOK k p) :
    zp (F_X12_ticks S) (fun V => V.1 = zup (zup S.1 1 28 now) 1 29 (tkF k many now (p, L, P, jam)).2.2.2 ∧ (∀ r, r ≠ 1 → V.2 r = S.2 r) ∧ ∀ o, o ≠ 46 → V.2 1 o = (tkF k many now (p, L, P, jam)).1 o) := by
  obtain ⟨hK, hR, hin, _⟩ := TkOK_of hW K
  have ho3 := K.2.1.1
  have hm40 : m ≤ 40 := hK.1
  obtain ⟨T1, T2, T3⟩ := T_mid (cor := p 26) (many := many) hW H K hn hn2 (p1 := (tkQ many now p L P).1) (N := (tkQ many now p L P).2.1) (P1 := (tkQ many now p L P).2.2.1) (lim := (tkQ many now p L P).2.2.2) rfl
  have hqo : ∀ o, o < 32 ∨ 36 < o → tkJ (tkQ many now p L P).1 (tkQ many now p L P).2.1 o = p o := fun o ho => by rw [tkJ_of (by omega), tkQ_o (by omega) (by omega) (by omega) (by omega)]
  have e34 : tkJ (tkQ many now p L P).1 (tkQ many now p L P).2.1 34 = p 34 := by rw [tkJ_of (by decide), tkQ_o (by decide) (by decide) (by decide) (by decide)]
  have e32 : tkJ (tkQ many now p L P).1 (tkQ many now p L P).2.1 32 = (tkQ many now p L P).1 32 := tkJ_of (by decide)
  have T4 := T_back hW T1 (by rw [hqo 31 (by omega), e34, hqo 37 (by omega), e32]; exact T2)
  unfold tkF
  dsimp only
  obtain ⟨e1, e2, _, _, _, _, _, _, _, _⟩ := TkOK_end (cor := p 26) (many := many) H hn ho3 hK (p1 := (tkQ many now p L P).1) (N := (tkQ many now p L P).2.1) (P1 := (tkQ many now p L P).2.2.1) (lim := (tkQ many now p L P).2.2.2) rfl
  obtain ⟨p1, N, P1, lim, hq⟩ : ∃ p1 N P1 lim, tkQ many now p L P = (p1, N, P1, lim) := ⟨_, _, _, _, rfl⟩
  rw [hq] at T1 T2 T3 T4 hqo e34 e32 e1 e2 ⊢
  dsimp only at T1 T2 T3 T4 hqo e34 e32 e1 e2 ⊢
  have fn : zadd (S.1 1 28) 1 = now := by rw [h28, zadd_ok (by omega) (by omega), hn]
  unfold F_X12_ticks F_X12_ticks_12
  refine zp_lt.mpr ?_
  rw [fn]
  refine zp_w (fun d st => ∃ i, d + i = m ∧ st = ((i : Int), (zup S.1 1 28 now, zuA S.2 1 46 (zrg 0 i (fun s => if S.2 1 33 s = 0 then 0 else 1) (S.2 1 46))))) (fun d st hst => ?_) m _ ⟨0, by omega, by rw [zrg_0, zuA_same]; rfl⟩
  obtain ⟨i, hd, rfl⟩ := hst
  have k27 : zup S.1 1 28 now 1 27 = (m : Int) := by rw [zup_k (by decide)]; exact hm
  have e33 : ∀ g, zuA S.2 1 46 g 1 33 = S.2 1 33 := fun g => zuA_o (by decide)
  simp only [k27, e33, Int.toNat_natCast, zuA_s, zuA_A]
  rcases Nat.lt_or_ge i m with hi | hi
  · have f1 : zadd (i : Int) 1 = ((i + 1 : Nat) : Int) := by rw [zadd_ok (by omega) (by omega)]; rfl
    simp only [f1]
    refine zp_pos (by omega) (zp_pos (by omega) (zp_if (fun c => zp_lt.mpr ?_) (fun c => zp_lt.mpr ?_)))
    · exact zp_some.mpr (zor2_l.mpr ⟨d - 1, by omega, i + 1, by omega, by rw [zrg_z (if_pos c).symm]⟩)
    · exact zp_some.mpr (zor2_l.mpr ⟨d - 1, by omega, i + 1, by omega, by rw [zrg_z (if_neg c).symm]⟩)
  · have : i = m := by omega
    subst this
    refine zp_neg (by omega) (zp_in.mpr ?_)
    obtain ⟨X, hX⟩ : ∃ X : ZS, X = (zup S.1 1 28 now, zuA S.2 1 46 (zrg 0 i (fun s => if S.2 1 33 s = 0 then 0 else 1) (S.2 1 46))) := ⟨_, rfl⟩
    rw [← hX]
    have x1 : ∀ j, j ≠ 28 → X.1 1 j = S.1 1 j := fun j hj => by rw [hX]; exact zup_k hj
    have xo : ∀ o, o ≠ 46 → p o = X.2 1 o := fun o ho => by rw [hX, ← hp o ho]; exact (zuA_o ho).symm
    have x46 : ∀ a, a < i → (X.2 1 46 a = 0 ↔ a ∈ L) := by
      intro a ha
      rw [hX]
      dsimp only
      rw [zuA_s, zrg_ap, if_pos (by omega)]
      (try dsimp only)
      rw [Nat.sub_zero, hp 33 (by decide), hR.1 a]
      by_cases c : p 33 a = 0
      · rw [if_pos c]; exact ⟨fun _ => ⟨ha, c⟩, fun _ => rfl⟩
      · rw [if_neg c]; exact ⟨fun z => by omega, fun z => absurd z.2 c⟩
    have y4 := (xo 4 (by decide)).symm
    have y6 := (xo 6 (by decide)).symm
    have y7 := (xo 7 (by decide)).symm
    have y24 := (xo 24 (by decide)).symm
    have y25 := (xo 25 (by decide)).symm
    have y26 := (xo 26 (by decide)).symm
    have y31 := (xo 31 (by decide)).symm
    have y32 := (xo 32 (by decide)).symm
    refine lp_tk48 (S := X) (m := i) (many := many) (now := now) (now0 := now0) (L := L) (P := P) (by rw [x1 27 (by decide)]; exact hm) (by rw [hX]; dsimp only; rw [zup_s]) hn bn (by rw [y4]; exact hW.1) (by rw [y4]; rcases hW.2.2.2.1 with z | z <;> have := hW.1 <;> omega) (by rw [y4, y6, y7, y24, y25]; exact H) (by rw [y26]; exact C) (by rw [x1 26 (by decide)]; exact k3)
      (by rw [y4, y6]; exact TkOK_cong xo hK) (TkR_cong xo hR) (by rw [y4, y31, y32]; exact hin) x46 (fun V v1 v2 v3 => ?_)
    rw [y4, y6, y7, y24, y25, y26] at v3
    have v3 : ∀ o, o ≠ 46 → V.2 1 o = p1 o := fun o ho => by
      rw [v3 o ho, ← (mvN_cong xo L.length).1 o ho]
      have := congrArg Prod.fst hq
      exact congrFun this o
    have v35 := v3 35 (by decide)
    have v33 := v3 33 (by decide)
    have v32 := v3 32 (by decide)
    obtain ⟨⟨o1, o2⟩, ⟨o3, o4⟩, o5, os, oL, oLp, oP, oPp, oPl, o6, o7, o8⟩ := T1
    have hN0 : ∀ a, a ∈ N → p1 33 a = 0 := fun a ha => ((e1 a).mp ha).2
    have hj : bst (jmc (V.2 1)) (fun o => -(V.2 1 32 o)) i = tkj p1 N := by
      have : jmc (V.2 1) = jmc p1 := by
        funext o
        unfold jmc
        rw [v33, v35]
      rw [this, v32]
      refine jam_eq (fun a => ?_) e2 (fun a ha => ?_)
      · constructor
        · intro z
          exact ⟨by have := ((oL a).mp z).1; omega, hN0 a z⟩
        · rintro ⟨z1, z2⟩
          have hq33 := mvN_pk (now := now) (many := many) hR (TkOK_nd hK) (Nat.le_refl _) hq (by rw [← hq]; exact TkOK_inv H hK _ (Nat.le_refl _))
          by_cases c : a ∈ L
          · exact (e1 a).mpr ⟨c, z2⟩
          · have h0 : p1 33 a = p 33 a := by
              have := mvN_out (wy := p 4) (ro := p 6) (sp := p 7) (wear := p 24) (beat := p 25) (cor := p 26) (many := many) (now := now) (p := p) (L := L) (P := P) (o := 33) (j := a) (i := L.length) (fun k hk z => c (by rw [← z, getD_el hk]; exact List.getElem_mem hk))
              rw [← this]
              exact (congrFun (congrFun (congrArg Prod.fst hq) 33) a).symm
            rw [h0] at z2
            exact absurd ((hR.1 a).mpr ⟨z1, z2⟩) c
      · have := (os a ((oL a).mp ha).1).2.1
        rw [tkJ_of (by decide)] at this
        omega
    refine lp_tk136 (m := i) (by rw [v1, x1 27 (by decide)]; exact hm) hm40 (by rw [v1, x1 29 (by decide)]; exact h29) ?_
    rw [hj]
    obtain ⟨Y, hY⟩ : ∃ Y : ZS, Y = (zup V.1 1 29 (tkj p1 N), if tkj p1 N = -1 then V.2 else zuA V.2 1 33 (zset (V.2 1 33) (tkj p1 N).toNat 3)) := ⟨_, rfl⟩
    rw [← hY]
    have w1 : ∀ j, j ≠ 29 → Y.1 1 j = V.1 1 j := fun j hj => by rw [hY]; exact zup_k hj
    have w3 : ∀ r, r ≠ 1 → Y.2 r = V.2 r := fun r hr => by
      rw [hY]
      dsimp only
      split
      · rfl
      · rw [zuA_R hr]
    have w2 : ∀ o, o ≠ 46 → Y.2 1 o = tkJ p1 N o := fun o ho => by
      rw [hY]
      dsimp only
      rcases tkj_sp hN0 with ⟨z1, z2, _⟩ | ⟨x, z1, z2, z3, z4⟩
      · rw [if_pos z1, z2]
        exact v3 o ho
      · rw [z2, if_neg (by omega), Int.toNat_natCast]
        funext a
        by_cases c : o = 33
        · subst c
          rw [zuA_s, zset_ap, v33]
          by_cases ca : a = x
          · rw [if_pos ca, ca, z3]
          · rw [if_neg ca, z4 a ca]
        · rw [zuA_o c, v3 o ho, tkJ_of c]
    have y28 : Y.1 1 28 = now := by rw [w1 28 (by decide), v1, hX]; dsimp only; rw [zup_s]
    have y27 : Y.1 1 27 = (i : Int) := by rw [w1 27 (by decide), v1, x1 27 (by decide)]; exact hm
    have hcb := lp_cb12 (S := Y) (m := i) (now := now) (p := tkJ p1 N) (P := P1) (N := N) y27 hm40 y28 bn w2 (fun a => by rw [oP a]; exact ⟨fun z => ⟨by omega, z.2⟩, fun z => ⟨by omega, z.2⟩⟩) oPp (fun a => by rw [oL a]; exact ⟨fun z => ⟨by omega, z.2⟩, fun z => ⟨by omega, z.2⟩⟩)
      (fun a ha => by obtain ⟨b1, b2, b3, b4, b5, _⟩ := os a (by omega); have := hW.1; omega)
      (fun a ha => by obtain ⟨z1, z2⟩ := (oP a).mp ha; have := (os a z1).2.2.2.2.2.2.2.1 z2; omega)
      (fun hp0 => by
        have hm0 := List.getElem_mem hp0
        obtain ⟨z1, z2⟩ := (oP _).mp hm0
        have h6 := (os _ z1).2.2.2.2.2.1.resolve_left (by have := ((os _ z1).2.2.2.2.2.2.2.1 z2).1; omega)
        have h7 := hW.2.2.2.1.resolve_left h6.2
        have := hW.1
        rw [hqo 4 (by omega)]
        omega)
    rw [zp_bind]
    refine zp_mono hcb fun V2 hV2 => ?_
    obtain ⟨u1, u2, u3⟩ := hV2
    rw [hqo 4 (by omega)] at u3
    obtain ⟨r3, hr3⟩ : ∃ r3, tkB (p 4) now (tkJ p1 N) N P1 = r3 := ⟨_, rfl⟩
    have hro : ∀ o, o < 32 ∨ 36 < o → r3.1 o = p o := fun o ho => by rw [← hr3, tkB_o (by omega)]; exact hqo o ho
    rw [hr3] at u3 T4 ⊢
    obtain ⟨⟨d1, d2⟩, ⟨d3, d4⟩, d5, ds, dL, dLp, dP, dPp, dPl, d6, d7, d8⟩ := T4
    have hlk := lp_looks12 (S := V2) (m := i) (now := now) (k := k) (p := r3.1) (N := r3.2.1) (by rw [u1]; exact y27) hm40 (by rw [u1]; exact y28) (by rw [hro 4 (by omega)]; exact hk) (by have := hW.2.2.1; omega) u3 (fun a => by rw [dL a]; exact ⟨fun z => ⟨by omega, z.2⟩, fun z => ⟨by omega, z.2⟩⟩)
      (fun a ha => by obtain ⟨b1, b2, b3, b4, b5, _⟩ := ds a (by omega); have := hW.1; omega)
      (fun e he => by rw [hro 10 (by omega)]; have := hW.2.2.2.2.2.2.1 e (by omega); have := hW.1; omega)
      (WOK_o hw (hro 39 (by omega)) (hro 40 (by omega)) (hro 41 (by omega)))
    refine zp_mono hlk fun V3 hV3 => zor2_r.mpr ⟨?_, fun r hr => ?_, fun o ho => ?_⟩
    · rw [hV3.1, u1, hY, v1, hX]
    · rw [hV3.2.1 r hr, u2 r hr, w3 r hr, v2 r hr, hX]
      show zuA S.2 1 46 _ r = _
      rw [zuA_R hr]
    · rw [hV3.2.2 o ho, hro 10 (by omega)]
end REFT
