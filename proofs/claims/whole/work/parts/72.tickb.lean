/-! a tick: behind the moves, the class: the jam, the pocket -/
def jmK (g : Nat → Int) (N : List Nat) : Nat := fnd (fun i => decide (5 ≤ g (N.getD i 0))) N.length
def tkJ (p : Nat → Nat → Int) (N : List Nat) : Nat → Nat → Int := if jmK (p 35) N < N.length then (fun o j => if o = 33 ∧ j = N.getD (jmK (p 35) N) 0 then 3 else p o j) else p
def tkj (p : Nat → Nat → Int) (N : List Nat) : Int := if jmK (p 35) N < N.length then (N.getD (jmK (p 35) N) 0 : Int) else -1
def ovp (p : Nat → Nat → Int) (front en : Int) (a : Nat) : Bool := decide (p 32 a - 10 * p 31 a < front ∧ en < p 32 a)
/-- whether the first in the pocket comes back -/
def cbB (wy : Nat → Int) (now : Int) (p : Nat → Nat → Int) (N P : List Nat) : Bool :=
  decide (0 < P.length ∧ wy 4 ≤ now - p 36 (P.getD 0 0)) && !(N.any (ovp p (10 * wy 2) (10 * wy 2 - 10 * p 31 (P.getD 0 0))))
def pcb (wy : Nat → Int) (p : Nat → Nat → Int) (s : Nat) : Nat → Nat → Int := fun o j => if j = s then (if o = 35 then 0 else if o = 34 then 2 else if o = 32 then 10 * wy 2 else if o = 33 then 0 else p o j) else p o j
/-- its place in the line -/
def cbk (p : Nat → Nat → Int) (N : List Nat) (front : Int) : Nat := fnd (fun i => decide (p 32 (N.getD i 0) < front)) N.length
def tkB (wy : Nat → Int) (now : Int) (p : Nat → Nat → Int) (N P : List Nat) : (Nat → Nat → Int) × List Nat × List Nat :=
  if cbB wy now p N P = true then (pcb wy p (P.getD 0 0), lnew N (cbk p N (10 * wy 2)) (P.getD 0 0), P.drop 1) else (p, N, P)
def shf (g : Nat → Int) (i : Nat) : Nat → Int := fun j => if j < i then g (j + 1) else g j
section TICKB
variable {S : ZS} {T W F m s : Nat} {wy ro sp wear beat cor : Nat → Int} {many : Nat} {now limit : Int} {p : Nat → Nat → Int} {L P N : List Nat}
theorem lp_jam8 (h13 : S.1 T 13 = (N.length : Int)) (hl : N.length ≤ 40) (hN : ∀ j (h : j < N.length), S.2 T 13 j = (N[j] : Int)) (hb : ∀ a, a ∈ N → a < 40) :
    F_X8_findJam T S = some (if jmK (S.2 T 9) N < N.length then (zup S.1 T 3 (N.getD (jmK (S.2 T 9) N) 0 : Int), zuA S.2 T 6 (zset (S.2 T 6) (N.getD (jmK (S.2 T 9) N) 0) 3)) else S) := by
  unfold F_X8_findJam F_X8_findJam_2
  refine zw_fnd (fun i => decide (5 ≤ S.2 T 9 (N.getD i 0))) (fun i => ((i : Int), S)) N.length (fun i => (zup S.1 T 3 (N.getD i 0 : Int), zuA S.2 T 6 (zset (S.2 T 6) (N.getD i 0) 3))) S rfl (fun i hi hp => ?_) (fun i hi hp => ?_) ?_
  · have hp := of_decide_eq_false hp
    have hh := hb _ (List.getElem_mem hi)
    rw [getD_el hi] at hp
    dsimp only
    simp only [h13, Int.toNat_natCast, hN i hi]
    rw [if_pos (by omega), if_pos (by omega), if_pos (by omega), if_pos (by omega), zadd_ok (by omega) (by omega)]
    rfl
  · have hp := of_decide_eq_true hp
    have hh := hb _ (List.getElem_mem hi)
    rw [getD_el hi] at hp ⊢
    dsimp only
    simp only [h13, Int.toNat_natCast, hN i hi]
    rw [if_pos (by omega), if_pos (by omega), if_pos (by omega), if_neg (by omega)]
    rfl
  · dsimp only
    rw [h13, if_neg (by omega)]
theorem lp_back0 (t4 : S.1 T 4 = 0) : F_X8_comeBack T S = some S := by
  unfold F_X8_comeBack
  rw [if_pos t4]
theorem shf_s {g : Nat → Int} {i : Nat} : zset (shf g i) i (shf g i (i + 1)) = shf g (i + 1) := by
  funext j
  unfold zset shf
  by_cases e : j = i
  · subst e
    rw [if_pos rfl, if_neg (by omega), if_pos (by omega)]
  · rw [if_neg e]
    by_cases e2 : j < i
    · rw [if_pos e2, if_pos (by omega)]
    · rw [if_neg e2, if_neg (by omega)]
theorem lp_back8 (hW : W = 19 ∨ W = 20) (t15 : S.1 T 15 = (W : Int)) (t2 : S.1 T 2 = now) (bn : 0 ≤ now ∧ now < 2147483648) (w7 : S.1 W 7 = wy 2) (w9 : S.1 W 9 = wy 4) (b2 : 0 ≤ wy 2 ∧ wy 2 ≤ 300)
    (h13 : S.1 T 13 = (N.length : Int)) (hl : N.length < 40) (hN : ∀ j (h : j < N.length), S.2 T 13 j = (N[j] : Int)) (t4 : S.1 T 4 = (P.length : Int)) (hP0 : 0 < P.length) (hP3 : P.length ≤ 3) (hP : ∀ j (h : j < P.length), S.2 T 15 j = (P[j] : Int))
    (hC : CRel T S.2 m p) (hm : m ≤ 40) (hNb : ∀ a, a ∈ N → a < m ∧ (0 ≤ p 32 a ∧ p 32 a ≤ 10000) ∧ (10 ≤ p 31 a ∧ p 31 a ≤ 70)) (hPb : ∀ a, a ∈ P → a < m ∧ p 33 a = 1 ∧ (10 ≤ p 31 a ∧ p 31 a ≤ 70) ∧ (0 ≤ p 36 a ∧ p 36 a ≤ now)) (hNs : ∀ a, a ∈ N → p 33 a ≠ 1) (hsort : N.Pairwise (fun a b => p 32 b ≤ p 32 a - 10 * p 31 a)) :
    zp (F_X8_comeBack T S) (fun V => (cbB wy now p N P = false → V = S) ∧ (cbB wy now p N P = true → (∀ r, r ≠ T → V.1 r = S.1 r) ∧ (∀ r, r ≠ T → V.2 r = S.2 r) ∧ (∀ k, k ≠ 13 → k ≠ 4 → V.1 T k = S.1 T k) ∧ V.1 T 4 = ((P.length - 1 : Nat) : Int) ∧ V.1 T 13 = ((N.length + 1 : Nat) : Int) ∧
      (∀ j (h : j < (lnew N (cbk p N (10 * wy 2)) (P.getD 0 0)).length), V.2 T 13 j = ((lnew N (cbk p N (10 * wy 2)) (P.getD 0 0))[j] : Int)) ∧ (∀ j (h : j < (P.drop 1).length), V.2 T 15 j = ((P.drop 1)[j] : Int)) ∧
      CRel T V.2 m (pcb wy p (P.getD 0 0)))) := by
  have e0 : P.getD 0 0 = P[0] := getD_el hP0
  have hs := hPb P[0] (List.getElem_mem hP0)
  obtain ⟨s, hsd⟩ : ∃ s, P[0] = s := ⟨_, rfl⟩
  rw [hsd] at e0 hs
  rw [e0]
  obtain ⟨hs1, hs2, hs3, hs4⟩ := hs
  obtain ⟨c1, c2, c3, c4, c5, c6, c7⟩ := hC s hs1
  have c7 := c7 hs2
  have q0 : S.2 T 15 0 = (s : Int) := by rw [hP 0 hP0, hsd]
  have f1 : zmul (wy 2) 10 = 10 * wy 2 := by rw [zmul_ok (by omega) (by omega)]; omega
  have f2 : zsub (10 * wy 2) (10 * p 31 s) = 10 * wy 2 - 10 * p 31 s := zsub_ok (by omega) (by omega)
  have f3 : zsub now (p 36 s) = now - p 36 s := zsub_ok (by omega) (by omega)
  have hfree := lp_free8 (S := S) (T := T) (L := N) (front := 10 * wy 2) (en := 10 * wy 2 - 10 * p 31 s) h13 (by omega) hN (fun a ha => by
    obtain ⟨z1, z2, z3⟩ := hNb a ha
    obtain ⟨_, y2, _, _, y5, _⟩ := hC a z1
    rw [y2, y5]
    omega)
  have hov : (∃ a, a ∈ N ∧ ovr S.2 T (10 * wy 2) (10 * wy 2 - 10 * p 31 s) a = true) ↔ N.any (ovp p (10 * wy 2) (10 * wy 2 - 10 * p 31 s)) = true := by
    rw [List.any_eq_true]
    have key : ∀ a, a ∈ N → ovr S.2 T (10 * wy 2) (10 * wy 2 - 10 * p 31 s) a = ovp p (10 * wy 2) (10 * wy 2 - 10 * p 31 s) a := by
      intro a ha
      obtain ⟨z1, z2, z3⟩ := hNb a ha
      obtain ⟨_, y2, _, _, y5, _⟩ := hC a z1
      unfold ovr ovp
      rw [y2, y5]
    constructor
    · rintro ⟨a, ha, h⟩
      exact ⟨a, ha, by rw [← key a ha]; exact h⟩
    · rintro ⟨a, ha, h⟩
      exact ⟨a, ha, by rw [key a ha]; exact h⟩
  unfold F_X8_comeBack
  refine zp_neg (by omega) ?_
  rw [t15, Int.toNat_natCast, q0, Int.toNat_natCast, t2, c7, w9, w7, c5, f1, f2, f3]
  refine zp_pos hW (zp_pos (by omega) (zp_if (fun d => ?_) (fun d => ?_)))
  · have hcb : cbB wy now p N P = false := by
      unfold cbB
      rw [e0, decide_eq_false (by omega)]
      rfl
    refine zp_some.mpr ⟨fun _ => rfl, fun z => ?_⟩
    rw [hcb] at z
    cases z
  · refine zp_bind.mpr ?_
    rw [zp_eq hfree]
    by_cases c : ∃ a, a ∈ N ∧ ovr S.2 T (10 * wy 2) (10 * wy 2 - 10 * p 31 s) a = true
    · have hcb : cbB wy now p N P = false := by
        unfold cbB
        rw [e0, hov.mp c]
        exact Bool.and_false _
      rw [if_pos c]
      refine zp_pos rfl (zp_some.mpr ⟨fun _ => rfl, fun z => ?_⟩)
      rw [hcb] at z
      cases z
    · have hany : N.any (ovp p (10 * wy 2) (10 * wy 2 - 10 * p 31 s)) = false := Bool.eq_false_iff.mpr (fun z => c (hov.mpr z))
      have hcb : cbB wy now p N P = true := by
        unfold cbB
        rw [e0, hany, decide_eq_true (by omega)]
        rfl
      rw [if_neg c]
      refine zp_neg (by decide) (zp_lt.mpr ?_)
      obtain ⟨n1, hn1⟩ : ∃ n1, P.length = n1 + 1 := ⟨P.length - 1, by omega⟩
      have f4 : zsub (S.1 T 4) 1 = (n1 : Int) := by rw [t4, zsub_ok (by omega) (by omega)]; omega
      rw [f4]
      unfold F_X8_comeBack_76
      refine zp_w (fun k st => ∃ i, k + i = n1 ∧ st = ((i : Int), (zup S.1 T 4 (n1 : Int), zuA S.2 T 15 (shf (S.2 T 15) i)))) (fun k st hst => ?_) n1 _ ⟨0, by omega, by
        have : shf (S.2 T 15) 0 = S.2 T 15 := by
          funext j
          exact if_neg (by omega)
        rw [this, zuA_same]
        rfl⟩
      obtain ⟨i, hki, rfl⟩ := hst
      dsimp only
      simp only [zup_s]
      refine zp_if (fun y => ?_) (fun y => ?_)
      · have fz : zadd (i : Int) 1 = ((i + 1 : Nat) : Int) := by rw [zadd_ok (by omega) (by omega)]; rfl
        simp only [fz]
        refine zp_pos (by omega) (zp_pos (by omega) (zp_lt.mpr (zp_some.mpr (zor2_l.mpr ⟨k - 1, by omega, i + 1, by omega, ?_⟩))))
        simp only [Int.toNat_natCast]
        rw [zuA_s, zuA_A, shf_s]
      · have hin : i = n1 := by omega
        subst hin
        have hp := lp_put8 (S := (zup S.1 T 4 (i : Int), zuA S.2 T 15 (shf (S.2 T 15) i))) (T := T) (s := s) (front := 10 * wy 2) (side := 2) (L := N) (by omega) (by show zup S.1 T 4 _ T 13 = _; rw [zup_k (by decide)]; exact h13) hl (fun j h => by show zuA S.2 T 15 _ T 13 j = _; rw [zuA_o (by decide)]; exact hN j h) (fun a ha => by
          refine ⟨by have := (hNb a ha).1; omega, fun z => ?_⟩
          subst z
          have := hNs a ha
          omega)
        refine zp_bind.mpr (zp_mono hp fun V hV => zp_some.mpr (zor2_r.mpr ⟨fun z => ?_, fun _ => ?_⟩))
        · rw [hcb] at z
          cases z
        · obtain ⟨k, G, hk, hk1, hk2, rfl, g1, g2, g3⟩ := hV
          have z7 : ∀ a, zuA S.2 T 15 (shf (S.2 T 15) i) T 7 a = S.2 T 7 a := fun a => by rw [zuA_o (by decide)]
          have h7 : ∀ j (h : j < N.length), S.2 T 7 N[j] = p 32 N[j] := fun j h => (hC _ (hNb _ (List.getElem_mem h)).1).2.1
          dsimp only at hk1 hk2
          simp only [z7] at hk1 hk2
          have hkk : cbk p N (10 * wy 2) = k := by
            unfold cbk
            have hlow : ∀ j, j < k → decide (p 32 (N.getD j 0) < 10 * wy 2) = false := by
              intro j hj
              refine decide_eq_false ?_
              have hjl : j < N.length := by omega
              rw [getD_el hjl]
              by_cases ej : j + 1 = k
              · have := hk1 j hjl ej
                rw [h7 j hjl] at this
                omega
              · have hkl : k - 1 < N.length := by omega
                have := hk1 (k - 1) hkl (by omega)
                rw [h7 _ hkl] at this
                have h2 := List.pairwise_iff_getElem.mp hsort j (k - 1) hjl hkl (by omega)
                have h3 := (hNb N[j] (List.getElem_mem hjl)).2.2
                omega
            rcases Nat.lt_or_ge k N.length with y | y
            · refine fnd_eq y (decide_eq_true ?_) hlow
              rw [getD_el y, ← h7 k y]
              exact hk2 k y (Nat.le_refl k)
            · have : k = N.length := by omega
              subst this
              exact fnd_none hlow
          rw [hkk]
          dsimp only
          refine ⟨fun r hr => by rw [zup_R hr, zup_R hr], fun r hr => ?_, fun j h1 h2 => by rw [zup_k h1, zup_k h2], ?_, by rw [zup_s], ?_, fun j h => ?_, ?_⟩
          · unfold tP
            rw [zuA_R hr, zuA_R hr, zuA_R hr, zuA_R hr, zuA_R hr, zuA_R hr]
          · rw [zup_k (by decide), zup_s]
            omega
          · rw [zuA_s]
            exact lnew_get hk g1 g2 g3
          · unfold tP
            rw [zuA_o (by decide), zuA_o (by decide), zuA_o (by decide), zuA_o (by decide), zuA_o (by decide), zuA_s]
            have hj : j < i := by rw [List.length_drop] at h; omega
            unfold shf
            rw [if_pos hj, List.getElem_drop, hP (j + 1) (by omega)]
            congr 2
            omega
          · intro j hj
            obtain ⟨d1, d2, d3, d4, d5, d6, d7⟩ := hC j hj
            unfold pcb tP
            simp only [zuA_ap, zset_ap, true_and, Nat.reduceEqDiff, reduceIte]
            by_cases ej : j = s
            · subst ej
              simp only [reduceIte]
              exact ⟨by trivial, by trivial, by trivial, by trivial, d5, d6, fun z => absurd z (by decide)⟩
            · simp only [if_neg ej]
              exact ⟨d1, d2, d3, d4, d5, d6, d7⟩
end TICKB
