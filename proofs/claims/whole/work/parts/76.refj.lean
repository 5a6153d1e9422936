/-! a tick, the reference: the jam, the pocket, the eyes -/
def jmc (p : Nat → Nat → Int) (o : Nat) : Bool := decide (p 33 o = 0 ∧ 5 ≤ p 35 o)
def poc (p : Nat → Nat → Int) (o : Nat) : Bool := decide (p 33 o = 1)
section REFJ
variable {S : ZS} {s m k e : Nat} {many : Nat} {now : Int} {L P N : List Nat} {p : Nat → Nat → Int} {b : Bool}
theorem jam_eq (hN : ∀ a, a ∈ N ↔ a < m ∧ p 33 a = 0) (hS : N.Pairwise (fun a b => p 32 b ≤ p 32 a - 10 * p 31 a)) (hb : ∀ a, a ∈ N → 10 ≤ p 31 a) : bst (jmc p) (fun o => -(p 32 o)) m = tkj p N := by
  unfold tkj
  by_cases c : jmK (p 35) N < N.length
  · rw [if_pos c]
    have hm : N.getD (jmK (p 35) N) 0 ∈ N := by rw [getD_el c]; exact List.getElem_mem c
    have hy := of_decide_eq_true (fnd_yes (p := fun i => decide (5 ≤ p 35 (N.getD i 0))) c)
    refine bst_eq ((hN _).mp hm).1 (decide_eq_true ⟨((hN _).mp hm).2, hy⟩) (fun o ho hc hne => ?_)
    obtain ⟨z1, z2⟩ := of_decide_eq_true hc
    have hoN := (hN o).mpr ⟨ho, z1⟩
    obtain ⟨j, hj, rfl⟩ := List.getElem_of_mem hoN
    have hj' : ¬ j < jmK (p 35) N := fun y => by
      have := of_decide_eq_false (fnd_no (p := fun i => decide (5 ≤ p 35 (N.getD i 0))) y)
      rw [getD_el hj] at this
      exact this z2
    have hj2 : j ≠ jmK (p 35) N := fun y => hne (by rw [← y, getD_el hj])
    have := List.pairwise_iff_getElem.mp hS (jmK (p 35) N) j c hj (by omega)
    have h2 := hb _ hm
    rw [getD_el c] at h2 ⊢
    omega
  · rw [if_neg c]
    refine bst_none fun o ho => decide_eq_false fun ⟨z1, z2⟩ => c (fnd_ex.mpr ?_)
    obtain ⟨j, hj, rfl⟩ := List.getElem_of_mem ((hN o).mpr ⟨ho, z1⟩)
    exact ⟨j, hj, decide_eq_true (by rw [getD_el hj]; exact z2)⟩
theorem lp_tk136 {Q : ZS → Prop} (hm : S.1 1 27 = (m : Int)) (hm40 : m ≤ 40) (h29 : S.1 1 29 = -1)
    (hQ : zp ((F_X12_comesBack (zup S.1 1 29 (bst (jmc (S.2 1)) (fun o => -(S.2 1 32 o)) m), if bst (jmc (S.2 1)) (fun o => -(S.2 1 32 o)) m = -1 then S.2 else zuA S.2 1 33 (zset (S.2 1 33) (bst (jmc (S.2 1)) (fun o => -(S.2 1 32 o)) m).toNat 3))).bind fun V => F_X12_looks V) Q) :
    zp (F_X12_ticks_136 0 S) Q := by
  unfold F_X12_ticks_136
  refine zp_w (fun d st => ∃ i, d + i = m ∧ st = ((i : Int), (zup S.1 1 29 (bst (jmc (S.2 1)) (fun o => -(S.2 1 32 o)) i), S.2))) (fun d st hst => ?_) m _ ⟨0, by omega, by
    show _ = ((0 : Int), (zup S.1 1 29 (-1), S.2))
    rw [← h29, zup_self]⟩
  obtain ⟨i, hd, rfl⟩ := hst
  have k27 : ∀ v, zup S.1 1 29 v 1 27 = (m : Int) := fun v => by rw [zup_k (by decide)]; exact hm
  simp only [k27, zup_s, Int.toNat_natCast]
  rcases Nat.lt_or_ge i m with hi | hi
  · have hb := bst_b (c := jmc (S.2 1)) (g := fun o => -(S.2 1 32 o)) i
    have f1 : zadd (i : Int) 1 = ((i + 1 : Nat) : Int) := by rw [zadd_ok (by omega) (by omega)]; rfl
    have hs := bst_s (c := jmc (S.2 1)) (g := fun o => -(S.2 1 32 o)) i
    have hc : jmc (S.2 1) i = decide (S.2 1 33 i = 0 ∧ 5 ≤ S.2 1 35 i) := rfl
    have fin : ∀ v, bst (jmc (S.2 1)) (fun o => -(S.2 1 32 o)) (i + 1) = v → zp (some (.inl (((i + 1 : Nat) : Int), (zup S.1 1 29 v, S.2))) : Option ((Int × ZS) ⊕ ZS)) (zor2 (fun s' => ∃ d', d' < d ∧ ∃ i, d' + i = m ∧ s' = ((i : Int), (zup S.1 1 29 (bst (jmc (S.2 1)) (fun o => -(S.2 1 32 o)) i), S.2))) Q) := by
      intro v hv
      exact zp_some.mpr (zor2_l.mpr ⟨d - 1, by omega, i + 1, by omega, by rw [hv]⟩)
    generalize bst (jmc (S.2 1)) (fun o => -(S.2 1 32 o)) i = v at hb hs ⊢
    simp only [hc, decide_eq_true_iff] at hs
    simp only [f1]
    refine zp_pos (by omega) (zp_pos (by omega) (zp_if (fun c1 => zp_if (fun c2 => ?_) (fun c2 => ?_)) (fun c1 => ?_)))
    · exact fin v (by rw [hs, if_neg (by omega)])
    · refine zp_if (fun c3 => zp_lt.mpr ?_) (fun c3 => zp_pos (by omega) (zp_if (fun c4 => zp_lt.mpr ?_) (fun c4 => ?_)))
      · rw [zup_up]
        exact fin i (by rw [hs, if_pos ⟨⟨c1, by omega⟩, Or.inl c3⟩])
      · rw [zup_up]
        exact fin i (by rw [hs, if_pos ⟨⟨c1, by omega⟩, Or.inr (by omega)⟩])
      · exact fin v (by rw [hs, if_neg (fun z => z.2.elim c3 (fun y => c4 (by omega)))])
    · exact fin v (by rw [hs, if_neg (fun z => c1 z.1.1)])
  · have : i = m := by omega
    subst this
    have hb := bst_b (c := jmc (S.2 1)) (g := fun o => -(S.2 1 32 o)) i
    refine zp_neg (by omega) ?_
    generalize bst (jmc (S.2 1)) (fun o => -(S.2 1 32 o)) i = v at hb hQ ⊢
    refine zp_if (fun c => ?_) (fun c => zp_pos (by omega) (zp_lt.mpr ?_))
    · rw [if_pos c] at hQ
      rw [zp_bind] at hQ ⊢
      refine zp_mono hQ fun V hV => ?_
      rw [zp_bind]
      exact zp_mono hV fun W hW => zp_some.mpr (zor2_r.mpr hW)
    · rw [if_neg c] at hQ
      rw [zp_bind] at hQ ⊢
      refine zp_mono hQ fun V hV => ?_
      rw [zp_bind]
      exact zp_mono hV fun W hW => zp_some.mpr (zor2_r.mpr hW)
theorem lp_cb12 (hm : S.1 1 27 = (m : Int)) (hm40 : m ≤ 40) (h28 : S.1 1 28 = now) (bn : 0 ≤ now ∧ now < 2147483648) (hp : ∀ o, o ≠ 46 → S.2 1 o = p o) (hPm : ∀ a, a ∈ P ↔ a < m ∧ p 33 a = 1) (hPs : P.Pairwise (fun a b => p 36 a < p 36 b))
    (hNm : ∀ a, a ∈ N ↔ a < m ∧ (p 33 a = 0 ∨ p 33 a = 3)) (hb : ∀ a, a < m → (0 ≤ p 32 a ∧ p 32 a ≤ 10000) ∧ (10 ≤ p 31 a ∧ p 31 a ≤ 70)) (hPb : ∀ a, a ∈ P → 0 ≤ p 36 a ∧ p 36 a ≤ now) (hw : 0 < P.length → 1 ≤ p 4 2 ∧ p 4 2 ≤ 300) :
    zp (F_X12_comesBack S) (fun V => V.1 = S.1 ∧ (∀ r, r ≠ 1 → V.2 r = S.2 r) ∧ ∀ o, o ≠ 46 → V.2 1 o = (tkB (p 4) now p N P).1 o) := by
  have e33 : S.2 1 33 = p 33 := hp 33 (by decide)
  have e36 : S.2 1 36 = p 36 := hp 36 (by decide)
  have e4 : S.2 1 4 = p 4 := hp 4 (by decide)
  have e31 : S.2 1 31 = p 31 := hp 31 (by decide)
  have hbst : bst (poc p) (p 36) m = if 0 < P.length then (P.getD 0 0 : Int) else -1 := by
    by_cases c : 0 < P.length
    · rw [if_pos c]
      have hmm : P.getD 0 0 ∈ P := by rw [getD_el c]; exact List.getElem_mem c
      refine bst_eq ((hPm _).mp hmm).1 (decide_eq_true ((hPm _).mp hmm).2) (fun o ho hc hne => ?_)
      obtain ⟨j, hj, rfl⟩ := List.getElem_of_mem ((hPm o).mpr ⟨ho, of_decide_eq_true hc⟩)
      have hj0 : j ≠ 0 := fun z => hne (by subst z; rw [getD_el c])
      rw [getD_el c]
      exact List.pairwise_iff_getElem.mp hPs 0 j c hj (by omega)
    · rw [if_neg c]
      refine bst_none fun o ho => decide_eq_false fun z => c ?_
      exact List.length_pos_of_mem ((hPm o).mpr ⟨ho, z⟩)
  have f2 : (0 < P.length → zmul 10 (p 4 2) = 10 * p 4 2) := fun z => by
    have := hw z
    rw [zmul_ok (by omega) (by omega)]
  have hstep : zp (if bst (poc p) (p 36) m = -1 then some (.inr S) else if 0 ≤ bst (poc p) (p 36) m ∧ bst (poc p) (p 36) m < 40 then if (zsub (S.1 1 28) (S.2 1 36 (bst (poc p) (p 36) m).toNat)) < (S.2 1 4 4) then some (.inr S) else (F_X12_isOver (zmul 10 (S.2 1 4 2)) (S.2 1 31 (bst (poc p) (p 36) m).toNat) S).bind fun r5 => if r5 = 0 then zlt (S.1, zuA S.2 1 33 (zset (S.2 1 33) (bst (poc p) (p 36) m).toNat 0)) fun S7 => zlt (S7.1, zuA S7.2 1 32 (zset (S7.2 1 32) (bst (poc p) (p 36) m).toNat (zmul 10 (S7.2 1 4 2)))) fun S8 => zlt (S8.1, zuA S8.2 1 34 (zset (S8.2 1 34) (bst (poc p) (p 36) m).toNat 2)) fun S9 => zlt (S9.1, zuA S9.2 1 35 (zset (S9.2 1 35) (bst (poc p) (p 36) m).toNat 0)) fun S10 => some (.inr S10) else some (.inr S) else none : Option ((Int × Int) ⊕ ZS))
      (fun r => ∃ V, r = .inr V ∧ V.1 = S.1 ∧ (∀ r, r ≠ 1 → V.2 r = S.2 r) ∧ ∀ o, o ≠ 46 → V.2 1 o = (tkB (p 4) now p N P).1 o) := by
    have stay : cbB (p 4) now p N P = false → ∃ V, (Sum.inr S : (Int × Int) ⊕ ZS) = .inr V ∧ V.1 = S.1 ∧ (∀ r, r ≠ 1 → V.2 r = S.2 r) ∧ ∀ o, o ≠ 46 → V.2 1 o = (tkB (p 4) now p N P).1 o := by
      intro z
      refine ⟨S, rfl, rfl, fun r _ => rfl, fun o ho => ?_⟩
      unfold tkB
      rw [z]
      exact hp o ho
    rw [hbst]
    by_cases c : 0 < P.length
    · rw [if_pos c]
      have hmm : P.getD 0 0 ∈ P := by rw [getD_el c]; exact List.getElem_mem c
      obtain ⟨w1, w2⟩ := (hPm _).mp hmm
      have w3 := hb _ w1
      have w4 := hPb _ hmm
      have hw := hw c
      have f2 := f2 c
      obtain ⟨s, hs⟩ : ∃ s, P.getD 0 0 = s := ⟨_, rfl⟩
      rw [hs] at w1 w2 w3 w4 ⊢
      have f3 : zsub now (p 36 s) = now - p 36 s := zsub_ok (by omega) (by omega)
      simp only [Int.toNat_natCast, e4, e36, e31, h28, f2, f3]
      refine zp_neg (by omega) (zp_pos (by omega) (zp_if (fun d => ?_) (fun d => ?_)))
      · refine zp_some.mpr (stay ?_)
        unfold cbB
        rw [hs, decide_eq_false (by omega)]
        rfl
      · have hov := lp_over12 (S := S) (m := m) (front := 10 * p 4 2) (x2 := p 31 s) hm hm40 (fun a ha => by rw [hp 32 (by decide), e31]; have := hb a ha; omega) (by omega) (by omega)
        have hany : (∃ a, a < m ∧ ov12 S.2 (10 * p 4 2) (10 * p 4 2 - 10 * p 31 s) a = true) ↔ N.any (ovp p (10 * p 4 2) (10 * p 4 2 - 10 * p 31 s)) = true := by
          rw [List.any_eq_true]
          unfold ov12 ovp
          rw [hp 33 (by decide), hp 32 (by decide), e31]
          constructor
          · rintro ⟨a, ha, h⟩
            obtain ⟨y1, y2, y3⟩ := of_decide_eq_true h
            exact ⟨a, (hNm a).mpr ⟨ha, y1⟩, decide_eq_true ⟨y2, y3⟩⟩
          · rintro ⟨a, ha, h⟩
            obtain ⟨y2, y3⟩ := of_decide_eq_true h
            obtain ⟨y0, y1⟩ := (hNm a).mp ha
            exact ⟨a, y0, decide_eq_true ⟨y1, y2, y3⟩⟩
        refine zp_bind.mpr ?_
        rw [zp_eq hov]
        by_cases o1 : ∃ a, a < m ∧ ov12 S.2 (10 * p 4 2) (10 * p 4 2 - 10 * p 31 s) a = true
        · rw [if_pos o1]
          refine zp_neg (by decide) (zp_some.mpr (stay ?_))
          unfold cbB
          rw [hs, hany.mp o1]
          exact Bool.and_false _
        · rw [if_neg o1]
          have hcb : cbB (p 4) now p N P = true := by
            unfold cbB
            rw [hs, Bool.eq_false_iff.mpr (fun z => o1 (hany.mpr z)), decide_eq_true (by omega)]
            rfl
          refine zp_pos rfl (zp_lt.mpr (zp_lt.mpr (zp_lt.mpr (zp_lt.mpr (zp_some.mpr ⟨_, rfl, rfl, fun r hr => ?_, fun o ho => ?_⟩)))))
          · dsimp only
            rw [zuA_R hr, zuA_R hr, zuA_R hr, zuA_R hr]
          · have hB : (tkB (p 4) now p N P).1 = pcb (p 4) p s := by
              unfold tkB
              rw [hcb, hs]
              rfl
            have g4 : ∀ g, zmul 10 (zuA S.2 1 33 g 1 4 2) = 10 * p 4 2 := fun g => by rw [zuA_o (by decide), e4]; exact f2
            rw [hB]
            dsimp only
            rw [g4]
            funext j
            unfold pcb
            have hpj := congrFun (hp o ho) j
            by_cases ej : j = s
            · rw [if_pos ej]
              by_cases o35 : o = 35
              · subst o35; simp [zuA_ap, zset_ap, ej]
              · by_cases o34 : o = 34
                · subst o34; simp [zuA_ap, zset_ap, ej]
                · by_cases o32 : o = 32
                  · subst o32; simp [zuA_ap, zset_ap, ej]
                  · by_cases o33 : o = 33
                    · subst o33; simp [zuA_ap, zset_ap, ej]
                    · simp only [zuA_ap, o35, o34, o32, o33, and_false, if_false]
                      exact hpj
            · rw [if_neg ej, ← hpj]
              simp only [zuA_ap, zset_ap, ej, if_false, true_and, Nat.reduceEqDiff, reduceIte]
              (repeat' split) <;> first | rfl | (subst_vars; rfl)
    · rw [if_neg c]
      refine zp_pos rfl (zp_some.mpr (stay ?_))
      unfold cbB
      rw [decide_eq_false (by omega)]
      rfl
  unfold F_X12_comesBack F_X12_comesBack_4
  refine zp_w (fun d st => ∃ i, d + i = m ∧ st = (bst (poc p) (p 36) i, (i : Int))) (fun d st hst => ?_) m _ ⟨0, by omega, rfl⟩
  obtain ⟨i, hd, rfl⟩ := hst
  simp only [hm, Int.toNat_natCast]
  rcases Nat.lt_or_ge i m with hi | hi
  · have hb := bst_b (c := poc p) (g := p 36) i
    have f1 : zadd (i : Int) 1 = ((i + 1 : Nat) : Int) := by rw [zadd_ok (by omega) (by omega)]; rfl
    have hs := bst_s (c := poc p) (g := p 36) i
    have hc : poc p i = decide (p 33 i = 1) := rfl
    have fin : ∀ v, bst (poc p) (p 36) (i + 1) = v → zp (some (.inl (v, ((i + 1 : Nat) : Int))) : Option ((Int × Int) ⊕ ZS)) (zor2 (fun s' => ∃ d', d' < d ∧ ∃ i, d' + i = m ∧ s' = (bst (poc p) (p 36) i, (i : Int))) (fun V => V.1 = S.1 ∧ (∀ r, r ≠ 1 → V.2 r = S.2 r) ∧ ∀ o, o ≠ 46 → V.2 1 o = (tkB (p 4) now p N P).1 o)) := by
      intro v hv
      exact zp_some.mpr (zor2_l.mpr ⟨d - 1, by omega, i + 1, by omega, by rw [hv]⟩)
    generalize bst (poc p) (p 36) i = v at hb hs ⊢
    simp only [hc, decide_eq_true_iff] at hs
    simp only [f1, e33, e36]
    refine zp_pos (by omega) (zp_pos (by omega) (zp_if (fun c1 => zp_if (fun c2 => ?_) (fun c2 => zp_pos (by omega) (zp_if (fun c3 => ?_) (fun c3 => ?_)))) (fun c1 => ?_)))
    · exact fin i (by rw [hs, if_pos ⟨c1, Or.inl c2⟩])
    · exact fin i (by rw [hs, if_pos ⟨c1, Or.inr c3⟩])
    · exact fin v (by rw [hs, if_neg (fun z => z.2.elim c2 c3)])
    · exact fin v (by rw [hs, if_neg (fun z => c1 z.1)])
  · have : i = m := by omega
    subst this
    refine zp_neg (by omega) (zp_mono hstep fun r hr => ?_)
    obtain ⟨V, rfl, h⟩ := hr
    exact zor2_r.mpr h
/-- a sheet under the eye -/
def eyq (A : ZA) (e : Nat) (o : Nat) : Bool := decide ((A 1 33 o = 0 ∨ A 1 33 o = 3) ∧ A 1 32 o - 10 * A 1 31 o < 10 * A 1 10 e ∧ 10 * A 1 10 e ≤ A 1 32 o)
theorem lp_look12 (hm : S.1 1 27 = (m : Int)) (hm40 : m ≤ 40) (h28 : S.1 1 28 = now) (he : e < 19) (hb : ∀ a, a < m → (0 ≤ S.2 1 32 a ∧ S.2 1 32 a ≤ 10000) ∧ (10 ≤ S.2 1 31 a ∧ S.2 1 31 a ≤ 70)) (hey : 1 ≤ S.2 1 10 e ∧ S.2 1 10 e ≤ 300)
    (hv : (b = true) ↔ ∃ o, o < m ∧ eyq S.2 e o = true) (w1 : S.2 1 39 e = 0 ∨ S.2 1 39 e = 1) (w2 : S.2 1 39 e = 1 → S.2 1 40 e = 0 ∨ S.2 1 40 e = 1) (w3 : 0 ≤ S.2 1 41 e ∧ S.2 1 41 e ≤ 12) (w4 : S.2 1 39 e = 1 ∧ S.2 1 40 e = 1 → 1 ≤ S.2 1 41 e) :
    zp (F_X12_looks_17 (e : Int) 0 0 S) (fun r => ∃ V : ZS, r = .inl (((e + 1 : Nat) : Int), V) ∧ V.1 = S.1 ∧ (∀ r, r ≠ 1 → V.2 r = S.2 r) ∧ ∀ o, V.2 1 o = wt1 now b (S.2 1) e o) := by
  obtain ⟨pa, hpa⟩ : ∃ pa : Nat, S.2 1 41 e = (pa : Int) := ⟨_, (Int.toNat_of_nonneg w3.1).symm⟩
  have f0 : zadd (e : Int) 1 = ((e + 1 : Nat) : Int) := by rw [zadd_ok (by omega) (by omega)]; rfl
  have fk : zadd (zmul 12 (e : Int)) (S.2 1 41 e) = ((12 * e + pa : Nat) : Int) := by rw [zmul_ok (by omega) (by omega), zadd_ok (by omega) (by omega)]; omega
  have fe : zmul 10 (S.2 1 10 e) = 10 * S.2 1 10 e := zmul_ok (by omega) (by omega)
  unfold F_X12_looks_17
  refine zp_w (fun d st => ∃ i, d + i = m ∧ st = ((if fnd (eyq S.2 e) i < i then 1 else 0), (i : Int))) (fun d st hst => ?_) m _ ⟨0, by omega, rfl⟩
  obtain ⟨i, hd, rfl⟩ := hst
  simp only [hm, Int.toNat_natCast]
  rcases Nat.lt_or_ge i m with hi | hi
  · have f1 : zadd (i : Int) 1 = ((i + 1 : Nat) : Int) := by rw [zadd_ok (by omega) (by omega)]; rfl
    have hs := fnd_step (eyq S.2 e) i
    have fin : ∀ v : Int, (if fnd (eyq S.2 e) (i + 1) < i + 1 then 1 else 0) = v → zp (some (.inl (v, ((i + 1 : Nat) : Int))) : Option ((Int × Int) ⊕ ((Int × ZS) ⊕ ZS))) (zor2 (fun s' => ∃ d', d' < d ∧ ∃ i, d' + i = m ∧ s' = ((if fnd (eyq S.2 e) i < i then 1 else 0), (i : Int))) (fun r => ∃ V : ZS, r = .inl (((e + 1 : Nat) : Int), V) ∧ V.1 = S.1 ∧ (∀ r, r ≠ 1 → V.2 r = S.2 r) ∧ ∀ o, V.2 1 o = wt1 now b (S.2 1) e o)) := by
      intro v hv
      exact zp_some.mpr (zor2_l.mpr ⟨d - 1, by omega, i + 1, by omega, by rw [hv]⟩)
    have hbi := hb i hi
    refine zp_pos (by omega) ?_
    simp only [f1]
    by_cases q : fnd (eyq S.2 e) i < i
    · simp only [if_pos q]
      exact zp_neg (by decide) (fin 1 (if_pos (hs.mpr (Or.inl q))))
    · simp only [if_neg q]
      refine zp_pos (by trivial) (zp_bind.mpr ?_)
      have hgo : F_X12_isGoing (i : Int) S = some (if S.2 1 33 i = 0 ∨ S.2 1 33 i = 3 then 1 else 0) := by
        unfold F_X12_isGoing
        rw [if_pos (by omega), Int.toNat_natCast]
        by_cases c : S.2 1 33 i = 0
        · rw [if_pos c, if_pos (Or.inl c)]
        · by_cases d : S.2 1 33 i = 3
          · rw [if_neg c, if_pos d, if_pos (Or.inr d)]
          · rw [if_neg c, if_neg d, if_neg (fun z => by rcases z with z | z; exact c z; exact d z)]
      have hta : F_X12_tail (i : Int) S = some (S.2 1 32 i - 10 * S.2 1 31 i) := by
        unfold F_X12_tail
        rw [if_pos (by omega), Int.toNat_natCast, zmul_ok (by omega) (by omega), zsub_ok (by omega) (by omega)]
      rw [zp_eq hgo]
      have hno : eyq S.2 e i = false → (if fnd (eyq S.2 e) (i + 1) < i + 1 then (1 : Int) else 0) = 0 := fun z => if_neg (fun y => by
        rcases hs.mp y with w | w
        · exact q w
        · rw [z] at w; cases w)
      by_cases c : S.2 1 33 i = 0 ∨ S.2 1 33 i = 3
      · rw [if_pos c]
        refine zp_neg (by decide) (zp_pos (by omega) (zp_bind.mpr ?_))
        rw [zp_eq hta]
        simp only [fe]
        refine zp_if (fun d1 => zp_pos (by omega) (zp_if (fun d2 => ?_) (fun d2 => ?_))) (fun d1 => ?_)
        · exact fin 0 (hno (decide_eq_false (fun z => by omega)))
        · exact fin 1 (if_pos (hs.mpr (Or.inr (decide_eq_true ⟨c, d1, by omega⟩))))
        · exact fin 0 (hno (decide_eq_false (fun z => d1 z.2.1)))
      · rw [if_neg c]
        exact zp_pos rfl (fin 0 (hno (decide_eq_false (fun z => c z.1))))
  · have hie : i = m := by omega
    subst hie
    refine zp_neg (by omega) (zp_pos (by omega) ?_)
    simp only [fk, f0]
    have hbv : (fnd (eyq S.2 e) i < i) ↔ b = true := by rw [hv]; exact fnd_ex
    have hput : ∀ (V : ZS) (r : (Int × ZS) ⊕ ZS), r = .inl (((e + 1 : Nat) : Int), V) → V.1 = S.1 → (∀ r, r ≠ 1 → V.2 r = S.2 r) → (∀ o, V.2 1 o = wt1 now b (S.2 1) e o) → zor2 (fun s' => ∃ d', d' < d ∧ ∃ i', d' + i' = i ∧ s' = ((if fnd (eyq S.2 e) i' < i' then (1 : Int) else 0), (i' : Int))) (fun r => ∃ V : ZS, r = .inl (((e + 1 : Nat) : Int), V) ∧ V.1 = S.1 ∧ (∀ r, r ≠ 1 → V.2 r = S.2 r) ∧ ∀ o, V.2 1 o = wt1 now b (S.2 1) e o) (.inr r) := by
      intro V r h1 h2 h3 h4
      exact zor2_r.mpr ⟨V, h1, h2, h3, h4⟩
    cases hbb : b
    · have q : ¬ fnd (eyq S.2 e) i < i := fun z => by rw [hbv.mp z] at hbb; cases hbb
      rw [hbb] at hput
      simp only [if_neg q]
      refine zp_pos (by trivial) (zp_in.mpr ?_)
      unfold F_X12_looks_170
      refine zp_pos rfl (zp_pos (by omega) ?_)
      simp only [Int.toNat_natCast, f0]
      refine zp_if (fun c1 => zp_pos (by decide) (zp_lt.mpr (zp_some.mpr (hput _ _ rfl rfl (fun r hr => zuA_R hr) (fun o => ?_))))) (fun c1 => zp_if (fun c2 => zp_pos (by decide) (zp_lt.mpr (zp_some.mpr (hput _ _ rfl rfl (fun r hr => zuA_R hr) (fun o => ?_))))) (fun c2 => ?_))
      · funext j
        simp only [zuA_ap, zset_ap, wt1, true_and, c1, ne_eq, not_true_eq_false, false_and, and_false, Bool.false_eq_true, if_false]
        (repeat' split) <;> first | rfl | (subst_vars; rfl)
      · funext j
        simp only [zuA_ap, zset_ap, wt1, true_and, c2, ne_eq, not_true_eq_false, false_and, and_false, Bool.false_eq_true, if_false]
        (repeat' split) <;> first | rfl | (subst_vars; rfl)
      · have h1 := w4 ⟨w1.resolve_left c1, (w2 (w1.resolve_left c1)).resolve_left c2⟩
        have fs : zsub ((12 * e + pa : Nat) : Int) 1 = ((12 * e + pa - 1 : Nat) : Int) := by rw [zsub_ok (by omega) (by omega)]; omega
        simp only [fs, h28, Int.toNat_natCast]
        refine zp_pos (by omega) (zp_lt.mpr (zp_pos (by decide) (zp_lt.mpr (zp_some.mpr (hput _ _ rfl rfl (fun r hr => by dsimp only; rw [zuA_R hr, zuA_R hr]) (fun o => ?_))))))
        funext j
        have hj : ((j : Int) + 1 = 12 * (e : Int) + S.2 1 41 e) ↔ j = 12 * e + pa - 1 := by omega
        simp only [zuA_ap, zset_ap, wt1, true_and, c1, c2, hj, ne_eq, not_false_eq_true, false_and, and_false, Bool.false_eq_true, if_false]
        (repeat' split) <;> first | rfl | (exfalso; omega) | (subst_vars; rfl)
    · have q : fnd (eyq S.2 e) i < i := hbv.mpr hbb
      rw [hbb] at hput
      simp only [if_pos q]
      refine zp_neg (by decide) (zp_if (fun c1 => zp_if (fun c2 => ?_) (fun c2 => ?_)) (fun c1 => zp_in.mpr ?_))
      · have c4 : zuA S.2 1 40 (zset (S.2 1 40) e 1) 1 40 e = 1 := by rw [zuA_s, zset_s]
        refine zp_lt.mpr ?_
        simp only [c4]
        refine zp_neg (by decide) (zp_pos (by omega) (zp_lt.mpr (zp_lt.mpr (zp_lt.mpr (zp_pos (by decide) (zp_lt.mpr (zp_some.mpr (hput _ _ rfl rfl (fun r hr => by dsimp only; rw [zuA_R hr, zuA_R hr, zuA_R hr, zuA_R hr, zuA_R hr]) (fun o => ?_)))))))))
        funext j
        have hj : ((j : Int) = 12 * (e : Int) + S.2 1 41 e) ↔ j = 12 * e + pa := by omega
        have g41 : ∀ g g' g'', zadd (zuA (zuA (zuA S.2 1 40 g) 1 42 g') 1 43 g'' 1 41 e) 1 = S.2 1 41 e + 1 := by
          intro g g' g''
          rw [zuA_o (by decide), zuA_o (by decide), zuA_o (by decide), zadd_ok (by omega) (by omega)]
        dsimp only
        rw [g41]
        simp only [zuA_ap, zset_ap, wt1, true_and, c1, c2, hj, h28, ne_eq, and_true, and_self, false_and, and_false, Bool.true_eq_false, Int.toNat_natCast, Nat.reduceEqDiff, reduceIte, if_false]
        (repeat' split) <;> first | rfl | (exfalso; omega) | (subst_vars; rfl)
      · have c4 : zuA S.2 1 40 (zset (S.2 1 40) e 0) 1 40 e = 0 := by rw [zuA_s, zset_s]
        refine zp_lt.mpr ?_
        simp only [c4]
        refine zp_pos (by trivial) (zp_pos (by decide) (zp_lt.mpr (zp_some.mpr (hput _ _ rfl rfl (fun r hr => by dsimp only; rw [zuA_R hr, zuA_R hr]) (fun o => ?_)))))
        funext j
        simp only [zuA_ap, zset_ap, wt1, true_and, c1, c2, ne_eq, and_true, and_self, false_and, and_false, Bool.true_eq_false, Nat.reduceEqDiff, reduceIte, if_false]
        (repeat' split) <;> first | rfl | (exfalso; omega) | (subst_vars; rfl)
      · unfold F_X12_looks_170
        refine zp_neg (by decide) (zp_pos (by omega) ?_)
        simp only [Int.toNat_natCast, f0]
        refine zp_pos (by decide) (zp_lt.mpr (zp_some.mpr (hput _ _ rfl rfl (fun r hr => zuA_R hr) (fun o => ?_))))
        funext j
        simp only [zuA_ap, zset_ap, wt1, true_and, c1, ne_eq, false_and, and_false, Bool.true_eq_false, Int.toNat_natCast, if_false, if_true, reduceIte]
        (repeat' split) <;> first | rfl | (exfalso; omega) | (subst_vars; rfl)
end REFJ
