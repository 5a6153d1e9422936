/-! a tick of the class without its eyes -/
def CRt (T W F m : Nat) (S : ZS) (now jam : Int) (p : Nat → Nat → Int) (L P : List Nat) : Prop :=
  S.1 T 1 = (m : Int) ∧ S.1 T 2 = now ∧ S.1 T 3 = jam ∧ S.1 T 4 = (P.length : Int) ∧ S.1 T 13 = (L.length : Int) ∧ S.1 T 15 = (W : Int) ∧ S.1 T 16 = (F : Int) ∧ CRel T S.2 m p ∧ (∀ i (h : i < L.length), S.2 T 13 i = (L[i] : Int)) ∧ (∀ i (h : i < P.length), S.2 T 15 i = (P[i] : Int))
/-- what a tick asks of the picture -/
def TkOK (wy ro : Nat → Int) (m : Nat) (now : Int) (p : Nat → Nat → Int) (L P : List Nat) : Prop :=
  m ≤ 40 ∧ LBd m p L ∧ L.Pairwise (fun a b => p 32 b ≤ p 32 a - 10 * p 31 a) ∧ (∀ a, a ∈ L → p 34 a = 1 → 10 * ro 0 ≤ p 32 a) ∧
  (∀ a, a ∈ L → p 37 a = 1 → p 34 a = 1 → 10 * wy 1 ≤ p 32 a - 10 * p 31 a → p 32 a ≠ 10 * ro 0 → wy 3 ≤ (P.length : Int) + 1) ∧
  (∀ a, a ∈ P → a < m ∧ p 33 a = 1 ∧ (10 ≤ p 31 a ∧ p 31 a ≤ 70) ∧ (0 ≤ p 36 a ∧ p 36 a ≤ now)) ∧
  (((∀ a, a ∈ L → p 37 a = 0) ∧ P = []) ∨ ((1 ≤ wy 2 ∧ wy 2 ≤ 300) ∧ wy 3 ≤ 3 ∧ (P.length : Int) ≤ wy 3))
section TICKO
variable {S : ZS} {T W F m s : Nat} {wy ro sp wear beat cor : Nat → Int} {many : Nat} {now now0 limit : Int} {p : Nat → Nat → Int} {L P N : List Nat}
theorem TkOK_nd (h : TkOK wy ro m now0 p L P) : L.Nodup := sort_nodup (hd := p 32) (ten := fun a => 10 * p 31 a) h.2.2.1 (fun a ha => by have := (h.2.1 a ha).2.2.2.1; (try dsimp only); omega)
theorem TkOK_len (h : TkOK wy ro m now0 p L P) : L.length ≤ m := nodup_le m L (TkOK_nd h) (fun a ha => (h.2.1 a ha).1)
theorem TkOK_inv (H : DrOK wy ro sp wear beat) (h : TkOK wy ro m now0 p L P) : ∀ i, i ≤ L.length → MInv wy now p L P i (mvN wy ro sp wear beat cor many now L p P i)
  | 0, _ => MInv_0
  | i + 1, hi => MInv_s H h.2.2.1 h.2.1 (TkOK_nd h) h.2.2.2.1 h.2.2.2.2.1 (by omega) (TkOK_inv H h i (by omega))
/-- behind all moves -/
theorem TkOK_end (H : DrOK wy ro sp wear beat) (hn : now = now0 + 1) (hn0 : 0 ≤ now0) (h : TkOK wy ro m now0 p L P) {p1 : Nat → Nat → Int} {N P1 : List Nat} {lim : Int} (hq : mvN wy ro sp wear beat cor many now L p P L.length = (p1, N, P1, lim)) :
    (∀ a, a ∈ N ↔ a ∈ L ∧ p1 33 a = 0) ∧ N.Pairwise (fun a b => p1 32 b ≤ p1 32 a - 10 * p1 31 a) ∧ (∀ o, o ≠ 32 → o ≠ 35 → o ≠ 33 → o ≠ 36 → ∀ a, p1 o a = p o a) ∧ (∀ o a, a ∉ L → p1 o a = p o a) ∧
    (∀ a, a ∈ L → (p 32 a ≤ p1 32 a ∧ p1 32 a ≤ p 32 a + 90) ∧ (0 ≤ p1 35 a ∧ p1 35 a ≤ p 35 a + 1) ∧ (p1 33 a = 0 ∨ p1 33 a = 1 ∨ p1 33 a = 2) ∧ (p1 33 a = 0 → p1 32 a - 10 * p 31 a < 10 * wy 0) ∧ (twt wy (p 31 a) (p 32 a) (p 34 a) (p 37 a) → p1 32 a = p 32 a) ∧
      (p1 33 a = 1 → twt wy (p 31 a) (p1 32 a) (p 34 a) (p 37 a) ∧ p1 36 a = now) ∧ (p1 33 a = 0 → twt wy (p 31 a) (p1 32 a) (p 34 a) (p 37 a) → wy 3 ≤ (P1.length : Int))) ∧
    ((P1 = P ∧ ∀ a, a ∈ L → p1 33 a ≠ 1) ∨ ∃ s, s ∈ L ∧ P1 = P ++ [s] ∧ p1 33 s = 1 ∧ (∀ a, a ∈ L → a ≠ s → p1 33 a ≠ 1) ∧ (P.length : Int) + 1 ≤ wy 3) ∧
    (∀ a, a ∈ P1 → a < m ∧ p1 33 a = 1 ∧ (10 ≤ p1 31 a ∧ p1 31 a ≤ 70) ∧ (0 ≤ p1 36 a ∧ p1 36 a ≤ now)) ∧ N.Nodup ∧ (0 < P1.length → N.length < m ∧ (1 ≤ wy 2 ∧ wy 2 ≤ 300) ∧ P1.length ≤ 3) ∧ N.length ≤ m := by
  have hI := TkOK_inv (now := now) (cor := cor) (many := many) H h L.length (Nat.le_refl _)
  have ho : ∀ o, o ≠ 32 → o ≠ 35 → o ≠ 33 → o ≠ 36 → ∀ a, p1 o a = p o a := by
    intro o h1 h2 h3 h4 a
    have := mvN_o (wy := wy) (ro := ro) (sp := sp) (wear := wear) (beat := beat) (cor := cor) (many := many) (now := now) (p := p) (L := L) (P := P) (j := a) h1 h2 h3 h4 L.length
    rw [hq] at this
    exact this
  have hout : ∀ o a, a ∉ L → p1 o a = p o a := by
    intro o a ha
    have := mvN_out (wy := wy) (ro := ro) (sp := sp) (wear := wear) (beat := beat) (cor := cor) (many := many) (now := now) (p := p) (L := L) (P := P) (o := o) (j := a) (i := L.length) (fun k hk z => ha (by rw [← z, getD_el hk]; exact List.getElem_mem hk))
    rw [hq] at this
    exact this
  rw [hq] at hI
  have hnd := TkOK_nd h
  obtain ⟨t1, t2, t3, t4, t5, t6, t7⟩ := h
  obtain ⟨m1, m2, m3, m4, m5, m6⟩ := hI
  dsimp only at m1 m2 m3 m4 m5 m6
  have hex : ∀ a, a ∈ L ↔ ∃ k, k < L.length ∧ L.getD k 0 = a := by
    intro a
    constructor
    · intro ha
      obtain ⟨k, hk, rfl⟩ := List.getElem_of_mem ha
      exact ⟨k, hk, getD_el hk⟩
    · rintro ⟨k, hk, rfl⟩
      rw [getD_el hk]
      exact List.getElem_mem hk
  have hN : ∀ a, a ∈ N ↔ a ∈ L ∧ p1 33 a = 0 := fun a => by rw [m1 a, hex a]
  have hS : N.Pairwise (fun a b => p1 32 b ≤ p1 32 a - 10 * p1 31 a) := by
    refine m2.imp fun {a b} z => ?_
    rw [ho 31 (by decide) (by decide) (by decide) (by decide)]
    exact z
  have h5 : ∀ a, a ∈ L → (p 32 a ≤ p1 32 a ∧ p1 32 a ≤ p 32 a + 90) ∧ (0 ≤ p1 35 a ∧ p1 35 a ≤ p 35 a + 1) ∧ (p1 33 a = 0 ∨ p1 33 a = 1 ∨ p1 33 a = 2) ∧ (p1 33 a = 0 → p1 32 a - 10 * p 31 a < 10 * wy 0) ∧ (twt wy (p 31 a) (p 32 a) (p 34 a) (p 37 a) → p1 32 a = p 32 a) ∧
      (p1 33 a = 1 → twt wy (p 31 a) (p1 32 a) (p 34 a) (p 37 a) ∧ p1 36 a = now) ∧ (p1 33 a = 0 → twt wy (p 31 a) (p1 32 a) (p 34 a) (p 37 a) → wy 3 ≤ (P1.length : Int)) := by
    intro a ha
    obtain ⟨k, hk, rfl⟩ := (hex a).mp ha
    exact m5 k hk
  have h6 : (P1 = P ∧ ∀ a, a ∈ L → p1 33 a ≠ 1) ∨ ∃ s, s ∈ L ∧ P1 = P ++ [s] ∧ p1 33 s = 1 ∧ (∀ a, a ∈ L → a ≠ s → p1 33 a ≠ 1) ∧ (P.length : Int) + 1 ≤ wy 3 := by
    rcases m6 with ⟨a, b⟩ | ⟨k, a, b, c, d, f, _⟩
    · refine Or.inl ⟨a, fun x hx => ?_⟩
      obtain ⟨k, hk, rfl⟩ := (hex x).mp hx
      exact b k hk
    · refine Or.inr ⟨L.getD k 0, (hex _).mpr ⟨k, a, rfl⟩, b, c, fun x hx hn => ?_, f⟩
      obtain ⟨k', hk', rfl⟩ := (hex x).mp hx
      exact d k' hk' (fun z => hn (by rw [z]))
  have hPL : ∀ a, a ∈ P → a ∉ L := fun a ha z => by have := (t6 a ha).2.1; have := (t2 a z).2.1; omega
  have h7 : ∀ a, a ∈ P1 → a < m ∧ p1 33 a = 1 ∧ (10 ≤ p1 31 a ∧ p1 31 a ≤ 70) ∧ (0 ≤ p1 36 a ∧ p1 36 a ≤ now) := by
    have hold : ∀ a, a ∈ P → a < m ∧ p1 33 a = 1 ∧ (10 ≤ p1 31 a ∧ p1 31 a ≤ 70) ∧ (0 ≤ p1 36 a ∧ p1 36 a ≤ now) := by
      intro a ha
      rw [hout 33 a (hPL a ha), hout 31 a (hPL a ha), hout 36 a (hPL a ha)]
      obtain ⟨y1, y2, y3, y4⟩ := t6 a ha
      exact ⟨y1, y2, y3, by omega⟩
    intro a ha
    rcases h6 with ⟨z, _⟩ | ⟨s, z1, z2, z3, _⟩
    · rw [z] at ha
      exact hold a ha
    · rw [z2] at ha
      rcases List.mem_append.mp ha with y | y
      · exact hold a y
      · have : a = s := by simpa using y
        subst this
        have := (h5 a z1).2.2.2.2.2.1 z3
        have hb := t2 a z1
        rw [ho 31 (by decide) (by decide) (by decide) (by decide)]
        exact ⟨hb.1, z3, hb.2.2.2.1, by omega⟩
  have hNn : N.Nodup := sort_nodup (hd := p1 32) (ten := fun a => 10 * p1 31 a) hS (fun a ha => by
    have := (t2 a ((hN a).mp ha).1).2.2.2.1
    (try dsimp only)
    rw [ho 31 (by decide) (by decide) (by decide) (by decide)]
    omega)
  refine ⟨hN, hS, ho, hout, h5, h6, h7, hNn, fun hp => ⟨?_, ?_⟩, nodup_le m N hNn (fun a ha => (t2 a ((hN a).mp ha).1).1)⟩
  · have h0 := h7 P1[0] (List.getElem_mem hp)
    have := nodup_le m (P1[0] :: N) (List.nodup_cons.mpr ⟨fun z => by have := ((hN _).mp z).2; omega, hNn⟩) (fun a ha => by
      rcases List.mem_cons.mp ha with z | z
      · rw [z]; exact h0.1
      · exact (t2 a ((hN a).mp z).1).1)
    rw [List.length_cons] at this
    omega
  · rcases t7 with ⟨z1, z2⟩ | ⟨z1, z2, z3⟩
    · exfalso
      rcases h6 with ⟨y, _⟩ | ⟨s, y1, _, y3, _⟩
      · rw [y, z2] at hp
        exact absurd hp (by decide)
      · have := ((h5 s y1).2.2.2.2.2.1 y3).1.1
        rw [z1 s y1] at this
        omega
    · refine ⟨z1, ?_⟩
      rcases h6 with ⟨y, _⟩ | ⟨s, _, y2, _, _, y5⟩
      · rw [y]; omega
      · rw [y2, List.length_append, List.length_singleton]; omega
theorem lp_carry8 (hT : T = 6 ∨ T = 8) (hW : W = 19 ∨ W = 20) (hF : F = 4 ∨ F = 5) (bn : 0 ≤ now ∧ now < 2147483648)
    (w0 : S.1 W 0 = wy 0) (w6 : S.1 W 6 = wy 1) (w7 : S.1 W 7 = wy 2) (w8 : S.1 W 8 = wy 3) (w9 : S.1 W 9 = wy 4) (b0 : 40 ≤ wy 0 ∧ wy 0 ≤ 300) (b1 : 0 ≤ wy 1 ∧ wy 1 ≤ 300)
    (H : DrOK wy ro sp wear beat) (k1 : S.1 W 1 = wy 6) (k2 : S.1 W 10 = wy 5) (K : ∀ r : Nat, (r : Int) < wy 6 → S.2 W 3 r = ro r ∧ S.2 W 4 r = sp r ∧ S.2 F 1 r = wear r ∧ S.2 F 2 r = beat r)
    (C : CoOK cor many) (k3 : S.1 F 3 = (many : Int)) (KC : ∀ c : Nat, c < many → S.2 F 3 c = cor c)
    (hn : now = now0 + 1) (hn0 : 0 ≤ now0) (hK : TkOK wy ro m now0 p L P) (hR : CRt T W F m S now0 (-1) p L P) {p1 : Nat → Nat → Int} {N P1 : List Nat} {lim : Int} (hq : mvN wy ro sp wear beat cor many now L p P L.length = (p1, N, P1, lim)) :
    zp (F_X8_carryOn T S) (fun V => (∀ r, r ≠ T → V.1 r = S.1 r) ∧ (∀ r, r ≠ T → V.2 r = S.2 r) ∧ CRt T W F m V now (tkj p1 N) (tkB wy now (tkJ p1 N) N P1).1 (tkB wy now (tkJ p1 N) N P1).2.1 (tkB wy now (tkJ p1 N) N P1).2.2) := by
  obtain ⟨e1, e2, e3, e4, e5, e6, e7, e8, e9, e10⟩ := TkOK_end (cor := cor) (many := many) H hn hn0 hK hq
  have hnd := TkOK_nd hK
  have hlen := TkOK_len hK
  obtain ⟨t1, t2, t3, t4, t5, t6, t7⟩ := hK
  obtain ⟨r1, r2, r3, r4, r5, r6, r7, r8, r9, r10⟩ := hR
  have hWT : W ≠ T := by omega
  have hFT : F ≠ T := by omega
  have fn : zadd (S.1 T 2) 1 = now := by rw [r2, zadd_ok (by omega) (by omega), hn]
  unfold F_X8_carryOn
  refine zp_lt.mpr (zp_lt.mpr ?_)
  dsimp only
  rw [fn, zup_k (show (13 : Nat) ≠ 2 by decide), r5]
  have i1 : ∀ r, r ≠ T → zup (zup S.1 T 2 now) T 13 0 r = S.1 r := fun r hr => by rw [zup_R hr, zup_R hr]
  refine lp_c25 (S := (zup (zup S.1 T 2 now) T 13 0, S.2)) (p := p) (P := P) (m := m) hT hW hF (by dsimp only; rw [zup_k (by decide), zup_k (by decide)]; exact r6) (by dsimp only; rw [zup_k (by decide), zup_k (by decide)]; exact r7) (by dsimp only; rw [zup_k (by decide), zup_s]) bn
    (by dsimp only; rw [i1 W hWT]; exact w0) (by dsimp only; rw [i1 W hWT]; exact w6) (by dsimp only; rw [i1 W hWT]; exact w8) b0 b1 H (by dsimp only; rw [i1 W hWT]; exact k1) (by dsimp only; rw [i1 W hWT]; exact k2) K C (by dsimp only; rw [i1 F hFT]; exact k3) KC
    (by dsimp only; rw [zup_s]) (by dsimp only; rw [zup_k (by decide), zup_k (by decide)]; exact r4) ?_ t1 r8 (by omega) r9 r10 t2 hnd (fun St hSt => ?_)
  · rcases t7 with z | z
    · exact Or.inr z.1
    · exact Or.inl z.2.1
  · rw [hq] at hSt
    obtain ⟨s1, s2, s3, s4, s5, s6, s7, _, s9, _⟩ := hSt
    dsimp only at s1 s2 s3 s4 s5 s6 s7 s9
    have hNm : ∀ a, a ∈ N → a < m := fun a ha => (t2 a ((e1 a).mp ha).1).1
    have hjk : jmK (St.2 T 9) N = jmK (p1 35) N := by
      unfold jmK
      refine fnd_cong fun i hi => ?_
      have : N.getD i 0 ∈ N := by rw [getD_el hi]; exact List.getElem_mem hi
      rw [(s6 _ (hNm _ this)).2.2.2.1]
    have hjm := lp_jam8 (S := St) (T := T) (N := N) s4 (by omega) s7 (fun a ha => by have := hNm a ha; omega)
    rw [hjk] at hjm
    rw [zp_bind, zp_eq hjm]
    -- behind the jam
    have hV : ∃ V : ZS, (if jmK (p1 35) N < N.length then (zup St.1 T 3 (N.getD (jmK (p1 35) N) 0 : Int), zuA St.2 T 6 (zset (St.2 T 6) (N.getD (jmK (p1 35) N) 0) 3)) else St) = V ∧ (∀ r, r ≠ T → V.1 r = S.1 r) ∧ (∀ r, r ≠ T → V.2 r = S.2 r) ∧ CRt T W F m V now (tkj p1 N) (tkJ p1 N) N P1 := by
      refine ⟨_, rfl, ?_⟩
      unfold tkj tkJ CRt
      by_cases c : jmK (p1 35) N < N.length
      · simp only [if_pos c]
        (try dsimp only)
        refine ⟨fun r hr => by rw [zup_R hr, s1 r hr]; exact i1 r hr, fun r hr => by rw [zuA_R hr, s2 r hr], ?_, ?_, by rw [zup_s], ?_, ?_, ?_, ?_, ?_, fun i h => ?_, fun i h => ?_⟩
        · rw [zup_k (by decide), s3 1 (by decide) (by decide), zup_k (by decide), zup_k (by decide)]; exact r1
        · rw [zup_k (by decide), s3 2 (by decide) (by decide), zup_k (by decide), zup_s]
        · rw [zup_k (by decide)]; exact s5
        · rw [zup_k (by decide)]; exact s4
        · rw [zup_k (by decide), s3 15 (by decide) (by decide), zup_k (by decide), zup_k (by decide)]; exact r6
        · rw [zup_k (by decide), s3 16 (by decide) (by decide), zup_k (by decide), zup_k (by decide)]; exact r7
        · intro a ha
          obtain ⟨c1, c2, c3, c4, c5, c6, c7⟩ := s6 a ha
          simp only [zuA_ap, zset_ap, true_and, Nat.reduceEqDiff, reduceIte, false_and]
          by_cases ea : a = N.getD (jmK (p1 35) N) 0
          · rw [if_pos ea, if_pos ea]
            exact ⟨by trivial, c2, c3, c4, c5, c6, fun z => absurd z (by decide)⟩
          · rw [if_neg ea, if_neg ea]
            exact ⟨c1, c2, c3, c4, c5, c6, c7⟩
        · rw [zuA_o (by decide)]; exact s7 i h
        · rw [zuA_o (by decide)]; exact s9 i h
      · simp only [if_neg c]
        refine ⟨fun r hr => by rw [s1 r hr]; exact i1 r hr, fun r hr => s2 r hr, ?_, ?_, ?_, s5, s4, ?_, ?_, s6, s7, s9⟩
        · rw [s3 1 (by decide) (by decide), zup_k (by decide), zup_k (by decide)]; exact r1
        · rw [s3 2 (by decide) (by decide), zup_k (by decide), zup_s]
        · rw [s3 3 (by decide) (by decide), zup_k (by decide), zup_k (by decide)]; exact r3
        · rw [s3 15 (by decide) (by decide), zup_k (by decide), zup_k (by decide)]; exact r6
        · rw [s3 16 (by decide) (by decide), zup_k (by decide), zup_k (by decide)]; exact r7
    obtain ⟨V, hV0, hV1, hV2, hV3⟩ := hV
    rw [hV0]
    have hJo : ∀ o a, o ≠ 33 → tkJ p1 N o a = p1 o a := by
      intro o a ho
      unfold tkJ
      split
      · exact if_neg (fun z => ho z.1)
      · rfl
    have hJn : ∀ a, a ∉ N → tkJ p1 N 33 a = p1 33 a := by
      intro a ha
      unfold tkJ
      split
      · rename_i c
        refine if_neg (fun z => ha ?_)
        rw [z.2, getD_el c]
        exact List.getElem_mem c
      · rfl
    have hJN : ∀ a, a ∈ N → tkJ p1 N 33 a ≠ 1 := by
      intro a ha
      have := ((e1 a).mp ha).2
      unfold tkJ
      split
      · dsimp only
        split <;> omega
      · omega
    obtain ⟨v1, v2, v3, v4, v5, v6, v7, v8, v9, v10⟩ := id hV3
    rcases Nat.eq_zero_or_pos P1.length with hp | hp
    · have hcb : cbB wy now (tkJ p1 N) N P1 = false := by
        unfold cbB
        rw [decide_eq_false (by omega)]
        rfl
      have hB : tkB wy now (tkJ p1 N) N P1 = (tkJ p1 N, N, P1) := by
        unfold tkB
        rw [hcb]
        rfl
      rw [hB, zp_eq (lp_back0 (by rw [v4, hp]; rfl))]
      exact ⟨hV1, hV2, hV3⟩
    · obtain ⟨f1, f2, f3⟩ := e9 hp
      have hbk := lp_back8 (S := V) (T := T) (W := W) (wy := wy) (now := now) (p := tkJ p1 N) (m := m) (N := N) (P := P1) hW v6 v2 bn (by rw [hV1 W hWT]; exact w7) (by rw [hV1 W hWT]; exact w9) (by omega) v5 (by omega) v9 v4 hp f3 v10 v8 t1 (fun a ha => ?_) (fun a ha => ?_) hJN ?_
      · refine zp_mono hbk fun U hU => ?_
        cases hcb : cbB wy now (tkJ p1 N) N P1
        · have hB : tkB wy now (tkJ p1 N) N P1 = (tkJ p1 N, N, P1) := by
            unfold tkB
            rw [hcb]
            rfl
          rw [hB, hU.1 hcb]
          exact ⟨hV1, hV2, hV3⟩
        · have hB : tkB wy now (tkJ p1 N) N P1 = (pcb wy (tkJ p1 N) (P1.getD 0 0), lnew N (cbk (tkJ p1 N) N (10 * wy 2)) (P1.getD 0 0), P1.drop 1) := by
            unfold tkB
            rw [hcb]
            rfl
          rw [hB]
          unfold CRt
          dsimp only
          obtain ⟨u1, u2, u3, u4, u5, u6, u7, u8⟩ := hU.2 hcb
          refine ⟨fun r hr => by rw [u1 r hr]; exact hV1 r hr, fun r hr => by rw [u2 r hr]; exact hV2 r hr, ?_, ?_, ?_, ?_, ?_, ?_, ?_, u8, u6, u7⟩
          · rw [u3 1 (by decide) (by decide)]; exact v1
          · rw [u3 2 (by decide) (by decide)]; exact v2
          · rw [u3 3 (by decide) (by decide)]; exact v3
          · rw [u4, List.length_drop]
          · rw [u5, lnew_len (k := cbk (tkJ p1 N) N (10 * wy 2)) (by unfold cbk; exact fnd_le _ _)]
          · rw [u3 15 (by decide) (by decide)]; exact v6
          · rw [u3 16 (by decide) (by decide)]; exact v7
      · have hL := ((e1 a).mp ha).1
        have h5 := (e5 a hL).1
        have hb := t2 a hL
        rw [hJo 32 a (by decide), hJo 31 a (by decide), e3 31 (by decide) (by decide) (by decide) (by decide)]
        exact ⟨hb.1, by omega, hb.2.2.2.1⟩
      · have h7 := e7 a ha
        have hn : a ∉ N := fun z => by have := ((e1 a).mp z).2; omega
        rw [hJn a hn, hJo 31 a (by decide), hJo 36 a (by decide)]
        exact h7
      · refine e2.imp fun {a b} z => ?_
        rw [hJo 32 a (by decide), hJo 32 b (by decide), hJo 31 a (by decide)]
        exact z
end TICKO
