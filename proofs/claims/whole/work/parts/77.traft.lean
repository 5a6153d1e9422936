/-! a tick: the picture stays one -/
section TRAFT
variable {m n s : Nat} {wy ro sp wear beat cor ey : Nat → Int} {many : Nat} {now now0 jam : Int} {p p1 p2 : Nat → Nat → Int} {L P N P1 : List Nat} {lim : Int}
theorem TkOK_of (hW : WayOK wy ro sp ey) (K : TrafOK wy ro (m : Int) now0 (-1) (p 31) (p 32) (p 33) (p 34) (p 35) (p 36) (p 37) L P n) : TkOK wy ro m now0 p L P ∧ TkR m p L P ∧ (∀ a, a ∈ L → p 32 a - 10 * p 31 a < 10 * wy 0) ∧ (P ≠ [] → 1 ≤ wy 2 ∧ wy 2 ≤ 300) := by
  obtain ⟨⟨g1, g2⟩, _, _, g7, _⟩ := hW
  obtain ⟨⟨o1, o2⟩, ⟨o3, o4⟩, o5, os, oL, oLp, oP, oPp, oPl, o6, o7, o8⟩ := K
  have h3 : ∀ a : Nat, a < m → p 33 a ≠ 3 := fun a ha z => by have := (os a (by omega)).2.2.2.2.2.2.1 z; omega
  have hL : ∀ a, a ∈ L ↔ a < m ∧ p 33 a = 0 := fun a => by
    rw [oL a]
    constructor
    · rintro ⟨y, z⟩
      exact ⟨by omega, z.resolve_right (h3 a (by omega))⟩
    · rintro ⟨y, z⟩
      exact ⟨by omega, Or.inl z⟩
  have hturn : (∃ a : Nat, a < m ∧ p 37 a = 1) → (1 ≤ wy 2 ∧ wy 2 ≤ 300) ∧ wy 3 ≤ 3 := by
    rintro ⟨a, ha, h⟩
    have h6 := (os a (by omega)).2.2.2.2.2.1
    have h6 := h6.resolve_left (by omega)
    have := g7.resolve_left h6.2
    omega
  have hP1 : ∀ a, a ∈ P → a < m ∧ p 33 a = 1 ∧ p 37 a = 1 ∧ p 36 a ≤ now0 := fun a ha => by
    obtain ⟨y, z⟩ := (oP a).mp ha
    have := (os a y).2.2.2.2.2.2.2.1 z
    exact ⟨by omega, z, this.1, this.2.1⟩
  have hcm : ∀ a, a ∈ P → 0 ≤ p 36 a := fun a ha => by
    obtain ⟨y, z⟩ := (oP a).mp ha
    exact ((os a y).2.2.2.2.2.2.2.1 z).2.2
  refine ⟨⟨by omega, fun a ha => ?_, oLp, fun a ha h => ?_, fun a ha h1 h2 h3 h4 => ?_, fun a ha => ?_, ?_⟩, ⟨hL, fun a => ?_, oPp, fun a ha => ?_⟩, fun a ha => ?_, fun hp => ?_⟩
  · obtain ⟨y, z⟩ := (hL a).mp ha
    obtain ⟨b1, b2, b3, b4, b5, b6, b7, b8, b9, b10⟩ := os a (by omega)
    exact ⟨y, z, by omega, by omega, by omega, by omega⟩
  · obtain ⟨y, z⟩ := (hL a).mp ha
    exact o7 a (by omega) (Or.inl z) h
  · obtain ⟨y, z⟩ := (hL a).mp ha
    exact o8 a (by omega) z h1 h2 h3 h4
  · obtain ⟨y1, y2, y3, y4⟩ := hP1 a ha
    have := (os a (by omega)).2.1
    exact ⟨y1, y2, by omega, hcm a ha, y4⟩
  · by_cases c : ∃ a : Nat, a < m ∧ p 37 a = 1
    · exact Or.inr ⟨(hturn c).1, (hturn c).2, oPl⟩
    · refine Or.inl ⟨fun a ha => ?_, ?_⟩
      · obtain ⟨y, z⟩ := (hL a).mp ha
        have h6 := (os a (by omega)).2.2.2.2.2.1
        rcases h6 with z2 | z2
        · exact z2
        · exact absurd ⟨a, y, z2.1⟩ c
      · cases P with
        | nil => rfl
        | cons a t =>
          obtain ⟨y1, y2, y3, y4⟩ := hP1 a (by simp)
          exact absurd ⟨a, y1, y3⟩ c
  · rw [oP a]
    exact ⟨fun z => ⟨by omega, z.2⟩, fun z => ⟨by omega, z.2⟩⟩
  · obtain ⟨b1, b2, b3, b4, b5, b6, b7, b8, b9, b10⟩ := os a (by omega)
    exact ⟨h3 a ha, by omega, by omega⟩
  · obtain ⟨y, z⟩ := (hL a).mp ha
    exact ((os a (by omega)).2.2.2.2.2.2.2.2.1 z).1
  · cases P with
    | nil => exact absurd rfl hp
    | cons a t =>
      obtain ⟨y1, y2, y3, y4⟩ := hP1 a (by simp)
      exact (hturn ⟨a, y1, y3⟩).1
theorem tkJ_o {o a : Nat} (h : o ≠ 33) : tkJ p N o a = p o a := by
  unfold tkJ
  split
  · exact if_neg (fun z => h z.1)
  · rfl
theorem tkJ_of {o : Nat} (h : o ≠ 33) : tkJ p N o = p o := funext fun _ => tkJ_o h
theorem tkJ_n {a : Nat} (h : a ∉ N) : tkJ p N 33 a = p 33 a := by
  unfold tkJ
  split
  · rename_i c
    refine if_neg (fun z => h ?_)
    rw [z.2, getD_el c]
    exact List.getElem_mem c
  · rfl
/-- the jam, told once -/
theorem tkj_sp (hN : ∀ a, a ∈ N → p 33 a = 0) : (tkj p N = -1 ∧ tkJ p N = p ∧ ∀ a, a ∈ N → p 35 a < 5) ∨ ∃ s, s ∈ N ∧ tkj p N = (s : Int) ∧ tkJ p N 33 s = 3 ∧ ∀ a, a ≠ s → tkJ p N 33 a = p 33 a := by
  unfold tkj tkJ
  by_cases c : jmK (p 35) N < N.length
  · simp only [if_pos c]
    refine Or.inr ⟨_, by rw [getD_el c]; exact List.getElem_mem c, rfl, ?_, fun a ha => if_neg (fun z => ha z.2)⟩
    simp
  · simp only [if_neg c]
    refine Or.inl ⟨by trivial, by trivial, fun a ha => ?_⟩
    obtain ⟨j, hj, rfl⟩ := List.getElem_of_mem ha
    have hl : jmK (p 35) N = N.length := by
      have := fnd_le (fun i => decide (5 ≤ p 35 (N.getD i 0))) N.length
      unfold jmK at c ⊢
      omega
    have hj2 : j < fnd (fun i => decide (5 ≤ p 35 (N.getD i 0))) N.length := by
      unfold jmK at hl
      omega
    have := of_decide_eq_false (fnd_no (p := fun i => decide (5 ≤ p 35 (N.getD i 0))) hj2)
    rw [getD_el hj] at this
    omega
theorem T_mid (hW : WayOK wy ro sp ey) (H : DrOK wy ro sp wear beat) (K : TrafOK wy ro (m : Int) now0 (-1) (p 31) (p 32) (p 33) (p 34) (p 35) (p 36) (p 37) L P n) (hn : now = now0 + 1) (hn2 : now ≤ 300 * (n : Int)) (hq : mvN wy ro sp wear beat cor many now L p P L.length = (p1, N, P1, lim)) :
    TrafOK wy ro (m : Int) now (tkj p1 N) (tkJ p1 N 31) (tkJ p1 N 32) (tkJ p1 N 33) (tkJ p1 N 34) (tkJ p1 N 35) (tkJ p1 N 36) (tkJ p1 N 37) N P1 n ∧ (∀ s : Nat, s < m → tkJ p1 N 33 s = 0 → p 37 s = 1 → p 34 s = 1 → 10 * wy 1 ≤ p1 32 s - 10 * p 31 s → wy 3 ≤ (P1.length : Int)) ∧ (∀ a, a ∈ P1 → 0 ≤ p1 36 a) := by
  obtain ⟨hK, hR, hin, hw2⟩ := TkOK_of hW K
  obtain ⟨⟨o1, o2⟩, ⟨o3, o4⟩, o5, os, oL, oLp, oP, oPp, oPl, o6, o7, o8⟩ := K
  obtain ⟨e1, e2, e3, e4, e5, e6, e7, e8, e9, e10⟩ := TkOK_end (cor := cor) (many := many) H hn o3 hK hq
  obtain ⟨hL, hP, hPc, hA⟩ := hR
  have e31 : ∀ a, p1 31 a = p 31 a := e3 31 (by decide) (by decide) (by decide) (by decide)
  have e34 : ∀ a, p1 34 a = p 34 a := e3 34 (by decide) (by decide) (by decide) (by decide)
  have e37 : ∀ a, p1 37 a = p 37 a := e3 37 (by decide) (by decide) (by decide) (by decide)
  have hN0 : ∀ a, a ∈ N → p1 33 a = 0 := fun a ha => ((e1 a).mp ha).2
  have hsp := tkj_sp hN0
  -- by sheet
  have hs3 : ∀ s : Nat, s < m → p1 33 s ≠ 3 := by
    intro s hs
    by_cases c : s ∈ L
    · have := (e5 s c).2.2.1
      omega
    · rw [e4 33 s c]
      exact (hA s hs).1
  have hs0 : ∀ s : Nat, s < m → p1 33 s = 0 → s ∈ N := by
    intro s hs h
    by_cases c : s ∈ L
    · exact (e1 s).mpr ⟨c, h⟩
    · rw [e4 33 s c] at h
      exact absurd ((hL s).mpr ⟨hs, h⟩) c
  have hst : ∀ s : Nat, s < m → (tkJ p1 N 33 s = 0 ∨ tkJ p1 N 33 s = 3 ↔ s ∈ N) ∧ (tkJ p1 N 33 s = 1 ↔ p1 33 s = 1) ∧ (tkJ p1 N 33 s = 3 → tkj p1 N = (s : Int)) ∧ (tkJ p1 N 33 s = 0 → p1 33 s = 0) ∧ (0 ≤ p1 33 s ∧ p1 33 s ≤ 4 → 0 ≤ tkJ p1 N 33 s ∧ tkJ p1 N 33 s ≤ 4) := by
    intro s hs
    have h3 := hs3 s hs
    rcases hsp with ⟨y1, y2, _⟩ | ⟨x, y1, y2, y3, y4⟩
    · rw [y2]
      exact ⟨⟨fun z => hs0 s hs (z.resolve_right h3), fun z => Or.inl (hN0 s z)⟩, Iff.rfl, fun z => absurd z h3, id, id⟩
    · by_cases c : s = x
      · subst c
        have := hN0 s y1
        rw [y3, y2]
        exact ⟨⟨fun _ => y1, fun _ => Or.inr rfl⟩, ⟨fun z => absurd z (by decide), fun z => by omega⟩, fun _ => rfl, fun z => absurd z (by decide), fun _ => by omega⟩
      · rw [y4 s c]
        exact ⟨⟨fun z => hs0 s hs (z.resolve_right h3), fun z => Or.inl (hN0 s z)⟩, Iff.rfl, fun z => absurd z h3, id, id⟩
  have hNm : ∀ a, a ∈ N → a < m := fun a ha => ((hL a).mp ((e1 a).mp ha).1).1
  refine ⟨⟨⟨o1, o2⟩, ⟨by omega, hn2⟩, ?_, fun s hs => ?_, fun s => ?_, ?_, fun s => ?_, ?_, ?_, o6, fun s hs h1 h2 => ?_, fun s hs h1 h2 h3 h4 _ => ?_⟩, fun s hs h1 h2 h3 h4 => ?_, fun a ha => (e7 a ha).2.2.2.1⟩
  · rcases hsp with ⟨y1, _⟩ | ⟨x, y1, y2, y3, _⟩
    · exact Or.inl y1
    · have := hNm x y1
      refine Or.inr ⟨by omega, by omega, ?_⟩
      rw [y2, Int.toNat_natCast]
      exact y3
  · have hs' : s < m := by omega
    obtain ⟨k1, k2, k3, k4, k5⟩ := hst s hs'
    rw [tkJ_of (show 31 ≠ 33 by decide), tkJ_of (show 32 ≠ 33 by decide), tkJ_of (show 34 ≠ 33 by decide), tkJ_of (show 35 ≠ 33 by decide), tkJ_of (show 36 ≠ 33 by decide), tkJ_of (show 37 ≠ 33 by decide), e31, e34, e37]
    obtain ⟨b1, b2, b3, b4, b5, b6, b7, b8, b9, b10⟩ := os s hs
    by_cases c : s ∈ L
    · obtain ⟨q1, q2, q3, q4, q5, q6, q7⟩ := e5 s c
      obtain ⟨_, c0⟩ := (hL s).mp c
      have hin := hin s c
      have b9 := b9 c0
      have b92 := b9.2 rfl
      refine ⟨k5 (by omega), b2, b3, by omega, by omega, b6, k3, fun z => ?_, fun z => ?_, fun z1 z2 z3 => ?_⟩
      · have := q6 (k2.mp z)
        exact ⟨this.1.1, by omega, by omega⟩
      · have z0 := k4 z
        refine ⟨q4 z0, fun y => ?_⟩
        rcases hsp with ⟨_, _, y3⟩ | ⟨x, y1, y2, _, _⟩
        · have := y3 s ((e1 s).mpr ⟨c, z0⟩)
          omega
        · omega
      · by_cases w : twt wy (p 31 s) (p 32 s) (p 34 s) (p 37 s)
        · rw [q5 w]
          exact b10 (Or.inl c0) z2 z3
        · have : ¬ 10 * wy 1 ≤ p 32 s - 10 * p 31 s := fun y => w ⟨z2, z3, y⟩
          exact Or.inl (by omega)
    · rw [e4 32 s c, e4 35 s c, e4 36 s c]
      have hn : s ∉ N := fun z => c ((e1 s).mp z).1
      rw [e4 33 s c] at k2 k4 k5
      refine ⟨k5 b1, b2, b3, b4, b5, b6, k3, fun z => ?_, fun z => ?_, fun z1 _ _ => absurd (k1.mp z1) hn⟩
      · have := b8 (k2.mp z)
        exact ⟨this.1, by omega, by omega⟩
      · exact absurd (k1.mp (Or.inl z)) hn
  · constructor
    · intro z
      have := hNm s z
      exact ⟨by omega, (hst s this).1.mpr z⟩
    · rintro ⟨y, z⟩
      exact (hst s (by omega)).1.mp z
  · rw [tkJ_of (show 31 ≠ 33 by decide), tkJ_of (show 32 ≠ 33 by decide)]
    exact e2
  · have hpk := mvN_pk (now := now) (many := many) (wy := wy) (ro := ro) (sp := sp) (wear := wear) (beat := beat) (cor := cor) (p := p) (L := L) (P := P) (m := m) ⟨hL, hP, hPc, hA⟩ (TkOK_nd hK) (Nat.le_refl _) hq (by rw [← hq]; exact TkOK_inv H hK _ (Nat.le_refl _))
    constructor
    · intro z
      obtain ⟨y1, y2⟩ := (hpk.1 s).mp z
      exact ⟨by omega, (hst s y1).2.1.mpr y2⟩
    · rintro ⟨y, z⟩
      exact (hpk.1 s).mpr ⟨by omega, (hst s (by omega)).2.1.mp z⟩
  · rw [tkJ_of (show 36 ≠ 33 by decide)]
    have hold : P.Pairwise (fun a b => p1 36 a < p1 36 b) := by
      refine hPc.imp_of_mem fun {a b} ha hb h => ?_
      have ha := (hP a).mp ha
      have hb := (hP b).mp hb
      rw [e4 36 a (fun z => by have := ((hL a).mp z).2; omega), e4 36 b (fun z => by have := ((hL b).mp z).2; omega)]
      exact h
    rcases e6 with ⟨y, _⟩ | ⟨x, y1, y2, y3, _, _⟩
    · rw [y]; exact hold
    · rw [y2]
      refine List.pairwise_append.mpr ⟨hold, List.pairwise_singleton _ _, fun a ha b hb => ?_⟩
      have hb : b = x := by simpa using hb
      have ha2 := (hP a).mp ha
      have hal : a ∉ L := fun z => by have := ((hL a).mp z).2; omega
      have := ((os a (by omega)).2.2.2.2.2.2.2.1 ha2.2).2.1
      rw [hb, e4 36 a hal, ((e5 x y1).2.2.2.2.2.1 y3).2]
      omega
  · rcases e6 with ⟨y, _⟩ | ⟨x, _, y2, _, _, y5⟩
    · rw [y]; exact oPl
    · rw [y2, List.length_append, List.length_singleton]
      omega
  · have hs' : s < m := by omega
    have hm := (hst s hs').1.mp h1
    obtain ⟨hl, _⟩ := (e1 s).mp hm
    rw [tkJ_of (show 34 ≠ 33 by decide), e34] at h2
    rw [tkJ_of (show 32 ≠ 33 by decide)]
    have := o7 s hs (Or.inl ((hL s).mp hl).2) h2
    have := (e5 s hl).1
    omega
  · have hs' : s < m := by omega
    have hm := (hst s hs').1.mp (Or.inl h1)
    obtain ⟨hl, h0⟩ := (e1 s).mp hm
    rw [tkJ_of (show 37 ≠ 33 by decide), e37] at h2
    rw [tkJ_of (show 34 ≠ 33 by decide), e34] at h3
    rw [tkJ_of (show 32 ≠ 33 by decide), tkJ_of (show 31 ≠ 33 by decide), e31] at h4
    have := (e5 s hl).2.2.2.2.2.2 h0 ⟨h2, h3, h4⟩
    omega
  · have hm := (hst s hs).1.mp (Or.inl h1)
    obtain ⟨hl, h0⟩ := (e1 s).mp hm
    exact (e5 s hl).2.2.2.2.2.2 h0 ⟨h2, h3, h4⟩
theorem T_back (hW : WayOK wy ro sp ey) (K : TrafOK wy ro (m : Int) now jam (p 31) (p 32) (p 33) (p 34) (p 35) (p 36) (p 37) N P n) (hS : ∀ s : Nat, s < m → p 33 s = 0 → p 37 s = 1 → p 34 s = 1 → 10 * wy 1 ≤ p 32 s - 10 * p 31 s → wy 3 ≤ (P.length : Int)) :
    TrafOK wy ro (m : Int) now jam ((tkB wy now p N P).1 31) ((tkB wy now p N P).1 32) ((tkB wy now p N P).1 33) ((tkB wy now p N P).1 34) ((tkB wy now p N P).1 35) ((tkB wy now p N P).1 36) ((tkB wy now p N P).1 37) (tkB wy now p N P).2.1 (tkB wy now p N P).2.2 n := by
  unfold tkB
  cases hcb : cbB wy now p N P
  · exact K
  simp only [if_true]
  unfold cbB at hcb
  obtain ⟨c1, c2⟩ := Bool.and_eq_true_iff.mp hcb
  obtain ⟨c3, _⟩ := of_decide_eq_true c1
  obtain ⟨⟨o1, o2⟩, ⟨o3, o4⟩, o5, os, oL, oLp, oP, oPp, oPl, o6, o7, o8⟩ := K
  obtain ⟨⟨g1, g2⟩, _, _, g7, _⟩ := hW
  cases P with
  | nil => exact absurd c3 (by decide)
  | cons x P' =>
    have hx : (x :: P').getD 0 0 = x := rfl
    have hd : (x :: P').drop 1 = P' := rfl
    rw [hx] at c2 ⊢
    rw [hd]
    obtain ⟨hx1, hx2⟩ := (oP x).mp (by simp)
    obtain ⟨b1, b2, b3, b4, b5, b6, b7, b8, b9, b10⟩ := os x hx1
    have ht := (b8 hx2).1
    have hg := g7.resolve_left (b6.resolve_left (by omega)).2
    have hxN : x ∉ N := fun z => by have := ((oL x).mp z).2; omega
    have hfree : ∀ a, a ∈ N → ¬(p 32 a - 10 * p 31 a < 10 * wy 2 ∧ 10 * wy 2 - 10 * p 31 x < p 32 a) := by
      intro a ha z
      have : N.any (ovp p (10 * wy 2) (10 * wy 2 - 10 * p 31 x)) = true := List.any_eq_true.mpr ⟨a, ha, decide_eq_true z⟩
      rw [this] at c2
      cases c2
    have hlen : ∀ a, a ∈ N → 0 < 10 * p 31 a := fun a ha => by have := (os a ((oL a).mp ha).1).2.1; omega
    have q31 : ∀ a, pcb wy p x 31 a = p 31 a := fun a => by unfold pcb; simp
    have q36 : ∀ a, pcb wy p x 36 a = p 36 a := fun a => by unfold pcb; simp
    have q37 : ∀ a, pcb wy p x 37 a = p 37 a := fun a => by unfold pcb; simp
    have qn : ∀ o a, a ≠ x → pcb wy p x o a = p o a := fun o a ha => if_neg ha
    have x32 : pcb wy p x 32 x = 10 * wy 2 := by unfold pcb; simp
    have x33 : pcb wy p x 33 x = 0 := by unfold pcb; simp
    have x34 : pcb wy p x 34 x = 2 := by unfold pcb; simp
    have x35 : pcb wy p x 35 x = 0 := by unfold pcb; simp
    have hjx : jam = -1 ∨ jam ≠ (x : Int) := by
      rcases o5 with z | ⟨z1, z2, z3⟩
      · exact Or.inl z
      · refine Or.inr fun y => ?_
        rw [y, Int.toNat_natCast] at z3
        omega
    have hkl : cbk p N (10 * wy 2) ≤ N.length := fnd_le _ _
    refine ⟨⟨o1, o2⟩, ⟨o3, o4⟩, ?_, fun s hs => ?_, fun s => ?_, ?_, fun s => ?_, ?_, ?_, o6, fun s hs h1 h2 => ?_, fun s hs h1 h2 h3 h4 h5 => ?_⟩
    · rcases o5 with z | ⟨z1, z2, z3⟩
      · exact Or.inl z
      · refine Or.inr ⟨z1, z2, ?_⟩
        rw [qn 33 _ (fun y => by omega)]
        exact z3
    · by_cases c : s = x
      · subst c
        rw [q31, q36, q37, x32, x33, x34, x35]
        exact ⟨by omega, b2, Or.inr rfl, by omega, by omega, b6, fun z => absurd z (by decide), fun z => absurd z (by decide), fun _ => ⟨by omega, fun _ => by omega⟩, fun _ _ z => absurd z (by decide)⟩
      · rw [qn 31 s c, qn 32 s c, qn 33 s c, qn 34 s c, qn 35 s c, qn 36 s c, qn 37 s c]
        exact os s hs
    · rw [lnew_mem, oL s]
      by_cases c : s = x
      · subst c
        rw [x33]
        exact ⟨fun _ => ⟨hx1, Or.inl rfl⟩, fun _ => Or.inr rfl⟩
      · rw [qn 33 s c]
        exact ⟨fun z => z.resolve_right c, fun z => Or.inl z⟩
    · refine lnew_sort (hd := p 32) (ten := fun a => 10 * p 31 a) (hd' := pcb wy p x 32) (ten' := fun a => 10 * pcb wy p x 31 a) hkl oLp hlen (fun a ha => ?_) ?_ (fun a ha => ?_) (fun j hj hk => ?_) (fun j hj hk => ?_)
      · have : a ≠ x := fun z => hxN (z ▸ ha)
        exact ⟨qn 32 a this, by rw [q31]⟩
      · rw [q31]; omega
      · rw [x32, q31]
        exact hfree a ha
      · rw [x32]
        have := of_decide_eq_false (fnd_no (p := fun i => decide (p 32 (N.getD i 0) < 10 * wy 2)) (n := N.length) (k := j) (by unfold cbk at hk; omega))
        rw [getD_el hj] at this
        omega
      · rw [x32]
        have hlt : cbk p N (10 * wy 2) < N.length := by omega
        have := of_decide_eq_true (fnd_yes (p := fun i => decide (p 32 (N.getD i 0) < 10 * wy 2)) (n := N.length) hlt)
        change p 32 (N.getD (cbk p N (10 * wy 2)) 0) < _ at this
        rw [getD_el hlt] at this
        by_cases e : j = cbk p N (10 * wy 2)
        · subst e; exact this
        · have h2 := List.pairwise_iff_getElem.mp oLp (cbk p N (10 * wy 2)) j hlt hj (by omega)
          have h3 := hlen N[cbk p N (10 * wy 2)] (List.getElem_mem hlt)
          omega
    · have hP' : s ∈ P' ↔ s ∈ x :: P' ∧ s ≠ x := by
        constructor
        · intro z
          refine ⟨by simp [z], fun y => ?_⟩
          subst y
          have := (List.pairwise_cons.mp oPp).1 s z
          omega
        · rintro ⟨y, z⟩
          exact (List.mem_cons.mp y).resolve_left z
      rw [hP', oP s]
      by_cases c : s = x
      · subst c
        rw [x33]
        exact ⟨fun z => absurd rfl z.2, fun z => absurd z.2 (by decide)⟩
      · rw [qn 33 s c]
        exact ⟨fun z => z.1, fun z => ⟨z, c⟩⟩
    · refine (List.pairwise_cons.mp oPp).2.imp fun {a b} z => ?_
      rw [q36, q36]
      exact z
    · rw [List.length_cons] at oPl
      omega
    · by_cases c : s = x
      · subst c
        rw [x34] at h2
        exact absurd h2 (by decide)
      · rw [qn 32 s c]
        rw [qn 33 s c] at h1
        rw [qn 34 s c] at h2
        exact o7 s hs h1 h2
    · by_cases c : s = x
      · subst c
        rw [x34] at h3
        exact absurd h3 (by decide)
      · rw [qn 33 s c] at h1
        rw [qn 37 s c] at h2
        rw [qn 34 s c] at h3
        rw [qn 32 s c, qn 31 s c] at h4
        have := hS s (by omega) h1 h2 h3 h4
        rw [List.length_cons] at this
        omega
end TRAFT
