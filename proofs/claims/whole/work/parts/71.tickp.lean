/-! a tick: what the moves one behind another come to -/
section TICKP
variable {m s : Nat} {wy ro sp wear beat cor : Nat → Int} {many : Nat} {now limit : Int} {p : Nat → Nat → Int} {L P : List Nat}
theorem mvq_b (H : DrOK wy ro sp wear beat) : (p 32 s ≤ (mvq wy ro sp wear beat cor many now p s limit).1 ∧ (mvq wy ro sp wear beat cor many now p s limit).1 ≤ p 32 s + 90) ∧ ((mvq wy ro sp wear beat cor many now p s limit).1 = p 32 s ∨ (mvq wy ro sp wear beat cor many now p s limit).1 ≤ limit) ∧ ((mvq wy ro sp wear beat cor many now p s limit).2 = p 35 s ∨ (mvq wy ro sp wear beat cor many now p s limit).2 = 0 ∨ (mvq wy ro sp wear beat cor many now p s limit).2 = p 35 s + 1) ∧
    (twt wy (p 31 s) (p 32 s) (p 34 s) (p 37 s) → (mvq wy ro sp wear beat cor many now p s limit).1 = p 32 s) := by
  unfold mvq tqq
  by_cases c : twt wy (p 31 s) (p 32 s) (p 34 s) (p 37 s)
  · rw [if_pos c]
    exact ⟨by dsimp only; omega, Or.inl rfl, Or.inl rfl, fun _ => rfl⟩
  · rw [if_neg c]
    obtain ⟨a, b, d⟩ := tdr_b (cor := cor) (many := many) (now := now) (ln := p 31 s) (h := p 32 s) (st := p 35 s) (limit := limit) H
    exact ⟨a, d, Or.inr b, fun z => absurd z c⟩
def MInv (wy : Nat → Int) (now : Int) (p : Nat → Nat → Int) (L P : List Nat) (i : Nat) (q : MS) : Prop :=
  (∀ a, a ∈ q.2.1 ↔ (∃ k, k < i ∧ L.getD k 0 = a) ∧ q.1 33 a = 0) ∧ q.2.1.Pairwise (fun a b => q.1 32 b ≤ q.1 32 a - 10 * p 31 a) ∧
  (∀ a, a ∈ q.2.1 → ∀ j, i ≤ j → j < L.length → p 32 (L.getD j 0) ≤ q.1 32 a - 10 * p 31 a) ∧
  ((q.2.1 = [] ∧ q.2.2.2 = 1000000) ∨ ∃ N a, q.2.1 = N ++ [a] ∧ q.2.2.2 = q.1 32 a - 10 * p 31 a) ∧
  (∀ k, k < i → (p 32 (L.getD k 0) ≤ q.1 32 (L.getD k 0) ∧ q.1 32 (L.getD k 0) ≤ p 32 (L.getD k 0) + 90) ∧ (0 ≤ q.1 35 (L.getD k 0) ∧ q.1 35 (L.getD k 0) ≤ p 35 (L.getD k 0) + 1) ∧
    (q.1 33 (L.getD k 0) = 0 ∨ q.1 33 (L.getD k 0) = 1 ∨ q.1 33 (L.getD k 0) = 2) ∧ (q.1 33 (L.getD k 0) = 0 → q.1 32 (L.getD k 0) - 10 * p 31 (L.getD k 0) < 10 * wy 0) ∧
    (twt wy (p 31 (L.getD k 0)) (p 32 (L.getD k 0)) (p 34 (L.getD k 0)) (p 37 (L.getD k 0)) → q.1 32 (L.getD k 0) = p 32 (L.getD k 0)) ∧
    (q.1 33 (L.getD k 0) = 1 → twt wy (p 31 (L.getD k 0)) (q.1 32 (L.getD k 0)) (p 34 (L.getD k 0)) (p 37 (L.getD k 0)) ∧ q.1 36 (L.getD k 0) = now) ∧
    (q.1 33 (L.getD k 0) = 0 → twt wy (p 31 (L.getD k 0)) (q.1 32 (L.getD k 0)) (p 34 (L.getD k 0)) (p 37 (L.getD k 0)) → wy 3 ≤ (q.2.2.1.length : Int))) ∧
  ((q.2.2.1 = P ∧ ∀ k, k < i → q.1 33 (L.getD k 0) ≠ 1) ∨ ∃ k, k < i ∧ q.2.2.1 = P ++ [L.getD k 0] ∧ q.1 33 (L.getD k 0) = 1 ∧ (∀ k', k' < i → k' ≠ k → q.1 33 (L.getD k' 0) ≠ 1) ∧ (P.length : Int) + 1 ≤ wy 3 ∧
    (wy 3 ≤ (P.length : Int) + 1 ∨ ∀ j, i ≤ j → j < L.length → ¬(p 37 (L.getD j 0) = 1 ∧ p 34 (L.getD j 0) = 1 ∧ 10 * wy 1 ≤ p 32 (L.getD j 0) + 90 - 10 * p 31 (L.getD j 0))))
theorem MInv_0 : MInv wy now p L P 0 (mvN wy ro sp wear beat cor many now L p P 0) := by
  refine ⟨fun a => ⟨fun h => ?_, fun h => ?_⟩, List.Pairwise.nil, fun a h => ?_, Or.inl ⟨rfl, rfl⟩, fun k h => by omega, Or.inl ⟨rfl, fun k h => by omega⟩⟩
  · cases h
  · obtain ⟨⟨k, hk, _⟩, _⟩ := h
    omega
  · cases h
theorem MInv_s (H : DrOK wy ro sp wear beat) (hL : L.Pairwise (fun a b => p 32 b ≤ p 32 a - 10 * p 31 a)) (hLb : LBd m p L) (hnd : L.Nodup) (hB : ∀ a, a ∈ L → p 34 a = 1 → 10 * ro 0 ≤ p 32 a)
    (hC : ∀ a, a ∈ L → p 37 a = 1 → p 34 a = 1 → 10 * wy 1 ≤ p 32 a - 10 * p 31 a → p 32 a ≠ 10 * ro 0 → wy 3 ≤ (P.length : Int) + 1)
    {i : Nat} (hi : i < L.length) (hI : MInv wy now p L P i (mvN wy ro sp wear beat cor many now L p P i)) : MInv wy now p L P (i + 1) (mvN wy ro sp wear beat cor many now L p P (i + 1)) := by
  have e : mvN wy ro sp wear beat cor many now L p P (i + 1) = mv1 wy ro sp wear beat cor many now (mvN wy ro sp wear beat cor many now L p P i) (L.getD i 0) := rfl
  rw [e]
  have hcell : ∀ o, (mvN wy ro sp wear beat cor many now L p P i).1 o (L.getD i 0) = p o (L.getD i 0) := fun o => mvN_rest hnd hi (Nat.le_refl i)
  have hmem : L.getD i 0 ∈ L := by rw [getD_el hi]; exact List.getElem_mem hi
  have hsb := hLb _ hmem
  have hsB := hB _ hmem
  have hsC := hC _ hmem
  have hbeh : ∀ j, i < j → j < L.length → p 32 (L.getD j 0) ≤ p 32 (L.getD i 0) - 10 * p 31 (L.getD i 0) := by
    intro j h1 h2
    rw [getD_el hi, getD_el h2]
    exact List.pairwise_iff_getElem.mp hL i j hi h2 h1
  have hjb : ∀ j, j < L.length → (10 ≤ p 31 (L.getD j 0) ∧ p 31 (L.getD j 0) ≤ 70) ∧ (p 34 (L.getD j 0) = 1 → 10 * ro 0 ≤ p 32 (L.getD j 0)) := by
    intro j h2
    have : L.getD j 0 ∈ L := by rw [getD_el h2]; exact List.getElem_mem h2
    exact ⟨(hLb _ this).2.2.2.1, hB _ this⟩
  have hne : ∀ k, k < i → L.getD k 0 ≠ L.getD i 0 := fun k hk => nd_ne hnd (by omega) hi (by omega)
  generalize mvN wy ro sp wear beat cor many now L p P i = q at *
  obtain ⟨s, hgs⟩ : ∃ s, L.getD i 0 = s := ⟨_, rfl⟩
  rw [hgs] at hcell hmem hsb hsB hsC hbeh hne ⊢
  obtain ⟨pi, N, Pk, lim⟩ := q
  obtain ⟨m1, m2, m3, m4, m5, m6⟩ := hI
  unfold mv1
  dsimp only at *
  have hqb := mvq_b (wy := wy) (ro := ro) (sp := sp) (wear := wear) (beat := beat) (cor := cor) (many := many) (now := now) (p := pi) (s := s) (limit := lim) H
  have q32 := mvp_32 (wy := wy) (ro := ro) (sp := sp) (wear := wear) (beat := beat) (cor := cor) (many := many) (now := now) (p := pi) (P := Pk) (s := s) (lim := lim)
  have q33 := mvp_33 (wy := wy) (ro := ro) (sp := sp) (wear := wear) (beat := beat) (cor := cor) (many := many) (now := now) (p := pi) (P := Pk) (s := s) (lim := lim)
  have q35 : mvp wy ro sp wear beat cor many now pi Pk s lim 35 s = if twt wy (pi 31 s) (mvq wy ro sp wear beat cor many now pi s lim).1 (pi 34 s) (pi 37 s) then 0 else (mvq wy ro sp wear beat cor many now pi s lim).2 := by
    unfold mvp pmv
    rw [if_pos rfl]
    simp only [Nat.reduceEqDiff, reduceIte]
  have q36 : mvp wy ro sp wear beat cor many now pi Pk s lim 36 s = if twt wy (pi 31 s) (mvq wy ro sp wear beat cor many now pi s lim).1 (pi 34 s) (pi 37 s) ∧ (Pk.length : Int) < wy 3 then now else pi 36 s := by
    unfold mvp pmv
    rw [if_pos rfl]
    simp only [Nat.reduceEqDiff, reduceIte]
  have qn : ∀ o a, a ≠ s → mvp wy ro sp wear beat cor many now pi Pk s lim o a = pi o a := fun o a ha => by
    unfold mvp
    exact pmv_n ha
  generalize mvp wy ro sp wear beat cor many now pi Pk s lim = p' at *
  generalize mvq wy ro sp wear beat cor many now pi s lim = q at *
  simp only [hcell] at q33 q35 q36 hqb ⊢
  obtain ⟨h', st'⟩ := q
  dsimp only at *
  obtain ⟨hb1, hb2, hb3, hb4, hb5, hb6⟩ := hsb
  obtain ⟨⟨hq1, hq1'⟩, hq2, hq3, hq4⟩ := hqb
  have hsN : s ∉ N := fun z => by
    obtain ⟨⟨k, hk, hk2⟩, _⟩ := (m1 s).mp z
    exact hne k hk hk2
  have hNs : ∀ a, a ∈ N → a ≠ s := fun a ha z => hsN (z ▸ ha)
  -- s against the line
  have hlim : ∀ a, a ∈ N → h' ≤ pi 32 a - 10 * p 31 a := by
    intro a ha
    rcases hq2 with z | z
    · rw [z]
      have := m3 a ha i (Nat.le_refl i) hi
      rw [hgs] at this
      exact this
    · rcases m4 with ⟨y, _⟩ | ⟨N', b, y, y2⟩
      · rw [y] at ha
        cases ha
      · rw [y] at ha m2
        rw [y2] at z
        have hb31 : 10 ≤ p 31 b := by
          have : b ∈ N := by rw [y]; simp
          obtain ⟨⟨k, hk, hk2⟩, _⟩ := (m1 b).mp this
          have := (hjb k (by omega)).1
          rw [hk2] at this
          omega
        rcases List.mem_append.mp ha with w | w
        · have := (List.pairwise_append.mp m2).2.2 a w b (by simp)
          omega
        · have : a = b := by simpa using w
          rw [this]
          exact z
  have hM1 : ∀ N' : List Nat, (∀ a, a ∈ N' ↔ (a ∈ N ∨ (a = s ∧ p' 33 s = 0))) → ∀ a, a ∈ N' ↔ (∃ k, k < i + 1 ∧ L.getD k 0 = a) ∧ p' 33 a = 0 := by
    intro N' hN' a
    rw [hN' a]
    by_cases ea : a = s
    · subst ea
      constructor
      · rintro (z | z)
        · exact absurd z hsN
        · exact ⟨⟨i, by omega, hgs⟩, z.2⟩
      · exact fun z => Or.inr ⟨rfl, z.2⟩
    · rw [qn 33 a ea, m1 a]
      constructor
      · rintro (⟨⟨k, hk, hk2⟩, z⟩ | z)
        · exact ⟨⟨k, by omega, hk2⟩, z⟩
        · exact absurd z.1 ea
      · rintro ⟨⟨k, hk, hk2⟩, z⟩
        refine Or.inl ⟨⟨k, ?_, hk2⟩, z⟩
        rcases Nat.lt_or_ge k i with y | y
        · exact y
        · have : k = i := by omega
          rw [this, hgs] at hk2
          exact absurd hk2.symm ea
  have hM5 : ∀ P' : List Nat, Pk.length ≤ P'.length → ((p' 33 s = 0 → twt wy (p 31 s) h' (p 34 s) (p 37 s) → wy 3 ≤ (P'.length : Int))) → ∀ k, k < i + 1 → (p 32 (L.getD k 0) ≤ p' 32 (L.getD k 0) ∧ p' 32 (L.getD k 0) ≤ p 32 (L.getD k 0) + 90) ∧ (0 ≤ p' 35 (L.getD k 0) ∧ p' 35 (L.getD k 0) ≤ p 35 (L.getD k 0) + 1) ∧
    (p' 33 (L.getD k 0) = 0 ∨ p' 33 (L.getD k 0) = 1 ∨ p' 33 (L.getD k 0) = 2) ∧ (p' 33 (L.getD k 0) = 0 → p' 32 (L.getD k 0) - 10 * p 31 (L.getD k 0) < 10 * wy 0) ∧
    (twt wy (p 31 (L.getD k 0)) (p 32 (L.getD k 0)) (p 34 (L.getD k 0)) (p 37 (L.getD k 0)) → p' 32 (L.getD k 0) = p 32 (L.getD k 0)) ∧
    (p' 33 (L.getD k 0) = 1 → twt wy (p 31 (L.getD k 0)) (p' 32 (L.getD k 0)) (p 34 (L.getD k 0)) (p 37 (L.getD k 0)) ∧ p' 36 (L.getD k 0) = now) ∧
    (p' 33 (L.getD k 0) = 0 → twt wy (p 31 (L.getD k 0)) (p' 32 (L.getD k 0)) (p 34 (L.getD k 0)) (p 37 (L.getD k 0)) → wy 3 ≤ (P'.length : Int)) := by
    intro P' hP' hw k hk
    by_cases ek : k = i
    · rw [ek, hgs, q32]
      refine ⟨⟨hq1, hq1'⟩, ?_, ?_, ?_, hq4, ?_, hw⟩
      · rw [q35]
        split
        · omega
        · omega
      · rw [q33]
        split
        · exact Or.inr (Or.inl rfl)
        · split
          · exact Or.inr (Or.inr rfl)
          · exact Or.inl rfl
      · rw [q33]
        intro z
        split at z
        · omega
        · split at z <;> omega
      · rw [q33, q36]
        intro z
        by_cases d : twt wy (p 31 s) h' (p 34 s) (p 37 s) ∧ (Pk.length : Int) < wy 3
        · rw [if_pos d]
          exact ⟨d.1, rfl⟩
        · rw [if_neg d] at z
          split at z <;> omega
    · have hki : k < i := by omega
      have := hne k hki
      rw [qn 32 _ this, qn 33 _ this, qn 35 _ this, qn 36 _ this]
      obtain ⟨a1, a2, a3, a4, a5, a6, a7⟩ := m5 k hki
      exact ⟨a1, a2, a3, a4, a5, a6, fun z1 z2 => by have := a7 z1 z2; omega⟩
  have hM2 : (N.Pairwise (fun a b => p' 32 b ≤ p' 32 a - 10 * p 31 a)) := by
    refine m2.imp_of_mem fun {a b} ha hb h => ?_
    rw [qn 32 a (hNs a ha), qn 32 b (hNs b hb)]
    exact h
  have hM3 : ∀ a, a ∈ N → ∀ j, i + 1 ≤ j → j < L.length → p 32 (L.getD j 0) ≤ p' 32 a - 10 * p 31 a := by
    intro a ha j h1 h2
    rw [qn 32 a (hNs a ha)]
    exact m3 a ha j (by omega) h2
  have hno1 : ∀ k, k < i → p' 33 (L.getD k 0) = pi 33 (L.getD k 0) := fun k hk => qn 33 _ (hne k hk)
  have hstay : p' 33 s ≠ 1 → ((Pk = P ∧ ∀ k, k < i + 1 → p' 33 (L.getD k 0) ≠ 1) ∨ ∃ k, k < i + 1 ∧ Pk = P ++ [L.getD k 0] ∧ p' 33 (L.getD k 0) = 1 ∧ (∀ k', k' < i + 1 → k' ≠ k → p' 33 (L.getD k' 0) ≠ 1) ∧ (P.length : Int) + 1 ≤ wy 3 ∧
    (wy 3 ≤ (P.length : Int) + 1 ∨ ∀ j, i + 1 ≤ j → j < L.length → ¬(p 37 (L.getD j 0) = 1 ∧ p 34 (L.getD j 0) = 1 ∧ 10 * wy 1 ≤ p 32 (L.getD j 0) + 90 - 10 * p 31 (L.getD j 0)))) := by
    intro hn
    have hall : ∀ k, k < i + 1 → (k < i → pi 33 (L.getD k 0) ≠ 1) → p' 33 (L.getD k 0) ≠ 1 := by
      intro k hk hh
      by_cases ek : k = i
      · rw [ek, hgs]
        exact hn
      · rw [hno1 k (by omega)]
        exact hh (by omega)
    rcases m6 with ⟨a, b⟩ | ⟨k, a, b, c, d, f, g⟩
    · exact Or.inl ⟨a, fun k hk => hall k hk (fun h => b k h)⟩
    · refine Or.inr ⟨k, by omega, b, by rw [hno1 k a]; exact c, fun k' hk' hkk => hall k' hk' (fun h => d k' h hkk), f, g.imp id (fun z j h1 h2 => z j (by omega) h2)⟩
  by_cases c0 : p' 33 s = 0
  · rw [if_pos c0, if_neg (by omega), if_pos c0]
    unfold MInv
    dsimp only
    refine ⟨hM1 _ (fun a => ?_), ?_, ?_, Or.inr ⟨N, s, rfl, by rw [q32]⟩, hM5 Pk (Nat.le_refl _) (fun _ z => ?_), hstay (by omega)⟩
    · rw [List.mem_append, List.mem_singleton]
      exact ⟨fun z => z.imp id (fun y => ⟨y, c0⟩), fun z => z.imp id (fun y => y.1)⟩
    · refine List.pairwise_append.mpr ⟨hM2, List.pairwise_singleton _ _, fun a ha b hb => ?_⟩
      have : b = s := by simpa using hb
      rw [this, q32, qn 32 a (hNs a ha)]
      exact hlim a ha
    · intro a ha j h1 h2
      rcases List.mem_append.mp ha with w | w
      · exact hM3 a w j h1 h2
      · have : a = s := by simpa using w
        rw [this, q32]
        have := hbeh j (by omega) h2
        omega
    · rw [q33] at c0
      by_cases d : (Pk.length : Int) < wy 3
      · rw [if_pos ⟨z, d⟩] at c0
        omega
      · omega
  · rw [if_neg c0, if_neg c0]
    have hmem1 : ∀ a, a ∈ N ↔ (a ∈ N ∨ (a = s ∧ p' 33 s = 0)) := fun a => ⟨Or.inl, fun z => z.resolve_right (fun y => c0 y.2)⟩
    have hm4 : (N = [] ∧ lim = 1000000) ∨ ∃ N' a, N = N' ++ [a] ∧ lim = p' 32 a - 10 * p 31 a := by
      rcases m4 with z | ⟨N', b, y, y2⟩
      · exact Or.inl z
      · refine Or.inr ⟨N', b, y, ?_⟩
        rw [qn 32 b (hNs b (by rw [y]; simp))]
        exact y2
    unfold MInv
    dsimp only
    by_cases c1 : p' 33 s = 1
    · rw [if_pos c1]
      have hd : twt wy (p 31 s) h' (p 34 s) (p 37 s) ∧ (Pk.length : Int) < wy 3 := by
        rw [q33] at c1
        by_cases d : twt wy (p 31 s) h' (p 34 s) (p 37 s) ∧ (Pk.length : Int) < wy 3
        · exact d
        · rw [if_neg d] at c1
          split at c1 <;> omega
      obtain ⟨⟨d1, d2, d3⟩, d4⟩ := hd
      refine ⟨hM1 _ hmem1, hM2, hM3, hm4, hM5 _ (by rw [List.length_append]; omega) (fun z => absurd z c0), ?_⟩
      rcases m6 with ⟨a, b⟩ | ⟨k, a, b, c, d, f, g⟩
      · subst a
        refine Or.inr ⟨i, by omega, by rw [hgs], by rw [hgs]; exact c1, fun k' h1 h2 => by rw [hno1 k' (by omega)]; exact b k' (by omega), by omega, ?_⟩
        by_cases w : 10 * wy 1 ≤ p 32 s - 10 * p 31 s
        · by_cases w2 : p 32 s = 10 * ro 0
          · refine Or.inr fun j h1 h2 z => ?_
            have h3 := hbeh j (by omega) h2
            have h4 := (hjb j h2).2 z.2.1
            omega
          · exact Or.inl (hsC d1 d2 w w2)
        · refine Or.inr fun j h1 h2 z => ?_
          have h3 := hbeh j (by omega) h2
          have h4 := (hjb j h2).1
          omega
      · exfalso
        rw [b, List.length_append] at d4
        have : ([L.getD k 0] : List Nat).length = 1 := rfl
        rcases g with g | g
        · omega
        · refine g i (Nat.le_refl i) hi ?_
          rw [hgs]
          exact ⟨d1, d2, by omega⟩
    · rw [if_neg c1]
      exact ⟨hM1 _ hmem1, hM2, hM3, hm4, hM5 _ (Nat.le_refl _) (fun z => absurd z c0), hstay c1⟩
end TICKP
