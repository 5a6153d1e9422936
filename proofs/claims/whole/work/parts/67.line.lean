/-! the line with one more sheet -/
section LINE
variable {L : List Nat} {hd hd' ten ten' : Nat → Int} {s k : Nat}
def lnew (L : List Nat) (k s : Nat) : List Nat := L.take k ++ s :: L.drop k
theorem lnew_len (hk : k ≤ L.length) : (lnew L k s).length = L.length + 1 := by
  unfold lnew
  rw [List.length_append, List.length_cons, List.length_take, List.length_drop]
  omega
theorem lnew_mem {a : Nat} : a ∈ lnew L k s ↔ a ∈ L ∨ a = s := by
  unfold lnew
  conv => rhs; lhs; rw [← List.take_append_drop k L]
  rw [List.mem_append, List.mem_append, List.mem_cons]
  constructor
  · rintro (h | h | h)
    · exact Or.inl (Or.inl h)
    · exact Or.inr h
    · exact Or.inl (Or.inr h)
  · rintro ((h | h) | h)
    · exact Or.inl h
    · exact Or.inr (Or.inr h)
    · exact Or.inr (Or.inl h)
theorem lnew_get {G : Nat → Int} (hk : k ≤ L.length) (g1 : ∀ j (h : j < L.length), j < k → G j = (L[j] : Int)) (g2 : G k = (s : Int)) (g3 : ∀ j (h : j < L.length), k ≤ j → G (j + 1) = (L[j] : Int)) :
    ∀ i (h : i < (lnew L k s).length), G i = ((lnew L k s)[i] : Int) := by
  intro i h
  have hl := lnew_len (s := s) hk
  have ht : (L.take k).length = k := by rw [List.length_take]; omega
  unfold lnew at h ⊢
  rcases Nat.lt_trichotomy i k with c | c | c
  · rw [List.getElem_append_left (by omega), List.getElem_take]
    exact g1 i (by omega) c
  · subst c
    rw [List.getElem_append_right (by omega)]
    have : i - (L.take i).length = 0 := by omega
    simp only [this, List.getElem_cons_zero]
    exact g2
  · rw [List.getElem_append_right (by omega)]
    obtain ⟨d, rfl⟩ : ∃ d, i = k + d + 1 := ⟨i - k - 1, by omega⟩
    have : k + d + 1 - (L.take k).length = d + 1 := by omega
    simp only [this, List.getElem_cons_succ, List.getElem_drop]
    exact g3 (k + d) (by rw [List.length_append, List.length_cons, List.length_drop] at h; omega) (by omega)
theorem lnew_sort (hk : k ≤ L.length) (hs : L.Pairwise (fun a b => hd b ≤ hd a - ten a)) (ht : ∀ a, a ∈ L → 0 < ten a) (he : ∀ a, a ∈ L → hd' a = hd a ∧ ten' a = ten a) (ht' : 0 < ten' s)
    (hf : ∀ a, a ∈ L → ¬(hd a - ten a < hd' s ∧ hd' s - ten' s < hd a))
    (k1 : ∀ j (h : j < L.length), j + 1 = k → hd' s ≤ hd L[j]) (k2 : ∀ j (h : j < L.length), k ≤ j → hd L[j] < hd' s) :
    (lnew L k s).Pairwise (fun a b => hd' b ≤ hd' a - ten' a) := by
  have hL := List.take_append_drop k L
  have hs2 := hs
  rw [← hL] at hs2
  obtain ⟨p1, p2, p3⟩ := List.pairwise_append.mp hs2
  have mt : ∀ a, a ∈ L.take k → a ∈ L := fun a h => List.mem_of_mem_take h
  have md : ∀ a, a ∈ L.drop k → a ∈ L := fun a h => List.mem_of_mem_drop h
  have front1 : ∀ a, a ∈ L.take k → hd' s ≤ hd a := by
    intro a ha
    obtain ⟨j, hj, rfl⟩ := List.getElem_of_mem ha
    rw [List.length_take] at hj
    rw [List.getElem_take]
    by_cases c : j + 1 = k
    · exact k1 j (by omega) c
    · have hk1 : k - 1 < L.length := by omega
      have h1 := k1 (k - 1) hk1 (by omega)
      have h2 := List.pairwise_iff_getElem.mp hs j (k - 1) (by omega) hk1 (by omega)
      have h3 := ht L[j] (List.getElem_mem (by omega))
      omega
  have front2 : ∀ a, a ∈ L.drop k → hd a < hd' s := by
    intro a ha
    obtain ⟨j, hj, rfl⟩ := List.getElem_of_mem ha
    rw [List.length_drop] at hj
    rw [List.getElem_drop]
    exact k2 (k + j) (by omega) (by omega)
  unfold lnew
  refine List.pairwise_append.mpr ⟨p1.imp_of_mem fun {a b} ha hb h => ?_, List.pairwise_cons.mpr ⟨fun b hb => ?_, p2.imp_of_mem fun {a b} ha hb h => ?_⟩, fun a ha b hb => ?_⟩
  · rw [(he a (mt a ha)).1, (he a (mt a ha)).2, (he b (mt b hb)).1]; exact h
  · have := hf b (md b hb)
    have h2 := front2 b hb
    have h3 := ht b (md b hb)
    rw [(he b (md b hb)).1]
    omega
  · rw [(he a (md a ha)).1, (he a (md a ha)).2, (he b (md b hb)).1]; exact h
  · rw [(he a (mt a ha)).1, (he a (mt a ha)).2]
    rcases List.mem_cons.mp hb with e | e
    · subst e
      have := hf a (mt a ha)
      have h2 := front1 a ha
      omega
    · rw [(he b (md b e)).1]; exact p3 a ha b e
/-- different numbers below m are not more than m -/
theorem nodup_le : ∀ (m : Nat) (L : List Nat), L.Nodup → (∀ a, a ∈ L → a < m) → L.length ≤ m
  | 0, L, _, h => by
    cases L with
    | nil => exact Nat.le_refl 0
    | cons a L => exact absurd (h a (List.mem_cons_self ..)) (by omega)
  | m + 1, L, hn, h => by
    have h1 := nodup_le m (L.erase m) (hn.erase m) (fun a ha => by
      have h2 := h a (List.mem_of_mem_erase ha)
      have h3 : a ≠ m := fun e => by
        subst e
        exact (List.Nodup.not_mem_erase hn) ha
      omega)
    have := List.length_erase (a := m) (l := L)
    split at this <;> omega
theorem sort_nodup (hs : L.Pairwise (fun a b => hd b ≤ hd a - ten a)) (ht : ∀ a, a ∈ L → 0 < ten a) : L.Nodup := by
  refine hs.imp_of_mem fun {a b} ha hb h e => ?_
  subst e
  have := ht a ha
  omega
end LINE
