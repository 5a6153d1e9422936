/-! breadth first: what the line of states holds -/
def wlt (v w : List Nat) : Prop := v.length < w.length ∨ (v.length = w.length ∧ List.Lex (· < ·) v w)
theorem wle_iff {v w : List Nat} : wle v w ↔ v = w ∨ wlt v w := by
  unfold wle wlt
  constructor
  · intro h
    rcases h with h | ⟨h, h2 | h2⟩
    · exact Or.inr (Or.inl h)
    · exact Or.inl h2
    · exact Or.inr (Or.inr ⟨h, h2⟩)
  · intro h
    rcases h with h | h | ⟨h, h2⟩
    · exact Or.inr ⟨by rw [h], Or.inl h⟩
    · exact Or.inl h
    · exact Or.inr ⟨h, Or.inr h2⟩
theorem wle_r (v : List Nat) : wle v v := wle_iff.mpr (Or.inl rfl)
theorem lex_tr : ∀ {u v w : List Nat}, List.Lex (· < ·) u v → List.Lex (· < ·) v w → List.Lex (· < ·) u w
  | _, _, _, .nil, .rel _ => .nil
  | _, _, _, .nil, .cons _ => .nil
  | _, _, _, .rel h, .rel k => .rel (Nat.lt_trans h k)
  | _, _, _, .rel h, .cons _ => .rel h
  | _, _, _, .cons _, .rel k => .rel k
  | _, _, _, .cons h, .cons k => .cons (lex_tr h k)
theorem lex_ap {x y : List Nat} : ∀ {v w : List Nat}, v.length = w.length → List.Lex (· < ·) v w → List.Lex (· < ·) (v ++ x) (w ++ y)
  | _, _, hl, .nil => absurd hl (by simp)
  | _, _, _, .rel h => .rel h
  | _, _, hl, .cons h => .cons (lex_ap (by simpa using hl) h)
theorem lex_sn {a b : Nat} (h : a < b) : ∀ v : List Nat, List.Lex (· < ·) (v ++ [a]) (v ++ [b])
  | [] => .rel h
  | _ :: v => .cons (lex_sn h v)
theorem wlt_tr {u v w : List Nat} (h : wlt u v) (k : wlt v w) : wlt u w := by
  unfold wlt at h k ⊢
  rcases h with h | ⟨h, h2⟩
  · rcases k with k | ⟨k, k2⟩
    · exact Or.inl (by omega)
    · exact Or.inl (by omega)
  · rcases k with k | ⟨k, k2⟩
    · exact Or.inl (by omega)
    · exact Or.inr ⟨by omega, lex_tr h2 k2⟩
theorem wle_tr {u v w : List Nat} (h : wle u v) (k : wle v w) : wle u w := by
  rcases wle_iff.mp h with h | h
  · rw [h]; exact k
  · rcases wle_iff.mp k with k | k
    · rw [← k]; exact wle_iff.mpr (Or.inr h)
    · exact wle_iff.mpr (Or.inr (wlt_tr h k))
theorem wlt_sn {v w : List Nat} {a b : Nat} (h : wlt v w) : wlt (v ++ [a]) (w ++ [b]) := by
  unfold wlt at h ⊢
  rw [List.length_append, List.length_append, List.length_singleton, List.length_singleton]
  rcases h with h | ⟨h, h2⟩
  · exact Or.inl (by omega)
  · exact Or.inr ⟨by omega, lex_ap h h2⟩
theorem wlt_sb {v : List Nat} {a b : Nat} (h : a < b) : wlt (v ++ [a]) (v ++ [b]) := Or.inr ⟨by simp, lex_sn h v⟩
theorem wle_sn {v w : List Nat} {a : Nat} (h : wle v w) : wle (v ++ [a]) (w ++ [a]) := by
  rcases wle_iff.mp h with h | h
  · rw [h]; exact wle_r _
  · exact wle_iff.mpr (Or.inr (wlt_sn h))
theorem wle_pre (v u : List Nat) : wle v (v ++ u) := by
  cases u with
  | nil => rw [List.append_nil]; exact wle_r v
  | cons a u => exact Or.inl (by simp)
theorem wlt_ir {v w : List Nat} (h : wle v w) (k : wle w v) : v = w := by
  rcases wle_iff.mp h with h | h
  · exact h
  · rcases wle_iff.mp k with k | k
    · exact k.symm
    · have q := wlt_tr h k
      rcases q with q | ⟨_, q⟩
      · omega
      · exact absurd q (lex_ir v)
where
  lex_ir : ∀ v : List Nat, ¬ List.Lex (· < ·) v v
    | [], h => nomatch h
    | _ :: v, .rel h => absurd h (Nat.lt_irrefl _)
    | _ :: v, .cons h => lex_ir v h
section BFQ
variable {σ : Type} {step : σ → Nat → Option σ} {ac : σ → Bool} {s0 : σ} {N k a : Nat} {st : Nat → σ} {par ach : Nat → Nat} {wd : Nat → List Nat}
theorem wrun_ap : ∀ (v w : List Nat) (s : σ), wrun step s (v ++ w) = (wrun step s v).bind fun t => wrun step t w
  | [], _, _ => rfl
  | x :: v, w, s => by
    show (step s x).bind (fun s' => wrun step s' (v ++ w)) = ((step s x).bind fun s' => wrun step s' v).bind fun t => wrun step t w
    cases step s x with
    | none => rfl
    | some s' => exact wrun_ap v w s'
theorem wrun_1 (s : σ) (c : Nat) : wrun step s [c] = step s c := by
  show (step s c).bind (fun s' => some s') = step s c
  cases step s c <;> rfl
def lx (i c k a : Nat) : Prop := i < k ∨ (i = k ∧ c < a)
/-- the line: states, whence and by which act, and their words; acts before (k, a) are done -/
def Bfs (step : σ → Nat → Option σ) (s0 : σ) (N : Nat) (st : Nat → σ) (par ach : Nat → Nat) (wd : Nat → List Nat) (k a : Nat) : Prop :=
  0 < N ∧ st 0 = s0 ∧ wd 0 = [] ∧
  (∀ j, 0 < j → j < N → par j < j ∧ step (st (par j)) (ach j) = some (st j) ∧ lx (par j) (ach j) k a ∧ wd j = wd (par j) ++ [ach j]) ∧
  (∀ i j, 0 < i → i < j → j < N → lx (par i) (ach i) (par j) (ach j)) ∧
  (∀ i c t, i < N → lx i c k a → step (st i) c = some t → ∃ j, j < N ∧ st j = t ∧ (j = 0 ∨ par j < i ∨ (par j = i ∧ ach j ≤ c)))
theorem Bfs_ord (h : Bfs step s0 N st par ach wd k a) : ∀ j i, i < j → j < N → wlt (wd i) (wd j) := by
  obtain ⟨h1, h2, h3, h4, h5, h6⟩ := h
  intro j
  induction j using Nat.strongRecOn with
  | ind j ih =>
    intro i hij hj
    obtain ⟨p1, p2, p3, p4⟩ := h4 j (by omega) hj
    by_cases hi : i = 0
    · rw [hi, h3, p4]
      exact Or.inl (by simp)
    · obtain ⟨q1, q2, q3, q4⟩ := h4 i (by omega) (by omega)
      rw [p4, q4]
      rcases h5 i j (by omega) hij hj with z | ⟨z, y⟩
      · exact wlt_sn (ih (par j) p1 (par i) z (by omega))
      · rw [z]; exact wlt_sb y
theorem Bfs_le (h : Bfs step s0 N st par ach wd k a) {i j : Nat} (hij : i ≤ j) (hj : j < N) : wle (wd i) (wd j) := by
  by_cases e : i = j
  · rw [e]; exact wle_r _
  · exact wle_iff.mpr (Or.inr (Bfs_ord h j i (by omega) hj))
theorem Bfs_run (h : Bfs step s0 N st par ach wd k a) : ∀ j, j < N → wrun step s0 (wd j) = some (st j) := by
  obtain ⟨h1, h2, h3, h4, h5, h6⟩ := h
  intro j
  induction j using Nat.strongRecOn with
  | ind j ih =>
    intro hj
    by_cases hi : j = 0
    · rw [hi, h3, h2]; rfl
    · obtain ⟨p1, p2, p3, p4⟩ := h4 j (by omega) hj
      rw [p4, wrun_ap, ih (par j) p1 (by omega), Option.bind_some, wrun_1, p2]
/-- what a word comes to: in the line already, with a word not behind it, or the word leaves it by an act not done yet -/
theorem Bfs_min (h : Bfs step s0 N st par ach wd k a) : ∀ (n : Nat) (v : List Nat), v.length = n → ∀ t, wrun step s0 v = some t →
    (∃ j, j < N ∧ st j = t ∧ wle (wd j) v) ∨ (∃ u c w i, v = u ++ c :: w ∧ i < N ∧ ¬ lx i c k a ∧ wle (wd i) u ∧ step (st i) c ≠ none) := by
  have hh := h
  obtain ⟨h1, h2, h3, h4, h5, h6⟩ := h
  intro n
  induction n with
  | zero =>
    intro v hv t ht
    have : v = [] := List.length_eq_zero_iff.mp hv
    subst this
    refine Or.inl ⟨0, h1, ?_, ?_⟩
    · rw [h2]
      exact Option.some.inj ht
    · rw [h3]; exact wle_r _
  | succ n ih =>
    intro v hv t ht
    obtain ⟨u, c, rfl⟩ : ∃ u c, v = u ++ [c] := ⟨v.dropLast, v.getLast (by intro z; rw [z] at hv; cases hv), (List.dropLast_concat_getLast _).symm⟩
    have hu : u.length = n := by simpa using hv
    rw [wrun_ap] at ht
    cases hs : wrun step s0 u with
    | none => rw [hs] at ht; cases ht
    | some s' =>
      rw [hs, Option.bind_some, wrun_1] at ht
      rcases ih u hu s' hs with ⟨i, hi1, hi2, hi3⟩ | ⟨u', c', w, i, rfl, hi1, hi2, hi3, hi4⟩
      · rw [← hi2] at ht
        by_cases hl : lx i c k a
        · obtain ⟨j, hj1, hj2, hj3⟩ := h6 i c t hi1 hl ht
          refine Or.inl ⟨j, hj1, hj2, wle_tr ?_ (wle_sn hi3)⟩
          by_cases hj0 : j = 0
          · rw [hj0, h3]; exact Or.inl (by simp)
          · obtain ⟨p1, p2, p3, p4⟩ := h4 j (by omega) hj1
            rw [p4]
            rcases hj3.resolve_left hj0 with z | ⟨z, y⟩
            · exact wle_iff.mpr (Or.inr (wlt_sn (Bfs_ord hh i (par j) z hi1)))
            · rw [z]
              by_cases e : ach j = c
              · rw [e]; exact wle_r _
              · exact wle_iff.mpr (Or.inr (wlt_sb (by omega)))
        · exact Or.inr ⟨u, c, [], i, rfl, hi1, hl, hi3, by rw [ht]; exact fun z => by cases z⟩
      · exact Or.inr ⟨u', c', w ++ [c], i, by simp, hi1, hi2, hi3, hi4⟩
/-- the first that is accepted when it is looked at -/
theorem Bfs_first (h : Bfs step s0 N st par ach wd k 0) (hk : k < N) (hno : ∀ j, j < k → ac (st j) = false) (hg : ac (st k) = true) : wacc step ac s0 (wd k) ∧ ∀ v, wacc step ac s0 v → wle (wd k) v := by
  refine ⟨⟨st k, Bfs_run h k hk, hg⟩, fun v hv => ?_⟩
  obtain ⟨t, ht, hat⟩ := hv
  rcases Bfs_min h _ v rfl t ht with ⟨j, hj1, hj2, hj3⟩ | ⟨u, c, w, i, rfl, hi1, hi2, hi3, _⟩
  · refine wle_tr (Bfs_le h ?_ hj1) hj3
    rcases Nat.lt_or_ge j k with z | z
    · rw [← hj2, hno j z] at hat; cases hat
    · exact z
  · have hki : k ≤ i := by
      rcases Nat.lt_or_ge i k with z | z
      · exact absurd (Or.inl z) hi2
      · exact z
    exact wle_tr (Bfs_le h hki hi1) (wle_tr hi3 (wle_pre _ _))
/-- none when all are looked at -/
theorem Bfs_none (h : Bfs step s0 N st par ach wd N 0) (hno : ∀ j, j < N → ac (st j) = false) : ∀ v, ¬ wacc step ac s0 v := by
  intro v ⟨t, ht, hat⟩
  rcases Bfs_min h _ v rfl t ht with ⟨j, hj1, hj2, hj3⟩ | ⟨u, c, w, i, rfl, hi1, hi2, hi3, _⟩
  · rw [← hj2, hno j hj1] at hat; cases hat
  · exact hi2 (Or.inl hi1)
/-- the last put into the line is the first that is accepted -/
theorem Bfs_put (h : Bfs step s0 N st par ach wd k a) {g : Nat} (hg : g + 1 = N) (hno : ∀ j, j < g → ac (st j) = false) (hac : ac (st g) = true) (hl : g = 0 ∨ (par g = k ∧ ach g + 1 = a)) : wacc step ac s0 (wd g) ∧ ∀ v, wacc step ac s0 v → wle (wd g) v := by
  refine ⟨⟨st g, Bfs_run h g (by omega), hac⟩, fun v hv => ?_⟩
  obtain ⟨t, ht, hat⟩ := hv
  by_cases g0 : g = 0
  · rw [g0, h.2.2.1]
    cases v with
    | nil => exact wle_r _
    | cons x v => exact Or.inl (by simp)
  obtain ⟨l1, l2⟩ := hl.resolve_left g0
  rcases Bfs_min h _ v rfl t ht with ⟨j, hj1, hj2, hj3⟩ | ⟨u, c, w, i, rfl, hi1, hi2, hi3, _⟩
  · have : j = g := by
      rcases Nat.lt_or_ge j g with z | z
      · rw [← hj2, hno j z] at hat; cases hat
      · omega
    rw [← this]
    exact hj3
  · obtain ⟨p1, p2, p3, p4⟩ := h.2.2.2.1 g (by omega) (by omega)
    rw [p4]
    have key : wle (wd (par g) ++ [ach g]) (wd i ++ [c]) := by
      rcases Nat.lt_trichotomy i k with z | z | z
      · exact absurd (Or.inl z) hi2
      · rw [l1, ← z]
        have : a ≤ c := by
          rcases Nat.lt_or_ge c a with y | y
          · exact absurd (Or.inr ⟨z, y⟩) hi2
          · exact y
        exact wle_iff.mpr (Or.inr (wlt_sb (by omega)))
      · rw [l1]
        exact wle_iff.mpr (Or.inr (wlt_sn (Bfs_ord h i k z hi1)))
    refine wle_tr key (wle_tr (wle_sn hi3) ?_)
    have := wle_pre (u ++ [c]) w
    rwa [List.append_assoc, List.singleton_append] at this
-- how the line grows
theorem Bfs_0 (hs : st 0 = s0) (hw : wd 0 = []) : Bfs step s0 1 st par ach wd 0 0 :=
  ⟨by omega, hs, hw, fun j h1 h2 => absurd h1 (by omega), fun i j h1 h2 h3 => absurd h3 (by omega), fun i c t _ hl _ => absurd hl (by unfold lx; omega)⟩
theorem lx_up {i c : Nat} (h : lx i c k a) : lx i c k (a + 1) := by
  unfold lx at h ⊢
  omega
theorem Bfs_skip (h : Bfs step s0 N st par ach wd k a) (hn : k < N → step (st k) a = none ∨ ∃ j, j < N ∧ step (st k) a = some (st j)) : Bfs step s0 N st par ach wd k (a + 1) := by
  obtain ⟨h1, h2, h3, h4, h5, h6⟩ := h
  refine ⟨h1, h2, h3, fun j p q => ?_, h5, fun i c t hi hl ht => ?_⟩
  · obtain ⟨a1, a2, a3, a4⟩ := h4 j p q
    exact ⟨a1, a2, lx_up a3, a4⟩
  · by_cases e : i = k ∧ c = a
    · obtain ⟨rfl, rfl⟩ := e
      rcases hn hi with z | ⟨j, hj, z⟩
      · rw [z] at ht; cases ht
      · rw [z] at ht
        refine ⟨j, hj, Option.some.inj ht, ?_⟩
        by_cases hj0 : j = 0
        · exact Or.inl hj0
        · have := (h4 j (by omega) hj).2.2.1
          unfold lx at this
          omega
    · refine h6 i c t hi ?_ ht
      unfold lx at hl ⊢
      omega
theorem Bfs_add {st' : Nat → σ} {par' ach' : Nat → Nat} {wd' : Nat → List Nat} {t : σ} (h : Bfs step s0 N st par ach wd k a) (hk : k < N) (ht : step (st k) a = some t) (e1 : ∀ j, j < N → st' j = st j) (e2 : ∀ j, j < N → par' j = par j) (e3 : ∀ j, j < N → ach' j = ach j) (e4 : ∀ j, j < N → wd' j = wd j)
    (n1 : st' N = t) (n2 : par' N = k) (n3 : ach' N = a) (n4 : wd' N = wd k ++ [a]) : Bfs step s0 (N + 1) st' par' ach' wd' k (a + 1) := by
  obtain ⟨h1, h2, h3, h4, h5, h6⟩ := h
  refine ⟨by omega, by rw [e1 0 h1]; exact h2, by rw [e4 0 h1]; exact h3, fun j p q => ?_, fun i j p q r => ?_, fun i c t' hi hl ht' => ?_⟩
  · by_cases e : j = N
    · rw [e, n1, n2, n3, n4, e1 k hk, e4 k hk]
      exact ⟨hk, ht, Or.inr ⟨rfl, by omega⟩, rfl⟩
    · obtain ⟨a1, a2, a3, a4⟩ := h4 j p (by omega)
      rw [e2 j (by omega), e3 j (by omega), e1 j (by omega), e4 j (by omega), e1 (par j) (by omega), e4 (par j) (by omega)]
      exact ⟨a1, a2, lx_up a3, a4⟩
  · rw [e2 i (by omega), e3 i (by omega)]
    by_cases e : j = N
    · rw [e, n2, n3]
      exact (h4 i p (by omega)).2.2.1
    · rw [e2 j (by omega), e3 j (by omega)]
      exact h5 i j p q (by omega)
  · by_cases e : i = N
    · unfold lx at hl
      omega
    · rw [e1 i (by omega)] at ht'
      by_cases g : i = k ∧ c = a
      · obtain ⟨rfl, rfl⟩ := g
        rw [ht] at ht'
        exact ⟨N, by omega, by rw [n1]; exact Option.some.inj ht', Or.inr (Or.inr ⟨n2, by rw [n3]; exact Nat.le_refl _⟩)⟩
      · obtain ⟨j, hj1, hj2, hj3⟩ := h6 i c t' (by omega) (by unfold lx at hl ⊢; omega) ht'
        exact ⟨j, by omega, by rw [e1 j hj1]; exact hj2, by rw [e2 j hj1, e3 j hj1]; exact hj3⟩
theorem Bfs_next (h : Bfs step s0 N st par ach wd k a) (hn : ∀ c, a ≤ c → step (st k) c = none) : Bfs step s0 N st par ach wd (k + 1) 0 := by
  obtain ⟨h1, h2, h3, h4, h5, h6⟩ := h
  refine ⟨h1, h2, h3, fun j p q => ?_, h5, fun i c t hi hl ht => ?_⟩
  · obtain ⟨a1, a2, a3, a4⟩ := h4 j p q
    refine ⟨a1, a2, ?_, a4⟩
    unfold lx at a3 ⊢
    omega
  · by_cases e : i = k ∧ a ≤ c
    · rw [e.1, hn c e.2] at ht; cases ht
    · refine h6 i c t hi ?_ ht
      unfold lx at hl ⊢
      omega
-- another automaton that goes along
theorem wrun_im {τ : Type} {step' : τ → Nat → Option τ} {f : σ → τ} {I : σ → Prop} (hI : ∀ s a t, I s → step s a = some t → I t) (hf : ∀ s a, I s → step' (f s) a = (step s a).map f) : ∀ (w : List Nat) (s : σ), I s → wrun step' (f s) w = (wrun step s w).map f
  | [], _, _ => rfl
  | x :: w, s, hs => by
    show (step' (f s) x).bind (fun s' => wrun step' s' w) = ((step s x).bind fun s' => wrun step s' w).map f
    rw [hf s x hs]
    cases hx : step s x with
    | none => rfl
    | some t => exact wrun_im hI hf w t (hI s x t hs hx)
theorem wrun_I {I : σ → Prop} (hI : ∀ s a t, I s → step s a = some t → I t) : ∀ (w : List Nat) (s t : σ), I s → wrun step s w = some t → I t
  | [], s, t, hs, h => by
    have : s = t := Option.some.inj h
    rw [← this]; exact hs
  | x :: w, s, t, hs, h => by
    have h' : (step s x).bind (fun s' => wrun step s' w) = some t := h
    cases hx : step s x with
    | none => rw [hx] at h'; cases h'
    | some u =>
      rw [hx] at h'
      exact wrun_I hI w u t (hI s x u hs hx) h'
theorem wacc_im {τ : Type} {step' : τ → Nat → Option τ} {ac' : τ → Bool} {f : σ → τ} {I : σ → Prop} (hI : ∀ s a t, I s → step s a = some t → I t) (hf : ∀ s a, I s → step' (f s) a = (step s a).map f) (ha : ∀ s, I s → ac' (f s) = ac s) {s : σ} (hs : I s) (w : List Nat) : wacc step' ac' (f s) w ↔ wacc step ac s w := by
  unfold wacc
  rw [wrun_im hI hf w s hs]
  cases hw : wrun step s w with
  | none => exact ⟨fun ⟨_, h, _⟩ => (nomatch h), fun ⟨_, h, _⟩ => (nomatch h)⟩
  | some t =>
    have ht := wrun_I hI w s t hs hw
    constructor
    · rintro ⟨u, hu, hau⟩
      have : f t = u := Option.some.inj hu
      exact ⟨t, rfl, by rw [← ha t ht, this]; exact hau⟩
    · rintro ⟨u, hu, hau⟩
      have : t = u := Option.some.inj hu
      exact ⟨f t, rfl, by rw [ha t ht, this]; exact hau⟩
end BFQ
