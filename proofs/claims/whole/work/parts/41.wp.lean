/-! what a text of dec.py comes to, with what holds behind it; loops -/
section ZWP
variable {α β σ ρ : Type}
def zp (F : Option α) (Q : α → Prop) : Prop := ∃ v, F = some v ∧ Q v
theorem zp_some {v : α} {Q : α → Prop} : zp (some v) Q ↔ Q v := ⟨fun ⟨w, h, q⟩ => by cases h; exact q, fun q => ⟨v, rfl, q⟩⟩
theorem zp_none {Q : α → Prop} : zp none Q ↔ False := ⟨fun ⟨w, h, _⟩ => (by cases h), fun h => h.elim⟩
theorem zp_bind {F : Option α} {k : α → Option β} {Q : β → Prop} : zp (F.bind k) Q ↔ zp F (fun v => zp (k v) Q) := by
  constructor
  · intro ⟨w, h, q⟩
    cases hF : F with
    | none => rw [hF] at h; cases h
    | some v => rw [hF] at h; exact ⟨v, rfl, w, h, q⟩
  · intro ⟨v, h, w, h2, q⟩
    exact ⟨w, by rw [h]; exact h2, q⟩
theorem zp_lt {a : α} {k : α → Option β} {Q : β → Prop} : zp (zlt a k) Q ↔ zp (k a) Q := Iff.rfl
theorem zp_ite {c : Prop} {i : Decidable c} {F G : Option α} {Q : α → Prop} : zp (@ite _ c i F G) Q ↔ (c → zp F Q) ∧ (¬c → zp G Q) := by
  by_cases h : c
  · simp [h]
  · simp [h]
theorem zp_pos {c : Prop} {i : Decidable c} {F G : Option α} {Q : α → Prop} (h : c) (q : zp F Q) : zp (@ite _ c i F G) Q := by rw [if_pos h]; exact q
theorem zp_neg {c : Prop} {i : Decidable c} {F G : Option α} {Q : α → Prop} (h : ¬c) (q : zp G Q) : zp (@ite _ c i F G) Q := by rw [if_neg h]; exact q
theorem zp_if {c : Prop} {i : Decidable c} {F G : Option α} {Q : α → Prop} (h1 : c → zp F Q) (h2 : ¬c → zp G Q) : zp (@ite _ c i F G) Q := zp_ite.mpr ⟨h1, h2⟩
theorem zp_in {F : Option ρ} {Q : σ ⊕ ρ → Prop} : zp (zjn F) Q ↔ zp F (fun r => Q (.inr r)) := by
  constructor
  · intro ⟨w, h, q⟩
    cases hF : F with
    | none => rw [hF] at h; cases h
    | some v => rw [hF] at h; cases h; exact ⟨v, rfl, q⟩
  · intro ⟨v, h, q⟩
    exact ⟨.inr v, by rw [h]; rfl, q⟩
theorem zp_eq {F : Option α} {v : α} {Q : α → Prop} (h : F = some v) : zp F Q ↔ Q v := by rw [h]; exact zp_some
theorem zp_mono {F : Option α} {P Q : α → Prop} (h : zp F P) (k : ∀ v, P v → Q v) : zp F Q := h.elim fun v hv => ⟨v, hv.1, k v hv.2⟩
theorem zp_of {F : Option α} {v : α} (h : zp F (fun w => w = v)) : F = some v := by
  obtain ⟨w, h, rfl⟩ := h
  exact h
def zor2 (P : σ → Prop) (Q : ρ → Prop) : σ ⊕ ρ → Prop
  | .inl s => P s
  | .inr r => Q r
theorem zor2_l {P : σ → Prop} {Q : ρ → Prop} {s : σ} : zor2 P Q (.inl s) ↔ P s := Iff.rfl
theorem zor2_r {P : σ → Prop} {Q : ρ → Prop} {r : ρ} : zor2 P Q (.inr r) ↔ Q r := Iff.rfl
/-- a loop by an invariant P at n rounds to go -/
theorem zp_w {f : σ → Option (σ ⊕ ρ)} {Q : ρ → Prop} (P : Nat → σ → Prop) (h : ∀ n s, P n s → zp (f s) (zor2 (fun s' => ∃ m, m < n ∧ P m s') Q)) : ∀ n s, P n s → zp (zw f s) Q := by
  intro n
  induction n using Nat.strongRecOn with
  | ind n ih =>
    intro s hs
    obtain ⟨x, hx, hq⟩ := h n s hs
    cases x with
    | inl s' =>
      obtain ⟨m, hm, hp⟩ := hq
      obtain ⟨v, hv, q⟩ := ih m hm s' hp
      exact ⟨v, by rw [zw_inl hx, hv], q⟩
    | inr r => exact ⟨r, zw_inr hx, hq⟩
/-- a loop told by its states, as an equation -/
theorem zw_for {f : σ → Option (σ ⊕ ρ)} (g : Nat → σ) (n : Nat) {s0 : σ} {r : ρ} (h0 : s0 = g 0) (h : ∀ i, i < n → f (g i) = some (.inl (g (i + 1)))) (he : f (g n) = some (.inr r)) : zw f s0 = some r := by
  subst h0
  exact zw_seq g n h he
end ZWP
section ZFND
/-- the first i below n with p, else n -/
def fnd (p : Nat → Bool) : Nat → Nat
  | 0 => 0
  | n + 1 => if fnd p n < n then fnd p n else if p n then n else n + 1
theorem fnd_le (p : Nat → Bool) : ∀ n, fnd p n ≤ n
  | 0 => Nat.le_refl 0
  | n + 1 => by
    unfold fnd
    have := fnd_le p n
    split
    · omega
    · split <;> omega
theorem fnd_no {p : Nat → Bool} : ∀ {n k : Nat}, k < fnd p n → p k = false
  | 0, k, h => by simp [fnd] at h
  | n + 1, k, h => by
    have hl := fnd_le p n
    unfold fnd at h
    split at h
    · exact fnd_no h
    · rename_i h1
      have h2 : fnd p n = n := by omega
      split at h
      · exact fnd_no (n := n) (by omega)
      · rename_i h3
        by_cases e : k = n
        · rw [e]; simpa using h3
        · exact fnd_no (n := n) (by omega)
theorem fnd_yes {p : Nat → Bool} : ∀ {n : Nat}, fnd p n < n → p (fnd p n) = true
  | 0, h => by simp at h
  | n + 1, h => by
    have hl := fnd_le p n
    unfold fnd at h ⊢
    split
    · rename_i h1
      exact fnd_yes h1
    · rename_i h1
      rw [if_neg h1] at h
      split
      · rename_i h2; exact h2
      · rename_i h2
        rw [if_neg h2] at h
        omega
theorem fnd_eq {p : Nat → Bool} {n k : Nat} (hk : k < n) (h1 : p k = true) (h2 : ∀ i, i < k → p i = false) : fnd p n = k := by
  have hl := fnd_le p n
  rcases Nat.lt_trichotomy (fnd p n) k with h | h | h
  · have := fnd_yes (p := p) (n := n) (by omega)
    rw [h2 _ h] at this
    cases this
  · exact h
  · have := fnd_no (p := p) (n := n) h
    rw [h1] at this
    cases this
theorem fnd_none {p : Nat → Bool} {n : Nat} (h : ∀ i, i < n → p i = false) : fnd p n = n := by
  have hl := fnd_le p n
  rcases Nat.lt_or_ge (fnd p n) n with h1 | h1
  · have := fnd_yes h1
    rw [h _ h1] at this
    cases this
  · omega
theorem fnd_cong {p q : Nat → Bool} {n : Nat} (h : ∀ i, i < n → p i = q i) : fnd p n = fnd q n := by
  have h1 := fnd_le p n
  rcases Nat.lt_or_ge (fnd p n) n with h2 | h2
  · refine (fnd_eq h2 ?_ ?_).symm
    · rw [← h _ h2]; exact fnd_yes h2
    · intro i hi
      rw [← h i (by omega)]
      exact fnd_no hi
  · have h3 : fnd p n = n := by omega
    rw [h3]
    refine (fnd_none fun i hi => ?_).symm
    rw [← h i hi]
    exact fnd_no (n := n) (by omega)
/-- how many i below n have p -/
def cnt (p : Nat → Bool) : Nat → Nat
  | 0 => 0
  | n + 1 => cnt p n + (if p n then 1 else 0)
theorem cnt_le (p : Nat → Bool) : ∀ n, cnt p n ≤ n
  | 0 => Nat.le_refl 0
  | n + 1 => by
    unfold cnt
    have := cnt_le p n
    split <;> omega
theorem cnt_cong {p q : Nat → Bool} : ∀ {n : Nat}, (∀ i, i < n → p i = q i) → cnt p n = cnt q n
  | 0, _ => rfl
  | n + 1, h => by
    unfold cnt
    rw [cnt_cong fun i hi => h i (by omega), h n (by omega)]
theorem cnt_all {p : Nat → Bool} : ∀ {n : Nat}, (∀ i, i < n → p i = true) → cnt p n = n
  | 0, _ => rfl
  | n + 1, h => by
    unfold cnt
    rw [cnt_all fun i hi => h i (by omega), h n (by omega)]
    rfl
theorem cnt_zero {p : Nat → Bool} : ∀ {n : Nat}, (∀ i, i < n → p i = false) → cnt p n = 0
  | 0, _ => rfl
  | n + 1, h => by
    unfold cnt
    rw [cnt_zero fun i hi => h i (by omega), h n (by omega)]
    rfl
theorem cnt_mono {p : Nat → Bool} {m : Nat} : ∀ {n : Nat}, m ≤ n → cnt p m ≤ cnt p n
  | 0, h => by
    have : m = 0 := by omega
    subst this
    exact Nat.le_refl _
  | n + 1, h => by
    rcases Nat.lt_or_ge m (n + 1) with h1 | h1
    · have h2 := cnt_mono (p := p) (m := m) (n := n) (by omega)
      have h3 : cnt p (n + 1) = cnt p n + (if p n then 1 else 0) := rfl
      omega
    · have : m = n + 1 := by omega
      subst this
      exact Nat.le_refl _
/-- a search from i = 0: at the first i with p it ends with r i, else with re -/
theorem zw_fnd {σ ρ : Type} {f : σ → Option (σ ⊕ ρ)} (p : Nat → Bool) (g : Nat → σ) (n : Nat) (r : Nat → ρ) (re : ρ) {s0 : σ} (h0 : s0 = g 0) (hs : ∀ i, i < n → p i = false → f (g i) = some (.inl (g (i + 1)))) (hx : ∀ i, i < n → p i = true → f (g i) = some (.inr (r i))) (he : f (g n) = some (.inr re)) :
    zw f s0 = some (if fnd p n < n then r (fnd p n) else re) := by
  have hl := fnd_le p n
  split
  · rename_i h
    exact zw_for g (fnd p n) h0 (fun i hi => hs i (by omega) (fnd_no hi)) (hx _ h (fnd_yes h))
  · rename_i h
    have e : fnd p n = n := by omega
    exact zw_for g n h0 (fun i hi => hs i hi (fnd_no (n := n) (by omega))) he
end ZFND
