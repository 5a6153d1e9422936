/-! which cells the pictures of the set stand on -/
section CONG
variable {al al' : Nat → Int}
theorem JobOK_b (H : JobOK al) : (0 ≤ al 31 ∧ al 31 ≤ 8) ∧ (0 ≤ al 32 ∧ al 32 ≤ 60) ∧ (1 ≤ al 30 ∧ al 30 ≤ 40) := ⟨H.1, H.2.2.2.2.2.2.2.2.2.2.1, H.2.2.2.2.2.2.2.2.2.1⟩
theorem JobOK_cong (h : ∀ k, k < 133 → al' k = al k) (H : JobOK al) : JobOK al' := by
  obtain ⟨⟨b1, b2⟩, ⟨b3, b4⟩, _⟩ := JobOK_b H
  obtain ⟨a1, a2, a3, a4, a5, a6, a7, a8, a9, a10, a11, a12, a13⟩ := H
  unfold JobOK
  rw [h 31 (by omega), h 24 (by omega), h 25 (by omega), h 26 (by omega), h 27 (by omega), h 28 (by omega), h 29 (by omega), h 30 (by omega), h 32 (by omega)]
  refine ⟨a1, fun p hp => ?_, fun t ht => ?_, a4, a5, a6, a7, a8, a9, a10, a11, fun i hi => ?_, fun p hp => ?_⟩
  · rw [h p (by omega), h (8 + p) (by omega)]; exact a2 p hp
  · rw [h (16 + t) (by omega), h (20 + t) (by omega)]; exact a3 t ht
  · rw [h (33 + i) (by omega)]; exact a12 i hi
  · rw [h (93 + p) (by omega), h (103 + p) (by omega), h (113 + p) (by omega), h (123 + p) (by omega)]; exact a13 p hp
theorem JobR_cong {Ij : Nat → Int} {Aj : Nat → Nat → Int} (h : ∀ k, k < 133 → al' k = al k) (H : JobR Ij Aj al) : JobR Ij Aj al' := by
  obtain ⟨⟨b1, b2⟩, ⟨b3, b4⟩, _⟩ := JobOK_b H.1
  obtain ⟨a0, a1, a2, a3, a4, a5, a6, a7, a8, a9, a10, a11, a12, a13⟩ := H
  unfold JobR
  rw [h 31 (by omega), h 24 (by omega), h 25 (by omega), h 26 (by omega), h 27 (by omega), h 28 (by omega), h 29 (by omega), h 30 (by omega), h 32 (by omega)]
  refine ⟨JobOK_cong h a0, a1, a2, a3, a4, a5, a6, a7, a8, a9, fun p hp => ?_, fun t ht => ?_, fun i hi => ?_, fun p hp => ?_⟩
  · rw [h p (by omega), h (8 + p) (by omega)]; exact a10 p hp
  · rw [h (16 + t) (by omega), h (20 + t) (by omega)]; exact a11 t ht
  · rw [h (33 + i) (by omega)]; exact a12 i hi
  · rw [h (93 + p) (by omega), h (103 + p) (by omega), h (113 + p) (by omega), h (123 + p) (by omega)]; exact a13 p hp
theorem InvI_cong {A2 : Nat → Nat → Int} {I12 I13 : Nat → Int} {A12 A13 : Nat → Nat → Int} {has : Nat → Int} (h : ∀ k, 133 ≤ k → al' k = al k) (H : InvI A2 I12 I13 A12 A13 al has) : InvI A2 I12 I13 A12 A13 al' has := by
  obtain ⟨a1, a2, a3, a4⟩ := H
  refine ⟨a1, a2, ?_, ?_⟩
  · rcases a3 with q | ⟨q, r⟩
    · exact Or.inl q
    · exact Or.inr ⟨q, JobR_cong (fun k _ => h _ (by omega)) r⟩
  · rcases a4 with q | ⟨q, r⟩
    · exact Or.inl q
    · exact Or.inr ⟨q, JobR_cong (fun k _ => h _ (by omega)) r⟩
theorem kms_cong {st st' : Nat → Int} {n pg many : Nat} (h : ∀ j, j < n → st' j = st j) : ∀ i, i ≤ n → ∀ w, kms st' n pg many i w = kms st n pg many i w
  | 0, _, w => by unfold kms; rfl
  | i + 1, hi, 0 => by unfold kms; rfl
  | i + 1, hi, w + 1 => by
    unfold kms
    rw [kms_cong h i (by omega) (w + 1), kms_cong h (i + 1) hi w, kms_cong h i (by omega) w, h (n - (i + 1)) (by omega)]
theorem kfi_cong {st st' : Nat → Int} {n pg : Nat} (h : ∀ j, j < n → st' j = st j) (f w : Nat) : kfi st' n pg f w = kfi st n pg f w := by
  unfold kfi
  exact fnd_cong fun i hi => by rw [h i hi]
theorem kst_cong {st st' : Nat → Int} {n pg many : Nat} (h : ∀ j, j < n → st' j = st j) : ∀ w, kst st' n pg many w = kst st n pg many w
  | 0 => by unfold kst; rw [kms_cong h n (Nat.le_refl n)]
  | w + 1 => by
    unfold kst
    rw [kst_cong h w]
    dsimp only
    rw [kfi_cong h, kms_cong h _ (by omega)]
theorem kpo_cong {st st' : Nat → Int} {n pg many : Nat} (h : ∀ j, j < n → st' j = st j) (w : Nat) : kpo st' n pg many w = kpo st n pg many w := by
  unfold kpo
  rw [kst_cong h]
  dsimp only
  rw [kfi_cong h, kms_cong h _ (by omega)]
theorem InvK_cong {I16 : Nat → Int} {A16 : Nat → Nat → Int} (h30 : al' 30 = al 30) (h31 : al' 31 = al 31) (h32 : al' 32 = al 32) (h : ∀ i : Nat, i < 60 → al' (33 + i) = al (33 + i)) (hb : al 32 ≤ 60) (H : InvK I16 A16 al) : InvK I16 A16 al' := by
  have h' : ∀ j, j < (al 32).toNat → (fun i => al' (33 + i)) j = (fun i => al (33 + i)) j := fun j hj => h j (by omega)
  unfold InvK at H ⊢
  rw [h30, h31, h32, kms_cong h' _ (Nat.le_refl _)]
  rcases H with q | ⟨q1, q2, q3, q4⟩
  · exact Or.inl q
  · refine Or.inr ⟨q1, q2, q3, fun w hw => ?_⟩
    rw [kpo_cong h']
    exact q4 w hw
theorem vco_cong (h : ∀ p, p < 10 → al' (93 + p) = al (93 + p) ∧ al' (103 + p) = al (103 + p) ∧ al' (113 + p) = al (113 + p) ∧ al' (123 + p) = al (123 + p)) {n m : Nat} : ∀ p, p ≤ 10 → vco al' n m p = vco al n m p
  | 0, _ => rfl
  | p + 1, hp => by
    obtain ⟨h1, h2, h3, h4⟩ := h p (by omega)
    unfold vco
    rw [vco_cong h p (by omega), h1, h2, h3, h4]
theorem vbe_cong (h : ∀ p, p < 10 → al' (93 + p) = al (93 + p) ∧ al' (103 + p) = al (103 + p) ∧ al' (113 + p) = al (113 + p) ∧ al' (123 + p) = al (123 + p)) {n : Nat} {price : Int} : ∀ k, vbe al' n price k = vbe al n price k
  | 0 => rfl
  | k + 1 => by
    unfold vbe
    rw [vbe_cong h k, vco_cong h 10 (Nat.le_refl 10)]
theorem InvR_cong {I17 : Nat → Int} (h : ∀ p, p < 10 → al' (93 + p) = al (93 + p) ∧ al' (103 + p) = al (103 + p) ∧ al' (113 + p) = al (113 + p) ∧ al' (123 + p) = al (123 + p)) (H : InvR I17 al) : InvR I17 al' := by
  unfold InvR at H ⊢
  rw [vbe_cong h]
  exact H
theorem pst_cong (h : ∀ k, k < 30 → al' k = al k) (h31 : al' 31 = al 31) (hb : al 31 ≤ 8) : pst al' = pst al := by
  funext ⟨pg, a, b, c, hh, t, s⟩ act
  have e : pln al' = pln al := by
    funext a
    unfold pln
    rw [h 25 (by omega)]
  unfold pst
  rw [h 29 (by omega), h 27 (by omega), h 28 (by omega), h 24 (by omega), h 25 (by omega), h31, e]
  dsimp only
  by_cases h0 : act = 0
  · rw [if_pos h0, if_pos h0]
  rw [if_neg h0, if_neg h0]
  by_cases h1 : (hh : Int) < al 27
  · rw [if_pos h1, if_pos h1]
  rw [if_neg h1, if_neg h1]
  by_cases h2 : act = 1
  · rw [if_pos h2, if_pos h2]
  rw [if_neg h2, if_neg h2]
  by_cases h3 : act < 6 ∧ (pg : Int) < al 31
  · have hp : pg < 8 := by omega
    rw [h (20 + (act - 2)) (by omega), h (16 + (act - 2)) (by omega), h pg (by omega), h (8 + pg) (by omega)]
  · rw [if_neg (fun z => h3 ⟨z.1, z.2.1⟩), if_neg (fun z => h3 ⟨z.1, z.2.1⟩)]
theorem InvP_cong {I14 : Nat → Int} {A14 : Nat → Nat → Int} (h : ∀ k, k < 30 → al' k = al k) (h31 : al' 31 = al 31) (hb : al 31 ≤ 8) (H : InvP I14 A14 al) : InvP I14 A14 al' := by
  have e1 := pst_cong h h31 hb
  have e2 : pac al' = pac al := by
    funext ⟨pg, a, b, c, r⟩
    unfold pac
    rw [h31]
  have e3 : p0 al' = p0 al := by
    unfold p0
    rw [h 26 (by omega)]
  unfold InvP PlanIs at H ⊢
  rw [e1, e2, e3]
  exact H
end CONG
