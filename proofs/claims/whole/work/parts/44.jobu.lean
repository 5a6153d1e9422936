/-! the set's picture behind each call that changes it -/
section JOBU
variable {I I' : Nat → Int} {A A' : Nat → Nat → Int} {al al' : Nat → Int} {m : Nat} {x v y z w : Int}
theorem J_page (H : JobR I A al) (hm : al 31 = (m : Int)) (m8 : m < 8) (h32 : ¬ 0 < al 32) (hx : 0 ≤ x ∧ x ≤ 3) (hv : v = 0 ∨ v = 1) (hI : ∀ k, I' k = if k = 0 then ((m + 1 : Nat) : Int) else I k) (hA : ∀ o j, A' o j = if o = 3 ∧ j = m then v else if o = 2 ∧ j = m then x else A o j) (hal : ∀ k, al' k = if k = 31 then ((m + 1 : Nat) : Int) else if k = 8 + m then v + 1 else if k = m then x else al k) : JobR I' A' al' := by
  obtain ⟨⟨⟨j1, j2⟩, j3, j4, j5, j6, j7, j8, j9, j10, j11, ⟨j12, j13⟩, j14, j15⟩, e0, e5, e6, e7, e8, e9, e10, e11, e12, k1, k2, k3, k4⟩ := H
  unfold JobR JobOK
  simp only [hI, hA, hal]
  clear hI hA hal
  refine ⟨⟨?_, fun p hp => ?_, fun t ht => ?_, ?_, ?_, ?_, ?_, ?_, ?_, ?_, ?_, fun i hi => ?_, fun p hp => ?_⟩, ?_, ?_, ?_, ?_, ?_, ?_, ?_, ?_, ?_, fun p hp => ?_, fun t ht => ?_, fun i hi => ?_, fun p hp => ?_⟩
  · clear j3 j4 j14 j15 k1 k2 k3 k4; (repeat' apply And.intro) <;> (try simp only [reduceIte, Nat.reduceEqDiff, true_and, false_and, and_true, and_false]) <;> (repeat' split) <;> omega
  · have q1 := j3 p; have q2 := k1 p; clear j3 j4 j14 j15 k1 k2 k3 k4; (try simp only [reduceIte] at hp); (repeat' split at hp) <;> (repeat' apply And.intro) <;> (try simp only [reduceIte, Nat.reduceEqDiff, true_and, false_and, and_true, and_false]) <;> (repeat' split) <;> omega
  · have q1 := j4 t; have q2 := k2 t; clear j3 j4 j14 j15 k1 k2 k3 k4; (repeat' apply And.intro) <;> (try simp only [reduceIte, Nat.reduceEqDiff, true_and, false_and, and_true, and_false]) <;> (repeat' split) <;> omega
  · clear j3 j4 j14 j15 k1 k2 k3 k4; (repeat' apply And.intro) <;> (try simp only [reduceIte, Nat.reduceEqDiff, true_and, false_and, and_true, and_false]) <;> (repeat' split) <;> omega
  · clear j3 j4 j14 j15 k1 k2 k3 k4; (repeat' apply And.intro) <;> (try simp only [reduceIte, Nat.reduceEqDiff, true_and, false_and, and_true, and_false]) <;> (repeat' split) <;> omega
  · clear j3 j4 j14 j15 k1 k2 k3 k4; (repeat' apply And.intro) <;> (try simp only [reduceIte, Nat.reduceEqDiff, true_and, false_and, and_true, and_false]) <;> (repeat' split) <;> omega
  · clear j3 j4 j14 j15 k1 k2 k3 k4; (repeat' apply And.intro) <;> (try simp only [reduceIte, Nat.reduceEqDiff, true_and, false_and, and_true, and_false]) <;> (repeat' split) <;> omega
  · clear j3 j4 j14 j15 k1 k2 k3 k4; (repeat' apply And.intro) <;> (try simp only [reduceIte, Nat.reduceEqDiff, true_and, false_and, and_true, and_false]) <;> (repeat' split) <;> omega
  · clear j3 j4 j14 j15 k1 k2 k3 k4; (repeat' apply And.intro) <;> (try simp only [reduceIte, Nat.reduceEqDiff, true_and, false_and, and_true, and_false]) <;> (repeat' split) <;> omega
  · clear j3 j4 j14 j15 k1 k2 k3 k4; (repeat' apply And.intro) <;> (try simp only [reduceIte, Nat.reduceEqDiff, true_and, false_and, and_true, and_false]) <;> (repeat' split) <;> omega
  · clear j3 j4 j14 j15 k1 k2 k3 k4; (repeat' apply And.intro) <;> (try simp only [reduceIte, Nat.reduceEqDiff, true_and, false_and, and_true, and_false]) <;> (repeat' split) <;> omega
  · have q1 := j14 i; have q2 := k3 i; clear j3 j4 j14 j15 k1 k2 k3 k4; (try simp only [Nat.add_sub_cancel_left] at q4 ⊢); (try simp only [reduceIte] at hi); (repeat' split at hi) <;> (repeat' apply And.intro) <;> (try simp only [reduceIte, Nat.reduceEqDiff, true_and, false_and, and_true, and_false]) <;> (repeat' split) <;> omega
  · have q1 := j15 p; have q2 := k4 p; clear j3 j4 j14 j15 k1 k2 k3 k4; (repeat' apply And.intro) <;> (try simp only [reduceIte, Nat.reduceEqDiff, true_and, false_and, and_true, and_false]) <;> (repeat' split) <;> omega
  · clear j3 j4 j14 j15 k1 k2 k3 k4; (repeat' apply And.intro) <;> (try simp only [reduceIte, Nat.reduceEqDiff, true_and, false_and, and_true, and_false]) <;> (repeat' split) <;> omega
  · clear j3 j4 j14 j15 k1 k2 k3 k4; (repeat' apply And.intro) <;> (try simp only [reduceIte, Nat.reduceEqDiff, true_and, false_and, and_true, and_false]) <;> (repeat' split) <;> omega
  · clear j3 j4 j14 j15 k1 k2 k3 k4; (repeat' apply And.intro) <;> (try simp only [reduceIte, Nat.reduceEqDiff, true_and, false_and, and_true, and_false]) <;> (repeat' split) <;> omega
  · clear j3 j4 j14 j15 k1 k2 k3 k4; (repeat' apply And.intro) <;> (try simp only [reduceIte, Nat.reduceEqDiff, true_and, false_and, and_true, and_false]) <;> (repeat' split) <;> omega
  · clear j3 j4 j14 j15 k1 k2 k3 k4; (repeat' apply And.intro) <;> (try simp only [reduceIte, Nat.reduceEqDiff, true_and, false_and, and_true, and_false]) <;> (repeat' split) <;> omega
  · clear j3 j4 j14 j15 k1 k2 k3 k4; (repeat' apply And.intro) <;> (try simp only [reduceIte, Nat.reduceEqDiff, true_and, false_and, and_true, and_false]) <;> (repeat' split) <;> omega
  · clear j3 j4 j14 j15 k1 k2 k3 k4; (repeat' apply And.intro) <;> (try simp only [reduceIte, Nat.reduceEqDiff, true_and, false_and, and_true, and_false]) <;> (repeat' split) <;> omega
  · clear j3 j4 j14 j15 k1 k2 k3 k4; (repeat' apply And.intro) <;> (try simp only [reduceIte, Nat.reduceEqDiff, true_and, false_and, and_true, and_false]) <;> (repeat' split) <;> omega
  · clear j3 j4 j14 j15 k1 k2 k3 k4; (repeat' apply And.intro) <;> (try simp only [reduceIte, Nat.reduceEqDiff, true_and, false_and, and_true, and_false]) <;> (repeat' split) <;> omega
  · have q1 := j3 p; have q2 := k1 p; clear j3 j4 j14 j15 k1 k2 k3 k4; (try simp only [reduceIte] at hp); (repeat' split at hp) <;> (repeat' apply And.intro) <;> (try simp only [reduceIte, Nat.reduceEqDiff, true_and, false_and, and_true, and_false]) <;> (repeat' split) <;> omega
  · have q1 := j4 t; have q2 := k2 t; clear j3 j4 j14 j15 k1 k2 k3 k4; (repeat' apply And.intro) <;> (try simp only [reduceIte, Nat.reduceEqDiff, true_and, false_and, and_true, and_false]) <;> (repeat' split) <;> omega
  · have q1 := j14 i; have q2 := k3 i; clear j3 j4 j14 j15 k1 k2 k3 k4; (try simp only [Nat.add_sub_cancel_left] at q4 ⊢); (try simp only [reduceIte] at hi); (repeat' split at hi) <;> (repeat' apply And.intro) <;> (try simp only [reduceIte, Nat.reduceEqDiff, true_and, false_and, and_true, and_false]) <;> (repeat' split) <;> omega
  · have q1 := j15 p; have q2 := k4 p; clear j3 j4 j14 j15 k1 k2 k3 k4; (repeat' apply And.intro) <;> (try simp only [reduceIte, Nat.reduceEqDiff, true_and, false_and, and_true, and_false]) <;> (repeat' split) <;> omega
theorem J_tray (H : JobR I A al) (m4 : m < 4) (hx : 0 ≤ x ∧ x ≤ 3) (hv : v = 0 ∨ v = 1) (hI : ∀ k, I' k = I k) (hA : ∀ o j, A' o j = if o = 5 ∧ j = m then v else if o = 4 ∧ j = m then x else A o j) (hal : ∀ k, al' k = if k = 20 + m then v else if k = 16 + m then x else al k) : JobR I' A' al' := by
  obtain ⟨⟨⟨j1, j2⟩, j3, j4, j5, j6, j7, j8, j9, j10, j11, ⟨j12, j13⟩, j14, j15⟩, e0, e5, e6, e7, e8, e9, e10, e11, e12, k1, k2, k3, k4⟩ := H
  unfold JobR JobOK
  simp only [hI, hA, hal]
  clear hI hA hal
  refine ⟨⟨?_, fun p hp => ?_, fun t ht => ?_, ?_, ?_, ?_, ?_, ?_, ?_, ?_, ?_, fun i hi => ?_, fun p hp => ?_⟩, ?_, ?_, ?_, ?_, ?_, ?_, ?_, ?_, ?_, fun p hp => ?_, fun t ht => ?_, fun i hi => ?_, fun p hp => ?_⟩
  · clear j3 j4 j14 j15 k1 k2 k3 k4; (repeat' apply And.intro) <;> (try simp only [reduceIte, Nat.reduceEqDiff, true_and, false_and, and_true, and_false]) <;> (repeat' split) <;> omega
  · have q1 := j3 p; have q2 := k1 p; clear j3 j4 j14 j15 k1 k2 k3 k4; (try simp only [reduceIte] at hp); (repeat' split at hp) <;> (repeat' apply And.intro) <;> (try simp only [reduceIte, Nat.reduceEqDiff, true_and, false_and, and_true, and_false]) <;> (repeat' split) <;> omega
  · have q1 := j4 t; have q2 := k2 t; clear j3 j4 j14 j15 k1 k2 k3 k4; (repeat' apply And.intro) <;> (try simp only [reduceIte, Nat.reduceEqDiff, true_and, false_and, and_true, and_false]) <;> (repeat' split) <;> omega
  · clear j3 j4 j14 j15 k1 k2 k3 k4; (repeat' apply And.intro) <;> (try simp only [reduceIte, Nat.reduceEqDiff, true_and, false_and, and_true, and_false]) <;> (repeat' split) <;> omega
  · clear j3 j4 j14 j15 k1 k2 k3 k4; (repeat' apply And.intro) <;> (try simp only [reduceIte, Nat.reduceEqDiff, true_and, false_and, and_true, and_false]) <;> (repeat' split) <;> omega
  · clear j3 j4 j14 j15 k1 k2 k3 k4; (repeat' apply And.intro) <;> (try simp only [reduceIte, Nat.reduceEqDiff, true_and, false_and, and_true, and_false]) <;> (repeat' split) <;> omega
  · clear j3 j4 j14 j15 k1 k2 k3 k4; (repeat' apply And.intro) <;> (try simp only [reduceIte, Nat.reduceEqDiff, true_and, false_and, and_true, and_false]) <;> (repeat' split) <;> omega
  · clear j3 j4 j14 j15 k1 k2 k3 k4; (repeat' apply And.intro) <;> (try simp only [reduceIte, Nat.reduceEqDiff, true_and, false_and, and_true, and_false]) <;> (repeat' split) <;> omega
  · clear j3 j4 j14 j15 k1 k2 k3 k4; (repeat' apply And.intro) <;> (try simp only [reduceIte, Nat.reduceEqDiff, true_and, false_and, and_true, and_false]) <;> (repeat' split) <;> omega
  · clear j3 j4 j14 j15 k1 k2 k3 k4; (repeat' apply And.intro) <;> (try simp only [reduceIte, Nat.reduceEqDiff, true_and, false_and, and_true, and_false]) <;> (repeat' split) <;> omega
  · clear j3 j4 j14 j15 k1 k2 k3 k4; (repeat' apply And.intro) <;> (try simp only [reduceIte, Nat.reduceEqDiff, true_and, false_and, and_true, and_false]) <;> (repeat' split) <;> omega
  · have q1 := j14 i; have q2 := k3 i; clear j3 j4 j14 j15 k1 k2 k3 k4; (try simp only [Nat.add_sub_cancel_left] at q4 ⊢); (try simp only [reduceIte] at hi); (repeat' split at hi) <;> (repeat' apply And.intro) <;> (try simp only [reduceIte, Nat.reduceEqDiff, true_and, false_and, and_true, and_false]) <;> (repeat' split) <;> omega
  · have q1 := j15 p; have q2 := k4 p; clear j3 j4 j14 j15 k1 k2 k3 k4; (repeat' apply And.intro) <;> (try simp only [reduceIte, Nat.reduceEqDiff, true_and, false_and, and_true, and_false]) <;> (repeat' split) <;> omega
  · clear j3 j4 j14 j15 k1 k2 k3 k4; (repeat' apply And.intro) <;> (try simp only [reduceIte, Nat.reduceEqDiff, true_and, false_and, and_true, and_false]) <;> (repeat' split) <;> omega
  · clear j3 j4 j14 j15 k1 k2 k3 k4; (repeat' apply And.intro) <;> (try simp only [reduceIte, Nat.reduceEqDiff, true_and, false_and, and_true, and_false]) <;> (repeat' split) <;> omega
  · clear j3 j4 j14 j15 k1 k2 k3 k4; (repeat' apply And.intro) <;> (try simp only [reduceIte, Nat.reduceEqDiff, true_and, false_and, and_true, and_false]) <;> (repeat' split) <;> omega
  · clear j3 j4 j14 j15 k1 k2 k3 k4; (repeat' apply And.intro) <;> (try simp only [reduceIte, Nat.reduceEqDiff, true_and, false_and, and_true, and_false]) <;> (repeat' split) <;> omega
  · clear j3 j4 j14 j15 k1 k2 k3 k4; (repeat' apply And.intro) <;> (try simp only [reduceIte, Nat.reduceEqDiff, true_and, false_and, and_true, and_false]) <;> (repeat' split) <;> omega
  · clear j3 j4 j14 j15 k1 k2 k3 k4; (repeat' apply And.intro) <;> (try simp only [reduceIte, Nat.reduceEqDiff, true_and, false_and, and_true, and_false]) <;> (repeat' split) <;> omega
  · clear j3 j4 j14 j15 k1 k2 k3 k4; (repeat' apply And.intro) <;> (try simp only [reduceIte, Nat.reduceEqDiff, true_and, false_and, and_true, and_false]) <;> (repeat' split) <;> omega
  · clear j3 j4 j14 j15 k1 k2 k3 k4; (repeat' apply And.intro) <;> (try simp only [reduceIte, Nat.reduceEqDiff, true_and, false_and, and_true, and_false]) <;> (repeat' split) <;> omega
  · clear j3 j4 j14 j15 k1 k2 k3 k4; (repeat' apply And.intro) <;> (try simp only [reduceIte, Nat.reduceEqDiff, true_and, false_and, and_true, and_false]) <;> (repeat' split) <;> omega
  · have q1 := j3 p; have q2 := k1 p; clear j3 j4 j14 j15 k1 k2 k3 k4; (try simp only [reduceIte] at hp); (repeat' split at hp) <;> (repeat' apply And.intro) <;> (try simp only [reduceIte, Nat.reduceEqDiff, true_and, false_and, and_true, and_false]) <;> (repeat' split) <;> omega
  · have q1 := j4 t; have q2 := k2 t; clear j3 j4 j14 j15 k1 k2 k3 k4; (repeat' apply And.intro) <;> (try simp only [reduceIte, Nat.reduceEqDiff, true_and, false_and, and_true, and_false]) <;> (repeat' split) <;> omega
  · have q1 := j14 i; have q2 := k3 i; clear j3 j4 j14 j15 k1 k2 k3 k4; (try simp only [Nat.add_sub_cancel_left] at q4 ⊢); (try simp only [reduceIte] at hi); (repeat' split at hi) <;> (repeat' apply And.intro) <;> (try simp only [reduceIte, Nat.reduceEqDiff, true_and, false_and, and_true, and_false]) <;> (repeat' split) <;> omega
  · have q1 := j15 p; have q2 := k4 p; clear j3 j4 j14 j15 k1 k2 k3 k4; (repeat' apply And.intro) <;> (try simp only [reduceIte, Nat.reduceEqDiff, true_and, false_and, and_true, and_false]) <;> (repeat' split) <;> omega
theorem J_pock (H : JobR I A al) (hx : 1 ≤ x ∧ x ≤ 3) (hv : 0 ≤ v ∧ v ≤ 4) (hI : ∀ k, I' k = if k = 6 then v else if k = 5 then x else I k) (hA : ∀ o j, A' o j = A o j) (hal : ∀ k, al' k = if k = 25 then v else if k = 24 then x else al k) : JobR I' A' al' := by
  obtain ⟨⟨⟨j1, j2⟩, j3, j4, j5, j6, j7, j8, j9, j10, j11, ⟨j12, j13⟩, j14, j15⟩, e0, e5, e6, e7, e8, e9, e10, e11, e12, k1, k2, k3, k4⟩ := H
  unfold JobR JobOK
  simp only [hI, hA, hal]
  clear hI hA hal
  refine ⟨⟨?_, fun p hp => ?_, fun t ht => ?_, ?_, ?_, ?_, ?_, ?_, ?_, ?_, ?_, fun i hi => ?_, fun p hp => ?_⟩, ?_, ?_, ?_, ?_, ?_, ?_, ?_, ?_, ?_, fun p hp => ?_, fun t ht => ?_, fun i hi => ?_, fun p hp => ?_⟩
  · clear j3 j4 j14 j15 k1 k2 k3 k4; (repeat' apply And.intro) <;> (try simp only [reduceIte, Nat.reduceEqDiff, true_and, false_and, and_true, and_false]) <;> (repeat' split) <;> omega
  · have q1 := j3 p; have q2 := k1 p; clear j3 j4 j14 j15 k1 k2 k3 k4; (try simp only [reduceIte] at hp); (repeat' split at hp) <;> (repeat' apply And.intro) <;> (try simp only [reduceIte, Nat.reduceEqDiff, true_and, false_and, and_true, and_false]) <;> (repeat' split) <;> omega
  · have q1 := j4 t; have q2 := k2 t; clear j3 j4 j14 j15 k1 k2 k3 k4; (repeat' apply And.intro) <;> (try simp only [reduceIte, Nat.reduceEqDiff, true_and, false_and, and_true, and_false]) <;> (repeat' split) <;> omega
  · clear j3 j4 j14 j15 k1 k2 k3 k4; (repeat' apply And.intro) <;> (try simp only [reduceIte, Nat.reduceEqDiff, true_and, false_and, and_true, and_false]) <;> (repeat' split) <;> omega
  · clear j3 j4 j14 j15 k1 k2 k3 k4; (repeat' apply And.intro) <;> (try simp only [reduceIte, Nat.reduceEqDiff, true_and, false_and, and_true, and_false]) <;> (repeat' split) <;> omega
  · clear j3 j4 j14 j15 k1 k2 k3 k4; (repeat' apply And.intro) <;> (try simp only [reduceIte, Nat.reduceEqDiff, true_and, false_and, and_true, and_false]) <;> (repeat' split) <;> omega
  · clear j3 j4 j14 j15 k1 k2 k3 k4; (repeat' apply And.intro) <;> (try simp only [reduceIte, Nat.reduceEqDiff, true_and, false_and, and_true, and_false]) <;> (repeat' split) <;> omega
  · clear j3 j4 j14 j15 k1 k2 k3 k4; (repeat' apply And.intro) <;> (try simp only [reduceIte, Nat.reduceEqDiff, true_and, false_and, and_true, and_false]) <;> (repeat' split) <;> omega
  · clear j3 j4 j14 j15 k1 k2 k3 k4; (repeat' apply And.intro) <;> (try simp only [reduceIte, Nat.reduceEqDiff, true_and, false_and, and_true, and_false]) <;> (repeat' split) <;> omega
  · clear j3 j4 j14 j15 k1 k2 k3 k4; (repeat' apply And.intro) <;> (try simp only [reduceIte, Nat.reduceEqDiff, true_and, false_and, and_true, and_false]) <;> (repeat' split) <;> omega
  · clear j3 j4 j14 j15 k1 k2 k3 k4; (repeat' apply And.intro) <;> (try simp only [reduceIte, Nat.reduceEqDiff, true_and, false_and, and_true, and_false]) <;> (repeat' split) <;> omega
  · have q1 := j14 i; have q2 := k3 i; clear j3 j4 j14 j15 k1 k2 k3 k4; (try simp only [Nat.add_sub_cancel_left] at q4 ⊢); (try simp only [reduceIte] at hi); (repeat' split at hi) <;> (repeat' apply And.intro) <;> (try simp only [reduceIte, Nat.reduceEqDiff, true_and, false_and, and_true, and_false]) <;> (repeat' split) <;> omega
  · have q1 := j15 p; have q2 := k4 p; clear j3 j4 j14 j15 k1 k2 k3 k4; (repeat' apply And.intro) <;> (try simp only [reduceIte, Nat.reduceEqDiff, true_and, false_and, and_true, and_false]) <;> (repeat' split) <;> omega
  · clear j3 j4 j14 j15 k1 k2 k3 k4; (repeat' apply And.intro) <;> (try simp only [reduceIte, Nat.reduceEqDiff, true_and, false_and, and_true, and_false]) <;> (repeat' split) <;> omega
  · clear j3 j4 j14 j15 k1 k2 k3 k4; (repeat' apply And.intro) <;> (try simp only [reduceIte, Nat.reduceEqDiff, true_and, false_and, and_true, and_false]) <;> (repeat' split) <;> omega
  · clear j3 j4 j14 j15 k1 k2 k3 k4; (repeat' apply And.intro) <;> (try simp only [reduceIte, Nat.reduceEqDiff, true_and, false_and, and_true, and_false]) <;> (repeat' split) <;> omega
  · clear j3 j4 j14 j15 k1 k2 k3 k4; (repeat' apply And.intro) <;> (try simp only [reduceIte, Nat.reduceEqDiff, true_and, false_and, and_true, and_false]) <;> (repeat' split) <;> omega
  · clear j3 j4 j14 j15 k1 k2 k3 k4; (repeat' apply And.intro) <;> (try simp only [reduceIte, Nat.reduceEqDiff, true_and, false_and, and_true, and_false]) <;> (repeat' split) <;> omega
  · clear j3 j4 j14 j15 k1 k2 k3 k4; (repeat' apply And.intro) <;> (try simp only [reduceIte, Nat.reduceEqDiff, true_and, false_and, and_true, and_false]) <;> (repeat' split) <;> omega
  · clear j3 j4 j14 j15 k1 k2 k3 k4; (repeat' apply And.intro) <;> (try simp only [reduceIte, Nat.reduceEqDiff, true_and, false_and, and_true, and_false]) <;> (repeat' split) <;> omega
  · clear j3 j4 j14 j15 k1 k2 k3 k4; (repeat' apply And.intro) <;> (try simp only [reduceIte, Nat.reduceEqDiff, true_and, false_and, and_true, and_false]) <;> (repeat' split) <;> omega
  · clear j3 j4 j14 j15 k1 k2 k3 k4; (repeat' apply And.intro) <;> (try simp only [reduceIte, Nat.reduceEqDiff, true_and, false_and, and_true, and_false]) <;> (repeat' split) <;> omega
  · have q1 := j3 p; have q2 := k1 p; clear j3 j4 j14 j15 k1 k2 k3 k4; (try simp only [reduceIte] at hp); (repeat' split at hp) <;> (repeat' apply And.intro) <;> (try simp only [reduceIte, Nat.reduceEqDiff, true_and, false_and, and_true, and_false]) <;> (repeat' split) <;> omega
  · have q1 := j4 t; have q2 := k2 t; clear j3 j4 j14 j15 k1 k2 k3 k4; (repeat' apply And.intro) <;> (try simp only [reduceIte, Nat.reduceEqDiff, true_and, false_and, and_true, and_false]) <;> (repeat' split) <;> omega
  · have q1 := j14 i; have q2 := k3 i; clear j3 j4 j14 j15 k1 k2 k3 k4; (try simp only [Nat.add_sub_cancel_left] at q4 ⊢); (try simp only [reduceIte] at hi); (repeat' split at hi) <;> (repeat' apply And.intro) <;> (try simp only [reduceIte, Nat.reduceEqDiff, true_and, false_and, and_true, and_false]) <;> (repeat' split) <;> omega
  · have q1 := j15 p; have q2 := k4 p; clear j3 j4 j14 j15 k1 k2 k3 k4; (repeat' apply And.intro) <;> (try simp only [reduceIte, Nat.reduceEqDiff, true_and, false_and, and_true, and_false]) <;> (repeat' split) <;> omega
theorem J_heat (H : JobR I A al) (hx : 0 ≤ x ∧ x ≤ 30) (hy : 0 ≤ y ∧ y ≤ 30) (hz : 0 ≤ z ∧ z ≤ 10) (hw : 1 ≤ w ∧ w ≤ 10) (hI : ∀ k, I' k = if k = 10 then w else if k = 9 then z else if k = 8 then y else if k = 7 then x else I k) (hA : ∀ o j, A' o j = A o j) (hal : ∀ k, al' k = if k = 29 then w else if k = 28 then z else if k = 27 then y else if k = 26 then x else al k) : JobR I' A' al' := by
  obtain ⟨⟨⟨j1, j2⟩, j3, j4, j5, j6, j7, j8, j9, j10, j11, ⟨j12, j13⟩, j14, j15⟩, e0, e5, e6, e7, e8, e9, e10, e11, e12, k1, k2, k3, k4⟩ := H
  unfold JobR JobOK
  simp only [hI, hA, hal]
  clear hI hA hal
  refine ⟨⟨?_, fun p hp => ?_, fun t ht => ?_, ?_, ?_, ?_, ?_, ?_, ?_, ?_, ?_, fun i hi => ?_, fun p hp => ?_⟩, ?_, ?_, ?_, ?_, ?_, ?_, ?_, ?_, ?_, fun p hp => ?_, fun t ht => ?_, fun i hi => ?_, fun p hp => ?_⟩
  · clear j3 j4 j14 j15 k1 k2 k3 k4; (repeat' apply And.intro) <;> (try simp only [reduceIte, Nat.reduceEqDiff, true_and, false_and, and_true, and_false]) <;> (repeat' split) <;> omega
  · have q1 := j3 p; have q2 := k1 p; clear j3 j4 j14 j15 k1 k2 k3 k4; (try simp only [reduceIte] at hp); (repeat' split at hp) <;> (repeat' apply And.intro) <;> (try simp only [reduceIte, Nat.reduceEqDiff, true_and, false_and, and_true, and_false]) <;> (repeat' split) <;> omega
  · have q1 := j4 t; have q2 := k2 t; clear j3 j4 j14 j15 k1 k2 k3 k4; (repeat' apply And.intro) <;> (try simp only [reduceIte, Nat.reduceEqDiff, true_and, false_and, and_true, and_false]) <;> (repeat' split) <;> omega
  · clear j3 j4 j14 j15 k1 k2 k3 k4; (repeat' apply And.intro) <;> (try simp only [reduceIte, Nat.reduceEqDiff, true_and, false_and, and_true, and_false]) <;> (repeat' split) <;> omega
  · clear j3 j4 j14 j15 k1 k2 k3 k4; (repeat' apply And.intro) <;> (try simp only [reduceIte, Nat.reduceEqDiff, true_and, false_and, and_true, and_false]) <;> (repeat' split) <;> omega
  · clear j3 j4 j14 j15 k1 k2 k3 k4; (repeat' apply And.intro) <;> (try simp only [reduceIte, Nat.reduceEqDiff, true_and, false_and, and_true, and_false]) <;> (repeat' split) <;> omega
  · clear j3 j4 j14 j15 k1 k2 k3 k4; (repeat' apply And.intro) <;> (try simp only [reduceIte, Nat.reduceEqDiff, true_and, false_and, and_true, and_false]) <;> (repeat' split) <;> omega
  · clear j3 j4 j14 j15 k1 k2 k3 k4; (repeat' apply And.intro) <;> (try simp only [reduceIte, Nat.reduceEqDiff, true_and, false_and, and_true, and_false]) <;> (repeat' split) <;> omega
  · clear j3 j4 j14 j15 k1 k2 k3 k4; (repeat' apply And.intro) <;> (try simp only [reduceIte, Nat.reduceEqDiff, true_and, false_and, and_true, and_false]) <;> (repeat' split) <;> omega
  · clear j3 j4 j14 j15 k1 k2 k3 k4; (repeat' apply And.intro) <;> (try simp only [reduceIte, Nat.reduceEqDiff, true_and, false_and, and_true, and_false]) <;> (repeat' split) <;> omega
  · clear j3 j4 j14 j15 k1 k2 k3 k4; (repeat' apply And.intro) <;> (try simp only [reduceIte, Nat.reduceEqDiff, true_and, false_and, and_true, and_false]) <;> (repeat' split) <;> omega
  · have q1 := j14 i; have q2 := k3 i; clear j3 j4 j14 j15 k1 k2 k3 k4; (try simp only [Nat.add_sub_cancel_left] at q4 ⊢); (try simp only [reduceIte] at hi); (repeat' split at hi) <;> (repeat' apply And.intro) <;> (try simp only [reduceIte, Nat.reduceEqDiff, true_and, false_and, and_true, and_false]) <;> (repeat' split) <;> omega
  · have q1 := j15 p; have q2 := k4 p; clear j3 j4 j14 j15 k1 k2 k3 k4; (repeat' apply And.intro) <;> (try simp only [reduceIte, Nat.reduceEqDiff, true_and, false_and, and_true, and_false]) <;> (repeat' split) <;> omega
  · clear j3 j4 j14 j15 k1 k2 k3 k4; (repeat' apply And.intro) <;> (try simp only [reduceIte, Nat.reduceEqDiff, true_and, false_and, and_true, and_false]) <;> (repeat' split) <;> omega
  · clear j3 j4 j14 j15 k1 k2 k3 k4; (repeat' apply And.intro) <;> (try simp only [reduceIte, Nat.reduceEqDiff, true_and, false_and, and_true, and_false]) <;> (repeat' split) <;> omega
  · clear j3 j4 j14 j15 k1 k2 k3 k4; (repeat' apply And.intro) <;> (try simp only [reduceIte, Nat.reduceEqDiff, true_and, false_and, and_true, and_false]) <;> (repeat' split) <;> omega
  · clear j3 j4 j14 j15 k1 k2 k3 k4; (repeat' apply And.intro) <;> (try simp only [reduceIte, Nat.reduceEqDiff, true_and, false_and, and_true, and_false]) <;> (repeat' split) <;> omega
  · clear j3 j4 j14 j15 k1 k2 k3 k4; (repeat' apply And.intro) <;> (try simp only [reduceIte, Nat.reduceEqDiff, true_and, false_and, and_true, and_false]) <;> (repeat' split) <;> omega
  · clear j3 j4 j14 j15 k1 k2 k3 k4; (repeat' apply And.intro) <;> (try simp only [reduceIte, Nat.reduceEqDiff, true_and, false_and, and_true, and_false]) <;> (repeat' split) <;> omega
  · clear j3 j4 j14 j15 k1 k2 k3 k4; (repeat' apply And.intro) <;> (try simp only [reduceIte, Nat.reduceEqDiff, true_and, false_and, and_true, and_false]) <;> (repeat' split) <;> omega
  · clear j3 j4 j14 j15 k1 k2 k3 k4; (repeat' apply And.intro) <;> (try simp only [reduceIte, Nat.reduceEqDiff, true_and, false_and, and_true, and_false]) <;> (repeat' split) <;> omega
  · clear j3 j4 j14 j15 k1 k2 k3 k4; (repeat' apply And.intro) <;> (try simp only [reduceIte, Nat.reduceEqDiff, true_and, false_and, and_true, and_false]) <;> (repeat' split) <;> omega
  · have q1 := j3 p; have q2 := k1 p; clear j3 j4 j14 j15 k1 k2 k3 k4; (try simp only [reduceIte] at hp); (repeat' split at hp) <;> (repeat' apply And.intro) <;> (try simp only [reduceIte, Nat.reduceEqDiff, true_and, false_and, and_true, and_false]) <;> (repeat' split) <;> omega
  · have q1 := j4 t; have q2 := k2 t; clear j3 j4 j14 j15 k1 k2 k3 k4; (repeat' apply And.intro) <;> (try simp only [reduceIte, Nat.reduceEqDiff, true_and, false_and, and_true, and_false]) <;> (repeat' split) <;> omega
  · have q1 := j14 i; have q2 := k3 i; clear j3 j4 j14 j15 k1 k2 k3 k4; (try simp only [Nat.add_sub_cancel_left] at q4 ⊢); (try simp only [reduceIte] at hi); (repeat' split at hi) <;> (repeat' apply And.intro) <;> (try simp only [reduceIte, Nat.reduceEqDiff, true_and, false_and, and_true, and_false]) <;> (repeat' split) <;> omega
  · have q1 := j15 p; have q2 := k4 p; clear j3 j4 j14 j15 k1 k2 k3 k4; (repeat' apply And.intro) <;> (try simp only [reduceIte, Nat.reduceEqDiff, true_and, false_and, and_true, and_false]) <;> (repeat' split) <;> omega
theorem J_copi (H : JobR I A al) (hx : 1 ≤ x ∧ x ≤ 40) (hI : ∀ k, I' k = if k = 11 then x else I k) (hA : ∀ o j, A' o j = A o j) (hal : ∀ k, al' k = if k = 30 then x else al k) : JobR I' A' al' := by
  obtain ⟨⟨⟨j1, j2⟩, j3, j4, j5, j6, j7, j8, j9, j10, j11, ⟨j12, j13⟩, j14, j15⟩, e0, e5, e6, e7, e8, e9, e10, e11, e12, k1, k2, k3, k4⟩ := H
  unfold JobR JobOK
  simp only [hI, hA, hal]
  clear hI hA hal
  refine ⟨⟨?_, fun p hp => ?_, fun t ht => ?_, ?_, ?_, ?_, ?_, ?_, ?_, ?_, ?_, fun i hi => ?_, fun p hp => ?_⟩, ?_, ?_, ?_, ?_, ?_, ?_, ?_, ?_, ?_, fun p hp => ?_, fun t ht => ?_, fun i hi => ?_, fun p hp => ?_⟩
  · clear j3 j4 j14 j15 k1 k2 k3 k4; (repeat' apply And.intro) <;> (try simp only [reduceIte, Nat.reduceEqDiff, true_and, false_and, and_true, and_false]) <;> (repeat' split) <;> omega
  · have q1 := j3 p; have q2 := k1 p; clear j3 j4 j14 j15 k1 k2 k3 k4; (try simp only [reduceIte] at hp); (repeat' split at hp) <;> (repeat' apply And.intro) <;> (try simp only [reduceIte, Nat.reduceEqDiff, true_and, false_and, and_true, and_false]) <;> (repeat' split) <;> omega
  · have q1 := j4 t; have q2 := k2 t; clear j3 j4 j14 j15 k1 k2 k3 k4; (repeat' apply And.intro) <;> (try simp only [reduceIte, Nat.reduceEqDiff, true_and, false_and, and_true, and_false]) <;> (repeat' split) <;> omega
  · clear j3 j4 j14 j15 k1 k2 k3 k4; (repeat' apply And.intro) <;> (try simp only [reduceIte, Nat.reduceEqDiff, true_and, false_and, and_true, and_false]) <;> (repeat' split) <;> omega
  · clear j3 j4 j14 j15 k1 k2 k3 k4; (repeat' apply And.intro) <;> (try simp only [reduceIte, Nat.reduceEqDiff, true_and, false_and, and_true, and_false]) <;> (repeat' split) <;> omega
  · clear j3 j4 j14 j15 k1 k2 k3 k4; (repeat' apply And.intro) <;> (try simp only [reduceIte, Nat.reduceEqDiff, true_and, false_and, and_true, and_false]) <;> (repeat' split) <;> omega
  · clear j3 j4 j14 j15 k1 k2 k3 k4; (repeat' apply And.intro) <;> (try simp only [reduceIte, Nat.reduceEqDiff, true_and, false_and, and_true, and_false]) <;> (repeat' split) <;> omega
  · clear j3 j4 j14 j15 k1 k2 k3 k4; (repeat' apply And.intro) <;> (try simp only [reduceIte, Nat.reduceEqDiff, true_and, false_and, and_true, and_false]) <;> (repeat' split) <;> omega
  · clear j3 j4 j14 j15 k1 k2 k3 k4; (repeat' apply And.intro) <;> (try simp only [reduceIte, Nat.reduceEqDiff, true_and, false_and, and_true, and_false]) <;> (repeat' split) <;> omega
  · clear j3 j4 j14 j15 k1 k2 k3 k4; (repeat' apply And.intro) <;> (try simp only [reduceIte, Nat.reduceEqDiff, true_and, false_and, and_true, and_false]) <;> (repeat' split) <;> omega
  · clear j3 j4 j14 j15 k1 k2 k3 k4; (repeat' apply And.intro) <;> (try simp only [reduceIte, Nat.reduceEqDiff, true_and, false_and, and_true, and_false]) <;> (repeat' split) <;> omega
  · have q1 := j14 i; have q2 := k3 i; clear j3 j4 j14 j15 k1 k2 k3 k4; (try simp only [Nat.add_sub_cancel_left] at q4 ⊢); (try simp only [reduceIte] at hi); (repeat' split at hi) <;> (repeat' apply And.intro) <;> (try simp only [reduceIte, Nat.reduceEqDiff, true_and, false_and, and_true, and_false]) <;> (repeat' split) <;> omega
  · have q1 := j15 p; have q2 := k4 p; clear j3 j4 j14 j15 k1 k2 k3 k4; (repeat' apply And.intro) <;> (try simp only [reduceIte, Nat.reduceEqDiff, true_and, false_and, and_true, and_false]) <;> (repeat' split) <;> omega
  · clear j3 j4 j14 j15 k1 k2 k3 k4; (repeat' apply And.intro) <;> (try simp only [reduceIte, Nat.reduceEqDiff, true_and, false_and, and_true, and_false]) <;> (repeat' split) <;> omega
  · clear j3 j4 j14 j15 k1 k2 k3 k4; (repeat' apply And.intro) <;> (try simp only [reduceIte, Nat.reduceEqDiff, true_and, false_and, and_true, and_false]) <;> (repeat' split) <;> omega
  · clear j3 j4 j14 j15 k1 k2 k3 k4; (repeat' apply And.intro) <;> (try simp only [reduceIte, Nat.reduceEqDiff, true_and, false_and, and_true, and_false]) <;> (repeat' split) <;> omega
  · clear j3 j4 j14 j15 k1 k2 k3 k4; (repeat' apply And.intro) <;> (try simp only [reduceIte, Nat.reduceEqDiff, true_and, false_and, and_true, and_false]) <;> (repeat' split) <;> omega
  · clear j3 j4 j14 j15 k1 k2 k3 k4; (repeat' apply And.intro) <;> (try simp only [reduceIte, Nat.reduceEqDiff, true_and, false_and, and_true, and_false]) <;> (repeat' split) <;> omega
  · clear j3 j4 j14 j15 k1 k2 k3 k4; (repeat' apply And.intro) <;> (try simp only [reduceIte, Nat.reduceEqDiff, true_and, false_and, and_true, and_false]) <;> (repeat' split) <;> omega
  · clear j3 j4 j14 j15 k1 k2 k3 k4; (repeat' apply And.intro) <;> (try simp only [reduceIte, Nat.reduceEqDiff, true_and, false_and, and_true, and_false]) <;> (repeat' split) <;> omega
  · clear j3 j4 j14 j15 k1 k2 k3 k4; (repeat' apply And.intro) <;> (try simp only [reduceIte, Nat.reduceEqDiff, true_and, false_and, and_true, and_false]) <;> (repeat' split) <;> omega
  · clear j3 j4 j14 j15 k1 k2 k3 k4; (repeat' apply And.intro) <;> (try simp only [reduceIte, Nat.reduceEqDiff, true_and, false_and, and_true, and_false]) <;> (repeat' split) <;> omega
  · have q1 := j3 p; have q2 := k1 p; clear j3 j4 j14 j15 k1 k2 k3 k4; (try simp only [reduceIte] at hp); (repeat' split at hp) <;> (repeat' apply And.intro) <;> (try simp only [reduceIte, Nat.reduceEqDiff, true_and, false_and, and_true, and_false]) <;> (repeat' split) <;> omega
  · have q1 := j4 t; have q2 := k2 t; clear j3 j4 j14 j15 k1 k2 k3 k4; (repeat' apply And.intro) <;> (try simp only [reduceIte, Nat.reduceEqDiff, true_and, false_and, and_true, and_false]) <;> (repeat' split) <;> omega
  · have q1 := j14 i; have q2 := k3 i; clear j3 j4 j14 j15 k1 k2 k3 k4; (try simp only [Nat.add_sub_cancel_left] at q4 ⊢); (try simp only [reduceIte] at hi); (repeat' split at hi) <;> (repeat' apply And.intro) <;> (try simp only [reduceIte, Nat.reduceEqDiff, true_and, false_and, and_true, and_false]) <;> (repeat' split) <;> omega
  · have q1 := j15 p; have q2 := k4 p; clear j3 j4 j14 j15 k1 k2 k3 k4; (repeat' apply And.intro) <;> (try simp only [reduceIte, Nat.reduceEqDiff, true_and, false_and, and_true, and_false]) <;> (repeat' split) <;> omega
theorem J_out (H : JobR I A al) (hm : al 32 = (m : Int)) (m6 : m < 60) (hx : 0 ≤ x ∧ x < al 31) (hI : ∀ k, I' k = if k = 12 then ((m + 1 : Nat) : Int) else I k) (hA : ∀ o j, A' o j = if o = 14 ∧ j = m then x else A o j) (hal : ∀ k, al' k = if k = 32 then ((m + 1 : Nat) : Int) else if k = 33 + m then x else al k) : JobR I' A' al' := by
  obtain ⟨⟨⟨j1, j2⟩, j3, j4, j5, j6, j7, j8, j9, j10, j11, ⟨j12, j13⟩, j14, j15⟩, e0, e5, e6, e7, e8, e9, e10, e11, e12, k1, k2, k3, k4⟩ := H
  unfold JobR JobOK
  simp only [hI, hA, hal]
  clear hI hA hal
  refine ⟨⟨?_, fun p hp => ?_, fun t ht => ?_, ?_, ?_, ?_, ?_, ?_, ?_, ?_, ?_, fun i hi => ?_, fun p hp => ?_⟩, ?_, ?_, ?_, ?_, ?_, ?_, ?_, ?_, ?_, fun p hp => ?_, fun t ht => ?_, fun i hi => ?_, fun p hp => ?_⟩
  · clear j3 j4 j14 j15 k1 k2 k3 k4; (repeat' apply And.intro) <;> (try simp only [reduceIte, Nat.reduceEqDiff, true_and, false_and, and_true, and_false]) <;> (repeat' split) <;> omega
  · have q1 := j3 p; have q2 := k1 p; clear j3 j4 j14 j15 k1 k2 k3 k4; (try simp only [reduceIte] at hp); (repeat' split at hp) <;> (repeat' apply And.intro) <;> (try simp only [reduceIte, Nat.reduceEqDiff, true_and, false_and, and_true, and_false]) <;> (repeat' split) <;> omega
  · have q1 := j4 t; have q2 := k2 t; clear j3 j4 j14 j15 k1 k2 k3 k4; (repeat' apply And.intro) <;> (try simp only [reduceIte, Nat.reduceEqDiff, true_and, false_and, and_true, and_false]) <;> (repeat' split) <;> omega
  · clear j3 j4 j14 j15 k1 k2 k3 k4; (repeat' apply And.intro) <;> (try simp only [reduceIte, Nat.reduceEqDiff, true_and, false_and, and_true, and_false]) <;> (repeat' split) <;> omega
  · clear j3 j4 j14 j15 k1 k2 k3 k4; (repeat' apply And.intro) <;> (try simp only [reduceIte, Nat.reduceEqDiff, true_and, false_and, and_true, and_false]) <;> (repeat' split) <;> omega
  · clear j3 j4 j14 j15 k1 k2 k3 k4; (repeat' apply And.intro) <;> (try simp only [reduceIte, Nat.reduceEqDiff, true_and, false_and, and_true, and_false]) <;> (repeat' split) <;> omega
  · clear j3 j4 j14 j15 k1 k2 k3 k4; (repeat' apply And.intro) <;> (try simp only [reduceIte, Nat.reduceEqDiff, true_and, false_and, and_true, and_false]) <;> (repeat' split) <;> omega
  · clear j3 j4 j14 j15 k1 k2 k3 k4; (repeat' apply And.intro) <;> (try simp only [reduceIte, Nat.reduceEqDiff, true_and, false_and, and_true, and_false]) <;> (repeat' split) <;> omega
  · clear j3 j4 j14 j15 k1 k2 k3 k4; (repeat' apply And.intro) <;> (try simp only [reduceIte, Nat.reduceEqDiff, true_and, false_and, and_true, and_false]) <;> (repeat' split) <;> omega
  · clear j3 j4 j14 j15 k1 k2 k3 k4; (repeat' apply And.intro) <;> (try simp only [reduceIte, Nat.reduceEqDiff, true_and, false_and, and_true, and_false]) <;> (repeat' split) <;> omega
  · clear j3 j4 j14 j15 k1 k2 k3 k4; (repeat' apply And.intro) <;> (try simp only [reduceIte, Nat.reduceEqDiff, true_and, false_and, and_true, and_false]) <;> (repeat' split) <;> omega
  · have q1 := j14 i; have q2 := k3 i; clear j3 j4 j14 j15 k1 k2 k3 k4; (try simp only [Nat.add_sub_cancel_left] at q4 ⊢); (try simp only [reduceIte] at hi); (repeat' split at hi) <;> (repeat' apply And.intro) <;> (try simp only [reduceIte, Nat.reduceEqDiff, true_and, false_and, and_true, and_false]) <;> (repeat' split) <;> omega
  · have q1 := j15 p; have q2 := k4 p; clear j3 j4 j14 j15 k1 k2 k3 k4; (repeat' apply And.intro) <;> (try simp only [reduceIte, Nat.reduceEqDiff, true_and, false_and, and_true, and_false]) <;> (repeat' split) <;> omega
  · clear j3 j4 j14 j15 k1 k2 k3 k4; (repeat' apply And.intro) <;> (try simp only [reduceIte, Nat.reduceEqDiff, true_and, false_and, and_true, and_false]) <;> (repeat' split) <;> omega
  · clear j3 j4 j14 j15 k1 k2 k3 k4; (repeat' apply And.intro) <;> (try simp only [reduceIte, Nat.reduceEqDiff, true_and, false_and, and_true, and_false]) <;> (repeat' split) <;> omega
  · clear j3 j4 j14 j15 k1 k2 k3 k4; (repeat' apply And.intro) <;> (try simp only [reduceIte, Nat.reduceEqDiff, true_and, false_and, and_true, and_false]) <;> (repeat' split) <;> omega
  · clear j3 j4 j14 j15 k1 k2 k3 k4; (repeat' apply And.intro) <;> (try simp only [reduceIte, Nat.reduceEqDiff, true_and, false_and, and_true, and_false]) <;> (repeat' split) <;> omega
  · clear j3 j4 j14 j15 k1 k2 k3 k4; (repeat' apply And.intro) <;> (try simp only [reduceIte, Nat.reduceEqDiff, true_and, false_and, and_true, and_false]) <;> (repeat' split) <;> omega
  · clear j3 j4 j14 j15 k1 k2 k3 k4; (repeat' apply And.intro) <;> (try simp only [reduceIte, Nat.reduceEqDiff, true_and, false_and, and_true, and_false]) <;> (repeat' split) <;> omega
  · clear j3 j4 j14 j15 k1 k2 k3 k4; (repeat' apply And.intro) <;> (try simp only [reduceIte, Nat.reduceEqDiff, true_and, false_and, and_true, and_false]) <;> (repeat' split) <;> omega
  · clear j3 j4 j14 j15 k1 k2 k3 k4; (repeat' apply And.intro) <;> (try simp only [reduceIte, Nat.reduceEqDiff, true_and, false_and, and_true, and_false]) <;> (repeat' split) <;> omega
  · clear j3 j4 j14 j15 k1 k2 k3 k4; (repeat' apply And.intro) <;> (try simp only [reduceIte, Nat.reduceEqDiff, true_and, false_and, and_true, and_false]) <;> (repeat' split) <;> omega
  · have q1 := j3 p; have q2 := k1 p; clear j3 j4 j14 j15 k1 k2 k3 k4; (try simp only [reduceIte] at hp); (repeat' split at hp) <;> (repeat' apply And.intro) <;> (try simp only [reduceIte, Nat.reduceEqDiff, true_and, false_and, and_true, and_false]) <;> (repeat' split) <;> omega
  · have q1 := j4 t; have q2 := k2 t; clear j3 j4 j14 j15 k1 k2 k3 k4; (repeat' apply And.intro) <;> (try simp only [reduceIte, Nat.reduceEqDiff, true_and, false_and, and_true, and_false]) <;> (repeat' split) <;> omega
  · have q1 := j14 i; have q2 := k3 i; clear j3 j4 j14 j15 k1 k2 k3 k4; (try simp only [Nat.add_sub_cancel_left] at q4 ⊢); (try simp only [reduceIte] at hi); (repeat' split at hi) <;> (repeat' apply And.intro) <;> (try simp only [reduceIte, Nat.reduceEqDiff, true_and, false_and, and_true, and_false]) <;> (repeat' split) <;> omega
  · have q1 := j15 p; have q2 := k4 p; clear j3 j4 j14 j15 k1 k2 k3 k4; (repeat' apply And.intro) <;> (try simp only [reduceIte, Nat.reduceEqDiff, true_and, false_and, and_true, and_false]) <;> (repeat' split) <;> omega
theorem J_empt (H : JobR I A al)  (hI : ∀ k, I' k = if k = 12 then 0 else I k) (hA : ∀ o j, A' o j = A o j) (hal : ∀ k, al' k = if k = 32 then 0 else al k) : JobR I' A' al' := by
  obtain ⟨⟨⟨j1, j2⟩, j3, j4, j5, j6, j7, j8, j9, j10, j11, ⟨j12, j13⟩, j14, j15⟩, e0, e5, e6, e7, e8, e9, e10, e11, e12, k1, k2, k3, k4⟩ := H
  unfold JobR JobOK
  simp only [hI, hA, hal]
  clear hI hA hal
  refine ⟨⟨?_, fun p hp => ?_, fun t ht => ?_, ?_, ?_, ?_, ?_, ?_, ?_, ?_, ?_, fun i hi => ?_, fun p hp => ?_⟩, ?_, ?_, ?_, ?_, ?_, ?_, ?_, ?_, ?_, fun p hp => ?_, fun t ht => ?_, fun i hi => ?_, fun p hp => ?_⟩
  · clear j3 j4 j14 j15 k1 k2 k3 k4; (repeat' apply And.intro) <;> (try simp only [reduceIte, Nat.reduceEqDiff, true_and, false_and, and_true, and_false]) <;> (repeat' split) <;> omega
  · have q1 := j3 p; have q2 := k1 p; clear j3 j4 j14 j15 k1 k2 k3 k4; (try simp only [reduceIte] at hp); (repeat' split at hp) <;> (repeat' apply And.intro) <;> (try simp only [reduceIte, Nat.reduceEqDiff, true_and, false_and, and_true, and_false]) <;> (repeat' split) <;> omega
  · have q1 := j4 t; have q2 := k2 t; clear j3 j4 j14 j15 k1 k2 k3 k4; (repeat' apply And.intro) <;> (try simp only [reduceIte, Nat.reduceEqDiff, true_and, false_and, and_true, and_false]) <;> (repeat' split) <;> omega
  · clear j3 j4 j14 j15 k1 k2 k3 k4; (repeat' apply And.intro) <;> (try simp only [reduceIte, Nat.reduceEqDiff, true_and, false_and, and_true, and_false]) <;> (repeat' split) <;> omega
  · clear j3 j4 j14 j15 k1 k2 k3 k4; (repeat' apply And.intro) <;> (try simp only [reduceIte, Nat.reduceEqDiff, true_and, false_and, and_true, and_false]) <;> (repeat' split) <;> omega
  · clear j3 j4 j14 j15 k1 k2 k3 k4; (repeat' apply And.intro) <;> (try simp only [reduceIte, Nat.reduceEqDiff, true_and, false_and, and_true, and_false]) <;> (repeat' split) <;> omega
  · clear j3 j4 j14 j15 k1 k2 k3 k4; (repeat' apply And.intro) <;> (try simp only [reduceIte, Nat.reduceEqDiff, true_and, false_and, and_true, and_false]) <;> (repeat' split) <;> omega
  · clear j3 j4 j14 j15 k1 k2 k3 k4; (repeat' apply And.intro) <;> (try simp only [reduceIte, Nat.reduceEqDiff, true_and, false_and, and_true, and_false]) <;> (repeat' split) <;> omega
  · clear j3 j4 j14 j15 k1 k2 k3 k4; (repeat' apply And.intro) <;> (try simp only [reduceIte, Nat.reduceEqDiff, true_and, false_and, and_true, and_false]) <;> (repeat' split) <;> omega
  · clear j3 j4 j14 j15 k1 k2 k3 k4; (repeat' apply And.intro) <;> (try simp only [reduceIte, Nat.reduceEqDiff, true_and, false_and, and_true, and_false]) <;> (repeat' split) <;> omega
  · clear j3 j4 j14 j15 k1 k2 k3 k4; (repeat' apply And.intro) <;> (try simp only [reduceIte, Nat.reduceEqDiff, true_and, false_and, and_true, and_false]) <;> (repeat' split) <;> omega
  · have q1 := j14 i; have q2 := k3 i; clear j3 j4 j14 j15 k1 k2 k3 k4; (try simp only [Nat.add_sub_cancel_left] at q4 ⊢); (try simp only [reduceIte] at hi); (repeat' split at hi) <;> (repeat' apply And.intro) <;> (try simp only [reduceIte, Nat.reduceEqDiff, true_and, false_and, and_true, and_false]) <;> (repeat' split) <;> omega
  · have q1 := j15 p; have q2 := k4 p; clear j3 j4 j14 j15 k1 k2 k3 k4; (repeat' apply And.intro) <;> (try simp only [reduceIte, Nat.reduceEqDiff, true_and, false_and, and_true, and_false]) <;> (repeat' split) <;> omega
  · clear j3 j4 j14 j15 k1 k2 k3 k4; (repeat' apply And.intro) <;> (try simp only [reduceIte, Nat.reduceEqDiff, true_and, false_and, and_true, and_false]) <;> (repeat' split) <;> omega
  · clear j3 j4 j14 j15 k1 k2 k3 k4; (repeat' apply And.intro) <;> (try simp only [reduceIte, Nat.reduceEqDiff, true_and, false_and, and_true, and_false]) <;> (repeat' split) <;> omega
  · clear j3 j4 j14 j15 k1 k2 k3 k4; (repeat' apply And.intro) <;> (try simp only [reduceIte, Nat.reduceEqDiff, true_and, false_and, and_true, and_false]) <;> (repeat' split) <;> omega
  · clear j3 j4 j14 j15 k1 k2 k3 k4; (repeat' apply And.intro) <;> (try simp only [reduceIte, Nat.reduceEqDiff, true_and, false_and, and_true, and_false]) <;> (repeat' split) <;> omega
  · clear j3 j4 j14 j15 k1 k2 k3 k4; (repeat' apply And.intro) <;> (try simp only [reduceIte, Nat.reduceEqDiff, true_and, false_and, and_true, and_false]) <;> (repeat' split) <;> omega
  · clear j3 j4 j14 j15 k1 k2 k3 k4; (repeat' apply And.intro) <;> (try simp only [reduceIte, Nat.reduceEqDiff, true_and, false_and, and_true, and_false]) <;> (repeat' split) <;> omega
  · clear j3 j4 j14 j15 k1 k2 k3 k4; (repeat' apply And.intro) <;> (try simp only [reduceIte, Nat.reduceEqDiff, true_and, false_and, and_true, and_false]) <;> (repeat' split) <;> omega
  · clear j3 j4 j14 j15 k1 k2 k3 k4; (repeat' apply And.intro) <;> (try simp only [reduceIte, Nat.reduceEqDiff, true_and, false_and, and_true, and_false]) <;> (repeat' split) <;> omega
  · clear j3 j4 j14 j15 k1 k2 k3 k4; (repeat' apply And.intro) <;> (try simp only [reduceIte, Nat.reduceEqDiff, true_and, false_and, and_true, and_false]) <;> (repeat' split) <;> omega
  · have q1 := j3 p; have q2 := k1 p; clear j3 j4 j14 j15 k1 k2 k3 k4; (try simp only [reduceIte] at hp); (repeat' split at hp) <;> (repeat' apply And.intro) <;> (try simp only [reduceIte, Nat.reduceEqDiff, true_and, false_and, and_true, and_false]) <;> (repeat' split) <;> omega
  · have q1 := j4 t; have q2 := k2 t; clear j3 j4 j14 j15 k1 k2 k3 k4; (repeat' apply And.intro) <;> (try simp only [reduceIte, Nat.reduceEqDiff, true_and, false_and, and_true, and_false]) <;> (repeat' split) <;> omega
  · have q1 := j14 i; have q2 := k3 i; clear j3 j4 j14 j15 k1 k2 k3 k4; (try simp only [Nat.add_sub_cancel_left] at q4 ⊢); (try simp only [reduceIte] at hi); (repeat' split at hi) <;> (repeat' apply And.intro) <;> (try simp only [reduceIte, Nat.reduceEqDiff, true_and, false_and, and_true, and_false]) <;> (repeat' split) <;> omega
  · have q1 := j15 p; have q2 := k4 p; clear j3 j4 j14 j15 k1 k2 k3 k4; (repeat' apply And.intro) <;> (try simp only [reduceIte, Nat.reduceEqDiff, true_and, false_and, and_true, and_false]) <;> (repeat' split) <;> omega
theorem J_part (H : JobR I A al) (hm : m < 10) (hx : 0 ≤ x ∧ x ≤ 99) (hy : 1 ≤ y ∧ y ≤ 12) (hz : 0 ≤ z ∧ z ≤ 12) (hI : ∀ k, I' k = I k) (hA : ∀ o j, A' o j = if o = 18 ∧ j = m then 1 else if o = 17 ∧ j = m then z else if o = 16 ∧ j = m then y else if o = 15 ∧ j = m then x else A o j) (hal : ∀ k, al' k = if k = 123 + m then 1 else if k = 113 + m then z else if k = 103 + m then y else if k = 93 + m then x else al k) : JobR I' A' al' := by
  obtain ⟨⟨⟨j1, j2⟩, j3, j4, j5, j6, j7, j8, j9, j10, j11, ⟨j12, j13⟩, j14, j15⟩, e0, e5, e6, e7, e8, e9, e10, e11, e12, k1, k2, k3, k4⟩ := H
  unfold JobR JobOK
  simp only [hI, hA, hal]
  clear hI hA hal
  refine ⟨⟨?_, fun p hp => ?_, fun t ht => ?_, ?_, ?_, ?_, ?_, ?_, ?_, ?_, ?_, fun i hi => ?_, fun p hp => ?_⟩, ?_, ?_, ?_, ?_, ?_, ?_, ?_, ?_, ?_, fun p hp => ?_, fun t ht => ?_, fun i hi => ?_, fun p hp => ?_⟩
  · clear j3 j4 j14 j15 k1 k2 k3 k4; (repeat' apply And.intro) <;> (try simp only [reduceIte, Nat.reduceEqDiff, true_and, false_and, and_true, and_false]) <;> (repeat' split) <;> omega
  · have q1 := j3 p; have q2 := k1 p; clear j3 j4 j14 j15 k1 k2 k3 k4; (try simp only [reduceIte] at hp); (repeat' split at hp) <;> (repeat' apply And.intro) <;> (try simp only [reduceIte, Nat.reduceEqDiff, true_and, false_and, and_true, and_false]) <;> (repeat' split) <;> omega
  · have q1 := j4 t; have q2 := k2 t; clear j3 j4 j14 j15 k1 k2 k3 k4; (repeat' apply And.intro) <;> (try simp only [reduceIte, Nat.reduceEqDiff, true_and, false_and, and_true, and_false]) <;> (repeat' split) <;> omega
  · clear j3 j4 j14 j15 k1 k2 k3 k4; (repeat' apply And.intro) <;> (try simp only [reduceIte, Nat.reduceEqDiff, true_and, false_and, and_true, and_false]) <;> (repeat' split) <;> omega
  · clear j3 j4 j14 j15 k1 k2 k3 k4; (repeat' apply And.intro) <;> (try simp only [reduceIte, Nat.reduceEqDiff, true_and, false_and, and_true, and_false]) <;> (repeat' split) <;> omega
  · clear j3 j4 j14 j15 k1 k2 k3 k4; (repeat' apply And.intro) <;> (try simp only [reduceIte, Nat.reduceEqDiff, true_and, false_and, and_true, and_false]) <;> (repeat' split) <;> omega
  · clear j3 j4 j14 j15 k1 k2 k3 k4; (repeat' apply And.intro) <;> (try simp only [reduceIte, Nat.reduceEqDiff, true_and, false_and, and_true, and_false]) <;> (repeat' split) <;> omega
  · clear j3 j4 j14 j15 k1 k2 k3 k4; (repeat' apply And.intro) <;> (try simp only [reduceIte, Nat.reduceEqDiff, true_and, false_and, and_true, and_false]) <;> (repeat' split) <;> omega
  · clear j3 j4 j14 j15 k1 k2 k3 k4; (repeat' apply And.intro) <;> (try simp only [reduceIte, Nat.reduceEqDiff, true_and, false_and, and_true, and_false]) <;> (repeat' split) <;> omega
  · clear j3 j4 j14 j15 k1 k2 k3 k4; (repeat' apply And.intro) <;> (try simp only [reduceIte, Nat.reduceEqDiff, true_and, false_and, and_true, and_false]) <;> (repeat' split) <;> omega
  · clear j3 j4 j14 j15 k1 k2 k3 k4; (repeat' apply And.intro) <;> (try simp only [reduceIte, Nat.reduceEqDiff, true_and, false_and, and_true, and_false]) <;> (repeat' split) <;> omega
  · have q1 := j14 i; have q2 := k3 i; clear j3 j4 j14 j15 k1 k2 k3 k4; (try simp only [Nat.add_sub_cancel_left] at q4 ⊢); (try simp only [reduceIte] at hi); (repeat' split at hi) <;> (repeat' apply And.intro) <;> (try simp only [reduceIte, Nat.reduceEqDiff, true_and, false_and, and_true, and_false]) <;> (repeat' split) <;> omega
  · have q1 := j15 p; have q2 := k4 p; clear j3 j4 j14 j15 k1 k2 k3 k4; (repeat' apply And.intro) <;> (try simp only [reduceIte, Nat.reduceEqDiff, true_and, false_and, and_true, and_false]) <;> (repeat' split) <;> omega
  · clear j3 j4 j14 j15 k1 k2 k3 k4; (repeat' apply And.intro) <;> (try simp only [reduceIte, Nat.reduceEqDiff, true_and, false_and, and_true, and_false]) <;> (repeat' split) <;> omega
  · clear j3 j4 j14 j15 k1 k2 k3 k4; (repeat' apply And.intro) <;> (try simp only [reduceIte, Nat.reduceEqDiff, true_and, false_and, and_true, and_false]) <;> (repeat' split) <;> omega
  · clear j3 j4 j14 j15 k1 k2 k3 k4; (repeat' apply And.intro) <;> (try simp only [reduceIte, Nat.reduceEqDiff, true_and, false_and, and_true, and_false]) <;> (repeat' split) <;> omega
  · clear j3 j4 j14 j15 k1 k2 k3 k4; (repeat' apply And.intro) <;> (try simp only [reduceIte, Nat.reduceEqDiff, true_and, false_and, and_true, and_false]) <;> (repeat' split) <;> omega
  · clear j3 j4 j14 j15 k1 k2 k3 k4; (repeat' apply And.intro) <;> (try simp only [reduceIte, Nat.reduceEqDiff, true_and, false_and, and_true, and_false]) <;> (repeat' split) <;> omega
  · clear j3 j4 j14 j15 k1 k2 k3 k4; (repeat' apply And.intro) <;> (try simp only [reduceIte, Nat.reduceEqDiff, true_and, false_and, and_true, and_false]) <;> (repeat' split) <;> omega
  · clear j3 j4 j14 j15 k1 k2 k3 k4; (repeat' apply And.intro) <;> (try simp only [reduceIte, Nat.reduceEqDiff, true_and, false_and, and_true, and_false]) <;> (repeat' split) <;> omega
  · clear j3 j4 j14 j15 k1 k2 k3 k4; (repeat' apply And.intro) <;> (try simp only [reduceIte, Nat.reduceEqDiff, true_and, false_and, and_true, and_false]) <;> (repeat' split) <;> omega
  · clear j3 j4 j14 j15 k1 k2 k3 k4; (repeat' apply And.intro) <;> (try simp only [reduceIte, Nat.reduceEqDiff, true_and, false_and, and_true, and_false]) <;> (repeat' split) <;> omega
  · have q1 := j3 p; have q2 := k1 p; clear j3 j4 j14 j15 k1 k2 k3 k4; (try simp only [reduceIte] at hp); (repeat' split at hp) <;> (repeat' apply And.intro) <;> (try simp only [reduceIte, Nat.reduceEqDiff, true_and, false_and, and_true, and_false]) <;> (repeat' split) <;> omega
  · have q1 := j4 t; have q2 := k2 t; clear j3 j4 j14 j15 k1 k2 k3 k4; (repeat' apply And.intro) <;> (try simp only [reduceIte, Nat.reduceEqDiff, true_and, false_and, and_true, and_false]) <;> (repeat' split) <;> omega
  · have q1 := j14 i; have q2 := k3 i; clear j3 j4 j14 j15 k1 k2 k3 k4; (try simp only [Nat.add_sub_cancel_left] at q4 ⊢); (try simp only [reduceIte] at hi); (repeat' split at hi) <;> (repeat' apply And.intro) <;> (try simp only [reduceIte, Nat.reduceEqDiff, true_and, false_and, and_true, and_false]) <;> (repeat' split) <;> omega
  · have q1 := j15 p; have q2 := k4 p; clear j3 j4 j14 j15 k1 k2 k3 k4; (repeat' apply And.intro) <;> (try simp only [reduceIte, Nat.reduceEqDiff, true_and, false_and, and_true, and_false]) <;> (repeat' split) <;> omega
theorem J_load (H : JobR I A al) (hm : m ≤ 60) {g : Nat → Int} (hg : ∀ i, i < m → 0 ≤ g i ∧ g i < al 31) (hI : ∀ k, I' k = if k = 12 then (m : Int) else I k) (hA : ∀ o j, A' o j = if o = 14 ∧ j < m then g j else A o j) (hal : ∀ k, al' k = if k = 32 then (m : Int) else if 33 ≤ k ∧ k < 33 + m then g (k - 33) else al k) : JobR I' A' al' := by
  obtain ⟨⟨⟨j1, j2⟩, j3, j4, j5, j6, j7, j8, j9, j10, j11, ⟨j12, j13⟩, j14, j15⟩, e0, e5, e6, e7, e8, e9, e10, e11, e12, k1, k2, k3, k4⟩ := H
  unfold JobR JobOK
  simp only [hI, hA, hal]
  clear hI hA hal
  refine ⟨⟨?_, fun p hp => ?_, fun t ht => ?_, ?_, ?_, ?_, ?_, ?_, ?_, ?_, ?_, fun i hi => ?_, fun p hp => ?_⟩, ?_, ?_, ?_, ?_, ?_, ?_, ?_, ?_, ?_, fun p hp => ?_, fun t ht => ?_, fun i hi => ?_, fun p hp => ?_⟩
  · clear j3 j4 j14 j15 k1 k2 k3 k4; (repeat' apply And.intro) <;> (try simp only [reduceIte, Nat.reduceEqDiff, true_and, false_and, and_true, and_false]) <;> (repeat' split) <;> omega
  · have q1 := j3 p; have q2 := k1 p; clear j3 j4 j14 j15 k1 k2 k3 k4; (try simp only [reduceIte] at hp); (repeat' split at hp) <;> (repeat' apply And.intro) <;> (try simp only [reduceIte, Nat.reduceEqDiff, true_and, false_and, and_true, and_false]) <;> (repeat' split) <;> omega
  · have q1 := j4 t; have q2 := k2 t; clear j3 j4 j14 j15 k1 k2 k3 k4; (repeat' apply And.intro) <;> (try simp only [reduceIte, Nat.reduceEqDiff, true_and, false_and, and_true, and_false]) <;> (repeat' split) <;> omega
  · clear j3 j4 j14 j15 k1 k2 k3 k4; (repeat' apply And.intro) <;> (try simp only [reduceIte, Nat.reduceEqDiff, true_and, false_and, and_true, and_false]) <;> (repeat' split) <;> omega
  · clear j3 j4 j14 j15 k1 k2 k3 k4; (repeat' apply And.intro) <;> (try simp only [reduceIte, Nat.reduceEqDiff, true_and, false_and, and_true, and_false]) <;> (repeat' split) <;> omega
  · clear j3 j4 j14 j15 k1 k2 k3 k4; (repeat' apply And.intro) <;> (try simp only [reduceIte, Nat.reduceEqDiff, true_and, false_and, and_true, and_false]) <;> (repeat' split) <;> omega
  · clear j3 j4 j14 j15 k1 k2 k3 k4; (repeat' apply And.intro) <;> (try simp only [reduceIte, Nat.reduceEqDiff, true_and, false_and, and_true, and_false]) <;> (repeat' split) <;> omega
  · clear j3 j4 j14 j15 k1 k2 k3 k4; (repeat' apply And.intro) <;> (try simp only [reduceIte, Nat.reduceEqDiff, true_and, false_and, and_true, and_false]) <;> (repeat' split) <;> omega
  · clear j3 j4 j14 j15 k1 k2 k3 k4; (repeat' apply And.intro) <;> (try simp only [reduceIte, Nat.reduceEqDiff, true_and, false_and, and_true, and_false]) <;> (repeat' split) <;> omega
  · clear j3 j4 j14 j15 k1 k2 k3 k4; (repeat' apply And.intro) <;> (try simp only [reduceIte, Nat.reduceEqDiff, true_and, false_and, and_true, and_false]) <;> (repeat' split) <;> omega
  · clear j3 j4 j14 j15 k1 k2 k3 k4; (repeat' apply And.intro) <;> (try simp only [reduceIte, Nat.reduceEqDiff, true_and, false_and, and_true, and_false]) <;> (repeat' split) <;> omega
  · have q1 := j14 i; have q2 := k3 i ; have q3 := hg i; have q4 := hg (33 + i - 33); clear j3 j4 j14 j15 k1 k2 k3 k4; (try simp only [Nat.add_sub_cancel_left] at q4 ⊢); (try simp only [reduceIte] at hi); (repeat' split at hi) <;> (repeat' apply And.intro) <;> (try simp only [reduceIte, Nat.reduceEqDiff, true_and, false_and, and_true, and_false]) <;> (repeat' split) <;> omega
  · have q1 := j15 p; have q2 := k4 p; clear j3 j4 j14 j15 k1 k2 k3 k4; (repeat' apply And.intro) <;> (try simp only [reduceIte, Nat.reduceEqDiff, true_and, false_and, and_true, and_false]) <;> (repeat' split) <;> omega
  · clear j3 j4 j14 j15 k1 k2 k3 k4; (repeat' apply And.intro) <;> (try simp only [reduceIte, Nat.reduceEqDiff, true_and, false_and, and_true, and_false]) <;> (repeat' split) <;> omega
  · clear j3 j4 j14 j15 k1 k2 k3 k4; (repeat' apply And.intro) <;> (try simp only [reduceIte, Nat.reduceEqDiff, true_and, false_and, and_true, and_false]) <;> (repeat' split) <;> omega
  · clear j3 j4 j14 j15 k1 k2 k3 k4; (repeat' apply And.intro) <;> (try simp only [reduceIte, Nat.reduceEqDiff, true_and, false_and, and_true, and_false]) <;> (repeat' split) <;> omega
  · clear j3 j4 j14 j15 k1 k2 k3 k4; (repeat' apply And.intro) <;> (try simp only [reduceIte, Nat.reduceEqDiff, true_and, false_and, and_true, and_false]) <;> (repeat' split) <;> omega
  · clear j3 j4 j14 j15 k1 k2 k3 k4; (repeat' apply And.intro) <;> (try simp only [reduceIte, Nat.reduceEqDiff, true_and, false_and, and_true, and_false]) <;> (repeat' split) <;> omega
  · clear j3 j4 j14 j15 k1 k2 k3 k4; (repeat' apply And.intro) <;> (try simp only [reduceIte, Nat.reduceEqDiff, true_and, false_and, and_true, and_false]) <;> (repeat' split) <;> omega
  · clear j3 j4 j14 j15 k1 k2 k3 k4; (repeat' apply And.intro) <;> (try simp only [reduceIte, Nat.reduceEqDiff, true_and, false_and, and_true, and_false]) <;> (repeat' split) <;> omega
  · clear j3 j4 j14 j15 k1 k2 k3 k4; (repeat' apply And.intro) <;> (try simp only [reduceIte, Nat.reduceEqDiff, true_and, false_and, and_true, and_false]) <;> (repeat' split) <;> omega
  · clear j3 j4 j14 j15 k1 k2 k3 k4; (repeat' apply And.intro) <;> (try simp only [reduceIte, Nat.reduceEqDiff, true_and, false_and, and_true, and_false]) <;> (repeat' split) <;> omega
  · have q1 := j3 p; have q2 := k1 p; clear j3 j4 j14 j15 k1 k2 k3 k4; (try simp only [reduceIte] at hp); (repeat' split at hp) <;> (repeat' apply And.intro) <;> (try simp only [reduceIte, Nat.reduceEqDiff, true_and, false_and, and_true, and_false]) <;> (repeat' split) <;> omega
  · have q1 := j4 t; have q2 := k2 t; clear j3 j4 j14 j15 k1 k2 k3 k4; (repeat' apply And.intro) <;> (try simp only [reduceIte, Nat.reduceEqDiff, true_and, false_and, and_true, and_false]) <;> (repeat' split) <;> omega
  · have q1 := j14 i; have q2 := k3 i ; have q3 := hg i; have q4 := hg (33 + i - 33); clear j3 j4 j14 j15 k1 k2 k3 k4; (try simp only [Nat.add_sub_cancel_left] at q4 ⊢); (try simp only [reduceIte] at hi); (repeat' split at hi) <;> (repeat' apply And.intro) <;> (try simp only [reduceIte, Nat.reduceEqDiff, true_and, false_and, and_true, and_false]) <;> (repeat' split) <;> omega
  · have q1 := j15 p; have q2 := k4 p; clear j3 j4 j14 j15 k1 k2 k3 k4; (repeat' apply And.intro) <;> (try simp only [reduceIte, Nat.reduceEqDiff, true_and, false_and, and_true, and_false]) <;> (repeat' split) <;> omega
end JOBU
