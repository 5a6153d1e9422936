/-! plan: the class feeds from each tray -/
section FEE
variable {S : ZS} {al : Nat → Int} {k : Nat} {f p h t s : Nat}
def CX (al : Nat → Int) (S : ZS) (k a : Nat) (x : CS) : Prop := CI al S k a x ∨ CG al S
/-- the job the planner speaks of -/
def PlJ (al : Nat → Int) (S : ZS) : Prop := S.1 14 7 = 11 ∧ S.1 11 0 = al 31 ∧ (∀ i, i < 4 → S.2 11 5 i = al (20 + i) ∧ S.2 11 4 i = al (16 + i)) ∧ (∀ p : Nat, (p : Int) < al 31 → S.2 11 2 p = al p ∧ S.2 11 3 p = al (8 + p) - 1)
theorem PlJ_fr {V : ZS} (h : PlJ al S) (f : FRc S V) : PlJ al V := by
  obtain ⟨h1, h2, h3, h4⟩ := h
  refine ⟨(f.2.1 7 (by decide) (by decide)).trans h1, by rw [f.1 11 (by decide)]; exact h2, fun i hi => ?_, fun p hp => ?_⟩
  · rw [f.2.2.1 11 (by decide)]; exact h3 i hi
  · rw [f.2.2.1 11 (by decide)]; exact h4 p hp
theorem CX_put {x : CS} {f p h t s a P : Nat} (hJ : JobOK al) (hX : CX al S k a x) (hx : CVal al x) (ht : cst al x a = some (f, p, h, t, s)) (hP : P = k * 2 ^ 32 + a * 2 ^ 24) (hj : PlJ al S) :
    zp (F_X5_meet (f : Int) (p : Int) (h : Int) (t : Int) (s : Int) (P : Int) S) (fun V => FRc S V ∧ CX al V k (a + 1) x) := by
  rcases hX with hX | hX
  · exact CI_put hJ hX hx ht hP hj.1 hj.2.1
  · have hg : S.1 14 6 ≠ -1 := by
      obtain ⟨N, st, par, ach, wd, k', a', g, _, _, _, _, _, _, _, _, _, hg⟩ := hX
      rw [hg]
      omega
    rw [zp_eq (lp_meet0 (cst_val hJ x a _ hx ht) hJ.1.2 hg)]
    exact ⟨FRc_r S, Or.inr hX⟩
theorem CX_skip {x : CS} {a : Nat} (h : CX al S k a x) (hn : cst al x a = none) : CX al S k (a + 1) x := h.imp (fun z => CI_skip z hn) (fun z => z)
end FEE
