/-! plan: the class meets a state -/
def ccode : CS → Nat
  | (f, p, h, t, s) => (((f * 64 + p) * 31 + h) * 5 + t) * 2 + s
def CVal (al : Nat → Int) : CS → Prop
  | (f, p, h, t, s) => (f : Int) ≤ al 31 ∧ p < 64 ∧ p / 16 + pop4 (p % 16) ≤ 3 ∧ h ≤ 30 ∧ t ≤ 4 ∧ s ≤ 1 ∧ (f = 0 → p = 0 ∧ t = 4) ∧ (0 < f → t < 4)
def agOK (r p en : Nat) : Bool := decide (agd r (p / 16) (p % 16) en / 16 + pop4 (agd r (p / 16) (p % 16) en % 16) ≤ p / 16 + pop4 (p % 16) + en) && (!decide (0 < p / 16) || decide (agd r (p / 16 - 1) (p % 16) 0 / 16 + pop4 (agd r (p / 16 - 1) (p % 16) 0 % 16) ≤ p / 16 + pop4 (p % 16))) && (!decide (p = 0) || decide (agd r (p / 16) (p % 16) 0 = 0))
theorem agd_ok0 : ∀ r, r < 5 → ∀ p, p < 64 → agOK r p 0 = true := by decide +kernel
theorem agd_ok1 : ∀ r, r < 5 → ∀ p, p < 64 → agOK r p 1 = true := by decide +kernel
theorem agd_all (r : Nat) (hr : r < 5) (p : Nat) (hp : p < 64) (en : Nat) (he : en < 2) : (agd r (p / 16) (p % 16) en / 16 + pop4 (agd r (p / 16) (p % 16) en % 16) ≤ p / 16 + pop4 (p % 16) + en) ∧ (0 < p / 16 → agd r (p / 16 - 1) (p % 16) 0 / 16 + pop4 (agd r (p / 16 - 1) (p % 16) 0 % 16) ≤ p / 16 + pop4 (p % 16)) ∧ (p = 0 → agd r (p / 16) (p % 16) 0 = 0) := by
  have h : agOK r p en = true := by
    rcases (show en = 0 ∨ en = 1 by omega) with z | z
    · rw [z]; exact agd_ok0 r hr p hp
    · rw [z]; exact agd_ok1 r hr p hp
  unfold agOK at h
  simp only [Bool.and_eq_true, Bool.or_eq_true, Bool.not_eq_true', decide_eq_true_eq, decide_eq_false_iff_not] at h
  exact ⟨h.1.1, fun z => h.1.2.resolve_left (fun y => y z), fun z => h.2.resolve_left (fun y => y z)⟩
theorem ccode_lt {al : Nat → Int} (h31 : al 31 ≤ 8) : ∀ x : CS, CVal al x → ccode x < 178560
  | (f, p, h, t, s), hv => by
    dsimp only [CVal] at hv
    dsimp only [ccode]
    omega
theorem ccode_inj {al : Nat → Int} : ∀ x y : CS, CVal al x → CVal al y → ccode x = ccode y → x = y
  | (f, p, h, t, s), (f', p', h', t', s'), hv, hv', he => by
    dsimp only [CVal] at hv hv'
    dsimp only [ccode] at he
    have e1 : f = f' := by omega
    have e2 : p = p' := by omega
    have e3 : h = h' := by omega
    have e4 : t = t' := by omega
    have e5 : s = s' := by omega
    rw [e1, e2, e3, e4, e5]
theorem cst_val {al : Nat → Int} (hJ : JobOK al) : ∀ (x : CS) (act : Nat) (y : CS), CVal al x → cst al x act = some y → CVal al y
  | (f, p, h, t, s), act, y, hv, hy => by
    obtain ⟨⟨j1, j2⟩, j3, j4, ⟨j5, j6⟩, ⟨j7, j8⟩, ⟨j9, j10⟩, ⟨j11, j12⟩, ⟨j13, j14⟩, ⟨j15, j16⟩, _⟩ := hJ
    dsimp only [CVal] at hv
    obtain ⟨v1, v2, v3, v4, v5, v6, v7, v8⟩ := hv
    obtain ⟨g1, g2, g3⟩ := agd_all (al 25).toNat (by omega) p v2 0 (by decide)
    obtain ⟨i1, _, _⟩ := agd_all (al 25).toNat (by omega) p v2 1 (by decide)
    dsimp only [cst] at hy
    split at hy
    · have := Option.some.inj hy
      subst this
      refine ⟨v1, by omega, by omega, ?_, v5, Nat.le_refl _, fun z => ⟨g3 (v7 z).1, (v7 z).2⟩, v8⟩
      split
      · omega
      · exact Nat.min_le_left _ _
    · split at hy
      · cases hy
      · split at hy
        · split at hy
          · rename_i g
            have := Option.some.inj hy
            subst this
            have g2 := g2 g
            exact ⟨v1, by omega, by omega, by omega, v5, by omega, fun z => by have := (v7 z).1; omega, v8⟩
          · cases hy
        · split at hy
          · split at hy
            · split at hy
              · have := Option.some.inj hy
                subst this
                exact ⟨by omega, by omega, by omega, by omega, by omega, by omega, fun z => by omega, fun _ => by omega⟩
              · cases hy
            · split at hy
              · rename_i gl
                have := Option.some.inj hy
                subst this
                exact ⟨by omega, by omega, by omega, by omega, by omega, by omega, fun z => by omega, fun _ => by omega⟩
              · cases hy
          · cases hy
-- so many states: below 63550
theorem cp_n : cnt (fun p => decide (p / 16 + pop4 (p % 16) ≤ 3)) 64 ≤ 32 := by decide +kernel
def crank : CS → Nat
  | (f, p, h, t, s) => if f = 0 then 2 * h + s else 62 + ((((f - 1) * 32 + cnt (fun p => decide (p / 16 + pop4 (p % 16) ≤ 3)) p) * 4 + t) * 62 + 2 * h + s)
theorem cp_lt {p : Nat} (hp : p < 64) (h : p / 16 + pop4 (p % 16) ≤ 3) {q : Nat} (hq : p < q) : cnt (fun p => decide (p / 16 + pop4 (p % 16) ≤ 3)) p < cnt (fun p => decide (p / 16 + pop4 (p % 16) ≤ 3)) q := by
  have h1 := cnt_s (fun p => decide (p / 16 + pop4 (p % 16) ≤ 3)) p
  have h2 := cnt_mono (p := fun p => decide (p / 16 + pop4 (p % 16) ≤ 3)) (m := p + 1) (n := q) (by omega)
  rw [if_pos (decide_eq_true h)] at h1
  omega
theorem crank_lt {al : Nat → Int} (h31 : al 31 ≤ 8) : ∀ x : CS, CVal al x → crank x < 63550
  | (f, p, h, t, s), hv => by
    dsimp only [CVal] at hv
    have h1 := cp_lt hv.2.1 hv.2.2.1 hv.2.1
    have h2 := cp_n
    dsimp only [crank]
    generalize cnt (fun p => decide (p / 16 + pop4 (p % 16) ≤ 3)) p = r at *
    split <;> omega
theorem crank_inj {al : Nat → Int} : ∀ x y : CS, CVal al x → CVal al y → crank x = crank y → x = y
  | (f, p, h, t, s), (f', p', h', t', s'), hv, hv', he => by
    dsimp only [CVal] at hv hv'
    have r1 := cp_lt hv.2.1 hv.2.2.1 hv.2.1
    have r2 := cp_lt hv'.2.1 hv'.2.2.1 hv'.2.1
    have r0 := cp_n
    dsimp only [crank] at he
    have ep : 0 < f → 0 < f' → cnt (fun p => decide (p / 16 + pop4 (p % 16) ≤ 3)) p = cnt (fun p => decide (p / 16 + pop4 (p % 16) ≤ 3)) p' → p = p' := by
      intro _ _ z
      rcases Nat.lt_trichotomy p p' with y | y | y
      · have := cp_lt hv.2.1 hv.2.2.1 y
        omega
      · exact y
      · have := cp_lt hv'.2.1 hv'.2.2.1 y
        omega
    generalize cnt (fun p => decide (p / 16 + pop4 (p % 16) ≤ 3)) p = r at *
    generalize cnt (fun p => decide (p / 16 + pop4 (p % 16) ≤ 3)) p' = r' at *
    by_cases g : f = 0
    · rw [if_pos g] at he
      by_cases g' : f' = 0
      · rw [if_pos g'] at he
        have e1 := hv.2.2.2.2.2.2.1 g
        have e2 := hv'.2.2.2.2.2.2.1 g'
        have e3 : h = h' := by omega
        have e5 : s = s' := by omega
        rw [g, g', e1.1, e1.2, e2.1, e2.2, e3, e5]
      · rw [if_neg g'] at he
        omega
    · rw [if_neg g] at he
      by_cases g' : f' = 0
      · rw [if_pos g'] at he
        omega
      · rw [if_neg g'] at he
        have q1 := hv.2.2.2.2.2.2.2 (by omega)
        have q2 := hv'.2.2.2.2.2.2.2 (by omega)
        have e1 : f = f' := by omega
        have e2 : p = p' := ep (by omega) (by omega) (by omega)
        have e3 : h = h' := by omega
        have e4 : t = t' := by omega
        have e5 : s = s' := by omega
        rw [e1, e2, e3, e4, e5]
