/-! plan: an accepted word that is short -/
section SHO
variable {al : Nat → Int}
/-- a tray gives page q -/
def Gvs (al : Nat → Int) (q : Nat) : Prop := ∃ i, i < 4 ∧ al (20 + i) ≠ 0 ∧ al (16 + i) = al q
theorem cst_pg : ∀ (x : CS) (a : Nat) (y : CS), cst al x a = some y → y.1 = x.1 ∨ (y.1 = x.1 + 1 ∧ Gvs al x.1)
  | (f, p, h, t, s), a, y, hy => by
    dsimp only [cst] at hy
    split at hy
    · have := Option.some.inj hy
      subst this
      exact Or.inl rfl
    · split at hy
      · cases hy
      · split at hy
        · split at hy
          · have := Option.some.inj hy
            subst this
            exact Or.inl rfl
          · cases hy
        · split at hy
          · rename_i g
            have hg : Gvs al f := ⟨a - 2, by omega, g.2.2.1, g.2.2.2.1⟩
            split at hy
            · split at hy
              · have := Option.some.inj hy
                subst this
                exact Or.inr ⟨rfl, hg⟩
              · cases hy
            · split at hy
              · have := Option.some.inj hy
                subst this
                exact Or.inr ⟨rfl, hg⟩
              · cases hy
          · cases hy
theorem wrun_pg : ∀ (w : List Nat) (x y : CS), wrun (cst al) x w = some y → ∀ q, x.1 ≤ q → q < y.1 → Gvs al q
  | [], x, y, h, q, h1, h2 => by
    have : x = y := Option.some.inj h
    rw [this] at h1
    omega
  | a :: w, x, y, h, q, h1, h2 => by
    have h' : (cst al x a).bind (fun s' => wrun (cst al) s' w) = some y := h
    cases hx : cst al x a with
    | none => rw [hx] at h'; cases h'
    | some u =>
      rw [hx] at h'
      rcases cst_pg x a u hx with e | ⟨e, g⟩
      · exact wrun_pg w u y h' q (by omega) h2
      · by_cases c : q = x.1
        · rw [c]; exact g
        · exact wrun_pg w u y h' q (by omega) h2
theorem acc_pg {w : List Nat} (h : wacc (cst al) (cac al) (csf al (p0 al)) w) : ∀ q : Nat, (q : Int) < al 31 → Gvs al q := by
  obtain ⟨⟨f, p, r⟩, h1, h2⟩ := h
  intro q hq
  have h3 : (f : Int) = al 31 ∧ p = 0 := of_decide_eq_true h2
  exact wrun_pg w _ _ h1 q (Nat.zero_le q) (show q < f by omega)
def agn (r : Nat) : Nat → Nat → Nat
  | 0, p => p
  | n + 1, p => agn r n (agd r (p / 16) (p % 16) 0)
def agnB (r : Nat) : Bool := pkc r 5 5 5 == 0 && agn r 30 0 == 0 && agn r 10 (agd r (0 / 16) (0 % 16) 0) == 0 && agn r 10 (agd r (0 / 16) (0 % 16) 1) == 16 && agn r 10 (agd r (16 / 16 - 1) (16 % 16) 0) == 0
theorem agnB_all : ∀ r, r < 5 → agnB r = true := by decide +kernel
theorem agn_facts {r : Nat} (hr : r < 5) : pkc r 5 5 5 = 0 ∧ agn r 30 0 = 0 ∧ agn r 10 (agd r (0 / 16) (0 % 16) 0) = 0 ∧ agn r 10 (agd r (0 / 16) (0 % 16) 1) = 16 ∧ agn r 10 (agd r (16 / 16 - 1) (16 % 16) 0) = 0 := by
  have h := agnB_all r hr
  unfold agnB at h
  simp only [Bool.and_eq_true, beq_iff_eq] at h
  exact ⟨h.1.1.1.1, h.1.1.1.2, h.1.1.2, h.1.2, h.2⟩
theorem wrun_stop (f t : Nat) : ∀ (n p h s : Nat), wrun (cst al) (f, p, h, t, s) (List.replicate (n + 1) 0) = some (f, agn (al 25).toNat (n + 1) p, (if al 27 = 0 then 0 else min 30 (h + (n + 1) * (al 29).toNat)), t, 1)
  | 0, p, h, s => by
    show wrun (cst al) (f, p, h, t, s) [0] = _
    rw [wrun_1, cst_0, Nat.zero_add, Nat.one_mul]
    rfl
  | n + 1, p, h, s => by
    show (cst al (f, p, h, t, s) 0).bind (fun s' => wrun (cst al) s' (List.replicate (n + 1) 0)) = _
    rw [cst_0, Option.bind_some, wrun_stop f t n]
    have e : (n + 1 + 1) * (al 29).toNat = (n + 1) * (al 29).toNat + (al 29).toNat := Nat.succ_mul _ _
    rw [e]
    generalize (n + 1) * (al 29).toNat = m
    generalize (al 29).toNat = gg
    have e2 : (if al 27 = 0 then 0 else min 30 ((if al 27 = 0 then 0 else min 30 (h + gg)) + m)) = if al 27 = 0 then 0 else min 30 (h + (m + gg)) := by
      by_cases c : al 27 = 0
      · rw [if_pos c, if_pos c]
      · rw [if_neg c, if_neg c, if_neg c]
        omega
    rw [e2]
    rfl
def HH (al : Nat → Int) : Nat := if al 27 = 0 then 0 else 30
theorem HH_hot (hJ : JobOK al) : ¬ (HH al : Int) < al 27 := by
  have j27 := hJ.2.2.2.2.2.2.1
  unfold HH
  by_cases c : al 27 = 0
  · rw [if_pos c]; omega
  · rw [if_neg c]; omega
theorem HH_10 (hJ : JobOK al) : (if al 27 = 0 then 0 else min 30 (HH al - (al 28).toNat + (9 + 1) * (al 29).toNat)) = HH al := by
  have j28 := hJ.2.2.2.2.2.2.2.1
  have j29 := hJ.2.2.2.2.2.2.2.2.1
  unfold HH
  by_cases c : al 27 = 0
  · rw [if_pos c, if_pos c]
  · rw [if_neg c, if_neg c]; omega
theorem page_go (hJ : JobOK al) {f t : Nat} (hf : (f : Int) < al 31) (hg : Gvs al f) : ∃ w t', w.length ≤ 22 ∧ wrun (cst al) (f, 0, HH al, t, 1) w = some (f + 1, 0, HH al, t', 1) := by
  obtain ⟨i, hi, g1, g2⟩ := hg
  have j24 := hJ.2.2.2.1
  have j25 := hJ.2.2.2.2.1
  have hot := HH_hot hJ
  obtain ⟨a1, a2, a3, a4, a5⟩ := agn_facts (r := (al 25).toNat) (by omega)
  have hc := cst_f (f := f) (p := 0) (t := t) (s := 1) hot hi
  rw [if_pos ⟨hf, g1, g2, Or.inr (Or.inr rfl)⟩] at hc
  rcases (hJ.2.1 f hf).2 with c | c
  · rw [if_pos c, if_pos (by decide)] at hc
    refine ⟨[2 + i] ++ List.replicate 10 0, i, by simp, ?_⟩
    rw [wrun_ap, wrun_1, hc, Option.bind_some, wrun_stop (f + 1) i 9, HH_10 hJ, a3]
  · rw [if_neg (by rw [c]; decide), if_pos (show ((0 / 16 + pop4 (0 % 16) : Nat) : Int) < al 24 from Int.lt_of_lt_of_le (by decide) j24.1)] at hc
    have h1 : wrun (cst al) (f, 0, HH al, t, 1) ([2 + i] ++ List.replicate 10 0) = some (f + 1, 16, HH al, i, 1) := by
      rw [wrun_ap, wrun_1, hc, Option.bind_some, wrun_stop (f + 1) i 9, HH_10 hJ, a4]
    refine ⟨([2 + i] ++ List.replicate 10 0) ++ ([1] ++ List.replicate 10 0), i, by simp, ?_⟩
    rw [wrun_ap, h1, Option.bind_some, wrun_ap, wrun_1, cst_1 hot, if_pos (by decide), Option.bind_some, wrun_stop (f + 1) i 9, HH_10 hJ, a5]
theorem csf_0 (hJ : JobOK al) : csf al (p0 al) = (0, 0, (if al 27 = 0 then 0 else (al 26).toNat), 4, 0) := by
  have j25 := hJ.2.2.2.2.1
  obtain ⟨a1, _⟩ := agn_facts (r := (al 25).toNat) (by omega)
  show (0, pkc (al 25).toNat 5 5 5, (if al 27 = 0 then 0 else (al 26).toNat), 4, 0) = _
  rw [a1]
theorem pages_go (hJ : JobOK al) (hp : ∀ q : Nat, (q : Int) < al 31 → Gvs al q) : ∀ n : Nat, (n : Int) ≤ al 31 → ∃ w t, w.length ≤ 30 + 22 * n ∧ wrun (cst al) (csf al (p0 al)) w = some (n, 0, HH al, t, 1)
  | 0, _ => by
    have j25 := hJ.2.2.2.2.1
    have j29 := hJ.2.2.2.2.2.2.2.2.1
    obtain ⟨a1, a2, _⟩ := agn_facts (r := (al 25).toNat) (by omega)
    refine ⟨List.replicate 30 0, 4, by simp, ?_⟩
    rw [csf_0 hJ, wrun_stop 0 4 29, a2]
    have e : (if al 27 = 0 then 0 else min 30 ((if al 27 = 0 then 0 else (al 26).toNat) + (29 + 1) * (al 29).toNat)) = HH al := by
      unfold HH
      by_cases c : al 27 = 0
      · rw [if_pos c, if_pos c]
      · rw [if_neg c, if_neg c, if_neg c]; omega
    rw [e]
  | n + 1, hn => by
    obtain ⟨w, t, h1, h2⟩ := pages_go hJ hp n (by omega)
    obtain ⟨w', t', h3, h4⟩ := page_go hJ (t := t) (show (n : Int) < al 31 by omega) (hp n (by omega))
    refine ⟨w ++ w', t', ?_, ?_⟩
    · rw [List.length_append]; omega
    · rw [wrun_ap, h2, Option.bind_some, h4]
theorem acc_short (hJ : JobOK al) (hp : ∀ q : Nat, (q : Int) < al 31 → Gvs al q) : ∃ w, wacc (cst al) (cac al) (csf al (p0 al)) w ∧ w.length ≤ 206 := by
  obtain ⟨j1, j2⟩ := hJ.1
  obtain ⟨w, t, h1, h2⟩ := pages_go hJ hp (al 31).toNat (by omega)
  exact ⟨w, ⟨_, h2, decide_eq_true ⟨by omega, rfl⟩⟩, by omega⟩
end SHO
