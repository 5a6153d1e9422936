/-! plan: the class's states -/
abbrev CS : Type := Nat × Nat × Nat × Nat × Nat
/-- the pocket one slot on -/
def agd (r ripe young en : Nat) : Nat := (ripe + (young * 2 + en) / 2 ^ r % 2) * 16 + (young * 2 + en) % 2 ^ r
def pop4 (y : Nat) : Nat := y % 2 + y / 2 % 2 + y / 4 % 2 + y / 8 % 2
def pl1 (r a : Nat) : Nat := if a = 5 then 5 else if a < r then a + 1 else r
def pk1 (r a : Nat) : Nat := if a = r then 16 else if a < r then 2 ^ a else 0
def pkc (r a b c : Nat) : Nat := pk1 r a + pk1 r b + pk1 r c
def pkOK (r i : Nat) : Bool :=
  let a := i / 36
  let b := i / 6 % 6
  let c := i % 6
  let p := pkc r a b c
  !PkB r i || ((pkc r (pl1 r a) (pl1 r b) (pl1 r c) == agd r (p / 16) (p % 16) 0) && (decide (a ≠ 5 ∧ r ≤ a) == decide (0 < p / 16)) && (!decide (0 < p / 16) || pkc r (pl1 r b) (pl1 r c) 5 == agd r (p / 16 - 1) (p % 16) 0) &&
    (pli a b c == p / 16 + pop4 (p % 16)) && (!decide (pli a b c < 3) || pkc r (if pli a b c = 0 then 0 else pl1 r a) (if pli a b c = 1 then 0 else pl1 r b) (if pli a b c = 2 then 0 else pl1 r c) == agd r (p / 16) (p % 16) 1) &&
    (decide (a = 5 ∧ b = 5 ∧ c = 5) == decide (p = 0)) && decide (p < 64))
theorem pk_all : ∀ r, r < 5 → ∀ i, i < 216 → pkOK r i = true := by decide +kernel
theorem pk_facts {r a b c : Nat} (hr : r < 5) (ha : a < 6) (hb : b < 6) (hc : c < 6) (hv : PkV r a b c) :
    pkc r (pl1 r a) (pl1 r b) (pl1 r c) = agd r (pkc r a b c / 16) (pkc r a b c % 16) 0 ∧ ((a ≠ 5 ∧ r ≤ a) ↔ 0 < pkc r a b c / 16) ∧ (0 < pkc r a b c / 16 → pkc r (pl1 r b) (pl1 r c) 5 = agd r (pkc r a b c / 16 - 1) (pkc r a b c % 16) 0) ∧
    pli a b c = pkc r a b c / 16 + pop4 (pkc r a b c % 16) ∧ (pli a b c < 3 → pkc r (if pli a b c = 0 then 0 else pl1 r a) (if pli a b c = 1 then 0 else pl1 r b) (if pli a b c = 2 then 0 else pl1 r c) = agd r (pkc r a b c / 16) (pkc r a b c % 16) 1) ∧
    ((a = 5 ∧ b = 5 ∧ c = 5) ↔ pkc r a b c = 0) ∧ pkc r a b c < 64 := by
  have h := pk_all r hr ((a * 6 + b) * 6 + c) (by omega)
  have hB := PkB_V ha hb hc hv
  have e1 : ((a * 6 + b) * 6 + c) / 36 = a := by omega
  have e2 : ((a * 6 + b) * 6 + c) / 6 % 6 = b := by omega
  have e3 : ((a * 6 + b) * 6 + c) % 6 = c := by omega
  unfold pkOK at h
  dsimp only at h
  rw [hB, e1, e2, e3] at h
  simp only [Bool.not_true, Bool.false_or, Bool.and_eq_true, Bool.or_eq_true, beq_iff_eq, Bool.not_eq_true', decide_eq_true_eq, decide_eq_false_iff_not, decide_eq_decide] at h
  obtain ⟨⟨⟨⟨⟨⟨h1, h2⟩, h3⟩, h4⟩, h5⟩, h6⟩, h7⟩ := h
  refine ⟨h1, h2, fun z => h3.resolve_left (fun y => y z), h4, fun z => h5.resolve_left (fun y => y z), h6, h7⟩
def cst (al : Nat → Int) : CS → Nat → Option CS
  | (f, p, h, t, s), act =>
    if act = 0 then some (f, agd (al 25).toNat (p / 16) (p % 16) 0, (if al 27 = 0 then 0 else min 30 (h + (al 29).toNat)), t, 1)
    else if (h : Int) < al 27 then none
    else if act = 1 then (if 0 < p / 16 then some (f, agd (al 25).toNat (p / 16 - 1) (p % 16) 0, h - (al 28).toNat, t, 0) else none)
    else if act < 6 ∧ (f : Int) < al 31 ∧ al (20 + (act - 2)) ≠ 0 ∧ al (16 + (act - 2)) = al f ∧ (t = 4 ∨ t = act - 2 ∨ s = 1) then
      (if al (8 + f) = 1 then (if p / 16 + pop4 (p % 16) = 0 then some (f + 1, agd (al 25).toNat (p / 16) (p % 16) 0, h - (al 28).toNat, act - 2, 0) else none)
      else if ((p / 16 + pop4 (p % 16) : Nat) : Int) < al 24 then some (f + 1, agd (al 25).toNat (p / 16) (p % 16) 1, h - (al 28).toNat, act - 2, 0) else none)
    else none
def cac (al : Nat → Int) : CS → Bool
  | (f, p, _) => decide ((f : Int) = al 31 ∧ p = 0)
def csf (al : Nat → Int) : PS → CS
  | (pg, a, b, c, h, t, s) => (pg, pkc (al 25).toNat a b c, (if al 27 = 0 then 0 else h), t, s)
section CSP
variable {al : Nat → Int}
theorem pln_1 (h0 : 0 ≤ al 25) (a : Nat) : pln al a = pl1 (al 25).toNat a := by
  unfold pln pl1
  by_cases e : a = 5
  · rw [if_pos e, if_pos e]
  · rw [if_neg e, if_neg e]
    by_cases e2 : (a : Int) < al 25
    · rw [if_pos e2, if_pos (by omega)]
    · rw [if_neg e2, if_neg (by omega)]
theorem csf_step (hJ : JobOK al) : ∀ (x : PS) (act : Nat), PVal al x → cst al (csf al x) act = (pst al x act).map (csf al)
  | (pg, a, b, c, h, t, s), act, hv => by
    obtain ⟨⟨j1, j2⟩, j3, j4, ⟨j5, j6⟩, ⟨j7, j8⟩, ⟨j9, j10⟩, ⟨j11, j12⟩, ⟨j13, j14⟩, ⟨j15, j16⟩, _⟩ := hJ
    dsimp only [PVal] at hv
    obtain ⟨v1, v2, v3, v4, v5, v6⟩ := hv
    obtain ⟨k1, k2, k3, k4, k5, k6, k7⟩ := pk_facts (r := (al 25).toNat) (by omega) v2.1 v2.2.1 v2.2.2 v3
    dsimp only [csf, cst, pst]
    rw [pln_1 j7, pln_1 j7, pln_1 j7]
    by_cases a0 : act = 0
    · rw [if_pos a0, if_pos a0]
      show _ = some _
      dsimp only [csf]
      rw [k1]
      by_cases n0 : al 27 = 0
      · simp only [if_pos n0]
      · simp only [if_neg n0]
    · rw [if_neg a0, if_neg a0]
      have hh : ((if al 27 = 0 then 0 else h : Nat) : Int) < al 27 ↔ (h : Int) < al 27 := by
        by_cases n0 : al 27 = 0
        · rw [if_pos n0]; omega
        · rw [if_neg n0]
      have hc : (if al 27 = 0 then 0 else h) - (al 28).toNat = if al 27 = 0 then 0 else h - (al 28).toNat := by
        by_cases n0 : al 27 = 0
        · rw [if_pos n0, if_pos n0]; omega
        · rw [if_neg n0, if_neg n0]
      rw [hc]
      by_cases n1 : (h : Int) < al 27
      · rw [if_pos (hh.mpr n1), if_pos n1]
        rfl
      · rw [if_neg (fun z => n1 (hh.mp z)), if_neg n1]
        by_cases a1 : act = 1
        · rw [if_pos a1, if_pos a1]
          by_cases g : 0 < pkc (al 25).toNat a b c / 16
          · rw [if_pos g, if_pos (show a ≠ 5 ∧ al 25 ≤ (a : Int) from ⟨(k2.mpr g).1, by have := (k2.mpr g).2; omega⟩), ← k3 g]
            rfl
          · rw [if_neg g, if_neg (fun z => g (k2.mp ⟨z.1, by have := z.2; omega⟩))]
            rfl
        · rw [if_neg a1, if_neg a1, ← k4]
          by_cases g : act < 6 ∧ (pg : Int) < al 31 ∧ al (20 + (act - 2)) ≠ 0 ∧ al (16 + (act - 2)) = al pg ∧ (t = 4 ∨ t = act - 2 ∨ s = 1)
          · rw [if_pos g, if_pos g]
            by_cases g1 : al (8 + pg) = 1
            · rw [if_pos g1, if_pos g1]
              by_cases g2 : pli a b c = 0
              · rw [if_pos g2, if_pos g2, ← k1]
                show _ = some _
                dsimp only [csf]
                have hz : a = 5 ∧ b = 5 ∧ c = 5 := by
                  unfold pli at g2
                  refine ⟨?_, ?_, ?_⟩ <;> (apply Classical.byContradiction; intro z; rw [if_neg z] at g2; omega)
                obtain ⟨rfl, rfl, rfl⟩ := hz
                rfl
              · rw [if_neg g2, if_neg g2]
                rfl
            · rw [if_neg g1, if_neg g1]
              by_cases g2 : (pli a b c : Int) < al 24
              · rw [if_pos g2, if_pos g2, ← k5 (by omega)]
                rfl
              · rw [if_neg g2, if_neg g2]
                rfl
          · rw [if_neg g, if_neg g]
            rfl
theorem csf_ac (hJ : JobOK al) : ∀ x : PS, PVal al x → cac al (csf al x) = pac al x
  | (pg, a, b, c, h, t, s), hv => by
    have j7 := hJ.2.2.2.2.1
    dsimp only [PVal] at hv
    obtain ⟨v1, v2, v3, v4, v5, v6⟩ := hv
    obtain ⟨k1, k2, k3, k4, k5, k6, k7⟩ := pk_facts (r := (al 25).toNat) (by omega) v2.1 v2.2.1 v2.2.2 v3
    show decide ((pg : Int) = al 31 ∧ pkc (al 25).toNat a b c = 0) = decide ((pg : Int) = al 31 ∧ a = 5 ∧ b = 5 ∧ c = 5)
    exact decide_eq_decide.mpr ⟨fun z => ⟨z.1, k6.mpr z.2⟩, fun z => ⟨z.1, k6.mp z.2⟩⟩
theorem csf_acc (hJ : JobOK al) (w : List Nat) : wacc (cst al) (cac al) (csf al (p0 al)) w ↔ wacc (pst al) (pac al) (p0 al) w :=
  wacc_im (I := PVal al) (fun s a t hs ht => pst_val hJ s a t hs ht) (fun s a hs => csf_step hJ s a hs) (fun s hs => csf_ac hJ s hs) (PVal_0 hJ) w
end CSP
