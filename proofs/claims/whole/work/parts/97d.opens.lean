/-! plan: the reference opens a state -/
section OPN
variable {S : ZS} {al : Nat → Int} {k : Nat} {pg a b c h t s : Nat}
theorem PkV_age {r : Nat} (hr : (al 25).toNat = r) (h0 : 0 ≤ al 25) (hv : PkV r a b c) (h4 : r ≤ 4) : (pln al a < 6 ∧ pln al b < 6 ∧ pln al c < 6) ∧ PkV r (pln al a) (pln al b) (pln al c) ∧ PkV r (pln al b) (pln al c) 5 := by
  have key : ∀ x : Nat, pln al x = if x = 5 then 5 else if x < r then x + 1 else r := by
    intro x
    unfold pln
    by_cases e : x = 5
    · rw [if_pos e, if_pos e]
    · rw [if_neg e, if_neg e]
      by_cases e2 : x < r
      · rw [if_pos e2, if_pos (by omega)]
      · rw [if_neg e2, if_neg (by omega), hr]
  rw [key, key, key]
  unfold PkV at hv ⊢
  (repeat' split) <;> omega
theorem PkV_feed {r : Nat} (hr : (al 25).toNat = r) (h0 : 0 ≤ al 25) (hv : PkV r a b c) (h4 : r ≤ 4) (hl : pli a b c < 3) :
    ((if pli a b c = 0 then 0 else pln al a) < 6 ∧ (if pli a b c = 1 then 0 else pln al b) < 6 ∧ (if pli a b c = 2 then 0 else pln al c) < 6) ∧ PkV r (if pli a b c = 0 then 0 else pln al a) (if pli a b c = 1 then 0 else pln al b) (if pli a b c = 2 then 0 else pln al c) := by
  have key : ∀ x : Nat, pln al x = if x = 5 then 5 else if x < r then x + 1 else r := by
    intro x
    unfold pln
    by_cases e : x = 5
    · rw [if_pos e, if_pos e]
    · rw [if_neg e, if_neg e]
      by_cases e2 : x < r
      · rw [if_pos e2, if_pos (by omega)]
      · rw [if_neg e2, if_neg (by omega), hr]
  rw [key, key, key]
  by_cases ea : a = 5
  · have eb : b = 5 := by unfold PkV at hv; omega
    have ec : c = 5 := by unfold PkV at hv; omega
    have hp : pli a b c = 0 := by unfold pli; rw [if_pos ea, if_pos eb, if_pos ec]
    rw [hp, if_pos rfl, if_neg (show ¬ 0 = 1 by decide), if_neg (show ¬ 0 = 2 by decide), if_pos eb, if_pos ec]
    exact ⟨⟨by omega, by omega, by omega⟩, Or.inr ⟨by omega, Or.inl ⟨rfl, rfl⟩⟩⟩
  · by_cases eb : b = 5
    · have ec : c = 5 := by unfold PkV at hv; omega
      have hp : pli a b c = 1 := by unfold pli; rw [if_neg ea, if_pos eb, if_pos ec]
      rw [hp, if_neg (show ¬ 1 = 0 by decide), if_pos rfl, if_neg (show ¬ 1 = 2 by decide), if_neg ea, if_pos ec]
      unfold PkV at hv ⊢
      (repeat' split) <;> omega
    · by_cases ec : c = 5
      · have hp : pli a b c = 2 := by unfold pli; rw [if_neg ea, if_neg eb, if_pos ec]
        rw [hp, if_neg (show ¬ 2 = 0 by decide), if_neg (show ¬ 2 = 1 by decide), if_pos rfl, if_neg ea, if_neg eb]
        unfold PkV at hv ⊢
        (repeat' split) <;> omega
      · unfold pli at hl
        rw [if_neg ea, if_neg eb, if_neg ec] at hl
        omega
theorem pst_6 (x : PS) {act : Nat} (h : 6 ≤ act) : pst al x act = none := by
  obtain ⟨pg, a, b, c, h, t, s⟩ := x
  dsimp only [pst]
  rw [if_neg (by omega)]
  split
  · rfl
  · rw [if_neg (by omega), if_neg (fun z => by omega)]
theorem pst_val (hJ : JobOK al) : ∀ (x : PS) (act : Nat) (y : PS), PVal al x → pst al x act = some y → PVal al y
  | (pg, a, b, c, h, t, s), act, y, hv, hy => by
    obtain ⟨⟨j1, j2⟩, j3, j4, ⟨j5, j6⟩, ⟨j7, j8⟩, ⟨j9, j10⟩, ⟨j11, j12⟩, ⟨j13, j14⟩, ⟨j15, j16⟩, _⟩ := hJ
    dsimp only [PVal] at hv
    obtain ⟨v1, v2, v3, v4, v5, v6⟩ := hv
    have ag := PkV_age (al := al) (a := a) (b := b) (c := c) rfl j7 v3 (by omega)
    dsimp only [pst] at hy
    split at hy
    · have := Option.some.inj hy
      subst this
      exact ⟨v1, ag.1, ag.2.1, Nat.min_le_left _ _, v5, Nat.le_refl _⟩
    · split at hy
      · cases hy
      · split at hy
        · split at hy
          · have := Option.some.inj hy
            subst this
            exact ⟨v1, ⟨ag.1.2.1, ag.1.2.2, by decide⟩, ag.2.2, by omega, v5, by omega⟩
          · cases hy
        · split at hy
          · rename_i g
            split at hy
            · split at hy
              · have := Option.some.inj hy
                subst this
                exact ⟨by omega, ⟨by decide, by decide, by decide⟩, Or.inl ⟨rfl, rfl, rfl⟩, by omega, by omega, by omega⟩
              · cases hy
            · split at hy
              · rename_i gl
                have fd := PkV_feed (al := al) (a := a) (b := b) (c := c) rfl j7 v3 (by omega) (by omega)
                have := Option.some.inj hy
                subst this
                exact ⟨by omega, fd.1, fd.2, by omega, by omega, by omega⟩
              · cases hy
          · cases hy
theorem lp_lain (e55 : S.2 1 55 = al) (h25 : 0 ≤ al 25 ∧ al 25 ≤ 4) {x : Nat} (hx : x < 6) : F_X12_lain (x : Int) S = some (pln al x : Int) := by
  unfold F_X12_lain pln
  rw [e55]
  by_cases e : x = 5
  · rw [if_pos (by omega), if_pos e]; rfl
  · rw [if_neg (by omega), if_neg e]
    by_cases e2 : (x : Int) < al 25
    · rw [if_pos e2, if_pos e2, zadd_ok (by omega) (by omega)]; rfl
    · rw [if_neg e2, if_neg e2, Int.toNat_of_nonneg h25.1]
theorem lp_state {y1 y2 y3 y4 y5 y6 y7 : Int} (e1 : y1 = (pg : Int)) (e2 : y2 = (a : Int)) (e3 : y3 = (b : Int)) (e4 : y4 = (c : Int)) (e5 : y5 = (h : Int)) (e6 : y6 = (t : Int)) (e7 : y7 = (s : Int)) (b1 : pg ≤ 9) (b2 : a < 6) (b3 : b < 6) (b4 : c < 6) (b5 : h ≤ 30) (b6 : t ≤ 4) (b7 : s ≤ 1) :
    F_X12_stateOf y1 y2 y3 y4 y5 y6 y7 S = some (pcode (pg, a, b, c, h, t, s) : Int) := by
  subst e1 e2 e3 e4 e5 e6 e7
  unfold F_X12_stateOf
  dsimp only [pcode]
  simp (disch := omega) only [zadd_ok, zmul_ok]
  congr 1
  all_goals omega
theorem dec12 {v : Nat} (hv : v = (((((pg * 6 + a) * 6 + b) * 6 + c) * 31 + h) * 10 + 2 * t) + s) (b1 : pg ≤ 9) (b2 : a < 6) (b3 : b < 6) (b4 : c < 6) (b5 : h ≤ 30) (b6 : t ≤ 4) (b7 : s ≤ 1) :
    zrem (v : Int) 2 = (s : Int) ∧ zdiv (zrem (v : Int) 10) 2 = (t : Int) ∧ zrem (zdiv (v : Int) 10) 31 = (h : Int) ∧ zdiv (zdiv (v : Int) 310) 216 = (pg : Int) ∧ zrem (zdiv (zdiv (v : Int) 310) 36) 6 = (a : Int) ∧ zrem (zdiv (zdiv (v : Int) 310) 6) 6 = (b : Int) ∧ zrem (zdiv (v : Int) 310) 6 = (c : Int) := by
  simp (disch := omega) only [zdiv_ok, zrem_ok]
  omega
end OPN
