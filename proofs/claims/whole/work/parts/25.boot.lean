/-! the constructors, by computing (names by wip/whole/gen25.py) -/
def zcF (F : Nat) : Nat → Nat → List ZV → ZM → ZO
  | 0, _, _, _ => none
  | d + 1, j, as, μ => if zrcvok (zrcv (zmi j)) as μ = true ∧ (as.map zcat).sum ≤ zmx (zmi j) ∧ j < 253 then zrunF (zcF F d) (zseg j) F 0 (zloc as (zmx (zmi j))) [] μ else none
theorem zexec_cm {c1 c2 : Nat → List ZV → ZM → ZO} {r : Nat → List ZV → List ZV → ZM → ZO} (h : ∀ j as μ, c1 j as μ = none ∨ c2 j as μ = c1 j as μ) :
    ∀ (k : List ZN) (ls st : List ZV) (μ : ZM) (x : Option ZV × ZM), zexec c1 r k ls st μ = some x → zexec c2 r k ls st μ = some x
  | [], _, _, _, _, hx => by simp [zexec] at hx
  | (i, n, p) :: k, ls, st, μ, x, hx => by
    have ih := zexec_cm (r := r) h k
    revert hx
    unfold zexec
    rcases h p.1 ((st.take p.2.1).reverse) μ with e | e
    · rw [e]
      generalize c2 p.1 ((st.take p.2.1).reverse) μ = q
      dsimp only
      (repeat' split) <;> first
        | exact fun hx => hx
        | exact fun hx => ih _ _ _ _ hx
        | (intro hx; cases hx; done)
    · rw [e]
      generalize c1 p.1 ((st.take p.2.1).reverse) μ = q
      rcases q with _ | ⟨_ | v, μ'⟩ <;> dsimp only <;> (repeat' split) <;> first
        | exact fun hx => hx
        | exact fun hx => ih _ _ _ _ hx
        | (intro hx; cases hx; done)
theorem zrunF_cm {c1 c2 : Nat → List ZV → ZM → ZO} (h : ∀ j as μ x, c1 j as μ = some x → c2 j as μ = some x) {seg : Nat → List ZN} : ∀ (n l : Nat) (ls st : List ZV) (μ : ZM) (x : Option ZV × ZM), zrunF c1 seg n l ls st μ = some x → zrunF c2 seg n l ls st μ = some x
  | 0, _, _, _, _, _, hx => by simp [zrunF] at hx
  | n + 1, l, ls, st, μ, x, hx => by
    have h' : ∀ j as μ, c1 j as μ = none ∨ c2 j as μ = c1 j as μ := fun j as μ => by
      cases e : c1 j as μ with
      | none => exact Or.inl rfl
      | some y => exact Or.inr (h _ _ _ _ e)
    have h1 : zexec c1 (zrunF c1 seg n) (seg l) ls st μ = some x := hx
    exact zexec_cm h' _ _ _ _ _ (zexec_mono (fun l ls st μ x q => zrunF_cm h n l ls st μ x q) _ _ _ _ _ h1)
theorem zcF_ok {F : Nat} : ∀ (d j : Nat) (as : List ZV) (μ : ZM) (x : Option ZV × ZM), zcF F d j as μ = some x → zc d j as μ = some x
  | 0, _, _, _, _, h => by simp [zcF] at h
  | d + 1, j, as, μ, x, h => by
    unfold zcF at h
    unfold zc
    split at h
    · rename_i hh
      rw [if_pos hh]
      exact zrun_iff.mpr ⟨F, zrunF_cm (zcF_ok d) F 0 _ _ _ _ h⟩
    · cases h
def znames : List (Nat × Nat) := [(2, 0), (3, 0), (3, 1), (3, 5), (3, 6), (3, 7), (4, 0), (4, 1), (4, 2), (4, 3), (6, 0), (7, 0), (7, 1), (7, 2), (7, 3), (7, 4), (7, 5), (6, 6), (6, 7), (6, 8), (6, 9), (6, 10), (6, 11), (6, 12), (6, 13), (6, 15), (21, 0), (21, 3), (21, 4), (21, 6), (22, 0), (22, 1), (22, 2), (22, 3), (10, 0), (10, 5), (10, 6), (10, 7), (10, 8), (8, 0), (9, 0), (9, 1), (9, 2), (9, 3), (9, 4), (9, 5), (8, 6), (8, 7), (8, 8), (8, 9), (8, 10), (8, 11), (8, 12), (8, 13), (8, 15), (23, 0), (23, 3), (23, 4), (23, 6), (24, 0), (24, 1), (24, 2), (24, 3), (5, 0), (5, 1), (5, 2), (5, 3), (11, 0), (11, 2), (11, 3), (11, 4), (11, 5), (11, 14), (11, 15), (11, 16), (11, 17), (11, 18), (2, 6), (12, 0), (12, 2), (12, 3), (12, 4), (12, 5), (12, 14), (12, 15), (12, 16), (12, 17), (12, 18), (13, 0), (13, 2), (13, 3), (13, 4), (13, 5), (13, 14), (13, 15), (13, 16), (13, 17), (13, 18), (2, 7), (14, 0), (14, 3), (14, 4), (14, 5), (15, 0), (15, 2), (15, 3), (15, 4), (15, 5), (15, 14), (15, 15), (15, 16), (15, 17), (15, 18), (16, 0), (16, 4), (16, 5), (17, 0), (18, 0), (18, 1), (18, 10), (18, 11), (18, 12), (18, 13), (18, 2), (18, 3), (19, 0), (19, 3), (19, 4), (19, 6), (20, 0), (20, 3), (20, 4), (20, 6), (1, 0), (1, 2), (1, 4), (1, 5), (1, 6), (1, 7), (1, 8), (1, 9), (1, 10), (1, 11), (1, 24), (1, 25), (1, 26), (1, 31), (1, 32), (1, 33), (1, 34), (1, 35), (1, 36), (1, 37), (1, 38), (1, 39), (1, 40), (1, 41), (1, 42), (1, 43), (1, 44), (1, 45), (1, 46), (1, 47), (1, 48), (1, 49), (1, 50), (1, 51), (1, 55), (1, 56), (1, 57), (1, 58), (1, 59), (1, 60), (1, 63), (1, 64), (1, 67), (1, 68), (1, 69)]
def zmuC : ZM := (fun _ _ => none, fun _ _ _ => zi 0, fun _ _ _ => 0, znames, 0, 0)
def zbn (ci n : Nat) (μ : ZM) : ZM := match znew (ci + 10) n (zdfl ci (zsrt ci)) μ with
  | some (_, μ') => μ'
  | none => μ
def zbq (ci n : Nat) (μ : ZM) : Option (Nat × Nat) := match znew (ci + 10) n (zdfl ci (zsrt ci)) μ with
  | some (q, _) => some q
  | none => none
def zbc (o : ZO) (μ0 : ZM) : ZM := match o with
  | some (_, μ) => μ
  | none => μ0
def zbv (o : ZO) : Bool := match o with
  | some (none, _) => true
  | _ => false
def zb1 : ZM := zbn 11 13 zmuC
def zb2 : ZM := zbc (zcF 400 13 j_X11_init [zr 2 0] zb1) zmuC
def zb3 : ZM := zbn 12 69 zb2
def zb4 : ZM := zbc (zcF 400 13 j_X12_init [zr 1 0] zb3) zmuC
theorem zb_c1 : zbq 11 13 zmuC = some (2, 0) := by decide +kernel
set_option maxRecDepth 100000 in
theorem zb_c2 : zbv (zcF 400 13 j_X11_init [zr 2 0] zb1) = true := by decide +kernel
set_option maxRecDepth 100000 in
theorem zb_c3 : zbq 12 69 zb2 = some (1, 0) := by decide +kernel
set_option maxRecDepth 100000 in
theorem zb_c4 : zbv (zcF 400 13 j_X12_init [zr 1 0] zb3) = true := by decide +kernel
